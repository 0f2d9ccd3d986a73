section
-- ===== PART A: goes FIRST, ahead of the names: the tables' words, and 'selects' of the private methods out of them =====
/-- a private method of a class that the tables say can be made, by its rows of tables_1 -/
def lw_okq (q : MethodName × Nat) : Prop := (q.1.cls ≠ "java/lang/invoke/MethodHandle" ∧ q.1.cls ≠ "java/lang/invoke/VarHandle") ∧ Cond.instantiable q.1.cls q.2 ∈ tables_1 ∧ Cond.privateMethod q.1 ∈ tables_1 ∧ Cond.instanceMethod q.1 ∈ tables_1
theorem lw_p0 : lw_okq (⟨"JoinVessel", "mayBuild", "(I)Z"⟩, 9) := ⟨⟨by decide +kernel, by decide +kernel⟩, List.mem_of_getElem? (i := 9) (by decide +kernel), List.mem_of_getElem? (i := 176) (by decide +kernel), List.mem_of_getElem? (i := 177) (by decide +kernel)⟩
theorem lw_p1 : lw_okq (⟨"JoinVessel", "isChannel", "(I)Z"⟩, 9) := ⟨⟨by decide +kernel, by decide +kernel⟩, List.mem_of_getElem? (i := 9) (by decide +kernel), List.mem_of_getElem? (i := 180) (by decide +kernel), List.mem_of_getElem? (i := 181) (by decide +kernel)⟩
theorem lw_p2 : lw_okq (⟨"JoinVessel$Reaction", "addPart", "(III)I"⟩, 12) := ⟨⟨by decide +kernel, by decide +kernel⟩, List.mem_of_getElem? (i := 85) (by decide +kernel), List.mem_of_getElem? (i := 187) (by decide +kernel), List.mem_of_getElem? (i := 188) (by decide +kernel)⟩
theorem lw_p3 : lw_okq (⟨"JoinVessel", "isChannelOf", "(IZ)Z"⟩, 9) := ⟨⟨by decide +kernel, by decide +kernel⟩, List.mem_of_getElem? (i := 9) (by decide +kernel), List.mem_of_getElem? (i := 199) (by decide +kernel), List.mem_of_getElem? (i := 200) (by decide +kernel)⟩
theorem lw_p4 : lw_okq (⟨"JoinVessel$Reaction", "mayAddAction", "(II)Z"⟩, 12) := ⟨⟨by decide +kernel, by decide +kernel⟩, List.mem_of_getElem? (i := 85) (by decide +kernel), List.mem_of_getElem? (i := 203) (by decide +kernel), List.mem_of_getElem? (i := 204) (by decide +kernel)⟩
theorem lw_p5 : lw_okq (⟨"JoinVessel$Reaction", "hasPart", "(I)Z"⟩, 12) := ⟨⟨by decide +kernel, by decide +kernel⟩, List.mem_of_getElem? (i := 85) (by decide +kernel), List.mem_of_getElem? (i := 208) (by decide +kernel), List.mem_of_getElem? (i := 209) (by decide +kernel)⟩
theorem lw_p6 : lw_okq (⟨"JoinVessel$Reaction", "addAction", "(ZIIII)V"⟩, 12) := ⟨⟨by decide +kernel, by decide +kernel⟩, List.mem_of_getElem? (i := 85) (by decide +kernel), List.mem_of_getElem? (i := 212) (by decide +kernel), List.mem_of_getElem? (i := 213) (by decide +kernel)⟩
theorem lw_p7 : lw_okq (⟨"JoinVessel$Reaction", "hasReplyTo", "(I)Z"⟩, 12) := ⟨⟨by decide +kernel, by decide +kernel⟩, List.mem_of_getElem? (i := 85) (by decide +kernel), List.mem_of_getElem? (i := 221) (by decide +kernel), List.mem_of_getElem? (i := 222) (by decide +kernel)⟩
theorem lw_p8 : lw_okq (⟨"JoinVessel", "obstacleToSealing", "()I"⟩, 9) := ⟨⟨by decide +kernel, by decide +kernel⟩, List.mem_of_getElem? (i := 9) (by decide +kernel), List.mem_of_getElem? (i := 229) (by decide +kernel), List.mem_of_getElem? (i := 230) (by decide +kernel)⟩
theorem lw_p9 : lw_okq (⟨"JoinVessel", "leavesCallUnanswered", "(LJoinVessel$Reaction;)Z"⟩, 9) := ⟨⟨by decide +kernel, by decide +kernel⟩, List.mem_of_getElem? (i := 9) (by decide +kernel), List.mem_of_getElem? (i := 233) (by decide +kernel), List.mem_of_getElem? (i := 234) (by decide +kernel)⟩
theorem lw_p10 : lw_okq (⟨"JoinVessel", "admit", "(IIZ)I"⟩, 9) := ⟨⟨by decide +kernel, by decide +kernel⟩, List.mem_of_getElem? (i := 9) (by decide +kernel), List.mem_of_getElem? (i := 241) (by decide +kernel), List.mem_of_getElem? (i := 242) (by decide +kernel)⟩
theorem lw_p11 : lw_okq (⟨"JoinVessel", "makeMessage", "(II)I"⟩, 9) := ⟨⟨by decide +kernel, by decide +kernel⟩, List.mem_of_getElem? (i := 9) (by decide +kernel), List.mem_of_getElem? (i := 245) (by decide +kernel), List.mem_of_getElem? (i := 246) (by decide +kernel)⟩
theorem lw_p12 : lw_okq (⟨"JoinVessel$Messages", "add", "(II)I"⟩, 6) := ⟨⟨by decide +kernel, by decide +kernel⟩, List.mem_of_getElem? (i := 21) (by decide +kernel), List.mem_of_getElem? (i := 249) (by decide +kernel), List.mem_of_getElem? (i := 250) (by decide +kernel)⟩
theorem lw_p13 : lw_okq (⟨"JoinVessel$Channel", "addPending", "(I)V"⟩, 3) := ⟨⟨by decide +kernel, by decide +kernel⟩, List.mem_of_getElem? (i := 67) (by decide +kernel), List.mem_of_getElem? (i := 253) (by decide +kernel), List.mem_of_getElem? (i := 254) (by decide +kernel)⟩
theorem lw_p14 : lw_okq (⟨"JoinVessel$Messages", "has", "(I)Z"⟩, 6) := ⟨⟨by decide +kernel, by decide +kernel⟩, List.mem_of_getElem? (i := 21) (by decide +kernel), List.mem_of_getElem? (i := 265) (by decide +kernel), List.mem_of_getElem? (i := 266) (by decide +kernel)⟩
theorem lw_p15 : lw_okq (⟨"JoinVessel$Channel", "removePending", "(I)V"⟩, 3) := ⟨⟨by decide +kernel, by decide +kernel⟩, List.mem_of_getElem? (i := 67) (by decide +kernel), List.mem_of_getElem? (i := 269) (by decide +kernel), List.mem_of_getElem? (i := 270) (by decide +kernel)⟩
def lw_privs_1 : List (MethodName × Nat) := [(⟨"JoinVessel", "mayBuild", "(I)Z"⟩, 9), (⟨"JoinVessel", "isChannel", "(I)Z"⟩, 9), (⟨"JoinVessel$Reaction", "addPart", "(III)I"⟩, 12), (⟨"JoinVessel", "isChannelOf", "(IZ)Z"⟩, 9), (⟨"JoinVessel$Reaction", "mayAddAction", "(II)Z"⟩, 12), (⟨"JoinVessel$Reaction", "hasPart", "(I)Z"⟩, 12), (⟨"JoinVessel$Reaction", "addAction", "(ZIIII)V"⟩, 12), (⟨"JoinVessel$Reaction", "hasReplyTo", "(I)Z"⟩, 12), (⟨"JoinVessel", "obstacleToSealing", "()I"⟩, 9), (⟨"JoinVessel", "leavesCallUnanswered", "(LJoinVessel$Reaction;)Z"⟩, 9), (⟨"JoinVessel", "admit", "(IIZ)I"⟩, 9), (⟨"JoinVessel", "makeMessage", "(II)I"⟩, 9), (⟨"JoinVessel$Messages", "add", "(II)I"⟩, 6), (⟨"JoinVessel$Channel", "addPending", "(I)V"⟩, 3), (⟨"JoinVessel$Messages", "has", "(I)Z"⟩, 6), (⟨"JoinVessel$Channel", "removePending", "(I)V"⟩, 3)]
theorem lw_r1 : ∀ q ∈ lw_privs_1, lw_okq q := List.forall_mem_cons.mpr ⟨lw_p0, List.forall_mem_cons.mpr ⟨lw_p1, List.forall_mem_cons.mpr ⟨lw_p2, List.forall_mem_cons.mpr ⟨lw_p3, List.forall_mem_cons.mpr ⟨lw_p4, List.forall_mem_cons.mpr ⟨lw_p5, List.forall_mem_cons.mpr ⟨lw_p6, List.forall_mem_cons.mpr ⟨lw_p7, List.forall_mem_cons.mpr ⟨lw_p8, List.forall_mem_cons.mpr ⟨lw_p9, List.forall_mem_cons.mpr ⟨lw_p10, List.forall_mem_cons.mpr ⟨lw_p11, List.forall_mem_cons.mpr ⟨lw_p12, List.forall_mem_cons.mpr ⟨lw_p13, List.forall_mem_cons.mpr ⟨lw_p14, List.forall_mem_cons.mpr ⟨lw_p15, fun _ h => absurd h List.not_mem_nil⟩⟩⟩⟩⟩⟩⟩⟩⟩⟩⟩⟩⟩⟩⟩⟩
theorem lw_p16 : lw_okq (⟨"JoinVessel", "findNext", "()I"⟩, 9) := ⟨⟨by decide +kernel, by decide +kernel⟩, List.mem_of_getElem? (i := 9) (by decide +kernel), List.mem_of_getElem? (i := 277) (by decide +kernel), List.mem_of_getElem? (i := 278) (by decide +kernel)⟩
theorem lw_p17 : lw_okq (⟨"JoinVessel", "findEnabledMatch", "(I)Z"⟩, 9) := ⟨⟨by decide +kernel, by decide +kernel⟩, List.mem_of_getElem? (i := 9) (by decide +kernel), List.mem_of_getElem? (i := 281) (by decide +kernel), List.mem_of_getElem? (i := 282) (by decide +kernel)⟩
theorem lw_p18 : lw_okq (⟨"JoinVessel", "hasRoom", "(LJoinVessel$Reaction;)Z"⟩, 9) := ⟨⟨by decide +kernel, by decide +kernel⟩, List.mem_of_getElem? (i := 9) (by decide +kernel), List.mem_of_getElem? (i := 285) (by decide +kernel), List.mem_of_getElem? (i := 286) (by decide +kernel)⟩
theorem lw_p19 : lw_okq (⟨"JoinVessel$Reaction", "sendCount", "()I"⟩, 12) := ⟨⟨by decide +kernel, by decide +kernel⟩, List.mem_of_getElem? (i := 85) (by decide +kernel), List.mem_of_getElem? (i := 289) (by decide +kernel), List.mem_of_getElem? (i := 290) (by decide +kernel)⟩
theorem lw_p20 : lw_okq (⟨"JoinVessel$Reaction", "partsOn", "(I)I"⟩, 12) := ⟨⟨by decide +kernel, by decide +kernel⟩, List.mem_of_getElem? (i := 85) (by decide +kernel), List.mem_of_getElem? (i := 293) (by decide +kernel), List.mem_of_getElem? (i := 294) (by decide +kernel)⟩
theorem lw_p21 : lw_okq (⟨"JoinVessel$Reaction", "sendsTo", "(I)I"⟩, 12) := ⟨⟨by decide +kernel, by decide +kernel⟩, List.mem_of_getElem? (i := 85) (by decide +kernel), List.mem_of_getElem? (i := 297) (by decide +kernel), List.mem_of_getElem? (i := 298) (by decide +kernel)⟩
theorem lw_p22 : lw_okq (⟨"JoinVessel$Reaction", "guardHolds", "([I)Z"⟩, 12) := ⟨⟨by decide +kernel, by decide +kernel⟩, List.mem_of_getElem? (i := 85) (by decide +kernel), List.mem_of_getElem? (i := 304) (by decide +kernel), List.mem_of_getElem? (i := 305) (by decide +kernel)⟩
theorem lw_p23 : lw_okq (⟨"JoinVessel$Reaction", "passesTest", "(II)Z"⟩, 12) := ⟨⟨by decide +kernel, by decide +kernel⟩, List.mem_of_getElem? (i := 85) (by decide +kernel), List.mem_of_getElem? (i := 320) (by decide +kernel), List.mem_of_getElem? (i := 321) (by decide +kernel)⟩
theorem lw_p24 : lw_okq (⟨"JoinVessel$Match", "holdsBefore", "(II)Z"⟩, 2) := ⟨⟨by decide +kernel, by decide +kernel⟩, List.mem_of_getElem? (i := 53) (by decide +kernel), List.mem_of_getElem? (i := 324) (by decide +kernel), List.mem_of_getElem? (i := 325) (by decide +kernel)⟩
theorem lw_p25 : lw_okq (⟨"JoinVessel", "fire", "(I)V"⟩, 9) := ⟨⟨by decide +kernel, by decide +kernel⟩, List.mem_of_getElem? (i := 9) (by decide +kernel), List.mem_of_getElem? (i := 328) (by decide +kernel), List.mem_of_getElem? (i := 329) (by decide +kernel)⟩
theorem lw_p26 : lw_okq (⟨"JoinVessel", "consume", "(I)V"⟩, 9) := ⟨⟨by decide +kernel, by decide +kernel⟩, List.mem_of_getElem? (i := 9) (by decide +kernel), List.mem_of_getElem? (i := 332) (by decide +kernel), List.mem_of_getElem? (i := 333) (by decide +kernel)⟩
theorem lw_p27 : lw_okq (⟨"JoinVessel$Reaction", "evaluate", "(I[I)I"⟩, 12) := ⟨⟨by decide +kernel, by decide +kernel⟩, List.mem_of_getElem? (i := 85) (by decide +kernel), List.mem_of_getElem? (i := 336) (by decide +kernel), List.mem_of_getElem? (i := 337) (by decide +kernel)⟩
theorem lw_p28 : lw_okq (⟨"JoinVesselModel", "open", "(I)Z"⟩, 28) := ⟨⟨by decide +kernel, by decide +kernel⟩, List.mem_of_getElem? (i := 382) (by decide +kernel), List.mem_of_getElem? (i := 485) (by decide +kernel), List.mem_of_getElem? (i := 486) (by decide +kernel)⟩
theorem lw_p29 : lw_okq (⟨"JoinVesselModel", "isChannel", "(I)Z"⟩, 28) := ⟨⟨by decide +kernel, by decide +kernel⟩, List.mem_of_getElem? (i := 382) (by decide +kernel), List.mem_of_getElem? (i := 489) (by decide +kernel), List.mem_of_getElem? (i := 490) (by decide +kernel)⟩
theorem lw_p30 : lw_okq (⟨"JoinVesselModel", "expression", "(III)Z"⟩, 28) := ⟨⟨by decide +kernel, by decide +kernel⟩, List.mem_of_getElem? (i := 382) (by decide +kernel), List.mem_of_getElem? (i := 501) (by decide +kernel), List.mem_of_getElem? (i := 502) (by decide +kernel)⟩
theorem lw_p31 : lw_okq (⟨"JoinVesselModel", "hasPart", "(II)Z"⟩, 28) := ⟨⟨by decide +kernel, by decide +kernel⟩, List.mem_of_getElem? (i := 382) (by decide +kernel), List.mem_of_getElem? (i := 505) (by decide +kernel), List.mem_of_getElem? (i := 506) (by decide +kernel)⟩
def lw_privs_2 : List (MethodName × Nat) := [(⟨"JoinVessel", "findNext", "()I"⟩, 9), (⟨"JoinVessel", "findEnabledMatch", "(I)Z"⟩, 9), (⟨"JoinVessel", "hasRoom", "(LJoinVessel$Reaction;)Z"⟩, 9), (⟨"JoinVessel$Reaction", "sendCount", "()I"⟩, 12), (⟨"JoinVessel$Reaction", "partsOn", "(I)I"⟩, 12), (⟨"JoinVessel$Reaction", "sendsTo", "(I)I"⟩, 12), (⟨"JoinVessel$Reaction", "guardHolds", "([I)Z"⟩, 12), (⟨"JoinVessel$Reaction", "passesTest", "(II)Z"⟩, 12), (⟨"JoinVessel$Match", "holdsBefore", "(II)Z"⟩, 2), (⟨"JoinVessel", "fire", "(I)V"⟩, 9), (⟨"JoinVessel", "consume", "(I)V"⟩, 9), (⟨"JoinVessel$Reaction", "evaluate", "(I[I)I"⟩, 12), (⟨"JoinVesselModel", "open", "(I)Z"⟩, 28), (⟨"JoinVesselModel", "isChannel", "(I)Z"⟩, 28), (⟨"JoinVesselModel", "expression", "(III)Z"⟩, 28), (⟨"JoinVesselModel", "hasPart", "(II)Z"⟩, 28)]
theorem lw_r2 : ∀ q ∈ lw_privs_2, lw_okq q := List.forall_mem_cons.mpr ⟨lw_p16, List.forall_mem_cons.mpr ⟨lw_p17, List.forall_mem_cons.mpr ⟨lw_p18, List.forall_mem_cons.mpr ⟨lw_p19, List.forall_mem_cons.mpr ⟨lw_p20, List.forall_mem_cons.mpr ⟨lw_p21, List.forall_mem_cons.mpr ⟨lw_p22, List.forall_mem_cons.mpr ⟨lw_p23, List.forall_mem_cons.mpr ⟨lw_p24, List.forall_mem_cons.mpr ⟨lw_p25, List.forall_mem_cons.mpr ⟨lw_p26, List.forall_mem_cons.mpr ⟨lw_p27, List.forall_mem_cons.mpr ⟨lw_p28, List.forall_mem_cons.mpr ⟨lw_p29, List.forall_mem_cons.mpr ⟨lw_p30, List.forall_mem_cons.mpr ⟨lw_p31, fun _ h => absurd h List.not_mem_nil⟩⟩⟩⟩⟩⟩⟩⟩⟩⟩⟩⟩⟩⟩⟩⟩
theorem lw_p32 : lw_okq (⟨"JoinVesselModel", "act", "(IIIII)V"⟩, 28) := ⟨⟨by decide +kernel, by decide +kernel⟩, List.mem_of_getElem? (i := 382) (by decide +kernel), List.mem_of_getElem? (i := 509) (by decide +kernel), List.mem_of_getElem? (i := 510) (by decide +kernel)⟩
theorem lw_p33 : lw_okq (⟨"JoinVesselModel", "answersPart", "(II)Z"⟩, 28) := ⟨⟨by decide +kernel, by decide +kernel⟩, List.mem_of_getElem? (i := 382) (by decide +kernel), List.mem_of_getElem? (i := 517) (by decide +kernel), List.mem_of_getElem? (i := 518) (by decide +kernel)⟩
theorem lw_p34 : lw_okq (⟨"JoinVesselModel", "enter", "(IIZ)I"⟩, 28) := ⟨⟨by decide +kernel, by decide +kernel⟩, List.mem_of_getElem? (i := 382) (by decide +kernel), List.mem_of_getElem? (i := 529) (by decide +kernel), List.mem_of_getElem? (i := 530) (by decide +kernel)⟩
theorem lw_p35 : lw_okq (⟨"JoinVesselModel", "gather", "()V"⟩, 28) := ⟨⟨by decide +kernel, by decide +kernel⟩, List.mem_of_getElem? (i := 382) (by decide +kernel), List.mem_of_getElem? (i := 533) (by decide +kernel), List.mem_of_getElem? (i := 534) (by decide +kernel)⟩
theorem lw_p36 : lw_okq (⟨"JoinVesselModel", "make", "(II)I"⟩, 28) := ⟨⟨by decide +kernel, by decide +kernel⟩, List.mem_of_getElem? (i := 382) (by decide +kernel), List.mem_of_getElem? (i := 537) (by decide +kernel), List.mem_of_getElem? (i := 538) (by decide +kernel)⟩
theorem lw_p37 : lw_okq (⟨"JoinVesselModel", "isMessage", "(I)Z"⟩, 28) := ⟨⟨by decide +kernel, by decide +kernel⟩, List.mem_of_getElem? (i := 382) (by decide +kernel), List.mem_of_getElem? (i := 549) (by decide +kernel), List.mem_of_getElem? (i := 550) (by decide +kernel)⟩
theorem lw_p38 : lw_okq (⟨"JoinVesselModel", "room", "(I)Z"⟩, 28) := ⟨⟨by decide +kernel, by decide +kernel⟩, List.mem_of_getElem? (i := 382) (by decide +kernel), List.mem_of_getElem? (i := 557) (by decide +kernel), List.mem_of_getElem? (i := 558) (by decide +kernel)⟩
theorem lw_p39 : lw_okq (⟨"JoinVesselModel", "find", "(I)Z"⟩, 28) := ⟨⟨by decide +kernel, by decide +kernel⟩, List.mem_of_getElem? (i := 382) (by decide +kernel), List.mem_of_getElem? (i := 561) (by decide +kernel), List.mem_of_getElem? (i := 562) (by decide +kernel)⟩
theorem lw_p40 : lw_okq (⟨"JoinVesselModel", "matches", "(I)Z"⟩, 28) := ⟨⟨by decide +kernel, by decide +kernel⟩, List.mem_of_getElem? (i := 382) (by decide +kernel), List.mem_of_getElem? (i := 565) (by decide +kernel), List.mem_of_getElem? (i := 566) (by decide +kernel)⟩
theorem lw_p41 : lw_okq (⟨"JoinVesselModel", "chosen", "(II)I"⟩, 28) := ⟨⟨by decide +kernel, by decide +kernel⟩, List.mem_of_getElem? (i := 382) (by decide +kernel), List.mem_of_getElem? (i := 569) (by decide +kernel), List.mem_of_getElem? (i := 570) (by decide +kernel)⟩
theorem lw_p42 : lw_okq (⟨"JoinVesselModel", "passes", "(II)Z"⟩, 28) := ⟨⟨by decide +kernel, by decide +kernel⟩, List.mem_of_getElem? (i := 382) (by decide +kernel), List.mem_of_getElem? (i := 573) (by decide +kernel), List.mem_of_getElem? (i := 574) (by decide +kernel)⟩
theorem lw_p43 : lw_okq (⟨"JoinVesselModel", "guarded", "(I)Z"⟩, 28) := ⟨⟨by decide +kernel, by decide +kernel⟩, List.mem_of_getElem? (i := 382) (by decide +kernel), List.mem_of_getElem? (i := 577) (by decide +kernel), List.mem_of_getElem? (i := 578) (by decide +kernel)⟩
theorem lw_p44 : lw_okq (⟨"JoinVesselModel", "fire", "(I)V"⟩, 28) := ⟨⟨by decide +kernel, by decide +kernel⟩, List.mem_of_getElem? (i := 382) (by decide +kernel), List.mem_of_getElem? (i := 595) (by decide +kernel), List.mem_of_getElem? (i := 596) (by decide +kernel)⟩
theorem lw_p45 : lw_okq (⟨"JoinVesselModel", "result", "(II)I"⟩, 28) := ⟨⟨by decide +kernel, by decide +kernel⟩, List.mem_of_getElem? (i := 382) (by decide +kernel), List.mem_of_getElem? (i := 599) (by decide +kernel), List.mem_of_getElem? (i := 600) (by decide +kernel)⟩
def lw_privs_3 : List (MethodName × Nat) := [(⟨"JoinVesselModel", "act", "(IIIII)V"⟩, 28), (⟨"JoinVesselModel", "answersPart", "(II)Z"⟩, 28), (⟨"JoinVesselModel", "enter", "(IIZ)I"⟩, 28), (⟨"JoinVesselModel", "gather", "()V"⟩, 28), (⟨"JoinVesselModel", "make", "(II)I"⟩, 28), (⟨"JoinVesselModel", "isMessage", "(I)Z"⟩, 28), (⟨"JoinVesselModel", "room", "(I)Z"⟩, 28), (⟨"JoinVesselModel", "find", "(I)Z"⟩, 28), (⟨"JoinVesselModel", "matches", "(I)Z"⟩, 28), (⟨"JoinVesselModel", "chosen", "(II)I"⟩, 28), (⟨"JoinVesselModel", "passes", "(II)Z"⟩, 28), (⟨"JoinVesselModel", "guarded", "(I)Z"⟩, 28), (⟨"JoinVesselModel", "fire", "(I)V"⟩, 28), (⟨"JoinVesselModel", "result", "(II)I"⟩, 28)]
theorem lw_r3 : ∀ q ∈ lw_privs_3, lw_okq q := List.forall_mem_cons.mpr ⟨lw_p32, List.forall_mem_cons.mpr ⟨lw_p33, List.forall_mem_cons.mpr ⟨lw_p34, List.forall_mem_cons.mpr ⟨lw_p35, List.forall_mem_cons.mpr ⟨lw_p36, List.forall_mem_cons.mpr ⟨lw_p37, List.forall_mem_cons.mpr ⟨lw_p38, List.forall_mem_cons.mpr ⟨lw_p39, List.forall_mem_cons.mpr ⟨lw_p40, List.forall_mem_cons.mpr ⟨lw_p41, List.forall_mem_cons.mpr ⟨lw_p42, List.forall_mem_cons.mpr ⟨lw_p43, List.forall_mem_cons.mpr ⟨lw_p44, List.forall_mem_cons.mpr ⟨lw_p45, fun _ h => absurd h List.not_mem_nil⟩⟩⟩⟩⟩⟩⟩⟩⟩⟩⟩⟩⟩⟩
def lw_privs : List (MethodName × Nat) := lw_privs_1 ++ (lw_privs_2 ++ (lw_privs_3))
def lw_tbl : List Cond := k2_sels lw_privs ++ tables_1
theorem lw_privs_ok : ∀ q ∈ lw_privs, lw_okq q := by
  show ∀ q ∈ lw_privs_1 ++ (lw_privs_2 ++ (lw_privs_3)), lw_okq q
  exact List.forall_mem_append.mpr ⟨lw_r1, List.forall_mem_append.mpr ⟨lw_r2, lw_r3⟩⟩
end
section
/-! The raw world: cells 0 .. n-1 at addresses a i, each out of the raw state h (cell, place). All contracts are over the whole world of a side. -/
abbrev RS : Type := Nat → Nat → Int32
def up2 (h : RS) (i k : Nat) (v : Int32) : RS := va_up h i (upd (h i) k v)
def gW (n : Nat) (a : Nat → Nat) (ce : (Nat → Int32) → Nat → va_E) (h : RS) : va_W := (List.range n).map (fun i => (a i, ce (h i) i))
theorem gW_at {n : Nat} {a : Nat → Nat} {ce : (Nat → Int32) → Nat → va_E} {h : RS} {i : Nat} {x : va_E} (hi : i < n) (hx : ce (h i) i = x) : (gW n a ce h)[i]? = some (a i, x) := by
  subst hx
  simp [gW, hi]
theorem gW_set {n : Nat} {a : Nat → Nat} {ce : (Nat → Int32) → Nat → va_E} {h : RS} {i : Nat} {x : Nat → Int32} {y : va_E} (hi : i < n) (hy : ce x i = y) : (gW n a ce h).set i (a i, y) = gW n a ce (va_up h i x) := by
  subst hy
  apply List.ext_getElem?
  intro j
  by_cases hj : j = i
  · subst hj
    simp [gW, hi, va_up]
  · rw [List.getElem?_set_ne (Ne.symm hj)]
    by_cases hn : j < n
    · simp [gW, va_up, hj, hn]
    · simp [gW, hn]
def inW (a : Nat → Nat) (n : Nat) : Nat → Prop := fun q => ∃ i, i < n ∧ q = a i
def injW (a : Nat → Nat) (n : Nat) : Prop := ∀ i j, i < n → j < n → a i = a j → i = j
theorem gW_lt {n : Nat} {a : Nat → Nat} {ce : (Nat → Int32) → Nat → va_E} {h : RS} {i : Nat} {q : Nat × va_E} (hq : (gW n a ce h)[i]? = some q) : i < n ∧ q.1 = a i := by
  have hl := (List.getElem?_eq_some_iff.mp hq).1
  have hn : i < n := by simpa [gW] using hl
  rw [gW_at hn rfl] at hq
  cases hq
  exact ⟨hn, rfl⟩
theorem gW_D {n : Nat} {a : Nat → Nat} {ce : (Nat → Int32) → Nat → va_E} {h : RS} (hI : injW a n) : va_D (inW a n) (gW n a ce h) := by
  refine ⟨fun i j x y hi hj hxy => ?_, fun k q hk => ?_⟩
  · obtain ⟨h1, e1⟩ := gW_lt hi
    obtain ⟨h2, e2⟩ := gW_lt hj
    exact hI i j h1 h2 (e1.symm.trans (hxy.trans e2))
  · obtain ⟨h1, e1⟩ := gW_lt hk
    exact ⟨k, h1, e1⟩
theorem in_nI {x : Int32} {n k : Nat} (hk : k < n) (hn : n < 2 ^ 31) (hx : x = nI k) : vp_in x n ∧ x.toNatClampNeg = k := by
  subst hx
  exact ⟨vp_in_nI hk hn, nI_clamp (Nat.lt_trans hk hn)⟩
/-- a boolean as the machine keeps it -/
def isB (v : Int32) : Prop := v = 0 ∨ v = 1
theorem isB_0 : isB 0 := Or.inl rfl
theorem isB_1 : isB 1 := Or.inr rfl
theorem isB_n {v : Int32} (h : isB v) : narrow .boolean (.int v) = .int v := by
  rcases h with rfl | rfl <;> rfl
theorem isB_f {v : Int32} (h : isB v) : fits .boolean (.int v) = true := by
  rcases h with rfl | rfl <;> decide
theorem isB_v {v : Int32} (h : isB v) : vp_nar .boolean v = v := by
  rcases h with rfl | rfl <;> rfl
/-- the tables' words may be carried to any callee -/
def TbOk (tb : List Cond) : Prop := (∀ w ∈ tb, w.onTables = true) ∧ ∀ w ∈ tb, ∀ s U : State, s.WarmedH U.vm → va_Nw w s → va_Nw w U
/-- what is fixed during a method's walk -/
def Cx (p : Program) (l : Launch) (R : Room) (s : State) (m : MethodId) (args : Array Value) (meth : Method) (c : Code) (cc : ByteArray) (nL : Nat) (own : String) (ret : Option FieldType) (D : va_G) (cl : List vw_C) (tys : List (ClassId × FieldType)) (a : Nat → Nat) (n F L : Nat) (tb : List Cond) : Prop :=
  p.tables.exec = Jvm.exec ∧ c.code = cc ∧ c.maxLocals = nL ∧ s.vm.findClass own = some m.cls ∧ (∀ w ∈ tb, w.before args s = true) ∧ meth.sig.returnType = ret ∧ meth.locks = false ∧ va_K D cl tys s ∧ injW a n ∧ F ≤ R.frames ∧ L ≤ R.locals ∧ TbOk tb
/-- from pc with the locals lv, the operands st and the raw state h the machine comes to Q -/
def Z (p : Program) (l : Launch) (e : Env) (R : Room) (s : State) (m : MethodId) (args : Array Value) (below : List Frame) (meth : Method) (c : Code) (D : va_G) (cl : List vw_C) (n : Nat) (a : Nat → Nat) (ce : (Nat → Int32) → Nat → va_E) (nL : Nat) (Q : State → Prop) (h : RS) (pc : Nat) (lv : List (Nat × Value)) (st : List Value) : Prop :=
  ∀ (H : Heap) (locs : List Loc) (ls : Array Slot), va_P D cl (gW n a ce h) H → va_S (inW a n) s.heap H locs → lv_has ls nL lv → W p l e R s m args below meth c H locs 0 0 Q (F0 m pc ls st)
section ZR
variable {p : Program} {l : Launch} {e : Env} {R : Room} {s : State} {m : MethodId} {args : Array Value} {below : List Frame} {meth : Method} {c : Code} {D : va_G} {cl : List vw_C} {n : Nat} {a : Nat → Nat} {ce : (Nat → Int32) → Nat → va_E} {nL : Nat} {Q : State → Prop} {h : RS} {pc : Nat} {lv lv' : List (Nat × Value)} {st : List Value} {cc : ByteArray} {own : String} {ret : Option FieldType} {tys : List (ClassId × FieldType)} {F L : Nat} {tb : List Cond}
theorem z_iconst (X : Cx p l R s m args meth c cc nL own ret D cl tys a n F L tb) {k : Int} {v : Int32} (hdg : decode cc pc = .ok (.iconst k, 1)) (hv : Int32.ofInt k = v) (z : Z p l e R s m args below meth c D cl n a ce nL Q h (pc + 1) lv (.int v :: st)) : Z p l e R s m args below meth c D cl n a ce nL Q h pc lv st :=
  fun H locs ls hP hS hl => lv_iconst X.1 X.2.1 hdg hv (z H locs ls hP hS hl)
theorem z_bipush (X : Cx p l R s m args meth c cc nL own ret D cl tys a n F L tb) {k : Int} {v : Int32} (hdg : decode cc pc = .ok (.bipush k, 2)) (hv : (Int8.ofInt k).toInt32 = v) (z : Z p l e R s m args below meth c D cl n a ce nL Q h (pc + 2) lv (.int v :: st)) : Z p l e R s m args below meth c D cl n a ce nL Q h pc lv st :=
  fun H locs ls hP hS hl => lv_bipush X.1 X.2.1 hdg hv (z H locs ls hP hS hl)
theorem z_sipush (X : Cx p l R s m args meth c cc nL own ret D cl tys a n F L tb) {k : Int} {v : Int32} (hdg : decode cc pc = .ok (.sipush k, 3)) (hv : (Int16.ofInt k).toInt32 = v) (z : Z p l e R s m args below meth c D cl n a ce nL Q h (pc + 3) lv (.int v :: st)) : Z p l e R s m args below meth c D cl n a ce nL Q h pc lv st :=
  fun H locs ls hP hS hl => lv_sipush X.1 X.2.1 hdg hv (z H locs ls hP hS hl)
theorem z_lconst (X : Cx p l R s m args meth c cc nL own ret D cl tys a n F L tb) {k : Fin 2} {v : Int64} (hdg : decode cc pc = .ok (.lconst k, 1)) (hv : Int64.ofNat (k : Nat) = v) (z : Z p l e R s m args below meth c D cl n a ce nL Q h (pc + 1) lv (.long v :: st)) : Z p l e R s m args below meth c D cl n a ce nL Q h pc lv st :=
  fun H locs ls hP hS hl => lv_lconst X.1 X.2.1 hdg hv (z H locs ls hP hS hl)
theorem z_iload_n (X : Cx p l R s m args meth c cc nL own ret D cl tys a n F L tb) (j : Nat) {k : Fin 4} {i : Nat} {x : Int32} (hdg : decode cc pc = .ok (.iload_n k, 1)) (hi : (k : Nat) = i) (hj : lv[j]? = some (i, .int x)) (z : Z p l e R s m args below meth c D cl n a ce nL Q h (pc + 1) lv (.int x :: st)) : Z p l e R s m args below meth c D cl n a ce nL Q h pc lv st :=
  fun H locs ls hP hS hl => lv_iload_n X.1 X.2.1 hdg hi (lv_at hl j hj) (z H locs ls hP hS hl)
theorem z_iload (X : Cx p l R s m args meth c cc nL own ret D cl tys a n F L tb) (j : Nat) {i : Nat} {x : Int32} (hdg : decode cc pc = .ok (.iload i, 2)) (hj : lv[j]? = some (i, .int x)) (z : Z p l e R s m args below meth c D cl n a ce nL Q h (pc + 2) lv (.int x :: st)) : Z p l e R s m args below meth c D cl n a ce nL Q h pc lv st :=
  fun H locs ls hP hS hl => lv_iload X.1 X.2.1 hdg (lv_at hl j hj) (z H locs ls hP hS hl)
theorem z_lload_n (X : Cx p l R s m args meth c cc nL own ret D cl tys a n F L tb) (j : Nat) {k : Fin 4} {i : Nat} {x : Int64} (hdg : decode cc pc = .ok (.lload_n k, 1)) (hi : (k : Nat) = i) (hj : lv[j]? = some (i, .long x)) (z : Z p l e R s m args below meth c D cl n a ce nL Q h (pc + 1) lv (.long x :: st)) : Z p l e R s m args below meth c D cl n a ce nL Q h pc lv st :=
  fun H locs ls hP hS hl => lv_lload_n X.1 X.2.1 hdg hi (lv_at hl j hj) (z H locs ls hP hS hl)
theorem z_lload (X : Cx p l R s m args meth c cc nL own ret D cl tys a n F L tb) (j : Nat) {i : Nat} {x : Int64} (hdg : decode cc pc = .ok (.lload i, 2)) (hj : lv[j]? = some (i, .long x)) (z : Z p l e R s m args below meth c D cl n a ce nL Q h (pc + 2) lv (.long x :: st)) : Z p l e R s m args below meth c D cl n a ce nL Q h pc lv st :=
  fun H locs ls hP hS hl => lv_lload X.1 X.2.1 hdg (lv_at hl j hj) (z H locs ls hP hS hl)
theorem z_aload_n (X : Cx p l R s m args meth c cc nL own ret D cl tys a n F L tb) (j : Nat) {k : Fin 4} {i x : Nat} (hdg : decode cc pc = .ok (.aload_n k, 1)) (hi : (k : Nat) = i) (hj : lv[j]? = some (i, .ref x)) (z : Z p l e R s m args below meth c D cl n a ce nL Q h (pc + 1) lv (.ref x :: st)) : Z p l e R s m args below meth c D cl n a ce nL Q h pc lv st :=
  fun H locs ls hP hS hl => lv_aload_n X.1 X.2.1 hdg hi (lv_at hl j hj) (z H locs ls hP hS hl)
theorem z_aload (X : Cx p l R s m args meth c cc nL own ret D cl tys a n F L tb) (j : Nat) {i x : Nat} (hdg : decode cc pc = .ok (.aload i, 2)) (hj : lv[j]? = some (i, .ref x)) (z : Z p l e R s m args below meth c D cl n a ce nL Q h (pc + 2) lv (.ref x :: st)) : Z p l e R s m args below meth c D cl n a ce nL Q h pc lv st :=
  fun H locs ls hP hS hl => lv_aload X.1 X.2.1 hdg (lv_at hl j hj) (z H locs ls hP hS hl)
theorem z_istore_n (X : Cx p l R s m args meth c cc nL own ret D cl tys a n F L tb) {k : Fin 4} {i : Nat} {x : Int32} (hdg : decode cc pc = .ok (.istore_n k, 1)) (hi : (k : Nat) = i) (hn : i < nL) (hl' : (i, Value.int x) :: lv.filter (fun q => !(q.1 == i) && !(q.1 + 1 == i && q.2.category == 2)) = lv') (z : Z p l e R s m args below meth c D cl n a ce nL Q h (pc + 1) lv' st) : Z p l e R s m args below meth c D cl n a ce nL Q h pc lv (.int x :: st) :=
  fun H locs _ hP hS hl => lv_istore_n X.1 X.2.1 hdg hi hl hn hl' (fun ls' h' => z H locs ls' hP hS h')
theorem z_istore (X : Cx p l R s m args meth c cc nL own ret D cl tys a n F L tb) {i : Nat} {x : Int32} (hdg : decode cc pc = .ok (.istore i, 2)) (hn : i < nL) (hl' : (i, Value.int x) :: lv.filter (fun q => !(q.1 == i) && !(q.1 + 1 == i && q.2.category == 2)) = lv') (z : Z p l e R s m args below meth c D cl n a ce nL Q h (pc + 2) lv' st) : Z p l e R s m args below meth c D cl n a ce nL Q h pc lv (.int x :: st) :=
  fun H locs _ hP hS hl => lv_istore X.1 X.2.1 hdg hl hn hl' (fun ls' h' => z H locs ls' hP hS h')
theorem z_lstore_n (X : Cx p l R s m args meth c cc nL own ret D cl tys a n F L tb) {k : Fin 4} {i : Nat} {x : Int64} (hdg : decode cc pc = .ok (.lstore_n k, 1)) (hi : (k : Nat) = i) (hn : i + 1 < nL) (hl' : (i, Value.long x) :: lv.filter (fun q => !(q.1 == i) && (!(q.1 == i + 1) && !(q.1 + 1 == i && q.2.category == 2))) = lv') (z : Z p l e R s m args below meth c D cl n a ce nL Q h (pc + 1) lv' st) : Z p l e R s m args below meth c D cl n a ce nL Q h pc lv (.long x :: st) :=
  fun H locs _ hP hS hl => lv_lstore_n X.1 X.2.1 hdg hi hl hn hl' (fun ls' h' => z H locs ls' hP hS h')
theorem z_lstore (X : Cx p l R s m args meth c cc nL own ret D cl tys a n F L tb) {i : Nat} {x : Int64} (hdg : decode cc pc = .ok (.lstore i, 2)) (hn : i + 1 < nL) (hl' : (i, Value.long x) :: lv.filter (fun q => !(q.1 == i) && (!(q.1 == i + 1) && !(q.1 + 1 == i && q.2.category == 2))) = lv') (z : Z p l e R s m args below meth c D cl n a ce nL Q h (pc + 2) lv' st) : Z p l e R s m args below meth c D cl n a ce nL Q h pc lv (.long x :: st) :=
  fun H locs _ hP hS hl => lv_lstore X.1 X.2.1 hdg hl hn hl' (fun ls' h' => z H locs ls' hP hS h')
theorem z_astore_n (X : Cx p l R s m args meth c cc nL own ret D cl tys a n F L tb) {k : Fin 4} {i x : Nat} (hdg : decode cc pc = .ok (.astore_n k, 1)) (hi : (k : Nat) = i) (hn : i < nL) (hl' : (i, Value.ref x) :: lv.filter (fun q => !(q.1 == i) && !(q.1 + 1 == i && q.2.category == 2)) = lv') (z : Z p l e R s m args below meth c D cl n a ce nL Q h (pc + 1) lv' st) : Z p l e R s m args below meth c D cl n a ce nL Q h pc lv (.ref x :: st) :=
  fun H locs _ hP hS hl => lv_astore_n X.1 X.2.1 hdg hi hl hn hl' (fun ls' h' => z H locs ls' hP hS h')
theorem z_astore (X : Cx p l R s m args meth c cc nL own ret D cl tys a n F L tb) {i x : Nat} (hdg : decode cc pc = .ok (.astore i, 2)) (hn : i < nL) (hl' : (i, Value.ref x) :: lv.filter (fun q => !(q.1 == i) && !(q.1 + 1 == i && q.2.category == 2)) = lv') (z : Z p l e R s m args below meth c D cl n a ce nL Q h (pc + 2) lv' st) : Z p l e R s m args below meth c D cl n a ce nL Q h pc lv (.ref x :: st) :=
  fun H locs _ hP hS hl => lv_astore X.1 X.2.1 hdg hl hn hl' (fun ls' h' => z H locs ls' hP hS h')
theorem z_iinc (X : Cx p l R s m args meth c cc nL own ret D cl tys a n F L tb) (j : Nat) {i : Nat} {k : Int} {x v : Int32} (hdg : decode cc pc = .ok (.iinc i k, 3)) (hj : lv[j]? = some (i, .int x)) (hv : x + Int32.ofInt k = v) (hn : i < nL) (hl' : (i, Value.int v) :: lv.filter (fun q => !(q.1 == i) && !(q.1 + 1 == i && q.2.category == 2)) = lv') (z : Z p l e R s m args below meth c D cl n a ce nL Q h (pc + 3) lv' st) : Z p l e R s m args below meth c D cl n a ce nL Q h pc lv st :=
  fun H locs _ hP hS hl => lv_iinc X.1 X.2.1 hdg hl hj hv hn hl' (fun ls' h' => z H locs ls' hP hS h')
theorem z_iadd (X : Cx p l R s m args meth c cc nL own ret D cl tys a n F L tb) {x y : Int32} (hdg : decode cc pc = .ok (.iadd, 1)) (z : Z p l e R s m args below meth c D cl n a ce nL Q h (pc + 1) lv (.int (x + y) :: st)) : Z p l e R s m args below meth c D cl n a ce nL Q h pc lv (.int y :: .int x :: st) :=
  fun H locs ls hP hS hl => lv_iadd X.1 X.2.1 hdg (z H locs ls hP hS hl)
theorem z_isub (X : Cx p l R s m args meth c cc nL own ret D cl tys a n F L tb) {x y : Int32} (hdg : decode cc pc = .ok (.isub, 1)) (z : Z p l e R s m args below meth c D cl n a ce nL Q h (pc + 1) lv (.int (x - y) :: st)) : Z p l e R s m args below meth c D cl n a ce nL Q h pc lv (.int y :: .int x :: st) :=
  fun H locs ls hP hS hl => lv_isub X.1 X.2.1 hdg (z H locs ls hP hS hl)
theorem z_imul (X : Cx p l R s m args meth c cc nL own ret D cl tys a n F L tb) {x y : Int32} (hdg : decode cc pc = .ok (.imul, 1)) (z : Z p l e R s m args below meth c D cl n a ce nL Q h (pc + 1) lv (.int (x * y) :: st)) : Z p l e R s m args below meth c D cl n a ce nL Q h pc lv (.int y :: .int x :: st) :=
  fun H locs ls hP hS hl => lv_imul X.1 X.2.1 hdg (z H locs ls hP hS hl)
theorem z_iand (X : Cx p l R s m args meth c cc nL own ret D cl tys a n F L tb) {x y : Int32} (hdg : decode cc pc = .ok (.iand, 1)) (z : Z p l e R s m args below meth c D cl n a ce nL Q h (pc + 1) lv (.int (x &&& y) :: st)) : Z p l e R s m args below meth c D cl n a ce nL Q h pc lv (.int y :: .int x :: st) :=
  fun H locs ls hP hS hl => lv_iand X.1 X.2.1 hdg (z H locs ls hP hS hl)
theorem z_ior (X : Cx p l R s m args meth c cc nL own ret D cl tys a n F L tb) {x y : Int32} (hdg : decode cc pc = .ok (.ior, 1)) (z : Z p l e R s m args below meth c D cl n a ce nL Q h (pc + 1) lv (.int (x ||| y) :: st)) : Z p l e R s m args below meth c D cl n a ce nL Q h pc lv (.int y :: .int x :: st) :=
  fun H locs ls hP hS hl => lv_ior X.1 X.2.1 hdg (z H locs ls hP hS hl)
theorem z_idiv (X : Cx p l R s m args meth c cc nL own ret D cl tys a n F L tb) {x y : Int32} (hdg : decode cc pc = .ok (.idiv, 1)) (hne : ¬ y = 0) (z : Z p l e R s m args below meth c D cl n a ce nL Q h (pc + 1) lv (.int (x / y) :: st)) : Z p l e R s m args below meth c D cl n a ce nL Q h pc lv (.int y :: .int x :: st) :=
  fun H locs ls hP hS hl => lv_idiv X.1 X.2.1 hdg hne (z H locs ls hP hS hl)
theorem z_irem (X : Cx p l R s m args meth c cc nL own ret D cl tys a n F L tb) {x y : Int32} (hdg : decode cc pc = .ok (.irem, 1)) (hne : ¬ y = 0) (z : Z p l e R s m args below meth c D cl n a ce nL Q h (pc + 1) lv (.int (x - x / y * y) :: st)) : Z p l e R s m args below meth c D cl n a ce nL Q h pc lv (.int y :: .int x :: st) :=
  fun H locs ls hP hS hl => lv_irem X.1 X.2.1 hdg hne (z H locs ls hP hS hl)
theorem z_ladd (X : Cx p l R s m args meth c cc nL own ret D cl tys a n F L tb) {x y : Int64} (hdg : decode cc pc = .ok (.ladd, 1)) (z : Z p l e R s m args below meth c D cl n a ce nL Q h (pc + 1) lv (.long (x + y) :: st)) : Z p l e R s m args below meth c D cl n a ce nL Q h pc lv (.long y :: .long x :: st) :=
  fun H locs ls hP hS hl => lv_ladd X.1 X.2.1 hdg (z H locs ls hP hS hl)
theorem z_lrem (X : Cx p l R s m args meth c cc nL own ret D cl tys a n F L tb) {x y : Int64} (hdg : decode cc pc = .ok (.lrem, 1)) (hne : ¬ y = 0) (z : Z p l e R s m args below meth c D cl n a ce nL Q h (pc + 1) lv (.long (x - x / y * y) :: st)) : Z p l e R s m args below meth c D cl n a ce nL Q h pc lv (.long y :: .long x :: st) :=
  fun H locs ls hP hS hl => lv_lrem X.1 X.2.1 hdg hne (z H locs ls hP hS hl)
theorem z_ishl (X : Cx p l R s m args meth c cc nL own ret D cl tys a n F L tb) {x y : Int32} (hdg : decode cc pc = .ok (.ishl, 1)) (z : Z p l e R s m args below meth c D cl n a ce nL Q h (pc + 1) lv (.int (x <<< (y &&& 31)) :: st)) : Z p l e R s m args below meth c D cl n a ce nL Q h pc lv (.int y :: .int x :: st) :=
  fun H locs ls hP hS hl => lv_ishl X.1 X.2.1 hdg (z H locs ls hP hS hl)
theorem z_ishr (X : Cx p l R s m args meth c cc nL own ret D cl tys a n F L tb) {x y : Int32} (hdg : decode cc pc = .ok (.ishr, 1)) (z : Z p l e R s m args below meth c D cl n a ce nL Q h (pc + 1) lv (.int (x >>> (y &&& 31)) :: st)) : Z p l e R s m args below meth c D cl n a ce nL Q h pc lv (.int y :: .int x :: st) :=
  fun H locs ls hP hS hl => lv_ishr X.1 X.2.1 hdg (z H locs ls hP hS hl)
theorem z_i2l (X : Cx p l R s m args meth c cc nL own ret D cl tys a n F L tb) {x : Int32} (hdg : decode cc pc = .ok (.i2l, 1)) (z : Z p l e R s m args below meth c D cl n a ce nL Q h (pc + 1) lv (.long x.toInt64 :: st)) : Z p l e R s m args below meth c D cl n a ce nL Q h pc lv (.int x :: st) :=
  fun H locs ls hP hS hl => lv_i2l X.1 X.2.1 hdg rfl (z H locs ls hP hS hl)
theorem z_l2i (X : Cx p l R s m args meth c cc nL own ret D cl tys a n F L tb) {x : Int64} (hdg : decode cc pc = .ok (.l2i, 1)) (z : Z p l e R s m args below meth c D cl n a ce nL Q h (pc + 1) lv (.int x.toInt32 :: st)) : Z p l e R s m args below meth c D cl n a ce nL Q h pc lv (.long x :: st) :=
  fun H locs ls hP hS hl => lv_l2i X.1 X.2.1 hdg rfl (z H locs ls hP hS hl)
theorem z_lcmp (X : Cx p l R s m args meth c cc nL own ret D cl tys a n F L tb) {x y : Int64} (hdg : decode cc pc = .ok (.lcmp, 1)) (z : Z p l e R s m args below meth c D cl n a ce nL Q h (pc + 1) lv (.int (lg_cmp x y) :: st)) : Z p l e R s m args below meth c D cl n a ce nL Q h pc lv (.long y :: .long x :: st) :=
  fun H locs ls hP hS hl => W.lcmp X.1 X.2.1 hdg (z H locs ls hP hS hl)
theorem z_dup (X : Cx p l R s m args meth c cc nL own ret D cl tys a n F L tb) {v : Value} (hdg : decode cc pc = .ok (.dup, 1)) (hv : v.category = 1) (z : Z p l e R s m args below meth c D cl n a ce nL Q h (pc + 1) lv (v :: v :: st)) : Z p l e R s m args below meth c D cl n a ce nL Q h pc lv (v :: st) :=
  fun H locs ls hP hS hl => lv_dup X.1 X.2.1 hdg hv (z H locs ls hP hS hl)
theorem z_dup_x1 (X : Cx p l R s m args meth c cc nL own ret D cl tys a n F L tb) {v w : Value} (hdg : decode cc pc = .ok (.dup_x1, 1)) (hv : v.category = 1) (hw : w.category = 1) (z : Z p l e R s m args below meth c D cl n a ce nL Q h (pc + 1) lv (v :: w :: v :: st)) : Z p l e R s m args below meth c D cl n a ce nL Q h pc lv (v :: w :: st) :=
  fun H locs ls hP hS hl => lv_dup_x1 X.1 X.2.1 hdg hv hw (z H locs ls hP hS hl)
theorem z_dup2 (X : Cx p l R s m args meth c cc nL own ret D cl tys a n F L tb) {v w : Value} (hdg : decode cc pc = .ok (.dup2, 1)) (hv : v.category = 1) (hw : w.category = 1) (z : Z p l e R s m args below meth c D cl n a ce nL Q h (pc + 1) lv (v :: w :: v :: w :: st)) : Z p l e R s m args below meth c D cl n a ce nL Q h pc lv (v :: w :: st) :=
  fun H locs ls hP hS hl => lv_dup2_11 X.1 X.2.1 hdg hv hw (z H locs ls hP hS hl)
theorem z_pop (X : Cx p l R s m args meth c cc nL own ret D cl tys a n F L tb) {v : Value} (hdg : decode cc pc = .ok (.pop, 1)) (hv : v.category = 1) (z : Z p l e R s m args below meth c D cl n a ce nL Q h (pc + 1) lv st) : Z p l e R s m args below meth c D cl n a ce nL Q h pc lv (v :: st) :=
  fun H locs ls hP hS hl => lv_pop X.1 X.2.1 hdg hv (z H locs ls hP hS hl)
theorem z_goto (X : Cx p l R s m args meth c cc nL own ret D cl tys a n F L tb) {off : Int} {tgt : Nat} (hdg : decode cc pc = .ok (.goto off, 3)) (ht : (pc : Int) + off = (tgt : Int)) (z : Z p l e R s m args below meth c D cl n a ce nL Q h tgt lv st) : Z p l e R s m args below meth c D cl n a ce nL Q h pc lv st :=
  fun H locs ls hP hS hl => lv_goto X.1 X.2.1 hdg ht (z H locs ls hP hS hl)
/-- a jump to a place that is told apart by fewer locals -/
theorem z_to (ks : List Nat) (hk : lv_pick lv ks = lv') (z : Z p l e R s m args below meth c D cl n a ce nL Q h pc lv' st) : Z p l e R s m args below meth c D cl n a ce nL Q h pc lv st :=
  fun H locs ls hP hS hl => z H locs ls hP hS (lv_sub hl ks hk)
theorem z_if_eq (X : Cx p l R s m args meth c cc nL own ret D cl tys a n F L tb) {x : Int32} {off : Int} {tgt : Nat} (hdg : decode cc pc = .ok (.ifCond .eq off, 3)) (ht : (pc : Int) + off = (tgt : Int)) (kt : x = 0 → Z p l e R s m args below meth c D cl n a ce nL Q h tgt lv st) (kf : ¬ x = 0 → Z p l e R s m args below meth c D cl n a ce nL Q h (pc + 3) lv st) : Z p l e R s m args below meth c D cl n a ce nL Q h pc lv (.int x :: st) :=
  fun H locs ls hP hS hl => lv_if_eq X.1 X.2.1 hdg ht (fun q => kt q H locs ls hP hS hl) (fun q => kf q H locs ls hP hS hl)
theorem z_icmp_eq (X : Cx p l R s m args meth c cc nL own ret D cl tys a n F L tb) {x y : Int32} {off : Int} {tgt : Nat} (hdg : decode cc pc = .ok (.if_icmp .eq off, 3)) (ht : (pc : Int) + off = (tgt : Int)) (kt : x = y → Z p l e R s m args below meth c D cl n a ce nL Q h tgt lv st) (kf : ¬ x = y → Z p l e R s m args below meth c D cl n a ce nL Q h (pc + 3) lv st) : Z p l e R s m args below meth c D cl n a ce nL Q h pc lv (.int y :: .int x :: st) :=
  fun H locs ls hP hS hl => lv_icmp_eq X.1 X.2.1 hdg ht (fun q => kt q H locs ls hP hS hl) (fun q => kf q H locs ls hP hS hl)
theorem z_if_ne (X : Cx p l R s m args meth c cc nL own ret D cl tys a n F L tb) {x : Int32} {off : Int} {tgt : Nat} (hdg : decode cc pc = .ok (.ifCond .ne off, 3)) (ht : (pc : Int) + off = (tgt : Int)) (kt : ¬ x = 0 → Z p l e R s m args below meth c D cl n a ce nL Q h tgt lv st) (kf : x = 0 → Z p l e R s m args below meth c D cl n a ce nL Q h (pc + 3) lv st) : Z p l e R s m args below meth c D cl n a ce nL Q h pc lv (.int x :: st) :=
  fun H locs ls hP hS hl => lv_if_ne X.1 X.2.1 hdg ht (fun q => kt q H locs ls hP hS hl) (fun q => kf q H locs ls hP hS hl)
theorem z_icmp_ne (X : Cx p l R s m args meth c cc nL own ret D cl tys a n F L tb) {x y : Int32} {off : Int} {tgt : Nat} (hdg : decode cc pc = .ok (.if_icmp .ne off, 3)) (ht : (pc : Int) + off = (tgt : Int)) (kt : ¬ x = y → Z p l e R s m args below meth c D cl n a ce nL Q h tgt lv st) (kf : x = y → Z p l e R s m args below meth c D cl n a ce nL Q h (pc + 3) lv st) : Z p l e R s m args below meth c D cl n a ce nL Q h pc lv (.int y :: .int x :: st) :=
  fun H locs ls hP hS hl => lv_icmp_ne X.1 X.2.1 hdg ht (fun q => kt q H locs ls hP hS hl) (fun q => kf q H locs ls hP hS hl)
theorem z_if_lt (X : Cx p l R s m args meth c cc nL own ret D cl tys a n F L tb) {x : Int32} {off : Int} {tgt : Nat} (hdg : decode cc pc = .ok (.ifCond .lt off, 3)) (ht : (pc : Int) + off = (tgt : Int)) (kt : x < 0 → Z p l e R s m args below meth c D cl n a ce nL Q h tgt lv st) (kf : ¬ x < 0 → Z p l e R s m args below meth c D cl n a ce nL Q h (pc + 3) lv st) : Z p l e R s m args below meth c D cl n a ce nL Q h pc lv (.int x :: st) :=
  fun H locs ls hP hS hl => lv_if_lt X.1 X.2.1 hdg ht (fun q => kt q H locs ls hP hS hl) (fun q => kf q H locs ls hP hS hl)
theorem z_icmp_lt (X : Cx p l R s m args meth c cc nL own ret D cl tys a n F L tb) {x y : Int32} {off : Int} {tgt : Nat} (hdg : decode cc pc = .ok (.if_icmp .lt off, 3)) (ht : (pc : Int) + off = (tgt : Int)) (kt : x < y → Z p l e R s m args below meth c D cl n a ce nL Q h tgt lv st) (kf : ¬ x < y → Z p l e R s m args below meth c D cl n a ce nL Q h (pc + 3) lv st) : Z p l e R s m args below meth c D cl n a ce nL Q h pc lv (.int y :: .int x :: st) :=
  fun H locs ls hP hS hl => lv_icmp_lt X.1 X.2.1 hdg ht (fun q => kt q H locs ls hP hS hl) (fun q => kf q H locs ls hP hS hl)
theorem z_if_ge (X : Cx p l R s m args meth c cc nL own ret D cl tys a n F L tb) {x : Int32} {off : Int} {tgt : Nat} (hdg : decode cc pc = .ok (.ifCond .ge off, 3)) (ht : (pc : Int) + off = (tgt : Int)) (kt : 0 ≤ x → Z p l e R s m args below meth c D cl n a ce nL Q h tgt lv st) (kf : ¬ 0 ≤ x → Z p l e R s m args below meth c D cl n a ce nL Q h (pc + 3) lv st) : Z p l e R s m args below meth c D cl n a ce nL Q h pc lv (.int x :: st) :=
  fun H locs ls hP hS hl => lv_if_ge X.1 X.2.1 hdg ht (fun q => kt q H locs ls hP hS hl) (fun q => kf q H locs ls hP hS hl)
theorem z_icmp_ge (X : Cx p l R s m args meth c cc nL own ret D cl tys a n F L tb) {x y : Int32} {off : Int} {tgt : Nat} (hdg : decode cc pc = .ok (.if_icmp .ge off, 3)) (ht : (pc : Int) + off = (tgt : Int)) (kt : y ≤ x → Z p l e R s m args below meth c D cl n a ce nL Q h tgt lv st) (kf : ¬ y ≤ x → Z p l e R s m args below meth c D cl n a ce nL Q h (pc + 3) lv st) : Z p l e R s m args below meth c D cl n a ce nL Q h pc lv (.int y :: .int x :: st) :=
  fun H locs ls hP hS hl => lv_icmp_ge X.1 X.2.1 hdg ht (fun q => kt q H locs ls hP hS hl) (fun q => kf q H locs ls hP hS hl)
theorem z_if_gt (X : Cx p l R s m args meth c cc nL own ret D cl tys a n F L tb) {x : Int32} {off : Int} {tgt : Nat} (hdg : decode cc pc = .ok (.ifCond .gt off, 3)) (ht : (pc : Int) + off = (tgt : Int)) (kt : 0 < x → Z p l e R s m args below meth c D cl n a ce nL Q h tgt lv st) (kf : ¬ 0 < x → Z p l e R s m args below meth c D cl n a ce nL Q h (pc + 3) lv st) : Z p l e R s m args below meth c D cl n a ce nL Q h pc lv (.int x :: st) :=
  fun H locs ls hP hS hl => lv_if_gt X.1 X.2.1 hdg ht (fun q => kt q H locs ls hP hS hl) (fun q => kf q H locs ls hP hS hl)
theorem z_icmp_gt (X : Cx p l R s m args meth c cc nL own ret D cl tys a n F L tb) {x y : Int32} {off : Int} {tgt : Nat} (hdg : decode cc pc = .ok (.if_icmp .gt off, 3)) (ht : (pc : Int) + off = (tgt : Int)) (kt : y < x → Z p l e R s m args below meth c D cl n a ce nL Q h tgt lv st) (kf : ¬ y < x → Z p l e R s m args below meth c D cl n a ce nL Q h (pc + 3) lv st) : Z p l e R s m args below meth c D cl n a ce nL Q h pc lv (.int y :: .int x :: st) :=
  fun H locs ls hP hS hl => lv_icmp_gt X.1 X.2.1 hdg ht (fun q => kt q H locs ls hP hS hl) (fun q => kf q H locs ls hP hS hl)
theorem z_if_le (X : Cx p l R s m args meth c cc nL own ret D cl tys a n F L tb) {x : Int32} {off : Int} {tgt : Nat} (hdg : decode cc pc = .ok (.ifCond .le off, 3)) (ht : (pc : Int) + off = (tgt : Int)) (kt : x ≤ 0 → Z p l e R s m args below meth c D cl n a ce nL Q h tgt lv st) (kf : ¬ x ≤ 0 → Z p l e R s m args below meth c D cl n a ce nL Q h (pc + 3) lv st) : Z p l e R s m args below meth c D cl n a ce nL Q h pc lv (.int x :: st) :=
  fun H locs ls hP hS hl => lv_if_le X.1 X.2.1 hdg ht (fun q => kt q H locs ls hP hS hl) (fun q => kf q H locs ls hP hS hl)
theorem z_icmp_le (X : Cx p l R s m args meth c cc nL own ret D cl tys a n F L tb) {x y : Int32} {off : Int} {tgt : Nat} (hdg : decode cc pc = .ok (.if_icmp .le off, 3)) (ht : (pc : Int) + off = (tgt : Int)) (kt : x ≤ y → Z p l e R s m args below meth c D cl n a ce nL Q h tgt lv st) (kf : ¬ x ≤ y → Z p l e R s m args below meth c D cl n a ce nL Q h (pc + 3) lv st) : Z p l e R s m args below meth c D cl n a ce nL Q h pc lv (.int y :: .int x :: st) :=
  fun H locs ls hP hS hl => lv_icmp_le X.1 X.2.1 hdg ht (fun q => kt q H locs ls hP hS hl) (fun q => kf q H locs ls hP hS hl)
/-- a switch, case by case -/
theorem z_sw {x k : Int32} (kt : x = k → Z p l e R s m args below meth c D cl n a ce nL Q h pc lv (.int x :: st)) (kf : ¬ x = k → Z p l e R s m args below meth c D cl n a ce nL Q h pc lv (.int x :: st)) : Z p l e R s m args below meth c D cl n a ce nL Q h pc lv (.int x :: st) := by
  by_cases q : x = k
  · exact kt q
  · exact kf q
theorem z_tableOut (X : Cx p l R s m args meth c cc nL own ret D cl tys a n F L tb) {dflt lo hi : Int} {offs : Array Int} {len : Nat} {x : Int32} {tgt : Nat} (hdg : decode cc pc = .ok (.tableswitch dflt lo hi offs, len)) (hx : x.toInt < lo ∨ hi < x.toInt) (ht : (pc : Int) + dflt = (tgt : Int)) (z : Z p l e R s m args below meth c D cl n a ce nL Q h tgt lv st) : Z p l e R s m args below meth c D cl n a ce nL Q h pc lv (.int x :: st) :=
  fun H locs ls hP hS hl => lv_tableOut X.1 X.2.1 hdg hx ht (z H locs ls hP hS hl)
theorem z_tableIn (X : Cx p l R s m args meth c cc nL own ret D cl tys a n F L tb) {dflt lo hi : Int} {offs : Array Int} {len : Nat} {x : Int32} {off : Int} {tgt : Nat} (hdg : decode cc pc = .ok (.tableswitch dflt lo hi offs, len)) (h1 : ¬ x.toInt < lo) (h2 : ¬ hi < x.toInt) (ho : offs[(x.toInt - lo).toNat]? = some off) (ht : (pc : Int) + off = (tgt : Int)) (z : Z p l e R s m args below meth c D cl n a ce nL Q h tgt lv st) : Z p l e R s m args below meth c D cl n a ce nL Q h pc lv (.int x :: st) :=
  fun H locs ls hP hS hl => lv_tableIn X.1 X.2.1 hdg h1 h2 ho ht (z H locs ls hP hS hl)
/-- getfield: a field of its own -/
theorem z_get (X : Cx p l R s m args meth c cc nL own ret D cl tys a n F L tb) {i ci N index : Nat} {fs : List Value} {C ref : String} {T : u_T} {v : Value} (hi : i < n) (hc : ce (h i) i = .inr (ci, fs)) (hcl : cl[ci]? = some (C, T, N)) (hin : ∀ w ∈ u_ws C T N, w ∈ tb) (k : Nat) (hk : k < N) (hlink : Cond.fieldLink own index ref (T k).2.1 (T k).2.2.1 ∈ tb) (href : (T k).1 = ref) (hv : fs[k]? = some v) (hdg : decode cc pc = .ok (.getfield index, 3)) (z : Z p l e R s m args below meth c D cl n a ce nL Q h (pc + 3) lv (v :: st)) : Z p l e R s m args below meth c D cl n a ce nL Q h pc lv (.ref (a i) :: st) :=
  fun H locs ls hP hS hl => va_get X.1 X.2.1 X.2.2.2.2.1 hin X.2.2.2.1 X.2.2.2.2.2.2.2.1 hP i (gW_at hi hc) hcl k hk (X.2.2.2.2.1 _ hlink) (fun _ h9 => by rw [← href]; exact h9) hv hdg (z H locs ls hP hS hl)
/-- .. a nest mate's -/
theorem z_getN (X : Cx p l R s m args meth c cc nL own ret D cl tys a n F L tb) {i ci N index : Nat} {fs : List Value} {C ref host : String} {T : u_T} {v : Value} (hi : i < n) (hc : ce (h i) i = .inr (ci, fs)) (hcl : cl[ci]? = some (C, T, N)) (hin : ∀ w ∈ u_ws C T N, w ∈ tb) (k : Nat) (hk : k < N) (hlink : Cond.fieldLinkNest own index ref (T k).2.1 (T k).2.2.1 host ∈ tb) (href : (T k).1 = ref) (hv : fs[k]? = some v) (hdg : decode cc pc = .ok (.getfield index, 3)) (z : Z p l e R s m args below meth c D cl n a ce nL Q h (pc + 3) lv (v :: st)) : Z p l e R s m args below meth c D cl n a ce nL Q h pc lv (.ref (a i) :: st) :=
  fun H locs ls hP hS hl => va_getN X.1 X.2.1 X.2.2.2.2.1 hin X.2.2.2.1 X.2.2.2.2.2.2.2.1 hP i (gW_at hi hc) hcl k hk (X.2.2.2.2.1 _ hlink) (fun _ h9 => by rw [← href]; exact h9) hv hdg (z H locs ls hP hS hl)
/-- putfield of an int or a boolean (not final) -/
theorem z_put (X : Cx p l R s m args meth c cc nL own ret D cl tys a n F L tb) {i ci N index : Nat} {fs : List Value} {C ref : String} {T : u_T} {x : Int32} {ty : FieldType} (hi : i < n) (hc : ce (h i) i = .inr (ci, fs)) (hcl : cl[ci]? = some (C, T, N)) (hin : ∀ w ∈ u_ws C T N, w ∈ tb) (ty0 : Nat → FieldType) (hty : ∀ k, k < N → parseFieldDescriptor (T k).2.2.1 = some (ty0 k)) (hnm : ∀ a, a < N → ∀ b, b < N → a ≠ b → (T a).2.1 ≠ (T b).2.1) (k : Nat) (hk : k < N) (hlink : Cond.fieldLink own index ref (T k).2.1 (T k).2.2.1 ∈ tb) (href : (T k).1 = ref) (hfin : (T k).2.2.2 = false) (hd : parseFieldDescriptor (T k).2.2.1 = some ty) (hn : narrow ty (.int x) = .int x) (hfit : fits ty (.int x) = true) (hl : k < fs.length) (hc' : ce (upd (h i) k x) i = .inr (ci, fs.set k (.int x))) (hdg : decode cc pc = .ok (.putfield index, 3)) (z : Z p l e R s m args below meth c D cl n a ce nL Q (up2 h i k x) (pc + 3) lv st) : Z p l e R s m args below meth c D cl n a ce nL Q h pc lv (.int x :: .ref (a i) :: st) :=
  fun H locs ls hP hS hl2 => va_put X.1 X.2.1 X.2.2.2.2.1 hin ty0 hty hnm X.2.2.2.1 X.2.2.2.2.2.2.2.1 hP (gW_D X.2.2.2.2.2.2.2.2.1) hS i (gW_at hi hc) hcl k hk (X.2.2.2.2.1 _ hlink) (fun _ h9 => by rw [← href]; exact h9) hfin hd hn hfit hl hdg (fun H1 locs1 hP1 _ hS1 => z H1 locs1 ls (by rw [gW_set hi hc'] at hP1; exact hP1) hS1 hl2)
theorem z_putN (X : Cx p l R s m args meth c cc nL own ret D cl tys a n F L tb) {i ci N index : Nat} {fs : List Value} {C ref host : String} {T : u_T} {x : Int32} {ty : FieldType} (hi : i < n) (hc : ce (h i) i = .inr (ci, fs)) (hcl : cl[ci]? = some (C, T, N)) (hin : ∀ w ∈ u_ws C T N, w ∈ tb) (ty0 : Nat → FieldType) (hty : ∀ k, k < N → parseFieldDescriptor (T k).2.2.1 = some (ty0 k)) (hnm : ∀ a, a < N → ∀ b, b < N → a ≠ b → (T a).2.1 ≠ (T b).2.1) (k : Nat) (hk : k < N) (hlink : Cond.fieldLinkNest own index ref (T k).2.1 (T k).2.2.1 host ∈ tb) (href : (T k).1 = ref) (hfin : (T k).2.2.2 = false) (hd : parseFieldDescriptor (T k).2.2.1 = some ty) (hn : narrow ty (.int x) = .int x) (hfit : fits ty (.int x) = true) (hl : k < fs.length) (hc' : ce (upd (h i) k x) i = .inr (ci, fs.set k (.int x))) (hdg : decode cc pc = .ok (.putfield index, 3)) (z : Z p l e R s m args below meth c D cl n a ce nL Q (up2 h i k x) (pc + 3) lv st) : Z p l e R s m args below meth c D cl n a ce nL Q h pc lv (.int x :: .ref (a i) :: st) :=
  fun H locs ls hP hS hl2 => va_putN X.1 X.2.1 X.2.2.2.2.1 hin ty0 hty hnm X.2.2.2.1 X.2.2.2.2.2.2.2.1 hP (gW_D X.2.2.2.2.2.2.2.2.1) hS i (gW_at hi hc) hcl k hk (X.2.2.2.2.1 _ hlink) (fun _ h9 => by rw [← href]; exact h9) hfin hd hn hfit hl hdg (fun H1 locs1 hP1 _ hS1 => z H1 locs1 ls (by rw [gW_set hi hc'] at hP1; exact hP1) hS1 hl2)
/-- iaload, iastore, baload, bastore, aaload -/
theorem z_iald (X : Cx p l R s m args meth c cc nL own ret D cl tys a n F L tb) (t0 : Nat) {i w k : Nat} {cA : ClassId} {x : Int32} (hi : i < n) (hc : ce (h i) i = .inl (cA, w, .inl (h i))) (ht : tys[t0]? = some (cA, .int)) (hw : w < 2 ^ 31) (hk : k < w) (hx : x = nI k) (hdg : decode cc pc = .ok (.iaload, 1)) (z : Z p l e R s m args below meth c D cl n a ce nL Q h (pc + 1) lv (.int (h i k) :: st)) : Z p l e R s m args below meth c D cl n a ce nL Q h pc lv (.int x :: .ref (a i) :: st) :=
  fun H locs ls hP hS hl => va_iald X.1 X.2.1 X.2.2.2.2.2.2.2.1 hP i t0 (gW_at hi hc) ht (in_nI hk hw hx).1 hdg (by rw [(in_nI hk hw hx).2]; exact z H locs ls hP hS hl)
theorem z_zald (X : Cx p l R s m args meth c cc nL own ret D cl tys a n F L tb) (t0 : Nat) {i w k : Nat} {cA : ClassId} {x : Int32} (hi : i < n) (hc : ce (h i) i = .inl (cA, w, .inl (h i))) (ht : tys[t0]? = some (cA, .boolean)) (hw : w < 2 ^ 31) (hk : k < w) (hx : x = nI k) (hdg : decode cc pc = .ok (.baload, 1)) (z : Z p l e R s m args below meth c D cl n a ce nL Q h (pc + 1) lv (.int (h i k) :: st)) : Z p l e R s m args below meth c D cl n a ce nL Q h pc lv (.int x :: .ref (a i) :: st) :=
  fun H locs ls hP hS hl => va_zald X.1 X.2.1 X.2.2.2.2.2.2.2.1 hP i t0 (gW_at hi hc) ht (in_nI hk hw hx).1 hdg (by rw [(in_nI hk hw hx).2]; exact z H locs ls hP hS hl)
theorem z_iast (X : Cx p l R s m args meth c cc nL own ret D cl tys a n F L tb) (t0 : Nat) {i w k : Nat} {cA : ClassId} {x y : Int32} (hi : i < n) (hc : ∀ g, ce g i = .inl (cA, w, .inl g)) (ht : tys[t0]? = some (cA, .int)) (hw : w < 2 ^ 31) (hk : k < w) (hx : x = nI k) (hdg : decode cc pc = .ok (.iastore, 1)) (z : Z p l e R s m args below meth c D cl n a ce nL Q (up2 h i k y) (pc + 1) lv st) : Z p l e R s m args below meth c D cl n a ce nL Q h pc lv (.int y :: .int x :: .ref (a i) :: st) :=
  fun H locs ls hP hS hl => va_iast X.1 X.2.1 X.2.2.2.2.2.2.2.1 hP (gW_D X.2.2.2.2.2.2.2.2.1) hS i t0 (gW_at hi (hc _)) ht (in_nI hk hw hx).1 hdg (fun H1 locs1 hP1 _ hS1 => z H1 locs1 ls (by rw [(in_nI hk hw hx).2, gW_set hi (hc _)] at hP1; exact hP1) hS1 hl)
theorem z_zast (X : Cx p l R s m args meth c cc nL own ret D cl tys a n F L tb) (t0 : Nat) {i w k : Nat} {cA : ClassId} {x y : Int32} (hi : i < n) (hc : ∀ g, ce g i = .inl (cA, w, .inl g)) (ht : tys[t0]? = some (cA, .boolean)) (hw : w < 2 ^ 31) (hk : k < w) (hx : x = nI k) (hy : isB y) (hdg : decode cc pc = .ok (.bastore, 1)) (z : Z p l e R s m args below meth c D cl n a ce nL Q (up2 h i k y) (pc + 1) lv st) : Z p l e R s m args below meth c D cl n a ce nL Q h pc lv (.int y :: .int x :: .ref (a i) :: st) :=
  fun H locs ls hP hS hl => va_zast X.1 X.2.1 X.2.2.2.2.2.2.2.1 hP (gW_D X.2.2.2.2.2.2.2.2.1) hS i t0 (gW_at hi (hc _)) ht (in_nI hk hw hx).1 hdg (fun H1 locs1 hP1 _ hS1 => z H1 locs1 ls (by rw [(in_nI hk hw hx).2, isB_v hy, gW_set hi (hc _)] at hP1; exact hP1) hS1 hl)
theorem z_aald (X : Cx p l R s m args meth c cc nL own ret D cl tys a n F L tb) (t0 : Nat) {i w k : Nat} {cA : ClassId} {C : String} {g : Nat → Nat} {x : Int32} (hi : i < n) (hc : ce (h i) i = .inl (cA, w, .inr (.inr (.inr (.inr (fun j => some (a (g j)))))))) (ht : tys[t0]? = some (cA, .object C)) (hw : w < 2 ^ 31) (hk : k < w) (hx : x = nI k) (hdg : decode cc pc = .ok (.aaload, 1)) (z : Z p l e R s m args below meth c D cl n a ce nL Q h (pc + 1) lv (.ref (a (g k)) :: st)) : Z p l e R s m args below meth c D cl n a ce nL Q h pc lv (.int x :: .ref (a i) :: st) :=
  fun H locs ls hP hS hl => va_aldq X.1 X.2.1 X.2.2.2.2.2.2.2.1 hP i t0 (gW_at hi hc) ht (in_nI hk hw hx).1 hdg (by rw [(in_nI hk hw hx).2]; exact z H locs ls hP hS hl)
theorem z_mmax (X : Cx p l R s m args meth c cc nL own ret D cl tys a n F L tb) {index : Nat} (hlink : Cond.methodLink own index Lib.Math.max.name ∈ tb) (hstat : Cond.static Lib.Math.max.name ∈ tb) (hini : Cond.initialized "java/lang/Math" ∈ tb) (hcode : Cond.code Lib.Math.max.name Lib.Math.max.code 2 (some .int) ∈ tb) (hF : 1 ≤ F) (hL : (st.map fun v => v.category).sum + 13 ≤ L) {x y : Int32} (hdg : decode cc pc = .ok (.invokestatic index, 3)) (z : Z p l e R s m args below meth c D cl n a ce nL Q h (pc + 3) lv (.int (if x < y then y else x) :: st)) : Z p l e R s m args below meth c D cl n a ce nL Q h pc lv (.int y :: .int x :: st) :=
  fun H locs ls hP hS hl => va_mmax X.1 X.2.1 (X.2.2.1.trans hl.1.symm) X.2.2.2.1 (X.2.2.2.2.1 _ hlink) (X.2.2.2.2.1 _ hstat) (X.2.2.2.2.1 _ hini) (X.2.2.2.2.1 _ hcode) (Nat.le_trans hF X.2.2.2.2.2.2.2.2.2.1) (Nat.le_trans hL X.2.2.2.2.2.2.2.2.2.2.1) (Nat.zero_le _) (Nat.zero_le _) hdg (z H locs ls hP hS hl)
/-- a contract's start: the world, the kinds of objects, the tables' words -/
def PreC (tb : List Cond) (D : va_G) (cl : List vw_C) (tys : List (ClassId × FieldType)) (n : Nat) (a : Nat → Nat) (ce : (Nat → Int32) → Nat → va_E) (h : RS) (U : State) : Prop := va_P D cl (gW n a ce h) U.heap ∧ va_K D cl tys U ∧ ∀ w ∈ tb, va_Nw w U
/-- .. and its end -/
def AtC (D : va_G) (cl : List vw_C) (n : Nat) (a : Nat → Nat) (ce : (Nat → Int32) → Nat → va_E) (h : RS) (t : State) : Prop := va_P D cl (gW n a ce h) t.heap
theorem m_of {y : MethodName} {av : List Value} {Qc : Array Value → State → Outcome → State → Prop} (hy : plainName y.cls = true) (hI : injW a n) (ht : TbOk tb) (hlen : (lg_sl av).length ≤ nL)
    (body : ∀ (p : Program) (e : Env) (R : Room) (s : State) (m : MethodId) (below : List Frame) (meth : Method) (c : Code), Cx p l R s m av.toArray meth c cc nL y.cls ret D cl tys a n F L tb → Z p l e R s m av.toArray below meth c D cl n a ce nL (MQ below Qc av.toArray s 0 0 (inW a n)) h 0 (lv_args 0 av) []) :
    Met l y [.code y cc nL ret] { frames := F, cells := 0, slots := 0, locals := L } (va_Pc av (PreC tb D cl tys n a ce h)) Qc 0 0 (inW a n) := by
  refine Met.ofW (cc := cc) (maxL := nL) (ret := ret) hy rfl ?_
  intro p e s m args below meth c s₁ B hml hv
  obtain ⟨rfl, hP, hK, hT⟩ := hv
  rw [lg_entry_eq]
  exact body p e _ s m below meth c ⟨B.exec, B.bytes, hml, findClass_of_methodNamed B.named, fun w hw => va_Nw.use (ht.1 w hw) (hT w hw), B.returns, B.notSynchronized, hK, hI, Nat.le_refl _, Nat.le_refl _, ht⟩ s.heap [] _ hP va_S.rf (lv_entry av hlen)
theorem z_iret (X : Cx p l R s m args meth c cc nL own (some .int) D cl tys a n F L tb) {post : Int32 → RS → Prop} {v : Int32} (hdg : decode cc pc = .ok (.ireturn, 1)) (hq : post v h) : Z p l e R s m args below meth c D cl n a ce nL (MQ below (va_Qi post (AtC D cl n a ce) (inW a n)) args s 0 0 (inW a n)) h pc lv [.int v] :=
  fun H locs ls hP hS hl => W.iret X.1 X.2.1 X.2.2.2.2.2.1 (fun t ht hW => ⟨⟨v, h, rfl, hq, by show va_P _ _ _ _; rw [ht]; exact hP⟩, hS.F ht⟩) hS.2.2 hdg X.2.2.2.2.2.2.1
theorem z_zret (X : Cx p l R s m args meth c cc nL own (some .boolean) D cl tys a n F L tb) {post : Int32 → RS → Prop} {v : Int32} (hB : isB v) (hdg : decode cc pc = .ok (.ireturn, 1)) (hq : post v h) : Z p l e R s m args below meth c D cl n a ce nL (MQ below (va_Qi post (AtC D cl n a ce) (inW a n)) args s 0 0 (inW a n)) h pc lv [.int v] :=
  fun H locs ls hP hS hl => W.zret X.1 X.2.1 X.2.2.2.2.2.1 (isB_n hB) (fun t ht hW => ⟨⟨v, h, rfl, hq, by show va_P _ _ _ _; rw [ht]; exact hP⟩, hS.F ht⟩) hS.2.2 hdg X.2.2.2.2.2.2.1
theorem z_lret (X : Cx p l R s m args meth c cc nL own (some .long) D cl tys a n F L tb) {post : Int64 → RS → Prop} {v : Int64} (hdg : decode cc pc = .ok (.lreturn, 1)) (hq : post v h) : Z p l e R s m args below meth c D cl n a ce nL (MQ below (va_Ql post (AtC D cl n a ce) (inW a n)) args s 0 0 (inW a n)) h pc lv [.long v] :=
  fun H locs ls hP hS hl => W.lret X.1 X.2.1 X.2.2.2.2.2.1 (fun t ht hW => ⟨⟨v, h, rfl, hq, by show va_P _ _ _ _; rw [ht]; exact hP⟩, hS.F ht⟩) hS.2.2 hdg X.2.2.2.2.2.2.1
theorem z_vret (X : Cx p l R s m args meth c cc nL own none D cl tys a n F L tb) {post : RS → Prop} (hdg : decode cc pc = .ok (.return_, 1)) (hq : post h) : Z p l e R s m args below meth c D cl n a ce nL (MQ below (va_Qv post (AtC D cl n a ce) (inW a n)) args s 0 0 (inW a n)) h pc lv [] :=
  fun H locs ls hP hS hl => W.vret X.1 X.2.1 X.2.2.2.2.2.1 (fun t ht hW => ⟨⟨h, rfl, hq, by show va_P _ _ _ _; rw [ht]; exact hP⟩, hS.F ht⟩) hS.2.2 hdg X.2.2.2.2.2.2.1
theorem preC_blind {av : List Value} (ht : TbOk tb) : FrameBlind (va_Pc av (PreC tb D cl tys n a ce h)) := fun _ U _ _ q => ⟨q.1, q.2.1, va_K.moved (u := U) (Vm.Alike.refl U.vm) q.2.2.1, fun w hw => va_Nw.same (u := U) (ht.1 w hw) rfl (q.2.2.2 w hw)⟩
theorem preC_at {av : List Value} {H : Heap} (X : Cx p l R s m args meth c cc nL own ret D cl tys a n F L tb) (hP : va_P D cl (gW n a ce h) H) : ∀ U : State, U.heap = H → s.WarmedH U.vm → va_Pc av (PreC tb D cl tys n a ce h) av.toArray U := fun U hU hW => ⟨rfl, by rw [hU]; exact hP, va_K.moved hW.alike X.2.2.2.2.2.2.2.1, fun w hw => X.2.2.2.2.2.2.2.2.2.2.2.2 w hw s U hW (va_Nw.of (X.2.2.2.2.2.2.2.2.2.2.2.1 w hw) (X.2.2.2.2.1 w hw))⟩
theorem code_warm {y : MethodName} {bytes : ByteArray} {maxL : Nat} {rt : Option FieldType} (X : Cx p l R s m args meth c cc nL own ret D cl tys a n F L tb) (hcode : Cond.code y bytes maxL rt ∈ tb) : ∀ w ∈ [Cond.code y bytes maxL rt], ∀ (a' : Array Value) (U : State), s.WarmedH U.vm → w.before a' U = true := fun w hw a' U hW => by
  cases List.mem_singleton.mp hw
  exact va_Nw.use (X.2.2.2.2.2.2.2.2.2.2.2.1 _ hcode) (X.2.2.2.2.2.2.2.2.2.2.2.2 _ hcode s U hW (va_Nw.of (X.2.2.2.2.2.2.2.2.2.2.2.1 _ hcode) (X.2.2.2.2.1 _ hcode)))
theorem par_n {y : MethodName} {k : Nat} (h : (parseMethodDescriptor y.desc).map (fun d => d.parameters.length) = some k) : ∀ sig, parseMethodDescriptor y.desc = some sig → k = sig.parameters.length := fun sig h1 => by
  rw [h1] at h
  exact (Option.some.inj h).symm
def nmh (y : MethodName) (k : Nat) : Prop := y.cls ≠ "java/lang/invoke/MethodHandle" ∧ y.cls ≠ "java/lang/invoke/VarHandle" ∧ (parseMethodDescriptor y.desc).map (fun d => d.parameters.length) = some k
theorem z_cVi (X : Cx p l R s m args meth c cc nL own ret D cl tys a n F L tb) {y : MethodName} {bytes : ByteArray} {rt : Option FieldType} {maxL F1 L1 k index : Nat} {post : Int32 → RS → Prop} {i ci N : Nat} {fs : List Value} {T : u_T} (As : List Value) (hM : Met l y [.code y bytes maxL rt] { frames := F1, cells := 0, slots := 0, locals := L1 } (va_Pc (.ref (a i) :: As) (PreC tb D cl tys n a ce h)) (va_Qi post (AtC D cl n a ce) (inW a n)) 0 0 (inW a n)) (hF : F1 + 1 ≤ F) (hL : 8 + (maxL + 11) + L1 ≤ L) (hlink : Cond.methodLink own index y ∈ tb) (hcode : Cond.code y bytes maxL rt ∈ tb) (hini : Cond.initialized y.cls ∈ tb) (hinst : Cond.instanceMethod y ∈ tb) (hsel : Cond.selects y.cls y y ∈ tb) (hi : i < n) (hc : ce (h i) i = .inr (ci, fs)) (hcl : cl[ci]? = some (y.cls, T, N)) (hd : nmh y k) (hk : As.length = k) {stk : List Value} (hstk : stk = As.reverse ++ .ref (a i) :: st) (hr : (st.map fun v => v.category).sum ≤ 8) (hdg : decode cc pc = .ok (.invokevirtual index, 3)) (z : ∀ (r : Int32) (h1 : RS), post r h1 → Z p l e R s m args below meth c D cl n a ce nL Q h1 (pc + 3) lv (.int r :: st)) : Z p l e R s m args below meth c D cl n a ce nL Q h pc lv stk := by
  intro H locs ls hP hS hl
  subst hstk
  exact va_calli (va_runV (As := As) (rest := st) ⟨X.1, X.2.1, X.2.2.1, X.2.2.2.1, X.2.2.2.2.1⟩ hM ⟨⟨rfl, rfl, Nat.le_trans hF X.2.2.2.2.2.2.2.2.2.1, Nat.le_trans hL X.2.2.2.2.2.2.2.2.2.2.1, code_warm X hcode, List.mem_singleton.mpr rfl, X.2.2.2.2.1 _ hcode, X.2.2.2.2.1 _ hini, ⟨hd.1, hd.2.1⟩, par_n hd.2.2, X.2.2.2.2.1 _ hlink⟩, X.2.2.2.2.1 _ hinst, X.2.2.2.2.1 _ hsel⟩ ⟨preC_blind X.2.2.2.2.2.2.2.2.2.2.2, va_recv X.2.2.2.2.2.2.2.1 hP hcl (gW_at hi hc), preC_at X hP⟩ rfl hk hl.1 rfl (lv_room hr) hdg ⟨Nat.zero_le _, Nat.zero_le _⟩) hS (fun q _ h9 => h9) (fun q h9 => h9) (fun r h1 t H1 locs1 ht hvm hq hB hz hk9 hS1 => z r h1 hq H1 locs1 ls (by have h8 : va_P D cl (gW n a ce h1) t.heap := hB; rw [ht] at h8; exact h8) hS1 hl)
theorem z_cVv (X : Cx p l R s m args meth c cc nL own ret D cl tys a n F L tb) {y : MethodName} {bytes : ByteArray} {rt : Option FieldType} {maxL F1 L1 k index : Nat} {post : RS → Prop} {i ci N : Nat} {fs : List Value} {T : u_T} (As : List Value) (hM : Met l y [.code y bytes maxL rt] { frames := F1, cells := 0, slots := 0, locals := L1 } (va_Pc (.ref (a i) :: As) (PreC tb D cl tys n a ce h)) (va_Qv post (AtC D cl n a ce) (inW a n)) 0 0 (inW a n)) (hF : F1 + 1 ≤ F) (hL : 8 + (maxL + 11) + L1 ≤ L) (hlink : Cond.methodLink own index y ∈ tb) (hcode : Cond.code y bytes maxL rt ∈ tb) (hini : Cond.initialized y.cls ∈ tb) (hinst : Cond.instanceMethod y ∈ tb) (hsel : Cond.selects y.cls y y ∈ tb) (hi : i < n) (hc : ce (h i) i = .inr (ci, fs)) (hcl : cl[ci]? = some (y.cls, T, N)) (hd : nmh y k) (hk : As.length = k) {stk : List Value} (hstk : stk = As.reverse ++ .ref (a i) :: st) (hr : (st.map fun v => v.category).sum ≤ 8) (hdg : decode cc pc = .ok (.invokevirtual index, 3)) (z : ∀ h1 : RS, post h1 → Z p l e R s m args below meth c D cl n a ce nL Q h1 (pc + 3) lv st) : Z p l e R s m args below meth c D cl n a ce nL Q h pc lv stk := by
  intro H locs ls hP hS hl
  subst hstk
  exact va_callv (va_runV (As := As) (rest := st) ⟨X.1, X.2.1, X.2.2.1, X.2.2.2.1, X.2.2.2.2.1⟩ hM ⟨⟨rfl, rfl, Nat.le_trans hF X.2.2.2.2.2.2.2.2.2.1, Nat.le_trans hL X.2.2.2.2.2.2.2.2.2.2.1, code_warm X hcode, List.mem_singleton.mpr rfl, X.2.2.2.2.1 _ hcode, X.2.2.2.2.1 _ hini, ⟨hd.1, hd.2.1⟩, par_n hd.2.2, X.2.2.2.2.1 _ hlink⟩, X.2.2.2.2.1 _ hinst, X.2.2.2.2.1 _ hsel⟩ ⟨preC_blind X.2.2.2.2.2.2.2.2.2.2.2, va_recv X.2.2.2.2.2.2.2.1 hP hcl (gW_at hi hc), preC_at X hP⟩ rfl hk hl.1 rfl (lv_room hr) hdg ⟨Nat.zero_le _, Nat.zero_le _⟩) hS (fun q _ h9 => h9) (fun q h9 => h9) (fun h1 t H1 locs1 ht hvm hq hB hz hk9 hS1 => z h1 hq H1 locs1 ls (by have h8 : va_P D cl (gW n a ce h1) t.heap := hB; rw [ht] at h8; exact h8) hS1 hl)
theorem z_cVl (X : Cx p l R s m args meth c cc nL own ret D cl tys a n F L tb) {y : MethodName} {bytes : ByteArray} {rt : Option FieldType} {maxL F1 L1 k index : Nat} {post : Int64 → RS → Prop} {i ci N : Nat} {fs : List Value} {T : u_T} (As : List Value) (hM : Met l y [.code y bytes maxL rt] { frames := F1, cells := 0, slots := 0, locals := L1 } (va_Pc (.ref (a i) :: As) (PreC tb D cl tys n a ce h)) (va_Ql post (AtC D cl n a ce) (inW a n)) 0 0 (inW a n)) (hF : F1 + 1 ≤ F) (hL : 8 + (maxL + 11) + L1 ≤ L) (hlink : Cond.methodLink own index y ∈ tb) (hcode : Cond.code y bytes maxL rt ∈ tb) (hini : Cond.initialized y.cls ∈ tb) (hinst : Cond.instanceMethod y ∈ tb) (hsel : Cond.selects y.cls y y ∈ tb) (hi : i < n) (hc : ce (h i) i = .inr (ci, fs)) (hcl : cl[ci]? = some (y.cls, T, N)) (hd : nmh y k) (hk : As.length = k) {stk : List Value} (hstk : stk = As.reverse ++ .ref (a i) :: st) (hr : (st.map fun v => v.category).sum ≤ 8) (hdg : decode cc pc = .ok (.invokevirtual index, 3)) (z : ∀ (r : Int64) (h1 : RS), post r h1 → Z p l e R s m args below meth c D cl n a ce nL Q h1 (pc + 3) lv (.long r :: st)) : Z p l e R s m args below meth c D cl n a ce nL Q h pc lv stk := by
  intro H locs ls hP hS hl
  subst hstk
  exact va_calll (va_runV (As := As) (rest := st) ⟨X.1, X.2.1, X.2.2.1, X.2.2.2.1, X.2.2.2.2.1⟩ hM ⟨⟨rfl, rfl, Nat.le_trans hF X.2.2.2.2.2.2.2.2.2.1, Nat.le_trans hL X.2.2.2.2.2.2.2.2.2.2.1, code_warm X hcode, List.mem_singleton.mpr rfl, X.2.2.2.2.1 _ hcode, X.2.2.2.2.1 _ hini, ⟨hd.1, hd.2.1⟩, par_n hd.2.2, X.2.2.2.2.1 _ hlink⟩, X.2.2.2.2.1 _ hinst, X.2.2.2.2.1 _ hsel⟩ ⟨preC_blind X.2.2.2.2.2.2.2.2.2.2.2, va_recv X.2.2.2.2.2.2.2.1 hP hcl (gW_at hi hc), preC_at X hP⟩ rfl hk hl.1 rfl (lv_room hr) hdg ⟨Nat.zero_le _, Nat.zero_le _⟩) hS (fun q _ h9 => h9) (fun q h9 => h9) (fun r h1 t H1 locs1 ht hvm hq hB hz hk9 hS1 => z r h1 hq H1 locs1 ls (by have h8 : va_P D cl (gW n a ce h1) t.heap := hB; rw [ht] at h8; exact h8) hS1 hl)
theorem z_cVNi (X : Cx p l R s m args meth c cc nL own ret D cl tys a n F L tb) {y : MethodName} {bytes : ByteArray} {rt : Option FieldType} {maxL F1 L1 k index : Nat} {host : String} {post : Int32 → RS → Prop} {i ci N : Nat} {fs : List Value} {T : u_T} (As : List Value) (hM : Met l y [.code y bytes maxL rt] { frames := F1, cells := 0, slots := 0, locals := L1 } (va_Pc (.ref (a i) :: As) (PreC tb D cl tys n a ce h)) (va_Qi post (AtC D cl n a ce) (inW a n)) 0 0 (inW a n)) (hF : F1 + 1 ≤ F) (hL : 8 + (maxL + 11) + L1 ≤ L) (hlink : Cond.methodLinkNest own index y host ∈ tb) (hcode : Cond.code y bytes maxL rt ∈ tb) (hini : Cond.initialized y.cls ∈ tb) (hinst : Cond.instanceMethod y ∈ tb) (hsel : Cond.selects y.cls y y ∈ tb) (hi : i < n) (hc : ce (h i) i = .inr (ci, fs)) (hcl : cl[ci]? = some (y.cls, T, N)) (hd : nmh y k) (hk : As.length = k) {stk : List Value} (hstk : stk = As.reverse ++ .ref (a i) :: st) (hr : (st.map fun v => v.category).sum ≤ 8) (hdg : decode cc pc = .ok (.invokevirtual index, 3)) (z : ∀ (r : Int32) (h1 : RS), post r h1 → Z p l e R s m args below meth c D cl n a ce nL Q h1 (pc + 3) lv (.int r :: st)) : Z p l e R s m args below meth c D cl n a ce nL Q h pc lv stk := by
  intro H locs ls hP hS hl
  subst hstk
  exact va_calli (va_runVN (As := As) (rest := st) ⟨X.1, X.2.1, X.2.2.1, X.2.2.2.1, X.2.2.2.2.1⟩ hM ⟨⟨⟨rfl, rfl, Nat.le_trans hF X.2.2.2.2.2.2.2.2.2.1, Nat.le_trans hL X.2.2.2.2.2.2.2.2.2.2.1, code_warm X hcode, List.mem_singleton.mpr rfl⟩, X.2.2.2.2.1 _ hcode, X.2.2.2.2.1 _ hini, ⟨hd.1, hd.2.1⟩, par_n hd.2.2, X.2.2.2.2.1 _ hlink⟩, X.2.2.2.2.1 _ hinst, X.2.2.2.2.1 _ hsel⟩ ⟨preC_blind X.2.2.2.2.2.2.2.2.2.2.2, va_recv X.2.2.2.2.2.2.2.1 hP hcl (gW_at hi hc), preC_at X hP⟩ rfl hk hl.1 rfl (lv_room hr) hdg ⟨Nat.zero_le _, Nat.zero_le _⟩) hS (fun q _ h9 => h9) (fun q h9 => h9) (fun r h1 t H1 locs1 ht hvm hq hB hz hk9 hS1 => z r h1 hq H1 locs1 ls (by have h8 : va_P D cl (gW n a ce h1) t.heap := hB; rw [ht] at h8; exact h8) hS1 hl)
theorem z_cVNv (X : Cx p l R s m args meth c cc nL own ret D cl tys a n F L tb) {y : MethodName} {bytes : ByteArray} {rt : Option FieldType} {maxL F1 L1 k index : Nat} {host : String} {post : RS → Prop} {i ci N : Nat} {fs : List Value} {T : u_T} (As : List Value) (hM : Met l y [.code y bytes maxL rt] { frames := F1, cells := 0, slots := 0, locals := L1 } (va_Pc (.ref (a i) :: As) (PreC tb D cl tys n a ce h)) (va_Qv post (AtC D cl n a ce) (inW a n)) 0 0 (inW a n)) (hF : F1 + 1 ≤ F) (hL : 8 + (maxL + 11) + L1 ≤ L) (hlink : Cond.methodLinkNest own index y host ∈ tb) (hcode : Cond.code y bytes maxL rt ∈ tb) (hini : Cond.initialized y.cls ∈ tb) (hinst : Cond.instanceMethod y ∈ tb) (hsel : Cond.selects y.cls y y ∈ tb) (hi : i < n) (hc : ce (h i) i = .inr (ci, fs)) (hcl : cl[ci]? = some (y.cls, T, N)) (hd : nmh y k) (hk : As.length = k) {stk : List Value} (hstk : stk = As.reverse ++ .ref (a i) :: st) (hr : (st.map fun v => v.category).sum ≤ 8) (hdg : decode cc pc = .ok (.invokevirtual index, 3)) (z : ∀ h1 : RS, post h1 → Z p l e R s m args below meth c D cl n a ce nL Q h1 (pc + 3) lv st) : Z p l e R s m args below meth c D cl n a ce nL Q h pc lv stk := by
  intro H locs ls hP hS hl
  subst hstk
  exact va_callv (va_runVN (As := As) (rest := st) ⟨X.1, X.2.1, X.2.2.1, X.2.2.2.1, X.2.2.2.2.1⟩ hM ⟨⟨⟨rfl, rfl, Nat.le_trans hF X.2.2.2.2.2.2.2.2.2.1, Nat.le_trans hL X.2.2.2.2.2.2.2.2.2.2.1, code_warm X hcode, List.mem_singleton.mpr rfl⟩, X.2.2.2.2.1 _ hcode, X.2.2.2.2.1 _ hini, ⟨hd.1, hd.2.1⟩, par_n hd.2.2, X.2.2.2.2.1 _ hlink⟩, X.2.2.2.2.1 _ hinst, X.2.2.2.2.1 _ hsel⟩ ⟨preC_blind X.2.2.2.2.2.2.2.2.2.2.2, va_recv X.2.2.2.2.2.2.2.1 hP hcl (gW_at hi hc), preC_at X hP⟩ rfl hk hl.1 rfl (lv_room hr) hdg ⟨Nat.zero_le _, Nat.zero_le _⟩) hS (fun q _ h9 => h9) (fun q h9 => h9) (fun h1 t H1 locs1 ht hvm hq hB hz hk9 hS1 => z h1 hq H1 locs1 ls (by have h8 : va_P D cl (gW n a ce h1) t.heap := hB; rw [ht] at h8; exact h8) hS1 hl)
theorem z_cVNl (X : Cx p l R s m args meth c cc nL own ret D cl tys a n F L tb) {y : MethodName} {bytes : ByteArray} {rt : Option FieldType} {maxL F1 L1 k index : Nat} {host : String} {post : Int64 → RS → Prop} {i ci N : Nat} {fs : List Value} {T : u_T} (As : List Value) (hM : Met l y [.code y bytes maxL rt] { frames := F1, cells := 0, slots := 0, locals := L1 } (va_Pc (.ref (a i) :: As) (PreC tb D cl tys n a ce h)) (va_Ql post (AtC D cl n a ce) (inW a n)) 0 0 (inW a n)) (hF : F1 + 1 ≤ F) (hL : 8 + (maxL + 11) + L1 ≤ L) (hlink : Cond.methodLinkNest own index y host ∈ tb) (hcode : Cond.code y bytes maxL rt ∈ tb) (hini : Cond.initialized y.cls ∈ tb) (hinst : Cond.instanceMethod y ∈ tb) (hsel : Cond.selects y.cls y y ∈ tb) (hi : i < n) (hc : ce (h i) i = .inr (ci, fs)) (hcl : cl[ci]? = some (y.cls, T, N)) (hd : nmh y k) (hk : As.length = k) {stk : List Value} (hstk : stk = As.reverse ++ .ref (a i) :: st) (hr : (st.map fun v => v.category).sum ≤ 8) (hdg : decode cc pc = .ok (.invokevirtual index, 3)) (z : ∀ (r : Int64) (h1 : RS), post r h1 → Z p l e R s m args below meth c D cl n a ce nL Q h1 (pc + 3) lv (.long r :: st)) : Z p l e R s m args below meth c D cl n a ce nL Q h pc lv stk := by
  intro H locs ls hP hS hl
  subst hstk
  exact va_calll (va_runVN (As := As) (rest := st) ⟨X.1, X.2.1, X.2.2.1, X.2.2.2.1, X.2.2.2.2.1⟩ hM ⟨⟨⟨rfl, rfl, Nat.le_trans hF X.2.2.2.2.2.2.2.2.2.1, Nat.le_trans hL X.2.2.2.2.2.2.2.2.2.2.1, code_warm X hcode, List.mem_singleton.mpr rfl⟩, X.2.2.2.2.1 _ hcode, X.2.2.2.2.1 _ hini, ⟨hd.1, hd.2.1⟩, par_n hd.2.2, X.2.2.2.2.1 _ hlink⟩, X.2.2.2.2.1 _ hinst, X.2.2.2.2.1 _ hsel⟩ ⟨preC_blind X.2.2.2.2.2.2.2.2.2.2.2, va_recv X.2.2.2.2.2.2.2.1 hP hcl (gW_at hi hc), preC_at X hP⟩ rfl hk hl.1 rfl (lv_room hr) hdg ⟨Nat.zero_le _, Nat.zero_le _⟩) hS (fun q _ h9 => h9) (fun q h9 => h9) (fun r h1 t H1 locs1 ht hvm hq hB hz hk9 hS1 => z r h1 hq H1 locs1 ls (by have h8 : va_P D cl (gW n a ce h1) t.heap := hB; rw [ht] at h8; exact h8) hS1 hl)
theorem z_cSi (X : Cx p l R s m args meth c cc nL own ret D cl tys a n F L tb) {y : MethodName} {bytes : ByteArray} {rt : Option FieldType} {maxL F1 L1 k index : Nat} {post : Int32 → RS → Prop} (As : List Value) (hM : Met l y [.code y bytes maxL rt] { frames := F1, cells := 0, slots := 0, locals := L1 } (va_Pc As (PreC tb D cl tys n a ce h)) (va_Qi post (AtC D cl n a ce) (inW a n)) 0 0 (inW a n)) (hF : F1 + 1 ≤ F) (hL : 8 + (maxL + 11) + L1 ≤ L) (hlink : Cond.methodLink own index y ∈ tb) (hcode : Cond.code y bytes maxL rt ∈ tb) (hini : Cond.initialized y.cls ∈ tb) (hstat : Cond.static y ∈ tb) (hd : nmh y k) (hk : As.length = k) {stk : List Value} (hstk : stk = As.reverse ++ st) (hr : (st.map fun v => v.category).sum ≤ 8) (hdg : decode cc pc = .ok (.invokestatic index, 3)) (z : ∀ (r : Int32) (h1 : RS), post r h1 → Z p l e R s m args below meth c D cl n a ce nL Q h1 (pc + 3) lv (.int r :: st)) : Z p l e R s m args below meth c D cl n a ce nL Q h pc lv stk := by
  intro H locs ls hP hS hl
  subst hstk
  exact va_calli (va_runS (As := As) (rest := st) ⟨X.1, X.2.1, X.2.2.1, X.2.2.2.1, X.2.2.2.2.1⟩ hM ⟨⟨rfl, rfl, Nat.le_trans hF X.2.2.2.2.2.2.2.2.2.1, Nat.le_trans hL X.2.2.2.2.2.2.2.2.2.2.1, code_warm X hcode, List.mem_singleton.mpr rfl, X.2.2.2.2.1 _ hcode, X.2.2.2.2.1 _ hini, ⟨hd.1, hd.2.1⟩, par_n hd.2.2, X.2.2.2.2.1 _ hlink⟩, X.2.2.2.2.1 _ hstat⟩ ⟨preC_blind X.2.2.2.2.2.2.2.2.2.2.2, preC_at X hP⟩ rfl hk hl.1 rfl (lv_room hr) hdg ⟨Nat.zero_le _, Nat.zero_le _⟩) hS (fun q _ h9 => h9) (fun q h9 => h9) (fun r h1 t H1 locs1 ht hvm hq hB hz hk9 hS1 => z r h1 hq H1 locs1 ls (by have h8 : va_P D cl (gW n a ce h1) t.heap := hB; rw [ht] at h8; exact h8) hS1 hl)
theorem z_cSv (X : Cx p l R s m args meth c cc nL own ret D cl tys a n F L tb) {y : MethodName} {bytes : ByteArray} {rt : Option FieldType} {maxL F1 L1 k index : Nat} {post : RS → Prop} (As : List Value) (hM : Met l y [.code y bytes maxL rt] { frames := F1, cells := 0, slots := 0, locals := L1 } (va_Pc As (PreC tb D cl tys n a ce h)) (va_Qv post (AtC D cl n a ce) (inW a n)) 0 0 (inW a n)) (hF : F1 + 1 ≤ F) (hL : 8 + (maxL + 11) + L1 ≤ L) (hlink : Cond.methodLink own index y ∈ tb) (hcode : Cond.code y bytes maxL rt ∈ tb) (hini : Cond.initialized y.cls ∈ tb) (hstat : Cond.static y ∈ tb) (hd : nmh y k) (hk : As.length = k) {stk : List Value} (hstk : stk = As.reverse ++ st) (hr : (st.map fun v => v.category).sum ≤ 8) (hdg : decode cc pc = .ok (.invokestatic index, 3)) (z : ∀ h1 : RS, post h1 → Z p l e R s m args below meth c D cl n a ce nL Q h1 (pc + 3) lv st) : Z p l e R s m args below meth c D cl n a ce nL Q h pc lv stk := by
  intro H locs ls hP hS hl
  subst hstk
  exact va_callv (va_runS (As := As) (rest := st) ⟨X.1, X.2.1, X.2.2.1, X.2.2.2.1, X.2.2.2.2.1⟩ hM ⟨⟨rfl, rfl, Nat.le_trans hF X.2.2.2.2.2.2.2.2.2.1, Nat.le_trans hL X.2.2.2.2.2.2.2.2.2.2.1, code_warm X hcode, List.mem_singleton.mpr rfl, X.2.2.2.2.1 _ hcode, X.2.2.2.2.1 _ hini, ⟨hd.1, hd.2.1⟩, par_n hd.2.2, X.2.2.2.2.1 _ hlink⟩, X.2.2.2.2.1 _ hstat⟩ ⟨preC_blind X.2.2.2.2.2.2.2.2.2.2.2, preC_at X hP⟩ rfl hk hl.1 rfl (lv_room hr) hdg ⟨Nat.zero_le _, Nat.zero_le _⟩) hS (fun q _ h9 => h9) (fun q h9 => h9) (fun h1 t H1 locs1 ht hvm hq hB hz hk9 hS1 => z h1 hq H1 locs1 ls (by have h8 : va_P D cl (gW n a ce h1) t.heap := hB; rw [ht] at h8; exact h8) hS1 hl)
theorem z_cSl (X : Cx p l R s m args meth c cc nL own ret D cl tys a n F L tb) {y : MethodName} {bytes : ByteArray} {rt : Option FieldType} {maxL F1 L1 k index : Nat} {post : Int64 → RS → Prop} (As : List Value) (hM : Met l y [.code y bytes maxL rt] { frames := F1, cells := 0, slots := 0, locals := L1 } (va_Pc As (PreC tb D cl tys n a ce h)) (va_Ql post (AtC D cl n a ce) (inW a n)) 0 0 (inW a n)) (hF : F1 + 1 ≤ F) (hL : 8 + (maxL + 11) + L1 ≤ L) (hlink : Cond.methodLink own index y ∈ tb) (hcode : Cond.code y bytes maxL rt ∈ tb) (hini : Cond.initialized y.cls ∈ tb) (hstat : Cond.static y ∈ tb) (hd : nmh y k) (hk : As.length = k) {stk : List Value} (hstk : stk = As.reverse ++ st) (hr : (st.map fun v => v.category).sum ≤ 8) (hdg : decode cc pc = .ok (.invokestatic index, 3)) (z : ∀ (r : Int64) (h1 : RS), post r h1 → Z p l e R s m args below meth c D cl n a ce nL Q h1 (pc + 3) lv (.long r :: st)) : Z p l e R s m args below meth c D cl n a ce nL Q h pc lv stk := by
  intro H locs ls hP hS hl
  subst hstk
  exact va_calll (va_runS (As := As) (rest := st) ⟨X.1, X.2.1, X.2.2.1, X.2.2.2.1, X.2.2.2.2.1⟩ hM ⟨⟨rfl, rfl, Nat.le_trans hF X.2.2.2.2.2.2.2.2.2.1, Nat.le_trans hL X.2.2.2.2.2.2.2.2.2.2.1, code_warm X hcode, List.mem_singleton.mpr rfl, X.2.2.2.2.1 _ hcode, X.2.2.2.2.1 _ hini, ⟨hd.1, hd.2.1⟩, par_n hd.2.2, X.2.2.2.2.1 _ hlink⟩, X.2.2.2.2.1 _ hstat⟩ ⟨preC_blind X.2.2.2.2.2.2.2.2.2.2.2, preC_at X hP⟩ rfl hk hl.1 rfl (lv_room hr) hdg ⟨Nat.zero_le _, Nat.zero_le _⟩) hS (fun q _ h9 => h9) (fun q h9 => h9) (fun r h1 t H1 locs1 ht hvm hq hB hz hk9 hS1 => z r h1 hq H1 locs1 ls (by have h8 : va_P D cl (gW n a ce h1) t.heap := hB; rw [ht] at h8; exact h8) hS1 hl)
theorem z_cSNi (X : Cx p l R s m args meth c cc nL own ret D cl tys a n F L tb) {y : MethodName} {bytes : ByteArray} {rt : Option FieldType} {maxL F1 L1 k index : Nat} {host : String} {post : Int32 → RS → Prop} (As : List Value) (hM : Met l y [.code y bytes maxL rt] { frames := F1, cells := 0, slots := 0, locals := L1 } (va_Pc As (PreC tb D cl tys n a ce h)) (va_Qi post (AtC D cl n a ce) (inW a n)) 0 0 (inW a n)) (hF : F1 + 1 ≤ F) (hL : 8 + (maxL + 11) + L1 ≤ L) (hlink : Cond.methodLinkNest own index y host ∈ tb) (hcode : Cond.code y bytes maxL rt ∈ tb) (hini : Cond.initialized y.cls ∈ tb) (hstat : Cond.static y ∈ tb) (hd : nmh y k) (hk : As.length = k) {stk : List Value} (hstk : stk = As.reverse ++ st) (hr : (st.map fun v => v.category).sum ≤ 8) (hdg : decode cc pc = .ok (.invokestatic index, 3)) (z : ∀ (r : Int32) (h1 : RS), post r h1 → Z p l e R s m args below meth c D cl n a ce nL Q h1 (pc + 3) lv (.int r :: st)) : Z p l e R s m args below meth c D cl n a ce nL Q h pc lv stk := by
  intro H locs ls hP hS hl
  subst hstk
  exact va_calli (va_runSN (As := As) (rest := st) ⟨X.1, X.2.1, X.2.2.1, X.2.2.2.1, X.2.2.2.2.1⟩ hM ⟨⟨⟨rfl, rfl, Nat.le_trans hF X.2.2.2.2.2.2.2.2.2.1, Nat.le_trans hL X.2.2.2.2.2.2.2.2.2.2.1, code_warm X hcode, List.mem_singleton.mpr rfl⟩, X.2.2.2.2.1 _ hcode, X.2.2.2.2.1 _ hini, ⟨hd.1, hd.2.1⟩, par_n hd.2.2, X.2.2.2.2.1 _ hlink⟩, X.2.2.2.2.1 _ hstat, trivial⟩ ⟨preC_blind X.2.2.2.2.2.2.2.2.2.2.2, preC_at X hP⟩ rfl hk hl.1 rfl (lv_room hr) hdg ⟨Nat.zero_le _, Nat.zero_le _⟩) hS (fun q _ h9 => h9) (fun q h9 => h9) (fun r h1 t H1 locs1 ht hvm hq hB hz hk9 hS1 => z r h1 hq H1 locs1 ls (by have h8 : va_P D cl (gW n a ce h1) t.heap := hB; rw [ht] at h8; exact h8) hS1 hl)
theorem z_cSNv (X : Cx p l R s m args meth c cc nL own ret D cl tys a n F L tb) {y : MethodName} {bytes : ByteArray} {rt : Option FieldType} {maxL F1 L1 k index : Nat} {host : String} {post : RS → Prop} (As : List Value) (hM : Met l y [.code y bytes maxL rt] { frames := F1, cells := 0, slots := 0, locals := L1 } (va_Pc As (PreC tb D cl tys n a ce h)) (va_Qv post (AtC D cl n a ce) (inW a n)) 0 0 (inW a n)) (hF : F1 + 1 ≤ F) (hL : 8 + (maxL + 11) + L1 ≤ L) (hlink : Cond.methodLinkNest own index y host ∈ tb) (hcode : Cond.code y bytes maxL rt ∈ tb) (hini : Cond.initialized y.cls ∈ tb) (hstat : Cond.static y ∈ tb) (hd : nmh y k) (hk : As.length = k) {stk : List Value} (hstk : stk = As.reverse ++ st) (hr : (st.map fun v => v.category).sum ≤ 8) (hdg : decode cc pc = .ok (.invokestatic index, 3)) (z : ∀ h1 : RS, post h1 → Z p l e R s m args below meth c D cl n a ce nL Q h1 (pc + 3) lv st) : Z p l e R s m args below meth c D cl n a ce nL Q h pc lv stk := by
  intro H locs ls hP hS hl
  subst hstk
  exact va_callv (va_runSN (As := As) (rest := st) ⟨X.1, X.2.1, X.2.2.1, X.2.2.2.1, X.2.2.2.2.1⟩ hM ⟨⟨⟨rfl, rfl, Nat.le_trans hF X.2.2.2.2.2.2.2.2.2.1, Nat.le_trans hL X.2.2.2.2.2.2.2.2.2.2.1, code_warm X hcode, List.mem_singleton.mpr rfl⟩, X.2.2.2.2.1 _ hcode, X.2.2.2.2.1 _ hini, ⟨hd.1, hd.2.1⟩, par_n hd.2.2, X.2.2.2.2.1 _ hlink⟩, X.2.2.2.2.1 _ hstat, trivial⟩ ⟨preC_blind X.2.2.2.2.2.2.2.2.2.2.2, preC_at X hP⟩ rfl hk hl.1 rfl (lv_room hr) hdg ⟨Nat.zero_le _, Nat.zero_le _⟩) hS (fun q _ h9 => h9) (fun q h9 => h9) (fun h1 t H1 locs1 ht hvm hq hB hz hk9 hS1 => z h1 hq H1 locs1 ls (by have h8 : va_P D cl (gW n a ce h1) t.heap := hB; rw [ht] at h8; exact h8) hS1 hl)
theorem z_cSNl (X : Cx p l R s m args meth c cc nL own ret D cl tys a n F L tb) {y : MethodName} {bytes : ByteArray} {rt : Option FieldType} {maxL F1 L1 k index : Nat} {host : String} {post : Int64 → RS → Prop} (As : List Value) (hM : Met l y [.code y bytes maxL rt] { frames := F1, cells := 0, slots := 0, locals := L1 } (va_Pc As (PreC tb D cl tys n a ce h)) (va_Ql post (AtC D cl n a ce) (inW a n)) 0 0 (inW a n)) (hF : F1 + 1 ≤ F) (hL : 8 + (maxL + 11) + L1 ≤ L) (hlink : Cond.methodLinkNest own index y host ∈ tb) (hcode : Cond.code y bytes maxL rt ∈ tb) (hini : Cond.initialized y.cls ∈ tb) (hstat : Cond.static y ∈ tb) (hd : nmh y k) (hk : As.length = k) {stk : List Value} (hstk : stk = As.reverse ++ st) (hr : (st.map fun v => v.category).sum ≤ 8) (hdg : decode cc pc = .ok (.invokestatic index, 3)) (z : ∀ (r : Int64) (h1 : RS), post r h1 → Z p l e R s m args below meth c D cl n a ce nL Q h1 (pc + 3) lv (.long r :: st)) : Z p l e R s m args below meth c D cl n a ce nL Q h pc lv stk := by
  intro H locs ls hP hS hl
  subst hstk
  exact va_calll (va_runSN (As := As) (rest := st) ⟨X.1, X.2.1, X.2.2.1, X.2.2.2.1, X.2.2.2.2.1⟩ hM ⟨⟨⟨rfl, rfl, Nat.le_trans hF X.2.2.2.2.2.2.2.2.2.1, Nat.le_trans hL X.2.2.2.2.2.2.2.2.2.2.1, code_warm X hcode, List.mem_singleton.mpr rfl⟩, X.2.2.2.2.1 _ hcode, X.2.2.2.2.1 _ hini, ⟨hd.1, hd.2.1⟩, par_n hd.2.2, X.2.2.2.2.1 _ hlink⟩, X.2.2.2.2.1 _ hstat, trivial⟩ ⟨preC_blind X.2.2.2.2.2.2.2.2.2.2.2, preC_at X hP⟩ rfl hk hl.1 rfl (lv_room hr) hdg ⟨Nat.zero_le _, Nat.zero_le _⟩) hS (fun q _ h9 => h9) (fun q h9 => h9) (fun r h1 t H1 locs1 ht hvm hq hB hz hk9 hS1 => z r h1 hq H1 locs1 ls (by have h8 : va_P D cl (gW n a ce h1) t.heap := hB; rw [ht] at h8; exact h8) hS1 hl)
end ZR
end
section
def isNw : Cond → Bool
  | .fieldLinkNest .. => true
  | .methodLinkNest .. => true
  | _ => false
def okW (w : Cond) : Bool := w.onTables && (w.keeps || isNw w)
/-- the tables' words that any callee may be handed -/
def tbW : List Cond := lw_tbl.filter okW
theorem tb1_in {w : Cond} (h : w ∈ tables_1_1) (ho : okW w = true) : w ∈ tbW := List.mem_filter.mpr ⟨List.mem_append_right _ (List.mem_append_left _ h), ho⟩
theorem tb2_in {w : Cond} (h : w ∈ tables_1_2) (ho : okW w = true) : w ∈ tbW := List.mem_filter.mpr ⟨List.mem_append_right _ (List.mem_append_right _ (List.mem_append_left _ h)), ho⟩
theorem tb3_in {w : Cond} (h : w ∈ tables_1_3) (ho : okW w = true) : w ∈ tbW := List.mem_filter.mpr ⟨List.mem_append_right _ (List.mem_append_right _ (List.mem_append_right _ h)), ho⟩
theorem tbs_in {w : Cond} (h : w ∈ k2_sels lw_privs) (ho : okW w = true) : w ∈ tbW := List.mem_filter.mpr ⟨List.mem_append_left _ h, ho⟩
theorem tb_ok : TbOk tbW := by
  have h0 : ∀ w ∈ tbW, w.onTables = true ∧ (w.keeps = true ∨ isNw w = true) := fun w hw => by
    have h1 := (List.mem_filter.mp hw).2
    simpa only [okW, Bool.and_eq_true, Bool.or_eq_true] using h1
  refine ⟨fun w hw => (h0 w hw).1, fun w hw s U hW hZ => ?_⟩
  obtain ⟨h1, h2 | h2⟩ := h0 w hw
  · exact word_at (args := #[]) (a' := #[]) hW (Or.inl (by rw [h1, h2]; rfl)) hZ
  · cases w <;> first | exact va_Nw.warmF hW hZ | exact va_Nw.warmM hW hZ | (exact absurd h2 (by simp [isNw]))
theorem lt_ix {c b n : Nat} (hc : c < 8) (hb : b + 8 ≤ n) : b + c < n := by omega
def R_V : String := "JoinVessel"
def F_V : u_T := fun k => match k with
  | 0 => ("JoinVessel", "channels", "[LJoinVessel$Channel;", true)
  | 1 => ("JoinVessel", "channelCount", "I", false)
  | 2 => ("JoinVessel", "reactions", "[LJoinVessel$Reaction;", true)
  | 3 => ("JoinVessel", "reactionCount", "I", false)
  | 4 => ("JoinVessel", "isSealed", "Z", false)
  | 5 => ("JoinVessel", "messages", "LJoinVessel$Messages;", true)
  | 6 => ("JoinVessel", "match", "LJoinVessel$Match;", true)
  | 7 => ("JoinVessel", "firings", "[I", true)
  | _ => ("JoinVessel", "firingCount", "I", false)
def t_V : Nat → FieldType := fun k => match k with
  | 0 => .array (.object "JoinVessel$Channel")
  | 1 => .int
  | 2 => .array (.object "JoinVessel$Reaction")
  | 3 => .int
  | 4 => .boolean
  | 5 => .object "JoinVessel$Messages"
  | 6 => .object "JoinVessel$Match"
  | 7 => .array .int
  | _ => .int
theorem n_V : ∀ a, a < 9 → ∀ b, b < 9 → a ≠ b → (F_V a).2.1 ≠ (F_V b).2.1 := by decide +kernel
theorem t_V_ok : ∀ k, k < 9 → parseFieldDescriptor (F_V k).2.2.1 = some (t_V k) := by decide +kernel
theorem hin_V : ∀ w ∈ u_ws R_V F_V 9, w ∈ tbW := by decide +kernel
def R_Ch : String := "JoinVessel$Channel"
def F_Ch : u_T := fun k => match k with
  | 0 => ("JoinVessel$Channel", "isAnswered", "Z", false)
  | 1 => ("JoinVessel$Channel", "pendingNumbers", "[I", true)
  | _ => ("JoinVessel$Channel", "pendingCount", "I", false)
def t_Ch : Nat → FieldType := fun k => match k with
  | 0 => .boolean
  | 1 => .array .int
  | _ => .int
theorem n_Ch : ∀ a, a < 3 → ∀ b, b < 3 → a ≠ b → (F_Ch a).2.1 ≠ (F_Ch b).2.1 := by decide +kernel
theorem t_Ch_ok : ∀ k, k < 3 → parseFieldDescriptor (F_Ch k).2.2.1 = some (t_Ch k) := by decide +kernel
theorem hin_Ch : ∀ w ∈ u_ws R_Ch F_Ch 3, w ∈ tbW := by decide +kernel
def R_Ms : String := "JoinVessel$Messages"
def F_Ms : u_T := fun k => match k with
  | 0 => ("JoinVessel$Messages", "count", "I", false)
  | 1 => ("JoinVessel$Messages", "channelNumbers", "[I", true)
  | 2 => ("JoinVessel$Messages", "values", "[I", true)
  | 3 => ("JoinVessel$Messages", "states", "[I", true)
  | 4 => ("JoinVessel$Messages", "consumers", "[I", true)
  | _ => ("JoinVessel$Messages", "answers", "[I", true)
def t_Ms : Nat → FieldType := fun k => match k with
  | 0 => .int
  | 1 => .array .int
  | 2 => .array .int
  | 3 => .array .int
  | 4 => .array .int
  | _ => .array .int
theorem n_Ms : ∀ a, a < 6 → ∀ b, b < 6 → a ≠ b → (F_Ms a).2.1 ≠ (F_Ms b).2.1 := by decide +kernel
theorem t_Ms_ok : ∀ k, k < 6 → parseFieldDescriptor (F_Ms k).2.2.1 = some (t_Ms k) := by decide +kernel
theorem hin_Ms : ∀ w ∈ u_ws R_Ms F_Ms 6, w ∈ tbW := by decide +kernel
def R_Mt : String := "JoinVessel$Match"
def F_Mt : u_T := fun k => match k with
  | 0 => ("JoinVessel$Match", "numbers", "[I", true)
  | _ => ("JoinVessel$Match", "values", "[I", true)
def t_Mt : Nat → FieldType := fun k => match k with
  | 0 => .array .int
  | _ => .array .int
theorem n_Mt : ∀ a, a < 2 → ∀ b, b < 2 → a ≠ b → (F_Mt a).2.1 ≠ (F_Mt b).2.1 := by decide +kernel
theorem t_Mt_ok : ∀ k, k < 2 → parseFieldDescriptor (F_Mt k).2.2.1 = some (t_Mt k) := by decide +kernel
theorem hin_Mt : ∀ w ∈ u_ws R_Mt F_Mt 2, w ∈ tbW := by decide +kernel
def R_Re : String := "JoinVessel$Reaction"
def F_Re : u_T := fun k => match k with
  | 0 => ("JoinVessel$Reaction", "partCount", "I", false)
  | 1 => ("JoinVessel$Reaction", "partChannels", "[I", true)
  | 2 => ("JoinVessel$Reaction", "partTests", "[I", true)
  | 3 => ("JoinVessel$Reaction", "partNumbers", "[I", true)
  | 4 => ("JoinVessel$Reaction", "guardKind", "I", false)
  | 5 => ("JoinVessel$Reaction", "guardNumber", "I", false)
  | 6 => ("JoinVessel$Reaction", "actionCount", "I", false)
  | 7 => ("JoinVessel$Reaction", "actionSends", "[Z", true)
  | 8 => ("JoinVessel$Reaction", "actionTargets", "[I", true)
  | 9 => ("JoinVessel$Reaction", "actionKinds", "[I", true)
  | 10 => ("JoinVessel$Reaction", "actionParts", "[I", true)
  | _ => ("JoinVessel$Reaction", "actionNumbers", "[I", true)
def t_Re : Nat → FieldType := fun k => match k with
  | 0 => .int
  | 1 => .array .int
  | 2 => .array .int
  | 3 => .array .int
  | 4 => .int
  | 5 => .int
  | 6 => .int
  | 7 => .array .boolean
  | 8 => .array .int
  | 9 => .array .int
  | 10 => .array .int
  | _ => .array .int
theorem n_Re : ∀ a, a < 12 → ∀ b, b < 12 → a ≠ b → (F_Re a).2.1 ≠ (F_Re b).2.1 := by decide +kernel
theorem t_Re_ok : ∀ k, k < 12 → parseFieldDescriptor (F_Re k).2.2.1 = some (t_Re k) := by decide +kernel
theorem hin_Re : ∀ w ∈ u_ws R_Re F_Re 12, w ∈ tbW := by decide +kernel
abbrev clV : List vw_C := [(R_V, F_V, 9), (R_Ch, F_Ch, 3), (R_Ms, F_Ms, 6), (R_Mt, F_Mt, 2), (R_Re, F_Re, 12)]
abbrev tyV (q : Nat → ClassId) : List (ClassId × FieldType) := [(q 0, .int), (q 1, .boolean), (q 2, .object "JoinVessel$Channel"), (q 3, .object "JoinVessel$Reaction")]
def ceV1 (a : Nat → Nat) (q : Nat → ClassId) (x : Nat → Int32) (i : Nat) : va_E := match i with
  | 0 => .inr (0, [.ref (a 1), .int (x 1), .ref (a 2), .int (x 3), .int (x 4), .ref (a 3), .ref (a 4), .ref (a 5), .int (x 8)])
  | 1 => .inl (q 2, 8, .inr (.inr (.inr (.inr (fun j => some (a (13 + j)))))))
  | 2 => .inl (q 3, 8, .inr (.inr (.inr (.inr (fun j => some (a (29 + j)))))))
  | 3 => .inr (2, [.int (x 0), .ref (a 6), .ref (a 7), .ref (a 8), .ref (a 9), .ref (a 10)])
  | 4 => .inr (3, [.ref (a 11), .ref (a 12)])
  | 5 => .inl (q 0, 300, .inl x)
  | 6 => .inl (q 0, 300, .inl x)
  | 7 => .inl (q 0, 300, .inl x)
  | 8 => .inl (q 0, 300, .inl x)
  | 9 => .inl (q 0, 300, .inl x)
  | 10 => .inl (q 0, 300, .inl x)
  | 11 => .inl (q 0, 4, .inl x)
  | _ => .inl (q 0, 4, .inl x)
def ceV (a : Nat → Nat) (q : Nat → ClassId) (x : Nat → Int32) (i : Nat) : va_E := if i < 13 then ceV1 a q x i
  else if i < 21 then .inr (1, [.int (x 0), .ref (a (21 + (i - 13))), .int (x 2)])
  else if i < 29 then .inl (q 0, 6, .inl x)
  else if i < 37 then .inr (4, [.int (x 0), .ref (a (37 + (i - 29))), .ref (a (45 + (i - 29))), .ref (a (53 + (i - 29))), .int (x 4), .int (x 5), .int (x 6), .ref (a (61 + (i - 29))), .ref (a (69 + (i - 29))), .ref (a (77 + (i - 29))), .ref (a (85 + (i - 29))), .ref (a (93 + (i - 29)))])
  else if i < 45 then .inl (q 0, 4, .inl x)
  else if i < 53 then .inl (q 0, 4, .inl x)
  else if i < 61 then .inl (q 0, 4, .inl x)
  else if i < 69 then .inl (q 1, 4, .inl x)
  else if i < 77 then .inl (q 0, 4, .inl x)
  else if i < 85 then .inl (q 0, 4, .inl x)
  else if i < 93 then .inl (q 0, 4, .inl x)
  else .inl (q 0, 4, .inl x)
theorem cV_V {a : Nat → Nat} {q : Nat → ClassId} (x : Nat → Int32) : ceV a q x 0 = .inr (0, [.ref (a 1), .int (x 1), .ref (a 2), .int (x 3), .int (x 4), .ref (a 3), .ref (a 4), .ref (a 5), .int (x 8)]) := rfl
theorem cV_Chs {a : Nat → Nat} {q : Nat → ClassId} (x : Nat → Int32) : ceV a q x 1 = .inl (q 2, 8, .inr (.inr (.inr (.inr (fun j => some (a (13 + j))))))) := rfl
theorem cV_Res {a : Nat → Nat} {q : Nat → ClassId} (x : Nat → Int32) : ceV a q x 2 = .inl (q 3, 8, .inr (.inr (.inr (.inr (fun j => some (a (29 + j))))))) := rfl
theorem cV_Msgs {a : Nat → Nat} {q : Nat → ClassId} (x : Nat → Int32) : ceV a q x 3 = .inr (2, [.int (x 0), .ref (a 6), .ref (a 7), .ref (a 8), .ref (a 9), .ref (a 10)]) := rfl
theorem cV_Mat {a : Nat → Nat} {q : Nat → ClassId} (x : Nat → Int32) : ceV a q x 4 = .inr (3, [.ref (a 11), .ref (a 12)]) := rfl
theorem cV_Fir {a : Nat → Nat} {q : Nat → ClassId} (x : Nat → Int32) : ceV a q x 5 = .inl (q 0, 300, .inl x) := rfl
theorem cV_mCh {a : Nat → Nat} {q : Nat → ClassId} (x : Nat → Int32) : ceV a q x 6 = .inl (q 0, 300, .inl x) := rfl
theorem cV_mVa {a : Nat → Nat} {q : Nat → ClassId} (x : Nat → Int32) : ceV a q x 7 = .inl (q 0, 300, .inl x) := rfl
theorem cV_mSt {a : Nat → Nat} {q : Nat → ClassId} (x : Nat → Int32) : ceV a q x 8 = .inl (q 0, 300, .inl x) := rfl
theorem cV_mCo {a : Nat → Nat} {q : Nat → ClassId} (x : Nat → Int32) : ceV a q x 9 = .inl (q 0, 300, .inl x) := rfl
theorem cV_mAn {a : Nat → Nat} {q : Nat → ClassId} (x : Nat → Int32) : ceV a q x 10 = .inl (q 0, 300, .inl x) := rfl
theorem cV_tNu {a : Nat → Nat} {q : Nat → ClassId} (x : Nat → Int32) : ceV a q x 11 = .inl (q 0, 4, .inl x) := rfl
theorem cV_tVa {a : Nat → Nat} {q : Nat → ClassId} (x : Nat → Int32) : ceV a q x 12 = .inl (q 0, 4, .inl x) := rfl
theorem cV_Ch {a : Nat → Nat} {q : Nat → ClassId} (x : Nat → Int32) {c : Nat} (hc : c < 8) : ceV a q x (13 + c) = .inr (1, [.int (x 0), .ref (a (21 + c)), .int (x 2)]) := by
  unfold ceV
  rw [if_neg (by omega), if_pos (by omega), Nat.add_sub_cancel_left]
theorem cV_Pn {a : Nat → Nat} {q : Nat → ClassId} (x : Nat → Int32) {c : Nat} (hc : c < 8) : ceV a q x (21 + c) = .inl (q 0, 6, .inl x) := by
  unfold ceV
  rw [if_neg (by omega), if_neg (by omega), if_pos (by omega)]
theorem cV_Re {a : Nat → Nat} {q : Nat → ClassId} (x : Nat → Int32) {c : Nat} (hc : c < 8) : ceV a q x (29 + c) = .inr (4, [.int (x 0), .ref (a (37 + c)), .ref (a (45 + c)), .ref (a (53 + c)), .int (x 4), .int (x 5), .int (x 6), .ref (a (61 + c)), .ref (a (69 + c)), .ref (a (77 + c)), .ref (a (85 + c)), .ref (a (93 + c))]) := by
  unfold ceV
  rw [if_neg (by omega), if_neg (by omega), if_neg (by omega), if_pos (by omega), Nat.add_sub_cancel_left]
theorem cV_pC {a : Nat → Nat} {q : Nat → ClassId} (x : Nat → Int32) {c : Nat} (hc : c < 8) : ceV a q x (37 + c) = .inl (q 0, 4, .inl x) := by
  unfold ceV
  rw [if_neg (by omega), if_neg (by omega), if_neg (by omega), if_neg (by omega), if_pos (by omega)]
theorem cV_pT {a : Nat → Nat} {q : Nat → ClassId} (x : Nat → Int32) {c : Nat} (hc : c < 8) : ceV a q x (45 + c) = .inl (q 0, 4, .inl x) := by
  unfold ceV
  rw [if_neg (by omega), if_neg (by omega), if_neg (by omega), if_neg (by omega), if_neg (by omega), if_pos (by omega)]
theorem cV_pN {a : Nat → Nat} {q : Nat → ClassId} (x : Nat → Int32) {c : Nat} (hc : c < 8) : ceV a q x (53 + c) = .inl (q 0, 4, .inl x) := by
  unfold ceV
  rw [if_neg (by omega), if_neg (by omega), if_neg (by omega), if_neg (by omega), if_neg (by omega), if_neg (by omega), if_pos (by omega)]
theorem cV_aS {a : Nat → Nat} {q : Nat → ClassId} (x : Nat → Int32) {c : Nat} (hc : c < 8) : ceV a q x (61 + c) = .inl (q 1, 4, .inl x) := by
  unfold ceV
  rw [if_neg (by omega), if_neg (by omega), if_neg (by omega), if_neg (by omega), if_neg (by omega), if_neg (by omega), if_neg (by omega), if_pos (by omega)]
theorem cV_aT {a : Nat → Nat} {q : Nat → ClassId} (x : Nat → Int32) {c : Nat} (hc : c < 8) : ceV a q x (69 + c) = .inl (q 0, 4, .inl x) := by
  unfold ceV
  rw [if_neg (by omega), if_neg (by omega), if_neg (by omega), if_neg (by omega), if_neg (by omega), if_neg (by omega), if_neg (by omega), if_neg (by omega), if_pos (by omega)]
theorem cV_aK {a : Nat → Nat} {q : Nat → ClassId} (x : Nat → Int32) {c : Nat} (hc : c < 8) : ceV a q x (77 + c) = .inl (q 0, 4, .inl x) := by
  unfold ceV
  rw [if_neg (by omega), if_neg (by omega), if_neg (by omega), if_neg (by omega), if_neg (by omega), if_neg (by omega), if_neg (by omega), if_neg (by omega), if_neg (by omega), if_pos (by omega)]
theorem cV_aP {a : Nat → Nat} {q : Nat → ClassId} (x : Nat → Int32) {c : Nat} (hc : c < 8) : ceV a q x (85 + c) = .inl (q 0, 4, .inl x) := by
  unfold ceV
  rw [if_neg (by omega), if_neg (by omega), if_neg (by omega), if_neg (by omega), if_neg (by omega), if_neg (by omega), if_neg (by omega), if_neg (by omega), if_neg (by omega), if_neg (by omega), if_pos (by omega)]
theorem cV_aN {a : Nat → Nat} {q : Nat → ClassId} (x : Nat → Int32) {c : Nat} (hc : c < 8) : ceV a q x (93 + c) = .inl (q 0, 4, .inl x) := by
  unfold ceV
  rw [if_neg (by omega), if_neg (by omega), if_neg (by omega), if_neg (by omega), if_neg (by omega), if_neg (by omega), if_neg (by omega), if_neg (by omega), if_neg (by omega), if_neg (by omega), if_neg (by omega)]
def R_M : String := "JoinVesselModel"
def F_M : u_T := fun k => match k with
  | 0 => ("JoinVesselModel", "channels", "I", false)
  | 1 => ("JoinVesselModel", "answered", "[Z", true)
  | 2 => ("JoinVesselModel", "reactions", "I", false)
  | 3 => ("JoinVesselModel", "parts", "[I", true)
  | 4 => ("JoinVesselModel", "partChannel", "[I", true)
  | 5 => ("JoinVesselModel", "partTest", "[I", true)
  | 6 => ("JoinVesselModel", "partNumber", "[I", true)
  | 7 => ("JoinVesselModel", "guardKind", "[I", true)
  | 8 => ("JoinVesselModel", "guardNumber", "[I", true)
  | 9 => ("JoinVesselModel", "actions", "[I", true)
  | 10 => ("JoinVesselModel", "target", "[I", true)
  | 11 => ("JoinVesselModel", "replied", "[I", true)
  | 12 => ("JoinVesselModel", "kind", "[I", true)
  | 13 => ("JoinVesselModel", "which", "[I", true)
  | 14 => ("JoinVesselModel", "number", "[I", true)
  | 15 => ("JoinVesselModel", "closed", "Z", false)
  | 16 => ("JoinVesselModel", "made", "I", false)
  | 17 => ("JoinVesselModel", "channelOf", "[I", true)
  | 18 => ("JoinVesselModel", "values", "[I", true)
  | 19 => ("JoinVesselModel", "states", "[I", true)
  | 20 => ("JoinVesselModel", "consumers", "[I", true)
  | 21 => ("JoinVesselModel", "answers", "[I", true)
  | 22 => ("JoinVesselModel", "firings", "I", false)
  | 23 => ("JoinVesselModel", "firedBy", "[I", true)
  | 24 => ("JoinVesselModel", "gathered", "[I", true)
  | 25 => ("JoinVesselModel", "count", "[I", true)
  | 26 => ("JoinVesselModel", "digit", "[I", true)
  | _ => ("JoinVesselModel", "tried", "[I", true)
def t_M : Nat → FieldType := fun k => match k with
  | 0 => .int
  | 1 => .array .boolean
  | 2 => .int
  | 3 => .array .int
  | 4 => .array .int
  | 5 => .array .int
  | 6 => .array .int
  | 7 => .array .int
  | 8 => .array .int
  | 9 => .array .int
  | 10 => .array .int
  | 11 => .array .int
  | 12 => .array .int
  | 13 => .array .int
  | 14 => .array .int
  | 15 => .boolean
  | 16 => .int
  | 17 => .array .int
  | 18 => .array .int
  | 19 => .array .int
  | 20 => .array .int
  | 21 => .array .int
  | 22 => .int
  | 23 => .array .int
  | 24 => .array .int
  | 25 => .array .int
  | 26 => .array .int
  | _ => .array .int
theorem n_M : ∀ a, a < 28 → ∀ b, b < 28 → a ≠ b → (F_M a).2.1 ≠ (F_M b).2.1 := by decide +kernel
theorem t_M_ok : ∀ k, k < 28 → parseFieldDescriptor (F_M k).2.2.1 = some (t_M k) := by decide +kernel
theorem hin_M : ∀ w ∈ u_ws R_M F_M 28, w ∈ tbW := by decide +kernel
abbrev clM : List vw_C := [(R_M, F_M, 28)]
abbrev tyM (q : Nat → ClassId) : List (ClassId × FieldType) := [(q 0, .int), (q 1, .boolean)]
def ceM1 (a : Nat → Nat) (q : Nat → ClassId) (x : Nat → Int32) (i : Nat) : va_E := match i with
  | 0 => .inr (0, [.int (x 0), .ref (a 1), .int (x 2), .ref (a 2), .ref (a 3), .ref (a 4), .ref (a 5), .ref (a 6), .ref (a 7), .ref (a 8), .ref (a 9), .ref (a 10), .ref (a 11), .ref (a 12), .ref (a 13), .int (x 15), .int (x 16), .ref (a 14), .ref (a 15), .ref (a 16), .ref (a 17), .ref (a 18), .int (x 22), .ref (a 19), .ref (a 20), .ref (a 21), .ref (a 22), .ref (a 23)])
  | 1 => .inl (q 1, 8, .inl x)
  | 2 => .inl (q 0, 8, .inl x)
  | 3 => .inl (q 0, 32, .inl x)
  | 4 => .inl (q 0, 32, .inl x)
  | 5 => .inl (q 0, 32, .inl x)
  | 6 => .inl (q 0, 8, .inl x)
  | 7 => .inl (q 0, 8, .inl x)
  | 8 => .inl (q 0, 8, .inl x)
  | 9 => .inl (q 0, 32, .inl x)
  | 10 => .inl (q 0, 32, .inl x)
  | 11 => .inl (q 0, 32, .inl x)
  | 12 => .inl (q 0, 32, .inl x)
  | 13 => .inl (q 0, 32, .inl x)
  | 14 => .inl (q 0, 300, .inl x)
  | 15 => .inl (q 0, 300, .inl x)
  | 16 => .inl (q 0, 300, .inl x)
  | 17 => .inl (q 0, 300, .inl x)
  | 18 => .inl (q 0, 300, .inl x)
  | 19 => .inl (q 0, 300, .inl x)
  | 20 => .inl (q 0, 48, .inl x)
  | 21 => .inl (q 0, 8, .inl x)
  | 22 => .inl (q 0, 4, .inl x)
  | _ => .inl (q 0, 4, .inl x)
def ceM (a : Nat → Nat) (q : Nat → ClassId) (x : Nat → Int32) (i : Nat) : va_E := ceM1 a q x i
theorem cM_M {a : Nat → Nat} {q : Nat → ClassId} (x : Nat → Int32) : ceM a q x 0 = .inr (0, [.int (x 0), .ref (a 1), .int (x 2), .ref (a 2), .ref (a 3), .ref (a 4), .ref (a 5), .ref (a 6), .ref (a 7), .ref (a 8), .ref (a 9), .ref (a 10), .ref (a 11), .ref (a 12), .ref (a 13), .int (x 15), .int (x 16), .ref (a 14), .ref (a 15), .ref (a 16), .ref (a 17), .ref (a 18), .int (x 22), .ref (a 19), .ref (a 20), .ref (a 21), .ref (a 22), .ref (a 23)]) := rfl
theorem cM__answered {a : Nat → Nat} {q : Nat → ClassId} (x : Nat → Int32) : ceM a q x 1 = .inl (q 1, 8, .inl x) := rfl
theorem cM__parts {a : Nat → Nat} {q : Nat → ClassId} (x : Nat → Int32) : ceM a q x 2 = .inl (q 0, 8, .inl x) := rfl
theorem cM__partChannel {a : Nat → Nat} {q : Nat → ClassId} (x : Nat → Int32) : ceM a q x 3 = .inl (q 0, 32, .inl x) := rfl
theorem cM__partTest {a : Nat → Nat} {q : Nat → ClassId} (x : Nat → Int32) : ceM a q x 4 = .inl (q 0, 32, .inl x) := rfl
theorem cM__partNumber {a : Nat → Nat} {q : Nat → ClassId} (x : Nat → Int32) : ceM a q x 5 = .inl (q 0, 32, .inl x) := rfl
theorem cM__guardKind {a : Nat → Nat} {q : Nat → ClassId} (x : Nat → Int32) : ceM a q x 6 = .inl (q 0, 8, .inl x) := rfl
theorem cM__guardNumber {a : Nat → Nat} {q : Nat → ClassId} (x : Nat → Int32) : ceM a q x 7 = .inl (q 0, 8, .inl x) := rfl
theorem cM__actions {a : Nat → Nat} {q : Nat → ClassId} (x : Nat → Int32) : ceM a q x 8 = .inl (q 0, 8, .inl x) := rfl
theorem cM__target {a : Nat → Nat} {q : Nat → ClassId} (x : Nat → Int32) : ceM a q x 9 = .inl (q 0, 32, .inl x) := rfl
theorem cM__replied {a : Nat → Nat} {q : Nat → ClassId} (x : Nat → Int32) : ceM a q x 10 = .inl (q 0, 32, .inl x) := rfl
theorem cM__kind {a : Nat → Nat} {q : Nat → ClassId} (x : Nat → Int32) : ceM a q x 11 = .inl (q 0, 32, .inl x) := rfl
theorem cM__which {a : Nat → Nat} {q : Nat → ClassId} (x : Nat → Int32) : ceM a q x 12 = .inl (q 0, 32, .inl x) := rfl
theorem cM__number {a : Nat → Nat} {q : Nat → ClassId} (x : Nat → Int32) : ceM a q x 13 = .inl (q 0, 32, .inl x) := rfl
theorem cM__channelOf {a : Nat → Nat} {q : Nat → ClassId} (x : Nat → Int32) : ceM a q x 14 = .inl (q 0, 300, .inl x) := rfl
theorem cM__values {a : Nat → Nat} {q : Nat → ClassId} (x : Nat → Int32) : ceM a q x 15 = .inl (q 0, 300, .inl x) := rfl
theorem cM__states {a : Nat → Nat} {q : Nat → ClassId} (x : Nat → Int32) : ceM a q x 16 = .inl (q 0, 300, .inl x) := rfl
theorem cM__consumers {a : Nat → Nat} {q : Nat → ClassId} (x : Nat → Int32) : ceM a q x 17 = .inl (q 0, 300, .inl x) := rfl
theorem cM__answers {a : Nat → Nat} {q : Nat → ClassId} (x : Nat → Int32) : ceM a q x 18 = .inl (q 0, 300, .inl x) := rfl
theorem cM__firedBy {a : Nat → Nat} {q : Nat → ClassId} (x : Nat → Int32) : ceM a q x 19 = .inl (q 0, 300, .inl x) := rfl
theorem cM__gathered {a : Nat → Nat} {q : Nat → ClassId} (x : Nat → Int32) : ceM a q x 20 = .inl (q 0, 48, .inl x) := rfl
theorem cM__count {a : Nat → Nat} {q : Nat → ClassId} (x : Nat → Int32) : ceM a q x 21 = .inl (q 0, 8, .inl x) := rfl
theorem cM__digit {a : Nat → Nat} {q : Nat → ClassId} (x : Nat → Int32) : ceM a q x 22 = .inl (q 0, 4, .inl x) := rfl
theorem cM__tried {a : Nat → Nat} {q : Nat → ClassId} (x : Nat → Int32) : ceM a q x 23 = .inl (q 0, 4, .inl x) := rfl
abbrev b_V_channel : ByteArray := prog_1_method_2_code
def y_V_channel : MethodName := ⟨R_V, "channel", "(Z)I"⟩
abbrev b_V_reaction : ByteArray := prog_1_method_3_code
def y_V_reaction : MethodName := ⟨R_V, "reaction", "()I"⟩
abbrev b_V_part : ByteArray := prog_1_method_4_code
def y_V_part : MethodName := ⟨R_V, "part", "(IIII)I"⟩
abbrev b_V_guard : ByteArray := prog_1_method_5_code
def y_V_guard : MethodName := ⟨R_V, "guard", "(III)Z"⟩
abbrev b_V_emit : ByteArray := prog_1_method_6_code
def y_V_emit : MethodName := ⟨R_V, "emit", "(IIIII)Z"⟩
abbrev b_V_reply : ByteArray := prog_1_method_7_code
def y_V_reply : MethodName := ⟨R_V, "reply", "(IIIII)Z"⟩
abbrev b_V_seal : ByteArray := prog_1_method_8_code
def y_V_seal : MethodName := ⟨R_V, "seal", "()I"⟩
abbrev b_V_put : ByteArray := prog_1_method_9_code
def y_V_put : MethodName := ⟨R_V, "put", "(II)I"⟩
abbrev b_V_call : ByteArray := prog_1_method_10_code
def y_V_call : MethodName := ⟨R_V, "call", "(II)I"⟩
abbrev b_V_withdraw : ByteArray := prog_1_method_11_code
def y_V_withdraw : MethodName := ⟨R_V, "withdraw", "(I)Z"⟩
abbrev b_V_react : ByteArray := prog_1_method_12_code
def y_V_react : MethodName := ⟨R_V, "react", "(I)I"⟩
abbrev b_V_enabled : ByteArray := prog_1_method_13_code
def y_V_enabled : MethodName := ⟨R_V, "enabled", "()I"⟩
abbrev b_V_next : ByteArray := prog_1_method_14_code
def y_V_next : MethodName := ⟨R_V, "next", "()I"⟩
abbrev b_V_taken : ByteArray := prog_1_method_15_code
def y_V_taken : MethodName := ⟨R_V, "taken", "(I)I"⟩
abbrev b_V_pendingAt : ByteArray := prog_1_method_16_code
def y_V_pendingAt : MethodName := ⟨R_V, "pendingAt", "(II)I"⟩
abbrev b_V_value : ByteArray := prog_1_method_17_code
def y_V_value : MethodName := ⟨R_V, "value", "(I)I"⟩
abbrev b_V_state : ByteArray := prog_1_method_18_code
def y_V_state : MethodName := ⟨R_V, "state", "(I)I"⟩
abbrev b_V_consumer : ByteArray := prog_1_method_19_code
def y_V_consumer : MethodName := ⟨R_V, "consumer", "(I)I"⟩
abbrev b_V_answer : ByteArray := prog_1_method_20_code
def y_V_answer : MethodName := ⟨R_V, "answer", "(I)I"⟩
abbrev b_V_fired : ByteArray := prog_1_method_21_code
def y_V_fired : MethodName := ⟨R_V, "fired", "(I)I"⟩
abbrev b_V_isWithin : ByteArray := prog_1_method_22_code
def y_V_isWithin : MethodName := ⟨R_V, "isWithin", "(II)Z"⟩
abbrev b_V_isChannel : ByteArray := prog_1_method_23_code
def y_V_isChannel : MethodName := ⟨R_V, "isChannel", "(I)Z"⟩
abbrev b_V_isChannelOf : ByteArray := prog_1_method_24_code
def y_V_isChannelOf : MethodName := ⟨R_V, "isChannelOf", "(IZ)Z"⟩
abbrev b_V_mayBuild : ByteArray := prog_1_method_25_code
def y_V_mayBuild : MethodName := ⟨R_V, "mayBuild", "(I)Z"⟩
abbrev b_V_obstacleToSealing : ByteArray := prog_1_method_26_code
def y_V_obstacleToSealing : MethodName := ⟨R_V, "obstacleToSealing", "()I"⟩
abbrev b_V_leavesCallUnanswered : ByteArray := prog_1_method_27_code
def y_V_leavesCallUnanswered : MethodName := ⟨R_V, "leavesCallUnanswered", "(LJoinVessel$Reaction;)Z"⟩
abbrev b_V_admit : ByteArray := prog_1_method_28_code
def y_V_admit : MethodName := ⟨R_V, "admit", "(IIZ)I"⟩
abbrev b_V_makeMessage : ByteArray := prog_1_method_29_code
def y_V_makeMessage : MethodName := ⟨R_V, "makeMessage", "(II)I"⟩
abbrev b_V_findNext : ByteArray := prog_1_method_30_code
def y_V_findNext : MethodName := ⟨R_V, "findNext", "()I"⟩
abbrev b_V_findEnabledMatch : ByteArray := prog_1_method_31_code
def y_V_findEnabledMatch : MethodName := ⟨R_V, "findEnabledMatch", "(I)Z"⟩
abbrev b_V_hasRoom : ByteArray := prog_1_method_32_code
def y_V_hasRoom : MethodName := ⟨R_V, "hasRoom", "(LJoinVessel$Reaction;)Z"⟩
abbrev b_V_fillMatch : ByteArray := prog_1_method_33_code
def y_V_fillMatch : MethodName := ⟨R_V, "fillMatch", "(LJoinVessel$Match;LJoinVessel$Reaction;[LJoinVessel$Channel;LJoinVessel$Messages;I)Z"⟩
abbrev b_V_fire : ByteArray := prog_1_method_34_code
def y_V_fire : MethodName := ⟨R_V, "fire", "(I)V"⟩
abbrev b_V_consume : ByteArray := prog_1_method_35_code
def y_V_consume : MethodName := ⟨R_V, "consume", "(I)V"⟩
abbrev b_V_sum : ByteArray := prog_1_method_36_code
def y_V_sum : MethodName := ⟨R_V, "sum", "([II)J"⟩
abbrev b_V_greatest : ByteArray := prog_1_method_37_code
def y_V_greatest : MethodName := ⟨R_V, "greatest", "([II)I"⟩
abbrev b_V_allRise : ByteArray := prog_1_method_38_code
def y_V_allRise : MethodName := ⟨R_V, "allRise", "([II)Z"⟩
abbrev b_V_allEqual : ByteArray := prog_1_method_39_code
def y_V_allEqual : MethodName := ⟨R_V, "allEqual", "([II)Z"⟩
abbrev b_V_allDiffer : ByteArray := prog_1_method_40_code
def y_V_allDiffer : MethodName := ⟨R_V, "allDiffer", "([II)Z"⟩
abbrev b_M_channel : ByteArray := prog_7_method_2_code
def y_M_channel : MethodName := ⟨R_M, "channel", "(Z)I"⟩
abbrev b_M_reaction : ByteArray := prog_7_method_3_code
def y_M_reaction : MethodName := ⟨R_M, "reaction", "()I"⟩
abbrev b_M_open : ByteArray := prog_7_method_4_code
def y_M_open : MethodName := ⟨R_M, "open", "(I)Z"⟩
abbrev b_M_isChannel : ByteArray := prog_7_method_5_code
def y_M_isChannel : MethodName := ⟨R_M, "isChannel", "(I)Z"⟩
abbrev b_M_hasPart : ByteArray := prog_7_method_6_code
def y_M_hasPart : MethodName := ⟨R_M, "hasPart", "(II)Z"⟩
abbrev b_M_part : ByteArray := prog_7_method_7_code
def y_M_part : MethodName := ⟨R_M, "part", "(IIII)I"⟩
abbrev b_M_guard : ByteArray := prog_7_method_8_code
def y_M_guard : MethodName := ⟨R_M, "guard", "(III)Z"⟩
abbrev b_M_expression : ByteArray := prog_7_method_9_code
def y_M_expression : MethodName := ⟨R_M, "expression", "(III)Z"⟩
abbrev b_M_act : ByteArray := prog_7_method_10_code
def y_M_act : MethodName := ⟨R_M, "act", "(IIIII)V"⟩
abbrev b_M_emit : ByteArray := prog_7_method_11_code
def y_M_emit : MethodName := ⟨R_M, "emit", "(IIIII)Z"⟩
abbrev b_M_answersPart : ByteArray := prog_7_method_12_code
def y_M_answersPart : MethodName := ⟨R_M, "answersPart", "(II)Z"⟩
abbrev b_M_reply : ByteArray := prog_7_method_13_code
def y_M_reply : MethodName := ⟨R_M, "reply", "(IIIII)Z"⟩
abbrev b_M_seal : ByteArray := prog_7_method_14_code
def y_M_seal : MethodName := ⟨R_M, "seal", "()I"⟩
abbrev b_M_make : ByteArray := prog_7_method_15_code
def y_M_make : MethodName := ⟨R_M, "make", "(II)I"⟩
abbrev b_M_gather : ByteArray := prog_7_method_16_code
def y_M_gather : MethodName := ⟨R_M, "gather", "()V"⟩
abbrev b_M_enter : ByteArray := prog_7_method_17_code
def y_M_enter : MethodName := ⟨R_M, "enter", "(IIZ)I"⟩
abbrev b_M_put : ByteArray := prog_7_method_18_code
def y_M_put : MethodName := ⟨R_M, "put", "(II)I"⟩
abbrev b_M_call : ByteArray := prog_7_method_19_code
def y_M_call : MethodName := ⟨R_M, "call", "(II)I"⟩
abbrev b_M_isMessage : ByteArray := prog_7_method_20_code
def y_M_isMessage : MethodName := ⟨R_M, "isMessage", "(I)Z"⟩
abbrev b_M_withdraw : ByteArray := prog_7_method_21_code
def y_M_withdraw : MethodName := ⟨R_M, "withdraw", "(I)Z"⟩
abbrev b_M_passes : ByteArray := prog_7_method_22_code
def y_M_passes : MethodName := ⟨R_M, "passes", "(II)Z"⟩
abbrev b_M_guarded : ByteArray := prog_7_method_23_code
def y_M_guarded : MethodName := ⟨R_M, "guarded", "(I)Z"⟩
abbrev b_M_chosen : ByteArray := prog_7_method_24_code
def y_M_chosen : MethodName := ⟨R_M, "chosen", "(II)I"⟩
abbrev b_M_matches : ByteArray := prog_7_method_25_code
def y_M_matches : MethodName := ⟨R_M, "matches", "(I)Z"⟩
abbrev b_M_find : ByteArray := prog_7_method_26_code
def y_M_find : MethodName := ⟨R_M, "find", "(I)Z"⟩
abbrev b_M_room : ByteArray := prog_7_method_27_code
def y_M_room : MethodName := ⟨R_M, "room", "(I)Z"⟩
abbrev b_M_enabled : ByteArray := prog_7_method_28_code
def y_M_enabled : MethodName := ⟨R_M, "enabled", "()I"⟩
abbrev b_M_next : ByteArray := prog_7_method_29_code
def y_M_next : MethodName := ⟨R_M, "next", "()I"⟩
abbrev b_M_taken : ByteArray := prog_7_method_30_code
def y_M_taken : MethodName := ⟨R_M, "taken", "(I)I"⟩
abbrev b_M_result : ByteArray := prog_7_method_31_code
def y_M_result : MethodName := ⟨R_M, "result", "(II)I"⟩
abbrev b_M_fire : ByteArray := prog_7_method_32_code
def y_M_fire : MethodName := ⟨R_M, "fire", "(I)V"⟩
abbrev b_M_react : ByteArray := prog_7_method_33_code
def y_M_react : MethodName := ⟨R_M, "react", "(I)I"⟩
abbrev b_M_pendingAt : ByteArray := prog_7_method_34_code
def y_M_pendingAt : MethodName := ⟨R_M, "pendingAt", "(II)I"⟩
abbrev b_M_value : ByteArray := prog_7_method_35_code
def y_M_value : MethodName := ⟨R_M, "value", "(I)I"⟩
abbrev b_M_state : ByteArray := prog_7_method_36_code
def y_M_state : MethodName := ⟨R_M, "state", "(I)I"⟩
abbrev b_M_consumer : ByteArray := prog_7_method_37_code
def y_M_consumer : MethodName := ⟨R_M, "consumer", "(I)I"⟩
abbrev b_M_answer : ByteArray := prog_7_method_38_code
def y_M_answer : MethodName := ⟨R_M, "answer", "(I)I"⟩
abbrev b_M_fired : ByteArray := prog_7_method_39_code
def y_M_fired : MethodName := ⟨R_M, "fired", "(I)I"⟩
abbrev b_Ch_addPending : ByteArray := prog_2_method_2_code
def y_Ch_addPending : MethodName := ⟨R_Ch, "addPending", "(I)V"⟩
abbrev b_Ch_removePending : ByteArray := prog_2_method_3_code
def y_Ch_removePending : MethodName := ⟨R_Ch, "removePending", "(I)V"⟩
abbrev b_Mt_holdsBefore : ByteArray := prog_3_method_2_code
def y_Mt_holdsBefore : MethodName := ⟨R_Mt, "holdsBefore", "(II)Z"⟩
abbrev b_Ms_has : ByteArray := prog_4_method_2_code
def y_Ms_has : MethodName := ⟨R_Ms, "has", "(I)Z"⟩
abbrev b_Ms_add : ByteArray := prog_4_method_3_code
def y_Ms_add : MethodName := ⟨R_Ms, "add", "(II)I"⟩
abbrev b_Re_addPart : ByteArray := prog_5_method_2_code
def y_Re_addPart : MethodName := ⟨R_Re, "addPart", "(III)I"⟩
abbrev b_Re_hasPart : ByteArray := prog_5_method_3_code
def y_Re_hasPart : MethodName := ⟨R_Re, "hasPart", "(I)Z"⟩
abbrev b_Re_mayAddAction : ByteArray := prog_5_method_4_code
def y_Re_mayAddAction : MethodName := ⟨R_Re, "mayAddAction", "(II)Z"⟩
abbrev b_Re_addAction : ByteArray := prog_5_method_5_code
def y_Re_addAction : MethodName := ⟨R_Re, "addAction", "(ZIIII)V"⟩
abbrev b_Re_hasReplyTo : ByteArray := prog_5_method_6_code
def y_Re_hasReplyTo : MethodName := ⟨R_Re, "hasReplyTo", "(I)Z"⟩
abbrev b_Re_partsOn : ByteArray := prog_5_method_7_code
def y_Re_partsOn : MethodName := ⟨R_Re, "partsOn", "(I)I"⟩
abbrev b_Re_sendCount : ByteArray := prog_5_method_8_code
def y_Re_sendCount : MethodName := ⟨R_Re, "sendCount", "()I"⟩
abbrev b_Re_sendsTo : ByteArray := prog_5_method_9_code
def y_Re_sendsTo : MethodName := ⟨R_Re, "sendsTo", "(I)I"⟩
abbrev b_Re_passesTest : ByteArray := prog_5_method_10_code
def y_Re_passesTest : MethodName := ⟨R_Re, "passesTest", "(II)Z"⟩
abbrev b_Re_guardHolds : ByteArray := prog_5_method_11_code
def y_Re_guardHolds : MethodName := ⟨R_Re, "guardHolds", "([I)Z"⟩
abbrev b_Re_evaluate : ByteArray := prog_5_method_12_code
def y_Re_evaluate : MethodName := ⟨R_Re, "evaluate", "(I[I)I"⟩
theorem cd_V_channel : Cond.code y_V_channel b_V_channel 2 (some .int) ∈ tbW := tb1_in (List.mem_of_getElem? (i := 166) rfl) rfl
theorem nm_V_channel : nmh y_V_channel 1 := ⟨by decide +kernel, by decide +kernel, by decide +kernel⟩
theorem cd_V_reaction : Cond.code y_V_reaction b_V_reaction 1 (some .int) ∈ tbW := tb1_in (List.mem_of_getElem? (i := 170) rfl) rfl
theorem nm_V_reaction : nmh y_V_reaction 0 := ⟨by decide +kernel, by decide +kernel, by decide +kernel⟩
theorem cd_V_part : Cond.code y_V_part b_V_part 5 (some .int) ∈ tbW := tb1_in (List.mem_of_getElem? (i := 174) rfl) rfl
theorem nm_V_part : nmh y_V_part 4 := ⟨by decide +kernel, by decide +kernel, by decide +kernel⟩
theorem cd_V_guard : Cond.code y_V_guard b_V_guard 4 (some .boolean) ∈ tbW := tb1_in (List.mem_of_getElem? (i := 193) rfl) rfl
theorem nm_V_guard : nmh y_V_guard 3 := ⟨by decide +kernel, by decide +kernel, by decide +kernel⟩
theorem cd_V_emit : Cond.code y_V_emit b_V_emit 6 (some .boolean) ∈ tbW := tb1_in (List.mem_of_getElem? (i := 197) rfl) rfl
theorem nm_V_emit : nmh y_V_emit 5 := ⟨by decide +kernel, by decide +kernel, by decide +kernel⟩
theorem cd_V_reply : Cond.code y_V_reply b_V_reply 7 (some .boolean) ∈ tbW := tb1_in (List.mem_of_getElem? (i := 218) rfl) rfl
theorem nm_V_reply : nmh y_V_reply 5 := ⟨by decide +kernel, by decide +kernel, by decide +kernel⟩
theorem cd_V_seal : Cond.code y_V_seal b_V_seal 2 (some .int) ∈ tbW := tb1_in (List.mem_of_getElem? (i := 227) rfl) rfl
theorem nm_V_seal : nmh y_V_seal 0 := ⟨by decide +kernel, by decide +kernel, by decide +kernel⟩
theorem cd_V_put : Cond.code y_V_put b_V_put 3 (some .int) ∈ tbW := tb1_in (List.mem_of_getElem? (i := 239) rfl) rfl
theorem nm_V_put : nmh y_V_put 2 := ⟨by decide +kernel, by decide +kernel, by decide +kernel⟩
theorem cd_V_call : Cond.code y_V_call b_V_call 3 (some .int) ∈ tbW := tb2_in (List.mem_of_getElem? (i := 19) rfl) rfl
theorem nm_V_call : nmh y_V_call 2 := ⟨by decide +kernel, by decide +kernel, by decide +kernel⟩
theorem cd_V_withdraw : Cond.code y_V_withdraw b_V_withdraw 3 (some .boolean) ∈ tbW := tb2_in (List.mem_of_getElem? (i := 23) rfl) rfl
theorem nm_V_withdraw : nmh y_V_withdraw 1 := ⟨by decide +kernel, by decide +kernel, by decide +kernel⟩
theorem cd_V_react : Cond.code y_V_react b_V_react 4 (some .int) ∈ tbW := tb2_in (List.mem_of_getElem? (i := 35) rfl) rfl
theorem nm_V_react : nmh y_V_react 1 := ⟨by decide +kernel, by decide +kernel, by decide +kernel⟩
theorem cd_V_enabled : Cond.code y_V_enabled b_V_enabled 3 (some .int) ∈ tbW := tb2_in (List.mem_of_getElem? (i := 108) rfl) rfl
theorem nm_V_enabled : nmh y_V_enabled 0 := ⟨by decide +kernel, by decide +kernel, by decide +kernel⟩
theorem cd_V_next : Cond.code y_V_next b_V_next 1 (some .int) ∈ tbW := tb2_in (List.mem_of_getElem? (i := 112) rfl) rfl
theorem nm_V_next : nmh y_V_next 0 := ⟨by decide +kernel, by decide +kernel, by decide +kernel⟩
theorem cd_V_taken : Cond.code y_V_taken b_V_taken 3 (some .int) ∈ tbW := tb2_in (List.mem_of_getElem? (i := 116) rfl) rfl
theorem nm_V_taken : nmh y_V_taken 1 := ⟨by decide +kernel, by decide +kernel, by decide +kernel⟩
theorem cd_V_pendingAt : Cond.code y_V_pendingAt b_V_pendingAt 3 (some .int) ∈ tbW := tb2_in (List.mem_of_getElem? (i := 120) rfl) rfl
theorem nm_V_pendingAt : nmh y_V_pendingAt 2 := ⟨by decide +kernel, by decide +kernel, by decide +kernel⟩
theorem cd_V_value : Cond.code y_V_value b_V_value 2 (some .int) ∈ tbW := tb2_in (List.mem_of_getElem? (i := 124) rfl) rfl
theorem nm_V_value : nmh y_V_value 1 := ⟨by decide +kernel, by decide +kernel, by decide +kernel⟩
theorem cd_V_state : Cond.code y_V_state b_V_state 2 (some .int) ∈ tbW := tb2_in (List.mem_of_getElem? (i := 128) rfl) rfl
theorem nm_V_state : nmh y_V_state 1 := ⟨by decide +kernel, by decide +kernel, by decide +kernel⟩
theorem cd_V_consumer : Cond.code y_V_consumer b_V_consumer 2 (some .int) ∈ tbW := tb2_in (List.mem_of_getElem? (i := 132) rfl) rfl
theorem nm_V_consumer : nmh y_V_consumer 1 := ⟨by decide +kernel, by decide +kernel, by decide +kernel⟩
theorem cd_V_answer : Cond.code y_V_answer b_V_answer 2 (some .int) ∈ tbW := tb2_in (List.mem_of_getElem? (i := 136) rfl) rfl
theorem nm_V_answer : nmh y_V_answer 1 := ⟨by decide +kernel, by decide +kernel, by decide +kernel⟩
theorem cd_V_fired : Cond.code y_V_fired b_V_fired 2 (some .int) ∈ tbW := tb2_in (List.mem_of_getElem? (i := 140) rfl) rfl
theorem nm_V_fired : nmh y_V_fired 1 := ⟨by decide +kernel, by decide +kernel, by decide +kernel⟩
theorem cd_V_isWithin : Cond.code y_V_isWithin b_V_isWithin 2 (some .boolean) ∈ tbW := tb1_in (List.mem_of_getElem? (i := 185) rfl) rfl
theorem nm_V_isWithin : nmh y_V_isWithin 2 := ⟨by decide +kernel, by decide +kernel, by decide +kernel⟩
theorem cd_V_isChannel : Cond.code y_V_isChannel b_V_isChannel 2 (some .boolean) ∈ tbW := tb1_in (List.mem_of_getElem? (i := 182) rfl) rfl
theorem nm_V_isChannel : nmh y_V_isChannel 1 := ⟨by decide +kernel, by decide +kernel, by decide +kernel⟩
theorem cd_V_isChannelOf : Cond.code y_V_isChannelOf b_V_isChannelOf 3 (some .boolean) ∈ tbW := tb1_in (List.mem_of_getElem? (i := 201) rfl) rfl
theorem nm_V_isChannelOf : nmh y_V_isChannelOf 2 := ⟨by decide +kernel, by decide +kernel, by decide +kernel⟩
theorem cd_V_mayBuild : Cond.code y_V_mayBuild b_V_mayBuild 2 (some .boolean) ∈ tbW := tb1_in (List.mem_of_getElem? (i := 178) rfl) rfl
theorem nm_V_mayBuild : nmh y_V_mayBuild 1 := ⟨by decide +kernel, by decide +kernel, by decide +kernel⟩
theorem cd_V_obstacleToSealing : Cond.code y_V_obstacleToSealing b_V_obstacleToSealing 2 (some .int) ∈ tbW := tb1_in (List.mem_of_getElem? (i := 231) rfl) rfl
theorem nm_V_obstacleToSealing : nmh y_V_obstacleToSealing 0 := ⟨by decide +kernel, by decide +kernel, by decide +kernel⟩
theorem cd_V_leavesCallUnanswered : Cond.code y_V_leavesCallUnanswered b_V_leavesCallUnanswered 3 (some .boolean) ∈ tbW := tb1_in (List.mem_of_getElem? (i := 235) rfl) rfl
theorem nm_V_leavesCallUnanswered : nmh y_V_leavesCallUnanswered 1 := ⟨by decide +kernel, by decide +kernel, by decide +kernel⟩
theorem cd_V_admit : Cond.code y_V_admit b_V_admit 4 (some .int) ∈ tbW := tb2_in (List.mem_of_getElem? (i := 3) rfl) rfl
theorem nm_V_admit : nmh y_V_admit 3 := ⟨by decide +kernel, by decide +kernel, by decide +kernel⟩
theorem cd_V_makeMessage : Cond.code y_V_makeMessage b_V_makeMessage 4 (some .int) ∈ tbW := tb2_in (List.mem_of_getElem? (i := 7) rfl) rfl
theorem nm_V_makeMessage : nmh y_V_makeMessage 2 := ⟨by decide +kernel, by decide +kernel, by decide +kernel⟩
theorem cd_V_findNext : Cond.code y_V_findNext b_V_findNext 4 (some .int) ∈ tbW := tb2_in (List.mem_of_getElem? (i := 39) rfl) rfl
theorem nm_V_findNext : nmh y_V_findNext 0 := ⟨by decide +kernel, by decide +kernel, by decide +kernel⟩
theorem cd_V_findEnabledMatch : Cond.code y_V_findEnabledMatch b_V_findEnabledMatch 2 (some .boolean) ∈ tbW := tb2_in (List.mem_of_getElem? (i := 43) rfl) rfl
theorem nm_V_findEnabledMatch : nmh y_V_findEnabledMatch 1 := ⟨by decide +kernel, by decide +kernel, by decide +kernel⟩
theorem cd_V_hasRoom : Cond.code y_V_hasRoom b_V_hasRoom 4 (some .boolean) ∈ tbW := tb2_in (List.mem_of_getElem? (i := 47) rfl) rfl
theorem nm_V_hasRoom : nmh y_V_hasRoom 1 := ⟨by decide +kernel, by decide +kernel, by decide +kernel⟩
theorem cd_V_fillMatch : Cond.code y_V_fillMatch b_V_fillMatch 9 (some .boolean) ∈ tbW := tb2_in (List.mem_of_getElem? (i := 62) rfl) rfl
theorem nm_V_fillMatch : nmh y_V_fillMatch 5 := ⟨by decide +kernel, by decide +kernel, by decide +kernel⟩
theorem cd_V_fire : Cond.code y_V_fire b_V_fire 5 none ∈ tbW := tb2_in (List.mem_of_getElem? (i := 90) rfl) rfl
theorem nm_V_fire : nmh y_V_fire 1 := ⟨by decide +kernel, by decide +kernel, by decide +kernel⟩
theorem cd_V_consume : Cond.code y_V_consume b_V_consume 2 none ∈ tbW := tb2_in (List.mem_of_getElem? (i := 94) rfl) rfl
theorem nm_V_consume : nmh y_V_consume 1 := ⟨by decide +kernel, by decide +kernel, by decide +kernel⟩
theorem cd_V_sum : Cond.code y_V_sum b_V_sum 5 (some .long) ∈ tbW := tb2_in (List.mem_of_getElem? (i := 78) rfl) rfl
theorem nm_V_sum : nmh y_V_sum 2 := ⟨by decide +kernel, by decide +kernel, by decide +kernel⟩
theorem cd_V_greatest : Cond.code y_V_greatest b_V_greatest 4 (some .int) ∈ tbW := tb2_in (List.mem_of_getElem? (i := 101) rfl) rfl
theorem nm_V_greatest : nmh y_V_greatest 2 := ⟨by decide +kernel, by decide +kernel, by decide +kernel⟩
theorem cd_V_allRise : Cond.code y_V_allRise b_V_allRise 3 (some .boolean) ∈ tbW := tb2_in (List.mem_of_getElem? (i := 69) rfl) rfl
theorem nm_V_allRise : nmh y_V_allRise 2 := ⟨by decide +kernel, by decide +kernel, by decide +kernel⟩
theorem cd_V_allEqual : Cond.code y_V_allEqual b_V_allEqual 3 (some .boolean) ∈ tbW := tb2_in (List.mem_of_getElem? (i := 72) rfl) rfl
theorem nm_V_allEqual : nmh y_V_allEqual 2 := ⟨by decide +kernel, by decide +kernel, by decide +kernel⟩
theorem cd_V_allDiffer : Cond.code y_V_allDiffer b_V_allDiffer 4 (some .boolean) ∈ tbW := tb2_in (List.mem_of_getElem? (i := 75) rfl) rfl
theorem nm_V_allDiffer : nmh y_V_allDiffer 2 := ⟨by decide +kernel, by decide +kernel, by decide +kernel⟩
theorem cd_M_channel : Cond.code y_M_channel b_M_channel 2 (some .int) ∈ tbW := tb2_in (List.mem_of_getElem? (i := 235) rfl) rfl
theorem nm_M_channel : nmh y_M_channel 1 := ⟨by decide +kernel, by decide +kernel, by decide +kernel⟩
theorem cd_M_reaction : Cond.code y_M_reaction b_M_reaction 1 (some .int) ∈ tbW := tb2_in (List.mem_of_getElem? (i := 239) rfl) rfl
theorem nm_M_reaction : nmh y_M_reaction 0 := ⟨by decide +kernel, by decide +kernel, by decide +kernel⟩
theorem cd_M_open : Cond.code y_M_open b_M_open 2 (some .boolean) ∈ tbW := tb3_in (List.mem_of_getElem? (i := 7) rfl) rfl
theorem nm_M_open : nmh y_M_open 1 := ⟨by decide +kernel, by decide +kernel, by decide +kernel⟩
theorem cd_M_isChannel : Cond.code y_M_isChannel b_M_isChannel 2 (some .boolean) ∈ tbW := tb3_in (List.mem_of_getElem? (i := 11) rfl) rfl
theorem nm_M_isChannel : nmh y_M_isChannel 1 := ⟨by decide +kernel, by decide +kernel, by decide +kernel⟩
theorem cd_M_hasPart : Cond.code y_M_hasPart b_M_hasPart 3 (some .boolean) ∈ tbW := tb3_in (List.mem_of_getElem? (i := 27) rfl) rfl
theorem nm_M_hasPart : nmh y_M_hasPart 2 := ⟨by decide +kernel, by decide +kernel, by decide +kernel⟩
theorem cd_M_part : Cond.code y_M_part b_M_part 6 (some .int) ∈ tbW := tb3_in (List.mem_of_getElem? (i := 3) rfl) rfl
theorem nm_M_part : nmh y_M_part 4 := ⟨by decide +kernel, by decide +kernel, by decide +kernel⟩
theorem cd_M_guard : Cond.code y_M_guard b_M_guard 4 (some .boolean) ∈ tbW := tb3_in (List.mem_of_getElem? (i := 15) rfl) rfl
theorem nm_M_guard : nmh y_M_guard 3 := ⟨by decide +kernel, by decide +kernel, by decide +kernel⟩
theorem cd_M_expression : Cond.code y_M_expression b_M_expression 4 (some .boolean) ∈ tbW := tb3_in (List.mem_of_getElem? (i := 23) rfl) rfl
theorem nm_M_expression : nmh y_M_expression 3 := ⟨by decide +kernel, by decide +kernel, by decide +kernel⟩
theorem cd_M_act : Cond.code y_M_act b_M_act 7 none ∈ tbW := tb3_in (List.mem_of_getElem? (i := 31) rfl) rfl
theorem nm_M_act : nmh y_M_act 5 := ⟨by decide +kernel, by decide +kernel, by decide +kernel⟩
theorem cd_M_emit : Cond.code y_M_emit b_M_emit 6 (some .boolean) ∈ tbW := tb3_in (List.mem_of_getElem? (i := 19) rfl) rfl
theorem nm_M_emit : nmh y_M_emit 5 := ⟨by decide +kernel, by decide +kernel, by decide +kernel⟩
theorem cd_M_answersPart : Cond.code y_M_answersPart b_M_answersPart 5 (some .boolean) ∈ tbW := tb3_in (List.mem_of_getElem? (i := 39) rfl) rfl
theorem nm_M_answersPart : nmh y_M_answersPart 2 := ⟨by decide +kernel, by decide +kernel, by decide +kernel⟩
theorem cd_M_reply : Cond.code y_M_reply b_M_reply 6 (some .boolean) ∈ tbW := tb3_in (List.mem_of_getElem? (i := 35) rfl) rfl
theorem nm_M_reply : nmh y_M_reply 5 := ⟨by decide +kernel, by decide +kernel, by decide +kernel⟩
theorem cd_M_seal : Cond.code y_M_seal b_M_seal 5 (some .int) ∈ tbW := tb3_in (List.mem_of_getElem? (i := 43) rfl) rfl
theorem nm_M_seal : nmh y_M_seal 0 := ⟨by decide +kernel, by decide +kernel, by decide +kernel⟩
theorem cd_M_make : Cond.code y_M_make b_M_make 3 (some .int) ∈ tbW := tb3_in (List.mem_of_getElem? (i := 59) rfl) rfl
theorem nm_M_make : nmh y_M_make 2 := ⟨by decide +kernel, by decide +kernel, by decide +kernel⟩
theorem cd_M_gather : Cond.code y_M_gather b_M_gather 3 none ∈ tbW := tb3_in (List.mem_of_getElem? (i := 55) rfl) rfl
theorem nm_M_gather : nmh y_M_gather 0 := ⟨by decide +kernel, by decide +kernel, by decide +kernel⟩
theorem cd_M_enter : Cond.code y_M_enter b_M_enter 4 (some .int) ∈ tbW := tb3_in (List.mem_of_getElem? (i := 51) rfl) rfl
theorem nm_M_enter : nmh y_M_enter 3 := ⟨by decide +kernel, by decide +kernel, by decide +kernel⟩
theorem cd_M_put : Cond.code y_M_put b_M_put 3 (some .int) ∈ tbW := tb3_in (List.mem_of_getElem? (i := 47) rfl) rfl
theorem nm_M_put : nmh y_M_put 2 := ⟨by decide +kernel, by decide +kernel, by decide +kernel⟩
theorem cd_M_call : Cond.code y_M_call b_M_call 3 (some .int) ∈ tbW := tb3_in (List.mem_of_getElem? (i := 63) rfl) rfl
theorem nm_M_call : nmh y_M_call 2 := ⟨by decide +kernel, by decide +kernel, by decide +kernel⟩
theorem cd_M_isMessage : Cond.code y_M_isMessage b_M_isMessage 2 (some .boolean) ∈ tbW := tb3_in (List.mem_of_getElem? (i := 71) rfl) rfl
theorem nm_M_isMessage : nmh y_M_isMessage 1 := ⟨by decide +kernel, by decide +kernel, by decide +kernel⟩
theorem cd_M_withdraw : Cond.code y_M_withdraw b_M_withdraw 2 (some .boolean) ∈ tbW := tb3_in (List.mem_of_getElem? (i := 67) rfl) rfl
theorem nm_M_withdraw : nmh y_M_withdraw 1 := ⟨by decide +kernel, by decide +kernel, by decide +kernel⟩
theorem cd_M_passes : Cond.code y_M_passes b_M_passes 5 (some .boolean) ∈ tbW := tb3_in (List.mem_of_getElem? (i := 95) rfl) rfl
theorem nm_M_passes : nmh y_M_passes 2 := ⟨by decide +kernel, by decide +kernel, by decide +kernel⟩
theorem cd_M_guarded : Cond.code y_M_guarded b_M_guarded 11 (some .boolean) ∈ tbW := tb3_in (List.mem_of_getElem? (i := 99) rfl) rfl
theorem nm_M_guarded : nmh y_M_guarded 1 := ⟨by decide +kernel, by decide +kernel, by decide +kernel⟩
theorem cd_M_chosen : Cond.code y_M_chosen b_M_chosen 3 (some .int) ∈ tbW := tb3_in (List.mem_of_getElem? (i := 91) rfl) rfl
theorem nm_M_chosen : nmh y_M_chosen 2 := ⟨by decide +kernel, by decide +kernel, by decide +kernel⟩
theorem cd_M_matches : Cond.code y_M_matches b_M_matches 6 (some .boolean) ∈ tbW := tb3_in (List.mem_of_getElem? (i := 87) rfl) rfl
theorem nm_M_matches : nmh y_M_matches 1 := ⟨by decide +kernel, by decide +kernel, by decide +kernel⟩
theorem cd_M_find : Cond.code y_M_find b_M_find 7 (some .boolean) ∈ tbW := tb3_in (List.mem_of_getElem? (i := 83) rfl) rfl
theorem nm_M_find : nmh y_M_find 1 := ⟨by decide +kernel, by decide +kernel, by decide +kernel⟩
theorem cd_M_room : Cond.code y_M_room b_M_room 8 (some .boolean) ∈ tbW := tb3_in (List.mem_of_getElem? (i := 79) rfl) rfl
theorem nm_M_room : nmh y_M_room 1 := ⟨by decide +kernel, by decide +kernel, by decide +kernel⟩
theorem cd_M_enabled : Cond.code y_M_enabled b_M_enabled 3 (some .int) ∈ tbW := tb3_in (List.mem_of_getElem? (i := 75) rfl) rfl
theorem nm_M_enabled : nmh y_M_enabled 0 := ⟨by decide +kernel, by decide +kernel, by decide +kernel⟩
theorem cd_M_next : Cond.code y_M_next b_M_next 5 (some .int) ∈ tbW := tb3_in (List.mem_of_getElem? (i := 103) rfl) rfl
theorem nm_M_next : nmh y_M_next 0 := ⟨by decide +kernel, by decide +kernel, by decide +kernel⟩
theorem cd_M_taken : Cond.code y_M_taken b_M_taken 3 (some .int) ∈ tbW := tb3_in (List.mem_of_getElem? (i := 108) rfl) rfl
theorem nm_M_taken : nmh y_M_taken 1 := ⟨by decide +kernel, by decide +kernel, by decide +kernel⟩
theorem cd_M_result : Cond.code y_M_result b_M_result 7 (some .int) ∈ tbW := tb3_in (List.mem_of_getElem? (i := 121) rfl) rfl
theorem nm_M_result : nmh y_M_result 2 := ⟨by decide +kernel, by decide +kernel, by decide +kernel⟩
theorem cd_M_fire : Cond.code y_M_fire b_M_fire 5 none ∈ tbW := tb3_in (List.mem_of_getElem? (i := 117) rfl) rfl
theorem nm_M_fire : nmh y_M_fire 1 := ⟨by decide +kernel, by decide +kernel, by decide +kernel⟩
theorem cd_M_react : Cond.code y_M_react b_M_react 4 (some .int) ∈ tbW := tb3_in (List.mem_of_getElem? (i := 113) rfl) rfl
theorem nm_M_react : nmh y_M_react 1 := ⟨by decide +kernel, by decide +kernel, by decide +kernel⟩
theorem cd_M_pendingAt : Cond.code y_M_pendingAt b_M_pendingAt 3 (some .int) ∈ tbW := tb3_in (List.mem_of_getElem? (i := 125) rfl) rfl
theorem nm_M_pendingAt : nmh y_M_pendingAt 2 := ⟨by decide +kernel, by decide +kernel, by decide +kernel⟩
theorem cd_M_value : Cond.code y_M_value b_M_value 2 (some .int) ∈ tbW := tb3_in (List.mem_of_getElem? (i := 129) rfl) rfl
theorem nm_M_value : nmh y_M_value 1 := ⟨by decide +kernel, by decide +kernel, by decide +kernel⟩
theorem cd_M_state : Cond.code y_M_state b_M_state 2 (some .int) ∈ tbW := tb3_in (List.mem_of_getElem? (i := 133) rfl) rfl
theorem nm_M_state : nmh y_M_state 1 := ⟨by decide +kernel, by decide +kernel, by decide +kernel⟩
theorem cd_M_consumer : Cond.code y_M_consumer b_M_consumer 2 (some .int) ∈ tbW := tb3_in (List.mem_of_getElem? (i := 137) rfl) rfl
theorem nm_M_consumer : nmh y_M_consumer 1 := ⟨by decide +kernel, by decide +kernel, by decide +kernel⟩
theorem cd_M_answer : Cond.code y_M_answer b_M_answer 2 (some .int) ∈ tbW := tb3_in (List.mem_of_getElem? (i := 141) rfl) rfl
theorem nm_M_answer : nmh y_M_answer 1 := ⟨by decide +kernel, by decide +kernel, by decide +kernel⟩
theorem cd_M_fired : Cond.code y_M_fired b_M_fired 2 (some .int) ∈ tbW := tb3_in (List.mem_of_getElem? (i := 145) rfl) rfl
theorem nm_M_fired : nmh y_M_fired 1 := ⟨by decide +kernel, by decide +kernel, by decide +kernel⟩
theorem cd_Ch_addPending : Cond.code y_Ch_addPending b_Ch_addPending 2 none ∈ tbW := tb2_in (List.mem_of_getElem? (i := 15) rfl) rfl
theorem nm_Ch_addPending : nmh y_Ch_addPending 1 := ⟨by decide +kernel, by decide +kernel, by decide +kernel⟩
theorem cd_Ch_removePending : Cond.code y_Ch_removePending b_Ch_removePending 4 none ∈ tbW := tb2_in (List.mem_of_getElem? (i := 31) rfl) rfl
theorem nm_Ch_removePending : nmh y_Ch_removePending 1 := ⟨by decide +kernel, by decide +kernel, by decide +kernel⟩
theorem cd_Mt_holdsBefore : Cond.code y_Mt_holdsBefore b_Mt_holdsBefore 4 (some .boolean) ∈ tbW := tb2_in (List.mem_of_getElem? (i := 86) rfl) rfl
theorem nm_Mt_holdsBefore : nmh y_Mt_holdsBefore 2 := ⟨by decide +kernel, by decide +kernel, by decide +kernel⟩
theorem cd_Ms_has : Cond.code y_Ms_has b_Ms_has 2 (some .boolean) ∈ tbW := tb2_in (List.mem_of_getElem? (i := 27) rfl) rfl
theorem nm_Ms_has : nmh y_Ms_has 1 := ⟨by decide +kernel, by decide +kernel, by decide +kernel⟩
theorem cd_Ms_add : Cond.code y_Ms_add b_Ms_add 4 (some .int) ∈ tbW := tb2_in (List.mem_of_getElem? (i := 11) rfl) rfl
theorem nm_Ms_add : nmh y_Ms_add 2 := ⟨by decide +kernel, by decide +kernel, by decide +kernel⟩
theorem cd_Re_addPart : Cond.code y_Re_addPart b_Re_addPart 5 (some .int) ∈ tbW := tb1_in (List.mem_of_getElem? (i := 189) rfl) rfl
theorem nm_Re_addPart : nmh y_Re_addPart 3 := ⟨by decide +kernel, by decide +kernel, by decide +kernel⟩
theorem cd_Re_hasPart : Cond.code y_Re_hasPart b_Re_hasPart 2 (some .boolean) ∈ tbW := tb1_in (List.mem_of_getElem? (i := 210) rfl) rfl
theorem nm_Re_hasPart : nmh y_Re_hasPart 1 := ⟨by decide +kernel, by decide +kernel, by decide +kernel⟩
theorem cd_Re_mayAddAction : Cond.code y_Re_mayAddAction b_Re_mayAddAction 4 (some .boolean) ∈ tbW := tb1_in (List.mem_of_getElem? (i := 205) rfl) rfl
theorem nm_Re_mayAddAction : nmh y_Re_mayAddAction 2 := ⟨by decide +kernel, by decide +kernel, by decide +kernel⟩
theorem cd_Re_addAction : Cond.code y_Re_addAction b_Re_addAction 7 none ∈ tbW := tb1_in (List.mem_of_getElem? (i := 214) rfl) rfl
theorem nm_Re_addAction : nmh y_Re_addAction 5 := ⟨by decide +kernel, by decide +kernel, by decide +kernel⟩
theorem cd_Re_hasReplyTo : Cond.code y_Re_hasReplyTo b_Re_hasReplyTo 3 (some .boolean) ∈ tbW := tb1_in (List.mem_of_getElem? (i := 223) rfl) rfl
theorem nm_Re_hasReplyTo : nmh y_Re_hasReplyTo 1 := ⟨by decide +kernel, by decide +kernel, by decide +kernel⟩
theorem cd_Re_partsOn : Cond.code y_Re_partsOn b_Re_partsOn 4 (some .int) ∈ tbW := tb2_in (List.mem_of_getElem? (i := 55) rfl) rfl
theorem nm_Re_partsOn : nmh y_Re_partsOn 1 := ⟨by decide +kernel, by decide +kernel, by decide +kernel⟩
theorem cd_Re_sendCount : Cond.code y_Re_sendCount b_Re_sendCount 3 (some .int) ∈ tbW := tb2_in (List.mem_of_getElem? (i := 51) rfl) rfl
theorem nm_Re_sendCount : nmh y_Re_sendCount 0 := ⟨by decide +kernel, by decide +kernel, by decide +kernel⟩
theorem cd_Re_sendsTo : Cond.code y_Re_sendsTo b_Re_sendsTo 4 (some .int) ∈ tbW := tb2_in (List.mem_of_getElem? (i := 59) rfl) rfl
theorem nm_Re_sendsTo : nmh y_Re_sendsTo 1 := ⟨by decide +kernel, by decide +kernel, by decide +kernel⟩
theorem cd_Re_passesTest : Cond.code y_Re_passesTest b_Re_passesTest 4 (some .boolean) ∈ tbW := tb2_in (List.mem_of_getElem? (i := 82) rfl) rfl
theorem nm_Re_passesTest : nmh y_Re_passesTest 2 := ⟨by decide +kernel, by decide +kernel, by decide +kernel⟩
theorem cd_Re_guardHolds : Cond.code y_Re_guardHolds b_Re_guardHolds 2 (some .boolean) ∈ tbW := tb2_in (List.mem_of_getElem? (i := 66) rfl) rfl
theorem nm_Re_guardHolds : nmh y_Re_guardHolds 1 := ⟨by decide +kernel, by decide +kernel, by decide +kernel⟩
theorem cd_Re_evaluate : Cond.code y_Re_evaluate b_Re_evaluate 4 (some .int) ∈ tbW := tb2_in (List.mem_of_getElem? (i := 98) rfl) rfl
theorem nm_Re_evaluate : nmh y_Re_evaluate 2 := ⟨by decide +kernel, by decide +kernel, by decide +kernel⟩
theorem lk1 : Cond.fieldLink R_V 28 "JoinVessel" "isSealed" "Z" ∈ tbW := tb1_in (List.mem_of_getElem? (i := 139) rfl) rfl
theorem lk2 : Cond.fieldLink R_V 15 "JoinVessel" "channelCount" "I" ∈ tbW := tb1_in (List.mem_of_getElem? (i := 136) rfl) rfl
theorem lk3 : Cond.fieldLink R_V 11 "JoinVessel" "channels" "[LJoinVessel$Channel;" ∈ tbW := tb1_in (List.mem_of_getElem? (i := 135) rfl) rfl
theorem lk4 : Cond.fieldLinkNest R_V 55 "JoinVessel$Channel" "isAnswered" "Z" "JoinVessel" ∈ tbW := tb1_in (List.mem_of_getElem? (i := 73) rfl) rfl
theorem lk5 : Cond.fieldLink R_V 25 "JoinVessel" "reactionCount" "I" ∈ tbW := tb1_in (List.mem_of_getElem? (i := 138) rfl) rfl
theorem lk6 : Cond.fieldLink R_Re 9 "JoinVessel$Reaction" "partCount" "I" ∈ tbW := tb1_in (List.mem_of_getElem? (i := 90) rfl) rfl
theorem lk7 : Cond.fieldLink R_Re 15 "JoinVessel$Reaction" "partChannels" "[I" ∈ tbW := tb1_in (List.mem_of_getElem? (i := 92) rfl) rfl
theorem lk8 : Cond.fieldLink R_Re 19 "JoinVessel$Reaction" "partTests" "[I" ∈ tbW := tb1_in (List.mem_of_getElem? (i := 94) rfl) rfl
theorem lk9 : Cond.fieldLink R_Re 22 "JoinVessel$Reaction" "partNumbers" "[I" ∈ tbW := tb1_in (List.mem_of_getElem? (i := 95) rfl) rfl
theorem lk10 : Cond.methodLink R_V 58 y_V_mayBuild ∈ tbW := tb1_in (List.mem_of_getElem? (i := 175) rfl) rfl
theorem lk11 : Cond.initialized R_V ∈ tbW := tb1_in (List.mem_of_getElem? (i := 1) rfl) rfl
theorem lk12 : Cond.instanceMethod y_V_mayBuild ∈ tbW := tb1_in (List.mem_of_getElem? (i := 177) rfl) rfl
theorem lk13 : Cond.selects R_V y_V_mayBuild y_V_mayBuild ∈ tbW := tbs_in (List.mem_of_getElem? (i := 0) rfl) rfl
theorem lk14 : Cond.methodLink R_V 62 y_V_isChannel ∈ tbW := tb1_in (List.mem_of_getElem? (i := 179) rfl) rfl
theorem lk15 : Cond.instanceMethod y_V_isChannel ∈ tbW := tb1_in (List.mem_of_getElem? (i := 181) rfl) rfl
theorem lk16 : Cond.selects R_V y_V_isChannel y_V_isChannel ∈ tbW := tbs_in (List.mem_of_getElem? (i := 1) rfl) rfl
theorem lk17 : Cond.methodLink R_V 65 y_V_isWithin ∈ tbW := tb1_in (List.mem_of_getElem? (i := 183) rfl) rfl
theorem lk18 : Cond.static y_V_isWithin ∈ tbW := tb1_in (List.mem_of_getElem? (i := 184) rfl) rfl
theorem lk19 : Cond.fieldLink R_V 21 "JoinVessel" "reactions" "[LJoinVessel$Reaction;" ∈ tbW := tb1_in (List.mem_of_getElem? (i := 137) rfl) rfl
theorem lk20 : Cond.fieldLinkNest R_V 69 "JoinVessel$Reaction" "partCount" "I" "JoinVessel" ∈ tbW := tb1_in (List.mem_of_getElem? (i := 91) rfl) rfl
theorem lk21 : Cond.methodLinkNest R_V 72 y_Re_addPart "JoinVessel" ∈ tbW := tb1_in (List.mem_of_getElem? (i := 186) rfl) rfl
theorem lk22 : Cond.initialized R_Re ∈ tbW := tb1_in (List.mem_of_getElem? (i := 5) rfl) rfl
theorem lk23 : Cond.instanceMethod y_Re_addPart ∈ tbW := tb1_in (List.mem_of_getElem? (i := 188) rfl) rfl
theorem lk24 : Cond.selects R_Re y_Re_addPart y_Re_addPart ∈ tbW := tbs_in (List.mem_of_getElem? (i := 2) rfl) rfl
theorem lk25 : Cond.fieldLinkNest R_V 76 "JoinVessel$Reaction" "guardKind" "I" "JoinVessel" ∈ tbW := tb1_in (List.mem_of_getElem? (i := 97) rfl) rfl
theorem lk26 : Cond.fieldLinkNest R_V 79 "JoinVessel$Reaction" "guardNumber" "I" "JoinVessel" ∈ tbW := tb1_in (List.mem_of_getElem? (i := 99) rfl) rfl
theorem lk27 : Cond.methodLink R_Re 54 y_Re_hasPart ∈ tbW := tb1_in (List.mem_of_getElem? (i := 207) rfl) rfl
theorem lk28 : Cond.instanceMethod y_Re_hasPart ∈ tbW := tb1_in (List.mem_of_getElem? (i := 209) rfl) rfl
theorem lk29 : Cond.selects R_Re y_Re_hasPart y_Re_hasPart ∈ tbW := tbs_in (List.mem_of_getElem? (i := 5) rfl) rfl
theorem lk30 : Cond.methodLinkNest R_Re 50 y_V_isWithin "JoinVessel" ∈ tbW := tb1_in (List.mem_of_getElem? (i := 206) rfl) rfl
theorem lk31 : Cond.fieldLink R_Re 31 "JoinVessel$Reaction" "actionCount" "I" ∈ tbW := tb1_in (List.mem_of_getElem? (i := 100) rfl) rfl
theorem lk32 : Cond.fieldLink R_Re 34 "JoinVessel$Reaction" "actionSends" "[Z" ∈ tbW := tb1_in (List.mem_of_getElem? (i := 102) rfl) rfl
theorem lk33 : Cond.fieldLink R_Re 38 "JoinVessel$Reaction" "actionTargets" "[I" ∈ tbW := tb1_in (List.mem_of_getElem? (i := 104) rfl) rfl
theorem lk34 : Cond.fieldLink R_Re 41 "JoinVessel$Reaction" "actionKinds" "[I" ∈ tbW := tb1_in (List.mem_of_getElem? (i := 106) rfl) rfl
theorem lk35 : Cond.fieldLink R_Re 44 "JoinVessel$Reaction" "actionParts" "[I" ∈ tbW := tb1_in (List.mem_of_getElem? (i := 107) rfl) rfl
theorem lk36 : Cond.fieldLink R_Re 47 "JoinVessel$Reaction" "actionNumbers" "[I" ∈ tbW := tb1_in (List.mem_of_getElem? (i := 108) rfl) rfl
theorem lk37 : Cond.methodLink R_V 82 y_V_isChannelOf ∈ tbW := tb1_in (List.mem_of_getElem? (i := 198) rfl) rfl
theorem lk38 : Cond.instanceMethod y_V_isChannelOf ∈ tbW := tb1_in (List.mem_of_getElem? (i := 200) rfl) rfl
theorem lk39 : Cond.selects R_V y_V_isChannelOf y_V_isChannelOf ∈ tbW := tbs_in (List.mem_of_getElem? (i := 3) rfl) rfl
theorem lk40 : Cond.methodLinkNest R_V 86 y_Re_mayAddAction "JoinVessel" ∈ tbW := tb1_in (List.mem_of_getElem? (i := 202) rfl) rfl
theorem lk41 : Cond.instanceMethod y_Re_mayAddAction ∈ tbW := tb1_in (List.mem_of_getElem? (i := 204) rfl) rfl
theorem lk42 : Cond.selects R_Re y_Re_mayAddAction y_Re_mayAddAction ∈ tbW := tbs_in (List.mem_of_getElem? (i := 4) rfl) rfl
theorem lk43 : Cond.methodLinkNest R_V 89 y_Re_addAction "JoinVessel" ∈ tbW := tb1_in (List.mem_of_getElem? (i := 211) rfl) rfl
theorem lk44 : Cond.instanceMethod y_Re_addAction ∈ tbW := tb1_in (List.mem_of_getElem? (i := 213) rfl) rfl
theorem lk45 : Cond.selects R_Re y_Re_addAction y_Re_addAction ∈ tbW := tbs_in (List.mem_of_getElem? (i := 6) rfl) rfl
theorem lk46 : Cond.methodLinkNest R_V 93 y_Re_hasPart "JoinVessel" ∈ tbW := tb1_in (List.mem_of_getElem? (i := 219) rfl) rfl
theorem lk47 : Cond.fieldLinkNest R_V 96 "JoinVessel$Reaction" "partChannels" "[I" "JoinVessel" ∈ tbW := tb1_in (List.mem_of_getElem? (i := 93) rfl) rfl
theorem lk48 : Cond.methodLinkNest R_V 99 y_Re_hasReplyTo "JoinVessel" ∈ tbW := tb1_in (List.mem_of_getElem? (i := 220) rfl) rfl
theorem lk49 : Cond.instanceMethod y_Re_hasReplyTo ∈ tbW := tb1_in (List.mem_of_getElem? (i := 222) rfl) rfl
theorem lk50 : Cond.selects R_Re y_Re_hasReplyTo y_Re_hasReplyTo ∈ tbW := tbs_in (List.mem_of_getElem? (i := 7) rfl) rfl
theorem lk51 : Cond.methodLink R_V 150 y_V_leavesCallUnanswered ∈ tbW := tb1_in (List.mem_of_getElem? (i := 232) rfl) rfl
theorem lk52 : Cond.instanceMethod y_V_leavesCallUnanswered ∈ tbW := tb1_in (List.mem_of_getElem? (i := 234) rfl) rfl
theorem lk53 : Cond.selects R_V y_V_leavesCallUnanswered y_V_leavesCallUnanswered ∈ tbW := tbs_in (List.mem_of_getElem? (i := 9) rfl) rfl
theorem lk54 : Cond.methodLink R_V 102 y_V_obstacleToSealing ∈ tbW := tb1_in (List.mem_of_getElem? (i := 228) rfl) rfl
theorem lk55 : Cond.instanceMethod y_V_obstacleToSealing ∈ tbW := tb1_in (List.mem_of_getElem? (i := 230) rfl) rfl
theorem lk56 : Cond.selects R_V y_V_obstacleToSealing y_V_obstacleToSealing ∈ tbW := tbs_in (List.mem_of_getElem? (i := 8) rfl) rfl
theorem lk57 : Cond.fieldLink R_Ms 9 "JoinVessel$Messages" "count" "I" ∈ tbW := tb1_in (List.mem_of_getElem? (i := 26) rfl) rfl
theorem lk58 : Cond.fieldLink R_Ms 15 "JoinVessel$Messages" "channelNumbers" "[I" ∈ tbW := tb1_in (List.mem_of_getElem? (i := 28) rfl) rfl
theorem lk59 : Cond.fieldLink R_Ms 19 "JoinVessel$Messages" "values" "[I" ∈ tbW := tb1_in (List.mem_of_getElem? (i := 30) rfl) rfl
theorem lk60 : Cond.fieldLink R_Ms 22 "JoinVessel$Messages" "states" "[I" ∈ tbW := tb1_in (List.mem_of_getElem? (i := 32) rfl) rfl
theorem lk61 : Cond.fieldLink R_Ms 25 "JoinVessel$Messages" "consumers" "[I" ∈ tbW := tb1_in (List.mem_of_getElem? (i := 34) rfl) rfl
theorem lk62 : Cond.fieldLink R_Ch 15 "JoinVessel$Channel" "pendingNumbers" "[I" ∈ tbW := tb1_in (List.mem_of_getElem? (i := 74) rfl) rfl
theorem lk63 : Cond.fieldLink R_Ch 19 "JoinVessel$Channel" "pendingCount" "I" ∈ tbW := tb1_in (List.mem_of_getElem? (i := 76) rfl) rfl
theorem lk64 : Cond.fieldLink R_V 35 "JoinVessel" "messages" "LJoinVessel$Messages;" ∈ tbW := tb1_in (List.mem_of_getElem? (i := 140) rfl) rfl
theorem lk65 : Cond.methodLinkNest R_V 161 y_Ms_add "JoinVessel" ∈ tbW := tb2_in (List.mem_of_getElem? (i := 8) rfl) rfl
theorem lk66 : Cond.initialized R_Ms ∈ tbW := tb1_in (List.mem_of_getElem? (i := 2) rfl) rfl
theorem lk67 : Cond.instanceMethod y_Ms_add ∈ tbW := tb2_in (List.mem_of_getElem? (i := 10) rfl) rfl
theorem lk68 : Cond.selects R_Ms y_Ms_add y_Ms_add ∈ tbW := tbs_in (List.mem_of_getElem? (i := 12) rfl) rfl
theorem lk69 : Cond.methodLinkNest R_V 164 y_Ch_addPending "JoinVessel" ∈ tbW := tb2_in (List.mem_of_getElem? (i := 12) rfl) rfl
theorem lk70 : Cond.initialized R_Ch ∈ tbW := tb1_in (List.mem_of_getElem? (i := 4) rfl) rfl
theorem lk71 : Cond.instanceMethod y_Ch_addPending ∈ tbW := tb2_in (List.mem_of_getElem? (i := 14) rfl) rfl
theorem lk72 : Cond.selects R_Ch y_Ch_addPending y_Ch_addPending ∈ tbW := tbs_in (List.mem_of_getElem? (i := 13) rfl) rfl
theorem lk73 : Cond.fieldLinkNest R_V 135 "JoinVessel$Channel" "pendingCount" "I" "JoinVessel" ∈ tbW := tb1_in (List.mem_of_getElem? (i := 77) rfl) rfl
theorem lk74 : Cond.fieldLinkNest R_V 154 "JoinVessel$Messages" "count" "I" "JoinVessel" ∈ tbW := tb1_in (List.mem_of_getElem? (i := 27) rfl) rfl
theorem lk75 : Cond.methodLink R_V 157 y_V_makeMessage ∈ tbW := tb2_in (List.mem_of_getElem? (i := 4) rfl) rfl
theorem lk76 : Cond.instanceMethod y_V_makeMessage ∈ tbW := tb2_in (List.mem_of_getElem? (i := 6) rfl) rfl
theorem lk77 : Cond.selects R_V y_V_makeMessage y_V_makeMessage ∈ tbW := tbs_in (List.mem_of_getElem? (i := 11) rfl) rfl
theorem lk78 : Cond.methodLink R_V 106 y_V_admit ∈ tbW := tb2_in (List.mem_of_getElem? (i := 0) rfl) rfl
theorem lk79 : Cond.instanceMethod y_V_admit ∈ tbW := tb2_in (List.mem_of_getElem? (i := 2) rfl) rfl
theorem lk80 : Cond.selects R_V y_V_admit y_V_admit ∈ tbW := tbs_in (List.mem_of_getElem? (i := 10) rfl) rfl
theorem lk81 : Cond.methodLinkNest R_V 110 y_Ms_has "JoinVessel" ∈ tbW := tb2_in (List.mem_of_getElem? (i := 24) rfl) rfl
theorem lk82 : Cond.instanceMethod y_Ms_has ∈ tbW := tb2_in (List.mem_of_getElem? (i := 26) rfl) rfl
theorem lk83 : Cond.selects R_Ms y_Ms_has y_Ms_has ∈ tbW := tbs_in (List.mem_of_getElem? (i := 14) rfl) rfl
theorem lk84 : Cond.fieldLinkNest R_V 113 "JoinVessel$Messages" "states" "[I" "JoinVessel" ∈ tbW := tb1_in (List.mem_of_getElem? (i := 33) rfl) rfl
theorem lk85 : Cond.fieldLinkNest R_V 116 "JoinVessel$Messages" "channelNumbers" "[I" "JoinVessel" ∈ tbW := tb1_in (List.mem_of_getElem? (i := 29) rfl) rfl
theorem lk86 : Cond.methodLinkNest R_V 119 y_Ch_removePending "JoinVessel" ∈ tbW := tb2_in (List.mem_of_getElem? (i := 28) rfl) rfl
theorem lk87 : Cond.instanceMethod y_Ch_removePending ∈ tbW := tb2_in (List.mem_of_getElem? (i := 30) rfl) rfl
theorem lk88 : Cond.selects R_Ch y_Ch_removePending y_Ch_removePending ∈ tbW := tbs_in (List.mem_of_getElem? (i := 15) rfl) rfl
theorem lk89 : Cond.methodLinkNest R_V 177 y_Re_partsOn "JoinVessel" ∈ tbW := tb2_in (List.mem_of_getElem? (i := 52) rfl) rfl
theorem lk90 : Cond.instanceMethod y_Re_partsOn ∈ tbW := tb2_in (List.mem_of_getElem? (i := 54) rfl) rfl
theorem lk91 : Cond.selects R_Re y_Re_partsOn y_Re_partsOn ∈ tbW := tbs_in (List.mem_of_getElem? (i := 20) rfl) rfl
theorem lk92 : Cond.methodLinkNest R_V 181 y_Re_sendsTo "JoinVessel" ∈ tbW := tb2_in (List.mem_of_getElem? (i := 56) rfl) rfl
theorem lk93 : Cond.instanceMethod y_Re_sendsTo ∈ tbW := tb2_in (List.mem_of_getElem? (i := 58) rfl) rfl
theorem lk94 : Cond.selects R_Re y_Re_sendsTo y_Re_sendsTo ∈ tbW := tbs_in (List.mem_of_getElem? (i := 21) rfl) rfl
theorem lk95 : Cond.methodLinkNest R_V 174 y_Re_sendCount "JoinVessel" ∈ tbW := tb2_in (List.mem_of_getElem? (i := 48) rfl) rfl
theorem lk96 : Cond.instanceMethod y_Re_sendCount ∈ tbW := tb2_in (List.mem_of_getElem? (i := 50) rfl) rfl
theorem lk97 : Cond.selects R_Re y_Re_sendCount y_Re_sendCount ∈ tbW := tbs_in (List.mem_of_getElem? (i := 19) rfl) rfl
theorem lk98 : Cond.fieldLink R_Re 25 "JoinVessel$Reaction" "guardKind" "I" ∈ tbW := tb1_in (List.mem_of_getElem? (i := 96) rfl) rfl
theorem lk99 : Cond.methodLinkNest R_Re 58 y_V_allRise "JoinVessel" ∈ tbW := tb2_in (List.mem_of_getElem? (i := 67) rfl) rfl
theorem lk100 : Cond.static y_V_allRise ∈ tbW := tb2_in (List.mem_of_getElem? (i := 68) rfl) rfl
theorem lk101 : Cond.methodLinkNest R_Re 62 y_V_allEqual "JoinVessel" ∈ tbW := tb2_in (List.mem_of_getElem? (i := 70) rfl) rfl
theorem lk102 : Cond.static y_V_allEqual ∈ tbW := tb2_in (List.mem_of_getElem? (i := 71) rfl) rfl
theorem lk103 : Cond.methodLinkNest R_Re 65 y_V_allDiffer "JoinVessel" ∈ tbW := tb2_in (List.mem_of_getElem? (i := 73) rfl) rfl
theorem lk104 : Cond.static y_V_allDiffer ∈ tbW := tb2_in (List.mem_of_getElem? (i := 74) rfl) rfl
theorem lk105 : Cond.methodLinkNest R_Re 68 y_V_sum "JoinVessel" ∈ tbW := tb2_in (List.mem_of_getElem? (i := 76) rfl) rfl
theorem lk106 : Cond.static y_V_sum ∈ tbW := tb2_in (List.mem_of_getElem? (i := 77) rfl) rfl
theorem lk107 : Cond.fieldLink R_Re 28 "JoinVessel$Reaction" "guardNumber" "I" ∈ tbW := tb1_in (List.mem_of_getElem? (i := 98) rfl) rfl
theorem lk108 : Cond.fieldLink R_Mt 9 "JoinVessel$Match" "numbers" "[I" ∈ tbW := tb1_in (List.mem_of_getElem? (i := 58) rfl) rfl
theorem lk109 : Cond.fieldLinkNest R_V 138 "JoinVessel$Channel" "pendingNumbers" "[I" "JoinVessel" ∈ tbW := tb1_in (List.mem_of_getElem? (i := 75) rfl) rfl
theorem lk110 : Cond.fieldLinkNest R_V 141 "JoinVessel$Messages" "values" "[I" "JoinVessel" ∈ tbW := tb1_in (List.mem_of_getElem? (i := 31) rfl) rfl
theorem lk111 : Cond.methodLinkNest R_V 189 y_Re_passesTest "JoinVessel" ∈ tbW := tb2_in (List.mem_of_getElem? (i := 79) rfl) rfl
theorem lk112 : Cond.instanceMethod y_Re_passesTest ∈ tbW := tb2_in (List.mem_of_getElem? (i := 81) rfl) rfl
theorem lk113 : Cond.selects R_Re y_Re_passesTest y_Re_passesTest ∈ tbW := tbs_in (List.mem_of_getElem? (i := 23) rfl) rfl
theorem lk114 : Cond.methodLinkNest R_V 192 y_Mt_holdsBefore "JoinVessel" ∈ tbW := tb2_in (List.mem_of_getElem? (i := 83) rfl) rfl
theorem lk115 : Cond.initialized R_Mt ∈ tbW := tb1_in (List.mem_of_getElem? (i := 3) rfl) rfl
theorem lk116 : Cond.instanceMethod y_Mt_holdsBefore ∈ tbW := tb2_in (List.mem_of_getElem? (i := 85) rfl) rfl
theorem lk117 : Cond.selects R_Mt y_Mt_holdsBefore y_Mt_holdsBefore ∈ tbW := tbs_in (List.mem_of_getElem? (i := 24) rfl) rfl
theorem lk118 : Cond.fieldLinkNest R_V 132 "JoinVessel$Match" "numbers" "[I" "JoinVessel" ∈ tbW := tb1_in (List.mem_of_getElem? (i := 59) rfl) rfl
theorem lk119 : Cond.fieldLinkNest R_V 184 "JoinVessel$Match" "values" "[I" "JoinVessel" ∈ tbW := tb1_in (List.mem_of_getElem? (i := 61) rfl) rfl
theorem lk120 : Cond.methodLink R_V 170 y_V_fillMatch ∈ tbW := tb2_in (List.mem_of_getElem? (i := 60) rfl) rfl
theorem lk121 : Cond.static y_V_fillMatch ∈ tbW := tb2_in (List.mem_of_getElem? (i := 61) rfl) rfl
theorem lk122 : Cond.methodLinkNest R_V 185 y_Re_guardHolds "JoinVessel" ∈ tbW := tb2_in (List.mem_of_getElem? (i := 63) rfl) rfl
theorem lk123 : Cond.instanceMethod y_Re_guardHolds ∈ tbW := tb2_in (List.mem_of_getElem? (i := 65) rfl) rfl
theorem lk124 : Cond.selects R_Re y_Re_guardHolds y_Re_guardHolds ∈ tbW := tbs_in (List.mem_of_getElem? (i := 22) rfl) rfl
theorem lk125 : Cond.methodLink R_V 167 y_V_hasRoom ∈ tbW := tb2_in (List.mem_of_getElem? (i := 44) rfl) rfl
theorem lk126 : Cond.instanceMethod y_V_hasRoom ∈ tbW := tb2_in (List.mem_of_getElem? (i := 46) rfl) rfl
theorem lk127 : Cond.selects R_V y_V_hasRoom y_V_hasRoom ∈ tbW := tbs_in (List.mem_of_getElem? (i := 18) rfl) rfl
theorem lk128 : Cond.fieldLink R_V 42 "JoinVessel" "match" "LJoinVessel$Match;" ∈ tbW := tb1_in (List.mem_of_getElem? (i := 141) rfl) rfl
theorem lk129 : Cond.methodLink R_V 129 y_V_findEnabledMatch ∈ tbW := tb2_in (List.mem_of_getElem? (i := 40) rfl) rfl
theorem lk130 : Cond.instanceMethod y_V_findEnabledMatch ∈ tbW := tb2_in (List.mem_of_getElem? (i := 42) rfl) rfl
theorem lk131 : Cond.selects R_V y_V_findEnabledMatch y_V_findEnabledMatch ∈ tbW := tbs_in (List.mem_of_getElem? (i := 17) rfl) rfl
theorem lk132 : Cond.fieldLink R_V 50 "JoinVessel" "firingCount" "I" ∈ tbW := tb1_in (List.mem_of_getElem? (i := 143) rfl) rfl
theorem lk133 : Cond.fieldLink R_V 46 "JoinVessel" "firings" "[I" ∈ tbW := tb1_in (List.mem_of_getElem? (i := 142) rfl) rfl
theorem lk134 : Cond.fieldLinkNest R_V 144 "JoinVessel$Messages" "consumers" "[I" "JoinVessel" ∈ tbW := tb1_in (List.mem_of_getElem? (i := 35) rfl) rfl
theorem lk135 : Cond.methodLink R_V 212 Lib.Math.max.name ∈ tbW := tb2_in (List.mem_of_getElem? (i := 102) rfl) rfl
theorem lk136 : Cond.static Lib.Math.max.name ∈ tbW := tb2_in (List.mem_of_getElem? (i := 103) rfl) rfl
theorem lk137 : Cond.initialized "java/lang/Math" ∈ tbW := tb1_in (List.mem_of_getElem? (i := 7) rfl) rfl
theorem lk138 : Cond.code Lib.Math.max.name Lib.Math.max.code 2 (some .int) ∈ tbW := tb2_in (List.mem_of_getElem? (i := 104) rfl) rfl
theorem lk139 : Cond.methodLinkNest R_Re 72 y_V_greatest "JoinVessel" ∈ tbW := tb2_in (List.mem_of_getElem? (i := 99) rfl) rfl
theorem lk140 : Cond.static y_V_greatest ∈ tbW := tb2_in (List.mem_of_getElem? (i := 100) rfl) rfl
theorem lk141 : Cond.fieldLinkNest R_V 198 "JoinVessel$Reaction" "actionCount" "I" "JoinVessel" ∈ tbW := tb1_in (List.mem_of_getElem? (i := 101) rfl) rfl
theorem lk142 : Cond.methodLinkNest R_V 201 y_Re_evaluate "JoinVessel" ∈ tbW := tb2_in (List.mem_of_getElem? (i := 95) rfl) rfl
theorem lk143 : Cond.instanceMethod y_Re_evaluate ∈ tbW := tb2_in (List.mem_of_getElem? (i := 97) rfl) rfl
theorem lk144 : Cond.selects R_Re y_Re_evaluate y_Re_evaluate ∈ tbW := tbs_in (List.mem_of_getElem? (i := 27) rfl) rfl
theorem lk145 : Cond.fieldLinkNest R_V 205 "JoinVessel$Reaction" "actionSends" "[Z" "JoinVessel" ∈ tbW := tb1_in (List.mem_of_getElem? (i := 103) rfl) rfl
theorem lk146 : Cond.fieldLinkNest R_V 147 "JoinVessel$Messages" "answers" "[I" "JoinVessel" ∈ tbW := tb1_in (List.mem_of_getElem? (i := 37) rfl) rfl
theorem lk147 : Cond.fieldLinkNest R_V 209 "JoinVessel$Reaction" "actionTargets" "[I" "JoinVessel" ∈ tbW := tb1_in (List.mem_of_getElem? (i := 105) rfl) rfl
theorem lk148 : Cond.methodLink R_V 195 y_V_consume ∈ tbW := tb2_in (List.mem_of_getElem? (i := 91) rfl) rfl
theorem lk149 : Cond.instanceMethod y_V_consume ∈ tbW := tb2_in (List.mem_of_getElem? (i := 93) rfl) rfl
theorem lk150 : Cond.selects R_V y_V_consume y_V_consume ∈ tbW := tbs_in (List.mem_of_getElem? (i := 26) rfl) rfl
theorem lk151 : Cond.methodLink R_V 123 y_V_findNext ∈ tbW := tb2_in (List.mem_of_getElem? (i := 36) rfl) rfl
theorem lk152 : Cond.instanceMethod y_V_findNext ∈ tbW := tb2_in (List.mem_of_getElem? (i := 38) rfl) rfl
theorem lk153 : Cond.selects R_V y_V_findNext y_V_findNext ∈ tbW := tbs_in (List.mem_of_getElem? (i := 16) rfl) rfl
theorem lk154 : Cond.methodLink R_V 126 y_V_fire ∈ tbW := tb2_in (List.mem_of_getElem? (i := 87) rfl) rfl
theorem lk155 : Cond.instanceMethod y_V_fire ∈ tbW := tb2_in (List.mem_of_getElem? (i := 89) rfl) rfl
theorem lk156 : Cond.selects R_V y_V_fire y_V_fire ∈ tbW := tbs_in (List.mem_of_getElem? (i := 25) rfl) rfl
theorem lk157 : Cond.fieldLink R_M 80 "JoinVesselModel" "closed" "Z" ∈ tbW := tb2_in (List.mem_of_getElem? (i := 162) rfl) rfl
theorem lk158 : Cond.fieldLink R_M 84 "JoinVesselModel" "channels" "I" ∈ tbW := tb2_in (List.mem_of_getElem? (i := 147) rfl) rfl
theorem lk159 : Cond.fieldLink R_M 7 "JoinVesselModel" "answered" "[Z" ∈ tbW := tb2_in (List.mem_of_getElem? (i := 148) rfl) rfl
theorem lk160 : Cond.fieldLink R_M 88 "JoinVesselModel" "reactions" "I" ∈ tbW := tb2_in (List.mem_of_getElem? (i := 149) rfl) rfl
theorem lk161 : Cond.fieldLink R_M 13 "JoinVesselModel" "parts" "[I" ∈ tbW := tb2_in (List.mem_of_getElem? (i := 150) rfl) rfl
theorem lk162 : Cond.methodLink R_M 91 y_M_open ∈ tbW := tb3_in (List.mem_of_getElem? (i := 4) rfl) rfl
theorem lk163 : Cond.initialized R_M ∈ tbW := tb1_in (List.mem_of_getElem? (i := 6) rfl) rfl
theorem lk164 : Cond.instanceMethod y_M_open ∈ tbW := tb3_in (List.mem_of_getElem? (i := 6) rfl) rfl
theorem lk165 : Cond.selects R_M y_M_open y_M_open ∈ tbW := tbs_in (List.mem_of_getElem? (i := 28) rfl) rfl
theorem lk166 : Cond.methodLink R_M 95 y_M_isChannel ∈ tbW := tb3_in (List.mem_of_getElem? (i := 8) rfl) rfl
theorem lk167 : Cond.instanceMethod y_M_isChannel ∈ tbW := tb3_in (List.mem_of_getElem? (i := 10) rfl) rfl
theorem lk168 : Cond.selects R_M y_M_isChannel y_M_isChannel ∈ tbW := tbs_in (List.mem_of_getElem? (i := 29) rfl) rfl
theorem lk169 : Cond.fieldLink R_M 17 "JoinVesselModel" "partChannel" "[I" ∈ tbW := tb2_in (List.mem_of_getElem? (i := 151) rfl) rfl
theorem lk170 : Cond.fieldLink R_M 20 "JoinVesselModel" "partTest" "[I" ∈ tbW := tb2_in (List.mem_of_getElem? (i := 152) rfl) rfl
theorem lk171 : Cond.fieldLink R_M 23 "JoinVesselModel" "partNumber" "[I" ∈ tbW := tb2_in (List.mem_of_getElem? (i := 153) rfl) rfl
theorem lk172 : Cond.fieldLink R_M 26 "JoinVesselModel" "guardKind" "[I" ∈ tbW := tb2_in (List.mem_of_getElem? (i := 154) rfl) rfl
theorem lk173 : Cond.fieldLink R_M 29 "JoinVesselModel" "guardNumber" "[I" ∈ tbW := tb2_in (List.mem_of_getElem? (i := 155) rfl) rfl
theorem lk174 : Cond.methodLink R_M 98 y_M_hasPart ∈ tbW := tb3_in (List.mem_of_getElem? (i := 24) rfl) rfl
theorem lk175 : Cond.instanceMethod y_M_hasPart ∈ tbW := tb3_in (List.mem_of_getElem? (i := 26) rfl) rfl
theorem lk176 : Cond.selects R_M y_M_hasPart y_M_hasPart ∈ tbW := tbs_in (List.mem_of_getElem? (i := 31) rfl) rfl
theorem lk177 : Cond.fieldLink R_M 32 "JoinVesselModel" "actions" "[I" ∈ tbW := tb2_in (List.mem_of_getElem? (i := 156) rfl) rfl
theorem lk178 : Cond.fieldLink R_M 35 "JoinVesselModel" "target" "[I" ∈ tbW := tb2_in (List.mem_of_getElem? (i := 157) rfl) rfl
theorem lk179 : Cond.fieldLink R_M 38 "JoinVesselModel" "replied" "[I" ∈ tbW := tb2_in (List.mem_of_getElem? (i := 158) rfl) rfl
theorem lk180 : Cond.fieldLink R_M 41 "JoinVesselModel" "kind" "[I" ∈ tbW := tb2_in (List.mem_of_getElem? (i := 159) rfl) rfl
theorem lk181 : Cond.fieldLink R_M 44 "JoinVesselModel" "which" "[I" ∈ tbW := tb2_in (List.mem_of_getElem? (i := 160) rfl) rfl
theorem lk182 : Cond.methodLink R_M 102 y_M_expression ∈ tbW := tb3_in (List.mem_of_getElem? (i := 20) rfl) rfl
theorem lk183 : Cond.instanceMethod y_M_expression ∈ tbW := tb3_in (List.mem_of_getElem? (i := 22) rfl) rfl
theorem lk184 : Cond.selects R_M y_M_expression y_M_expression ∈ tbW := tbs_in (List.mem_of_getElem? (i := 30) rfl) rfl
theorem lk185 : Cond.fieldLink R_M 47 "JoinVesselModel" "number" "[I" ∈ tbW := tb2_in (List.mem_of_getElem? (i := 161) rfl) rfl
theorem lk186 : Cond.methodLink R_M 106 y_M_act ∈ tbW := tb3_in (List.mem_of_getElem? (i := 28) rfl) rfl
theorem lk187 : Cond.instanceMethod y_M_act ∈ tbW := tb3_in (List.mem_of_getElem? (i := 30) rfl) rfl
theorem lk188 : Cond.selects R_M y_M_act y_M_act ∈ tbW := tbs_in (List.mem_of_getElem? (i := 32) rfl) rfl
theorem lk189 : Cond.methodLink R_M 110 y_M_answersPart ∈ tbW := tb3_in (List.mem_of_getElem? (i := 36) rfl) rfl
theorem lk190 : Cond.instanceMethod y_M_answersPart ∈ tbW := tb3_in (List.mem_of_getElem? (i := 38) rfl) rfl
theorem lk191 : Cond.selects R_M y_M_answersPart y_M_answersPart ∈ tbW := tbs_in (List.mem_of_getElem? (i := 33) rfl) rfl
theorem lk192 : Cond.fieldLink R_M 50 "JoinVesselModel" "channelOf" "[I" ∈ tbW := tb2_in (List.mem_of_getElem? (i := 164) rfl) rfl
theorem lk193 : Cond.fieldLink R_M 113 "JoinVesselModel" "made" "I" ∈ tbW := tb2_in (List.mem_of_getElem? (i := 163) rfl) rfl
theorem lk194 : Cond.fieldLink R_M 53 "JoinVesselModel" "values" "[I" ∈ tbW := tb2_in (List.mem_of_getElem? (i := 165) rfl) rfl
theorem lk195 : Cond.fieldLink R_M 56 "JoinVesselModel" "states" "[I" ∈ tbW := tb2_in (List.mem_of_getElem? (i := 166) rfl) rfl
theorem lk196 : Cond.fieldLink R_M 59 "JoinVesselModel" "consumers" "[I" ∈ tbW := tb2_in (List.mem_of_getElem? (i := 167) rfl) rfl
theorem lk197 : Cond.fieldLink R_M 68 "JoinVesselModel" "gathered" "[I" ∈ tbW := tb2_in (List.mem_of_getElem? (i := 171) rfl) rfl
theorem lk198 : Cond.fieldLink R_M 71 "JoinVesselModel" "count" "[I" ∈ tbW := tb2_in (List.mem_of_getElem? (i := 172) rfl) rfl
theorem lk199 : Cond.methodLink R_M 116 y_M_gather ∈ tbW := tb3_in (List.mem_of_getElem? (i := 52) rfl) rfl
theorem lk200 : Cond.instanceMethod y_M_gather ∈ tbW := tb3_in (List.mem_of_getElem? (i := 54) rfl) rfl
theorem lk201 : Cond.selects R_M y_M_gather y_M_gather ∈ tbW := tbs_in (List.mem_of_getElem? (i := 35) rfl) rfl
theorem lk202 : Cond.methodLink R_M 119 y_M_make ∈ tbW := tb3_in (List.mem_of_getElem? (i := 56) rfl) rfl
theorem lk203 : Cond.instanceMethod y_M_make ∈ tbW := tb3_in (List.mem_of_getElem? (i := 58) rfl) rfl
theorem lk204 : Cond.selects R_M y_M_make y_M_make ∈ tbW := tbs_in (List.mem_of_getElem? (i := 36) rfl) rfl
theorem lk205 : Cond.methodLink R_M 123 y_M_enter ∈ tbW := tb3_in (List.mem_of_getElem? (i := 48) rfl) rfl
theorem lk206 : Cond.instanceMethod y_M_enter ∈ tbW := tb3_in (List.mem_of_getElem? (i := 50) rfl) rfl
theorem lk207 : Cond.selects R_M y_M_enter y_M_enter ∈ tbW := tbs_in (List.mem_of_getElem? (i := 34) rfl) rfl
theorem lk208 : Cond.methodLink R_M 127 y_M_isMessage ∈ tbW := tb3_in (List.mem_of_getElem? (i := 68) rfl) rfl
theorem lk209 : Cond.instanceMethod y_M_isMessage ∈ tbW := tb3_in (List.mem_of_getElem? (i := 70) rfl) rfl
theorem lk210 : Cond.selects R_M y_M_isMessage y_M_isMessage ∈ tbW := tbs_in (List.mem_of_getElem? (i := 37) rfl) rfl
theorem lk211 : Cond.fieldLink R_M 77 "JoinVesselModel" "tried" "[I" ∈ tbW := tb2_in (List.mem_of_getElem? (i := 174) rfl) rfl
theorem lk212 : Cond.fieldLink R_M 74 "JoinVesselModel" "digit" "[I" ∈ tbW := tb2_in (List.mem_of_getElem? (i := 173) rfl) rfl
theorem lk213 : Cond.methodLink R_M 130 y_M_chosen ∈ tbW := tb3_in (List.mem_of_getElem? (i := 88) rfl) rfl
theorem lk214 : Cond.instanceMethod y_M_chosen ∈ tbW := tb3_in (List.mem_of_getElem? (i := 90) rfl) rfl
theorem lk215 : Cond.selects R_M y_M_chosen y_M_chosen ∈ tbW := tbs_in (List.mem_of_getElem? (i := 41) rfl) rfl
theorem lk216 : Cond.methodLink R_M 136 y_M_guarded ∈ tbW := tb3_in (List.mem_of_getElem? (i := 96) rfl) rfl
theorem lk217 : Cond.instanceMethod y_M_guarded ∈ tbW := tb3_in (List.mem_of_getElem? (i := 98) rfl) rfl
theorem lk218 : Cond.selects R_M y_M_guarded y_M_guarded ∈ tbW := tbs_in (List.mem_of_getElem? (i := 43) rfl) rfl
theorem lk219 : Cond.methodLink R_M 133 y_M_passes ∈ tbW := tb3_in (List.mem_of_getElem? (i := 92) rfl) rfl
theorem lk220 : Cond.instanceMethod y_M_passes ∈ tbW := tb3_in (List.mem_of_getElem? (i := 94) rfl) rfl
theorem lk221 : Cond.selects R_M y_M_passes y_M_passes ∈ tbW := tbs_in (List.mem_of_getElem? (i := 42) rfl) rfl
theorem lk222 : Cond.methodLink R_M 139 y_M_matches ∈ tbW := tb3_in (List.mem_of_getElem? (i := 84) rfl) rfl
theorem lk223 : Cond.instanceMethod y_M_matches ∈ tbW := tb3_in (List.mem_of_getElem? (i := 86) rfl) rfl
theorem lk224 : Cond.selects R_M y_M_matches y_M_matches ∈ tbW := tbs_in (List.mem_of_getElem? (i := 40) rfl) rfl
theorem lk225 : Cond.methodLink R_M 142 y_M_room ∈ tbW := tb3_in (List.mem_of_getElem? (i := 76) rfl) rfl
theorem lk226 : Cond.instanceMethod y_M_room ∈ tbW := tb3_in (List.mem_of_getElem? (i := 78) rfl) rfl
theorem lk227 : Cond.selects R_M y_M_room y_M_room ∈ tbW := tbs_in (List.mem_of_getElem? (i := 38) rfl) rfl
theorem lk228 : Cond.methodLink R_M 145 y_M_find ∈ tbW := tb3_in (List.mem_of_getElem? (i := 80) rfl) rfl
theorem lk229 : Cond.instanceMethod y_M_find ∈ tbW := tb3_in (List.mem_of_getElem? (i := 82) rfl) rfl
theorem lk230 : Cond.selects R_M y_M_find y_M_find ∈ tbW := tbs_in (List.mem_of_getElem? (i := 39) rfl) rfl
theorem lk231 : Cond.methodLink R_M 148 y_M_enabled ∈ tbW := tb3_in (List.mem_of_getElem? (i := 104) rfl) rfl
theorem lk232 : Cond.instanceMethod y_M_enabled ∈ tbW := tb3_in (List.mem_of_getElem? (i := 73) rfl) rfl
theorem lk233 : Cond.selects R_M y_M_enabled y_M_enabled ∈ tbW := tb3_in (List.mem_of_getElem? (i := 74) rfl) rfl
theorem lk234 : Cond.fieldLink R_M 152 "JoinVesselModel" "firings" "I" ∈ tbW := tb2_in (List.mem_of_getElem? (i := 169) rfl) rfl
theorem lk235 : Cond.fieldLink R_M 65 "JoinVesselModel" "firedBy" "[I" ∈ tbW := tb2_in (List.mem_of_getElem? (i := 170) rfl) rfl
theorem lk236 : Cond.methodLink R_M 155 y_M_next ∈ tbW := tb3_in (List.mem_of_getElem? (i := 109) rfl) rfl
theorem lk237 : Cond.instanceMethod y_M_next ∈ tbW := tb3_in (List.mem_of_getElem? (i := 101) rfl) rfl
theorem lk238 : Cond.selects R_M y_M_next y_M_next ∈ tbW := tb3_in (List.mem_of_getElem? (i := 102) rfl) rfl
theorem lk239 : Cond.methodLink R_M 158 y_M_result ∈ tbW := tb3_in (List.mem_of_getElem? (i := 118) rfl) rfl
theorem lk240 : Cond.instanceMethod y_M_result ∈ tbW := tb3_in (List.mem_of_getElem? (i := 120) rfl) rfl
theorem lk241 : Cond.selects R_M y_M_result y_M_result ∈ tbW := tbs_in (List.mem_of_getElem? (i := 45) rfl) rfl
theorem lk242 : Cond.fieldLink R_M 62 "JoinVesselModel" "answers" "[I" ∈ tbW := tb2_in (List.mem_of_getElem? (i := 168) rfl) rfl
theorem lk243 : Cond.methodLink R_M 161 y_M_fire ∈ tbW := tb3_in (List.mem_of_getElem? (i := 114) rfl) rfl
theorem lk244 : Cond.instanceMethod y_M_fire ∈ tbW := tb3_in (List.mem_of_getElem? (i := 116) rfl) rfl
theorem lk245 : Cond.selects R_M y_M_fire y_M_fire ∈ tbW := tbs_in (List.mem_of_getElem? (i := 44) rfl) rfl
theorem sw_1_4 {x : Int32} (e1 : ¬ x = 1) (e2 : ¬ x = 2) (e3 : ¬ x = 3) (e4 : ¬ x = 4) : x.toInt < 1 ∨ 4 < x.toInt := by
  have t1 : x.toInt ≠ 1 := fun e => e1 (Int32.toInt_inj.mp (e.trans (by decide)))
  have t2 : x.toInt ≠ 2 := fun e => e2 (Int32.toInt_inj.mp (e.trans (by decide)))
  have t3 : x.toInt ≠ 3 := fun e => e3 (Int32.toInt_inj.mp (e.trans (by decide)))
  have t4 : x.toInt ≠ 4 := fun e => e4 (Int32.toInt_inj.mp (e.trans (by decide)))
  omega
theorem sw_1_5 {x : Int32} (e1 : ¬ x = 1) (e2 : ¬ x = 2) (e3 : ¬ x = 3) (e4 : ¬ x = 4) (e5 : ¬ x = 5) : x.toInt < 1 ∨ 5 < x.toInt := by
  have t1 : x.toInt ≠ 1 := fun e => e1 (Int32.toInt_inj.mp (e.trans (by decide)))
  have t2 : x.toInt ≠ 2 := fun e => e2 (Int32.toInt_inj.mp (e.trans (by decide)))
  have t3 : x.toInt ≠ 3 := fun e => e3 (Int32.toInt_inj.mp (e.trans (by decide)))
  have t4 : x.toInt ≠ 4 := fun e => e4 (Int32.toInt_inj.mp (e.trans (by decide)))
  have t5 : x.toInt ≠ 5 := fun e => e5 (Int32.toInt_inj.mp (e.trans (by decide)))
  omega
end
section
def bp_V_channel_0 (Q : Int32 → RS → Prop) (h : RS) (x1 : Int32) : Prop :=
  (¬ (h 0 4) = 0 → Q (-1 : Int32) h) ∧
  ((h 0 4) = 0 → ((h 0 1) < (8 : Int32) → ∃ k1 : Nat, k1 < 8 ∧ (h 0 1) = nI k1 ∧ isB x1 ∧ ∀ h2 : RS, h2 = up2 h (13 + k1) 0 x1 → ∀ h3 : RS, h3 = up2 h2 0 1 ((h2 0 1) + (1 : Int32)) → Q ((h3 0 1) - (1 : Int32)) h3) ∧
  (¬ (h 0 1) < (8 : Int32) → Q (-1 : Int32) h))
def wp_V_channel (h : RS) (x1 : Int32) (Q : Int32 → RS → Prop) : Prop := bp_V_channel_0 Q h x1
def bp_V_reaction_0 (Q : Int32 → RS → Prop) (h : RS) : Prop :=
  (¬ (h 0 4) = 0 → Q (-1 : Int32) h) ∧
  ((h 0 4) = 0 → ((h 0 3) < (8 : Int32) → ∀ h1 : RS, h1 = up2 h 0 3 ((h 0 3) + (1 : Int32)) → Q ((h1 0 3) - (1 : Int32)) h1) ∧
  (¬ (h 0 3) < (8 : Int32) → Q (-1 : Int32) h))
def wp_V_reaction (h : RS) (Q : Int32 → RS → Prop) : Prop := bp_V_reaction_0 Q h
def bp_V_mayBuild_0 (Q : Int32 → RS → Prop) (h : RS) (x1 : Int32) : Prop :=
  (¬ (h 0 4) = 0 → isB (0 : Int32) ∧ Q (0 : Int32) h) ∧
  ((h 0 4) = 0 → (x1 < 0 → isB (0 : Int32) ∧ Q (0 : Int32) h) ∧
  (¬ x1 < 0 → ((h 0 3) ≤ x1 → isB (0 : Int32) ∧ Q (0 : Int32) h) ∧
  (¬ (h 0 3) ≤ x1 → isB (1 : Int32) ∧ Q (1 : Int32) h)))
def wp_V_mayBuild (h : RS) (x1 : Int32) (Q : Int32 → RS → Prop) : Prop := bp_V_mayBuild_0 Q h x1
def bp_V_isChannel_0 (Q : Int32 → RS → Prop) (h : RS) (x1 : Int32) : Prop :=
  (x1 < 0 → isB (0 : Int32) ∧ Q (0 : Int32) h) ∧
  (¬ x1 < 0 → ((h 0 1) ≤ x1 → isB (0 : Int32) ∧ Q (0 : Int32) h) ∧
  (¬ (h 0 1) ≤ x1 → isB (1 : Int32) ∧ Q (1 : Int32) h))
def wp_V_isChannel (h : RS) (x1 : Int32) (Q : Int32 → RS → Prop) : Prop := bp_V_isChannel_0 Q h x1
def bp_V_isWithin_0 (Q : Int32 → RS → Prop) (h : RS) (x0 : Int32) (x1 : Int32) : Prop :=
  (x0 < 0 → isB (0 : Int32) ∧ Q (0 : Int32) h) ∧
  (¬ x0 < 0 → (x1 < x0 → isB (0 : Int32) ∧ Q (0 : Int32) h) ∧
  (¬ x1 < x0 → isB (1 : Int32) ∧ Q (1 : Int32) h))
def wp_V_isWithin (h : RS) (x0 : Int32) (x1 : Int32) (Q : Int32 → RS → Prop) : Prop := bp_V_isWithin_0 Q h x0 x1
def bp_Re_addPart_0 (Q : Int32 → RS → Prop) (h : RS) (i0 : Nat) (x1 : Int32) (x2 : Int32) (x3 : Int32) : Prop :=
  ∃ k1 : Nat, k1 < 4 ∧ (h (29 + i0) 0) = nI k1 ∧ ∀ h2 : RS, h2 = up2 h (37 + i0) k1 x1 → ∃ k3 : Nat, k3 < 4 ∧ (h (29 + i0) 0) = nI k3 ∧ ∀ h4 : RS, h4 = up2 h2 (45 + i0) k3 x2 → ∃ k5 : Nat, k5 < 4 ∧ (h (29 + i0) 0) = nI k5 ∧ ∀ h6 : RS, h6 = up2 h4 (53 + i0) k5 x3 → ∀ h7 : RS, h7 = up2 h6 (29 + i0) 0 ((h6 (29 + i0) 0) + (1 : Int32)) → Q (h (29 + i0) 0) h7
def wp_Re_addPart (h : RS) (i0 : Nat) (x1 : Int32) (x2 : Int32) (x3 : Int32) (Q : Int32 → RS → Prop) : Prop := bp_Re_addPart_0 Q h i0 x1 x2 x3
def bp_V_part_0 (Q : Int32 → RS → Prop) (h : RS) (x1 : Int32) (x2 : Int32) (x3 : Int32) (x4 : Int32) : Prop :=
  wp_V_mayBuild h x1 (fun r1 h2 => (r1 = 0 → Q (-1 : Int32) h2) ∧
  (¬ r1 = 0 → wp_V_isChannel h2 x2 (fun r3 h4 => (r3 = 0 → Q (-1 : Int32) h4) ∧
  (¬ r3 = 0 → wp_V_isWithin h4 x3 (4 : Int32) (fun r5 h6 => (¬ r5 = 0 → ∃ k7 : Nat, k7 < 8 ∧ x1 = nI k7 ∧ ((h6 (29 + k7) 0) < (4 : Int32) → ∃ k8 : Nat, k8 < 8 ∧ x1 = nI k8 ∧ wp_Re_addPart h6 k8 x2 x3 x4 (fun r9 h10 => Q r9 h10)) ∧
  (¬ (h6 (29 + k7) 0) < (4 : Int32) → Q (-1 : Int32) h6)) ∧
  (r5 = 0 → Q (-1 : Int32) h6))))))
def wp_V_part (h : RS) (x1 : Int32) (x2 : Int32) (x3 : Int32) (x4 : Int32) (Q : Int32 → RS → Prop) : Prop := bp_V_part_0 Q h x1 x2 x3 x4
def bp_V_guard_0 (Q : Int32 → RS → Prop) (h : RS) (x1 : Int32) (x2 : Int32) (x3 : Int32) : Prop :=
  wp_V_mayBuild h x1 (fun r1 h2 => (r1 = 0 → isB (0 : Int32) ∧ Q (0 : Int32) h2) ∧
  (¬ r1 = 0 → wp_V_isWithin h2 x2 (5 : Int32) (fun r3 h4 => (¬ r3 = 0 → ∃ k5 : Nat, k5 < 8 ∧ x1 = nI k5 ∧ ∀ h6 : RS, h6 = up2 h4 (29 + k5) 4 x2 → ∃ k7 : Nat, k7 < 8 ∧ x1 = nI k7 ∧ ∀ h8 : RS, h8 = up2 h6 (29 + k7) 5 x3 → isB (1 : Int32) ∧ Q (1 : Int32) h8) ∧
  (r3 = 0 → isB (0 : Int32) ∧ Q (0 : Int32) h4))))
def wp_V_guard (h : RS) (x1 : Int32) (x2 : Int32) (x3 : Int32) (Q : Int32 → RS → Prop) : Prop := bp_V_guard_0 Q h x1 x2 x3
def bp_V_isChannelOf_0 (Q : Int32 → RS → Prop) (h : RS) (x1 : Int32) (x2 : Int32) : Prop :=
  wp_V_isChannel h x1 (fun r1 h2 => (r1 = 0 → isB (0 : Int32) ∧ Q (0 : Int32) h2) ∧
  (¬ r1 = 0 → ∃ k3 : Nat, k3 < 8 ∧ x1 = nI k3 ∧ (¬ (h2 (13 + k3) 0) = x2 → isB (0 : Int32) ∧ Q (0 : Int32) h2) ∧
  ((h2 (13 + k3) 0) = x2 → isB (1 : Int32) ∧ Q (1 : Int32) h2)))
def wp_V_isChannelOf (h : RS) (x1 : Int32) (x2 : Int32) (Q : Int32 → RS → Prop) : Prop := bp_V_isChannelOf_0 Q h x1 x2
def bp_Re_hasPart_0 (Q : Int32 → RS → Prop) (h : RS) (i0 : Nat) (x1 : Int32) : Prop :=
  (x1 < 0 → isB (0 : Int32) ∧ Q (0 : Int32) h) ∧
  (¬ x1 < 0 → ((h (29 + i0) 0) ≤ x1 → isB (0 : Int32) ∧ Q (0 : Int32) h) ∧
  (¬ (h (29 + i0) 0) ≤ x1 → isB (1 : Int32) ∧ Q (1 : Int32) h))
def wp_Re_hasPart (h : RS) (i0 : Nat) (x1 : Int32) (Q : Int32 → RS → Prop) : Prop := bp_Re_hasPart_0 Q h i0 x1
def bp_Re_mayAddAction_33 (Q : Int32 → RS → Prop) (h : RS) (i0 : Nat) (x2 : Int32) (y0 : Int32) : Prop :=
  (y0 = 0 → isB (1 : Int32) ∧ Q (1 : Int32) h) ∧
  (¬ y0 = 0 → wp_Re_hasPart h i0 x2 (fun r1 h2 => (r1 = 0 → isB (0 : Int32) ∧ Q (0 : Int32) h2) ∧
  (¬ r1 = 0 → isB (1 : Int32) ∧ Q (1 : Int32) h2)))
def bp_Re_mayAddAction_28 (Q : Int32 → RS → Prop) (h : RS) (i0 : Nat) (x2 : Int32) : Prop :=
  bp_Re_mayAddAction_33 Q h i0 x2 (1 : Int32)
def bp_Re_mayAddAction_0 (Q : Int32 → RS → Prop) (h : RS) (i0 : Nat) (x1 : Int32) (x2 : Int32) : Prop :=
  wp_V_isWithin h x1 (4 : Int32) (fun r3 h4 => (r3 = 0 → isB (0 : Int32) ∧ Q (0 : Int32) h4) ∧
  (¬ r3 = 0 → ((h4 (29 + i0) 6) < (4 : Int32) → (x1 = (1 : Int32) → bp_Re_mayAddAction_28 Q h4 i0 x2) ∧
  (¬ x1 = (1 : Int32) → (¬ x1 = (2 : Int32) → bp_Re_mayAddAction_33 Q h4 i0 x2 (0 : Int32)) ∧
  (x1 = (2 : Int32) → bp_Re_mayAddAction_28 Q h4 i0 x2))) ∧
  (¬ (h4 (29 + i0) 6) < (4 : Int32) → isB (0 : Int32) ∧ Q (0 : Int32) h4)))
def wp_Re_mayAddAction (h : RS) (i0 : Nat) (x1 : Int32) (x2 : Int32) (Q : Int32 → RS → Prop) : Prop := bp_Re_mayAddAction_0 Q h i0 x1 x2
def bp_Re_addAction_0 (Q : RS → Prop) (h : RS) (i0 : Nat) (x1 : Int32) (x2 : Int32) (x3 : Int32) (x4 : Int32) (x5 : Int32) : Prop :=
  ∃ k1 : Nat, k1 < 4 ∧ (h (29 + i0) 6) = nI k1 ∧ isB x1 ∧ ∀ h2 : RS, h2 = up2 h (61 + i0) k1 x1 → ∃ k3 : Nat, k3 < 4 ∧ (h (29 + i0) 6) = nI k3 ∧ ∀ h4 : RS, h4 = up2 h2 (69 + i0) k3 x2 → ∃ k5 : Nat, k5 < 4 ∧ (h (29 + i0) 6) = nI k5 ∧ ∀ h6 : RS, h6 = up2 h4 (77 + i0) k5 x3 → ∃ k7 : Nat, k7 < 4 ∧ (h (29 + i0) 6) = nI k7 ∧ ∀ h8 : RS, h8 = up2 h6 (85 + i0) k7 x4 → ∃ k9 : Nat, k9 < 4 ∧ (h (29 + i0) 6) = nI k9 ∧ ∀ h10 : RS, h10 = up2 h8 (93 + i0) k9 x5 → ∀ h11 : RS, h11 = up2 h10 (29 + i0) 6 ((h10 (29 + i0) 6) + (1 : Int32)) → Q h11
def wp_Re_addAction (h : RS) (i0 : Nat) (x1 : Int32) (x2 : Int32) (x3 : Int32) (x4 : Int32) (x5 : Int32) (Q : RS → Prop) : Prop := bp_Re_addAction_0 Q h i0 x1 x2 x3 x4 x5
def bp_V_emit_0 (Q : Int32 → RS → Prop) (h : RS) (x1 : Int32) (x2 : Int32) (x3 : Int32) (x4 : Int32) (x5 : Int32) : Prop :=
  wp_V_mayBuild h x1 (fun r1 h2 => (r1 = 0 → isB (0 : Int32) ∧ Q (0 : Int32) h2) ∧
  (¬ r1 = 0 → wp_V_isChannelOf h2 x2 (0 : Int32) (fun r3 h4 => (¬ r3 = 0 → ∃ k5 : Nat, k5 < 8 ∧ x1 = nI k5 ∧ wp_Re_mayAddAction h4 k5 x3 x4 (fun r6 h7 => (¬ r6 = 0 → ∃ k8 : Nat, k8 < 8 ∧ x1 = nI k8 ∧ wp_Re_addAction h7 k8 (1 : Int32) x2 x3 x4 x5 (fun h9 => isB (1 : Int32) ∧ Q (1 : Int32) h9)) ∧
  (r6 = 0 → isB (0 : Int32) ∧ Q (0 : Int32) h7))) ∧
  (r3 = 0 → isB (0 : Int32) ∧ Q (0 : Int32) h4))))
def wp_V_emit (h : RS) (x1 : Int32) (x2 : Int32) (x3 : Int32) (x4 : Int32) (x5 : Int32) (Q : Int32 → RS → Prop) : Prop := bp_V_emit_0 Q h x1 x2 x3 x4 x5
def bp_Re_hasReplyTo_2 (K2 : RS → Nat → Int32 → Int32 → Prop) (Q : Int32 → RS → Prop) (h : RS) (i0 : Nat) (x1 : Int32) (x2 : Int32) : Prop :=
  ((h (29 + i0) 6) ≤ x2 → isB (0 : Int32) ∧ Q (0 : Int32) h) ∧
  (¬ (h (29 + i0) 6) ≤ x2 → ∃ k1 : Nat, k1 < 4 ∧ x2 = nI k1 ∧ (¬ (h (61 + i0) k1) = 0 → K2 h i0 x1 (x2 + 1)) ∧
  ((h (61 + i0) k1) = 0 → ∃ k2 : Nat, k2 < 4 ∧ x2 = nI k2 ∧ (¬ (h (69 + i0) k2) = x1 → K2 h i0 x1 (x2 + 1)) ∧
  ((h (69 + i0) k2) = x1 → isB (1 : Int32) ∧ Q (1 : Int32) h)))
def wp_Re_hasReplyTo_2 (Q : Int32 → RS → Prop) : Nat → RS → Nat → Int32 → Int32 → Prop
  | 0 => fun _ _ _ _ => False
  | n + 1 => bp_Re_hasReplyTo_2 (wp_Re_hasReplyTo_2 Q n) Q
def bp_Re_hasReplyTo_0 (Q : Int32 → RS → Prop) (h : RS) (i0 : Nat) (x1 : Int32) : Prop :=
  ∃ n3 : Nat, wp_Re_hasReplyTo_2 Q n3 h i0 x1 (0 : Int32)
def wp_Re_hasReplyTo (h : RS) (i0 : Nat) (x1 : Int32) (Q : Int32 → RS → Prop) : Prop := bp_Re_hasReplyTo_0 Q h i0 x1
def bp_V_reply_0 (Q : Int32 → RS → Prop) (h : RS) (x1 : Int32) (x2 : Int32) (x3 : Int32) (x4 : Int32) (x5 : Int32) : Prop :=
  wp_V_mayBuild h x1 (fun r1 h2 => (r1 = 0 → isB (0 : Int32) ∧ Q (0 : Int32) h2) ∧
  (¬ r1 = 0 → ∃ k3 : Nat, k3 < 8 ∧ x1 = nI k3 ∧ wp_Re_hasPart h2 k3 x2 (fun r4 h5 => (¬ r4 = 0 → ∃ k6 : Nat, k6 < 8 ∧ x1 = nI k6 ∧ ∃ k7 : Nat, k7 < 4 ∧ x2 = nI k7 ∧ ∃ k8 : Nat, k8 < 8 ∧ (h5 (37 + k6) k7) = nI k8 ∧ ((h5 (13 + k8) 0) = 0 → isB (0 : Int32) ∧ Q (0 : Int32) h5) ∧
  (¬ (h5 (13 + k8) 0) = 0 → wp_Re_hasReplyTo h5 k6 x2 (fun r9 h10 => (r9 = 0 → wp_Re_mayAddAction h10 k6 x3 x4 (fun r11 h12 => (¬ r11 = 0 → wp_Re_addAction h12 k6 (0 : Int32) x2 x3 x4 x5 (fun h13 => isB (1 : Int32) ∧ Q (1 : Int32) h13)) ∧
  (r11 = 0 → isB (0 : Int32) ∧ Q (0 : Int32) h12))) ∧
  (¬ r9 = 0 → isB (0 : Int32) ∧ Q (0 : Int32) h10)))) ∧
  (r4 = 0 → isB (0 : Int32) ∧ Q (0 : Int32) h5))))
def wp_V_reply (h : RS) (x1 : Int32) (x2 : Int32) (x3 : Int32) (x4 : Int32) (x5 : Int32) (Q : Int32 → RS → Prop) : Prop := bp_V_reply_0 Q h x1 x2 x3 x4 x5
def bp_V_leavesCallUnanswered_2 (K2 : RS → Nat → Int32 → Prop) (Q : Int32 → RS → Prop) (h : RS) (i1 : Nat) (x2 : Int32) : Prop :=
  ((h (29 + i1) 0) ≤ x2 → isB (0 : Int32) ∧ Q (0 : Int32) h) ∧
  (¬ (h (29 + i1) 0) ≤ x2 → ∃ k1 : Nat, k1 < 4 ∧ x2 = nI k1 ∧ ∃ k2 : Nat, k2 < 8 ∧ (h (37 + i1) k1) = nI k2 ∧ ((h (13 + k2) 0) = 0 → K2 h i1 (x2 + 1)) ∧
  (¬ (h (13 + k2) 0) = 0 → wp_Re_hasReplyTo h i1 x2 (fun r3 h4 => (¬ r3 = 0 → K2 h4 i1 (x2 + 1)) ∧
  (r3 = 0 → isB (1 : Int32) ∧ Q (1 : Int32) h4))))
def wp_V_leavesCallUnanswered_2 (Q : Int32 → RS → Prop) : Nat → RS → Nat → Int32 → Prop
  | 0 => fun _ _ _ => False
  | n + 1 => bp_V_leavesCallUnanswered_2 (wp_V_leavesCallUnanswered_2 Q n) Q
def bp_V_leavesCallUnanswered_0 (Q : Int32 → RS → Prop) (h : RS) (i1 : Nat) : Prop :=
  ∃ n5 : Nat, wp_V_leavesCallUnanswered_2 Q n5 h i1 (0 : Int32)
def wp_V_leavesCallUnanswered (h : RS) (i1 : Nat) (Q : Int32 → RS → Prop) : Prop := bp_V_leavesCallUnanswered_0 Q h i1
def bp_V_obstacleToSealing_50 (K50 : RS → Int32 → Prop) (Q : Int32 → RS → Prop) (h : RS) (x1 : Int32) : Prop :=
  ((h 0 3) ≤ x1 → Q (0 : Int32) h) ∧
  (¬ (h 0 3) ≤ x1 → ∃ k1 : Nat, k1 < 8 ∧ x1 = nI k1 ∧ wp_V_leavesCallUnanswered h k1 (fun r2 h3 => (r2 = 0 → K50 h3 (x1 + 1)) ∧
  (¬ r2 = 0 → Q (4 : Int32) h3)))
def wp_V_obstacleToSealing_50 (Q : Int32 → RS → Prop) : Nat → RS → Int32 → Prop
  | 0 => fun _ _ => False
  | n + 1 => bp_V_obstacleToSealing_50 (wp_V_obstacleToSealing_50 Q n) Q
def bp_V_obstacleToSealing_20 (K20 : RS → Int32 → Prop) (Q : Int32 → RS → Prop) (h : RS) (x1 : Int32) : Prop :=
  ((h 0 3) ≤ x1 → ∃ n4 : Nat, wp_V_obstacleToSealing_50 Q n4 h (0 : Int32)) ∧
  (¬ (h 0 3) ≤ x1 → ∃ k5 : Nat, k5 < 8 ∧ x1 = nI k5 ∧ (¬ (h (29 + k5) 0) = 0 → K20 h (x1 + 1)) ∧
  ((h (29 + k5) 0) = 0 → Q (3 : Int32) h))
def wp_V_obstacleToSealing_20 (Q : Int32 → RS → Prop) : Nat → RS → Int32 → Prop
  | 0 => fun _ _ => False
  | n + 1 => bp_V_obstacleToSealing_20 (wp_V_obstacleToSealing_20 Q n) Q
def bp_V_obstacleToSealing_0 (Q : Int32 → RS → Prop) (h : RS) : Prop :=
  ((h 0 4) = 0 → (¬ (h 0 3) = 0 → ∃ n6 : Nat, wp_V_obstacleToSealing_20 Q n6 h (0 : Int32)) ∧
  ((h 0 3) = 0 → Q (2 : Int32) h)) ∧
  (¬ (h 0 4) = 0 → Q (1 : Int32) h)
def wp_V_obstacleToSealing (h : RS) (Q : Int32 → RS → Prop) : Prop := bp_V_obstacleToSealing_0 Q h
def bp_V_seal_0 (Q : Int32 → RS → Prop) (h : RS) : Prop :=
  wp_V_obstacleToSealing h (fun r1 h2 => (¬ r1 = 0 → Q r1 h2) ∧
  (r1 = 0 → isB (1 : Int32) ∧ ∀ h3 : RS, h3 = up2 h2 0 4 (1 : Int32) → Q r1 h3))
def wp_V_seal (h : RS) (Q : Int32 → RS → Prop) : Prop := bp_V_seal_0 Q h
def bp_Ms_add_0 (Q : Int32 → RS → Prop) (h : RS) (x1 : Int32) (x2 : Int32) : Prop :=
  ∃ k1 : Nat, k1 < 300 ∧ (h 3 0) = nI k1 ∧ ∀ h2 : RS, h2 = up2 h 6 k1 x1 → ∃ k3 : Nat, k3 < 300 ∧ (h 3 0) = nI k3 ∧ ∀ h4 : RS, h4 = up2 h2 7 k3 x2 → ∃ k5 : Nat, k5 < 300 ∧ (h 3 0) = nI k5 ∧ ∀ h6 : RS, h6 = up2 h4 8 k5 (1 : Int32) → ∃ k7 : Nat, k7 < 300 ∧ (h 3 0) = nI k7 ∧ ∀ h8 : RS, h8 = up2 h6 9 k7 (-1 : Int32) → ∀ h9 : RS, h9 = up2 h8 3 0 ((h8 3 0) + (1 : Int32)) → Q (h 3 0) h9
def wp_Ms_add (h : RS) (x1 : Int32) (x2 : Int32) (Q : Int32 → RS → Prop) : Prop := bp_Ms_add_0 Q h x1 x2
def bp_Ch_addPending_0 (Q : RS → Prop) (h : RS) (i0 : Nat) (x1 : Int32) : Prop :=
  ∃ k1 : Nat, k1 < 6 ∧ (h (13 + i0) 2) = nI k1 ∧ ∀ h2 : RS, h2 = up2 h (21 + i0) k1 x1 → ∀ h3 : RS, h3 = up2 h2 (13 + i0) 2 ((h2 (13 + i0) 2) + (1 : Int32)) → Q h3
def wp_Ch_addPending (h : RS) (i0 : Nat) (x1 : Int32) (Q : RS → Prop) : Prop := bp_Ch_addPending_0 Q h i0 x1
def bp_V_makeMessage_0 (Q : Int32 → RS → Prop) (h : RS) (x1 : Int32) (x2 : Int32) : Prop :=
  wp_Ms_add h x1 x2 (fun r1 h2 => ∃ k3 : Nat, k3 < 8 ∧ x1 = nI k3 ∧ wp_Ch_addPending h2 k3 r1 (fun h4 => Q r1 h4))
def wp_V_makeMessage (h : RS) (x1 : Int32) (x2 : Int32) (Q : Int32 → RS → Prop) : Prop := bp_V_makeMessage_0 Q h x1 x2
def bp_V_admit_0 (Q : Int32 → RS → Prop) (h : RS) (x1 : Int32) (x2 : Int32) (x3 : Int32) : Prop :=
  ((h 0 4) = 0 → Q (-1 : Int32) h) ∧
  (¬ (h 0 4) = 0 → wp_V_isChannelOf h x1 x3 (fun r1 h2 => (¬ r1 = 0 → ∃ k3 : Nat, k3 < 8 ∧ x1 = nI k3 ∧ ((6 : Int32) ≤ (h2 (13 + k3) 2) → Q (-1 : Int32) h2) ∧
  (¬ (6 : Int32) ≤ (h2 (13 + k3) 2) → ((h2 3 0) < (300 : Int32) → wp_V_makeMessage h2 x1 x2 (fun r4 h5 => Q r4 h5)) ∧
  (¬ (h2 3 0) < (300 : Int32) → Q (-1 : Int32) h2))) ∧
  (r1 = 0 → Q (-1 : Int32) h2)))
def wp_V_admit (h : RS) (x1 : Int32) (x2 : Int32) (x3 : Int32) (Q : Int32 → RS → Prop) : Prop := bp_V_admit_0 Q h x1 x2 x3
def bp_V_put_0 (Q : Int32 → RS → Prop) (h : RS) (x1 : Int32) (x2 : Int32) : Prop :=
  wp_V_admit h x1 x2 (0 : Int32) (fun r1 h2 => Q r1 h2)
def wp_V_put (h : RS) (x1 : Int32) (x2 : Int32) (Q : Int32 → RS → Prop) : Prop := bp_V_put_0 Q h x1 x2
def bp_V_call_0 (Q : Int32 → RS → Prop) (h : RS) (x1 : Int32) (x2 : Int32) : Prop :=
  wp_V_admit h x1 x2 (1 : Int32) (fun r1 h2 => Q r1 h2)
def wp_V_call (h : RS) (x1 : Int32) (x2 : Int32) (Q : Int32 → RS → Prop) : Prop := bp_V_call_0 Q h x1 x2
def bp_Ms_has_0 (Q : Int32 → RS → Prop) (h : RS) (x1 : Int32) : Prop :=
  (x1 < 0 → isB (0 : Int32) ∧ Q (0 : Int32) h) ∧
  (¬ x1 < 0 → ((h 3 0) ≤ x1 → isB (0 : Int32) ∧ Q (0 : Int32) h) ∧
  (¬ (h 3 0) ≤ x1 → isB (1 : Int32) ∧ Q (1 : Int32) h))
def wp_Ms_has (h : RS) (x1 : Int32) (Q : Int32 → RS → Prop) : Prop := bp_Ms_has_0 Q h x1
def bp_Ch_removePending_4 (K4 : RS → Nat → Int32 → Int32 → Int32 → Prop) (Q : RS → Prop) (h : RS) (i0 : Nat) (x1 : Int32) (x2 : Int32) (x3 : Int32) : Prop :=
  ((h (13 + i0) 2) ≤ x3 → ∀ h1 : RS, h1 = up2 h (13 + i0) 2 x2 → Q h1) ∧
  (¬ (h (13 + i0) 2) ≤ x3 → ∃ k2 : Nat, k2 < 6 ∧ x3 = nI k2 ∧ ((h (21 + i0) k2) = x1 → K4 h i0 x1 x2 (x3 + 1)) ∧
  (¬ (h (21 + i0) k2) = x1 → ∃ k3 : Nat, k3 < 6 ∧ x3 = nI k3 ∧ ∃ k4 : Nat, k4 < 6 ∧ x2 = nI k4 ∧ ∀ h5 : RS, h5 = up2 h (21 + i0) k4 (h (21 + i0) k3) → K4 h5 i0 x1 (x2 + 1) (x3 + 1)))
def wp_Ch_removePending_4 (Q : RS → Prop) : Nat → RS → Nat → Int32 → Int32 → Int32 → Prop
  | 0 => fun _ _ _ _ _ => False
  | n + 1 => bp_Ch_removePending_4 (wp_Ch_removePending_4 Q n) Q
def bp_Ch_removePending_0 (Q : RS → Prop) (h : RS) (i0 : Nat) (x1 : Int32) : Prop :=
  ∃ n6 : Nat, wp_Ch_removePending_4 Q n6 h i0 x1 (0 : Int32) (0 : Int32)
def wp_Ch_removePending (h : RS) (i0 : Nat) (x1 : Int32) (Q : RS → Prop) : Prop := bp_Ch_removePending_0 Q h i0 x1
def bp_V_withdraw_0 (Q : Int32 → RS → Prop) (h : RS) (x1 : Int32) : Prop :=
  wp_Ms_has h x1 (fun r1 h2 => (r1 = 0 → isB (0 : Int32) ∧ Q (0 : Int32) h2) ∧
  (¬ r1 = 0 → ∃ k3 : Nat, k3 < 300 ∧ x1 = nI k3 ∧ ((h2 8 k3) = (1 : Int32) → ∃ k4 : Nat, k4 < 300 ∧ x1 = nI k4 ∧ ∃ k5 : Nat, k5 < 8 ∧ (h2 6 k4) = nI k5 ∧ (¬ (h2 (13 + k5) 0) = 0 → ∃ k6 : Nat, k6 < 300 ∧ x1 = nI k6 ∧ ∀ h7 : RS, h7 = up2 h2 8 k6 (3 : Int32) → wp_Ch_removePending h7 k5 x1 (fun h8 => isB (1 : Int32) ∧ Q (1 : Int32) h8)) ∧
  ((h2 (13 + k5) 0) = 0 → isB (0 : Int32) ∧ Q (0 : Int32) h2)) ∧
  (¬ (h2 8 k3) = (1 : Int32) → isB (0 : Int32) ∧ Q (0 : Int32) h2)))
def wp_V_withdraw (h : RS) (x1 : Int32) (Q : Int32 → RS → Prop) : Prop := bp_V_withdraw_0 Q h x1
def bp_Re_sendCount_4 (K4 : RS → Nat → Int32 → Int32 → Prop) (Q : Int32 → RS → Prop) (h : RS) (i0 : Nat) (x1 : Int32) (x2 : Int32) : Prop :=
  ((h (29 + i0) 6) ≤ x2 → Q x1 h) ∧
  (¬ (h (29 + i0) 6) ≤ x2 → ∃ k1 : Nat, k1 < 4 ∧ x2 = nI k1 ∧ ((h (61 + i0) k1) = 0 → K4 h i0 x1 (x2 + 1)) ∧
  (¬ (h (61 + i0) k1) = 0 → K4 h i0 (x1 + 1) (x2 + 1)))
def wp_Re_sendCount_4 (Q : Int32 → RS → Prop) : Nat → RS → Nat → Int32 → Int32 → Prop
  | 0 => fun _ _ _ _ => False
  | n + 1 => bp_Re_sendCount_4 (wp_Re_sendCount_4 Q n) Q
def bp_Re_sendCount_0 (Q : Int32 → RS → Prop) (h : RS) (i0 : Nat) : Prop :=
  ∃ n2 : Nat, wp_Re_sendCount_4 Q n2 h i0 (0 : Int32) (0 : Int32)
def wp_Re_sendCount (h : RS) (i0 : Nat) (Q : Int32 → RS → Prop) : Prop := bp_Re_sendCount_0 Q h i0
def bp_Re_partsOn_4 (K4 : RS → Nat → Int32 → Int32 → Int32 → Prop) (Q : Int32 → RS → Prop) (h : RS) (i0 : Nat) (x1 : Int32) (x2 : Int32) (x3 : Int32) : Prop :=
  ((h (29 + i0) 0) ≤ x3 → Q x2 h) ∧
  (¬ (h (29 + i0) 0) ≤ x3 → ∃ k1 : Nat, k1 < 4 ∧ x3 = nI k1 ∧ (¬ (h (37 + i0) k1) = x1 → K4 h i0 x1 x2 (x3 + 1)) ∧
  ((h (37 + i0) k1) = x1 → K4 h i0 x1 (x2 + 1) (x3 + 1)))
def wp_Re_partsOn_4 (Q : Int32 → RS → Prop) : Nat → RS → Nat → Int32 → Int32 → Int32 → Prop
  | 0 => fun _ _ _ _ _ => False
  | n + 1 => bp_Re_partsOn_4 (wp_Re_partsOn_4 Q n) Q
def bp_Re_partsOn_0 (Q : Int32 → RS → Prop) (h : RS) (i0 : Nat) (x1 : Int32) : Prop :=
  ∃ n2 : Nat, wp_Re_partsOn_4 Q n2 h i0 x1 (0 : Int32) (0 : Int32)
def wp_Re_partsOn (h : RS) (i0 : Nat) (x1 : Int32) (Q : Int32 → RS → Prop) : Prop := bp_Re_partsOn_0 Q h i0 x1
def bp_Re_sendsTo_4 (K4 : RS → Nat → Int32 → Int32 → Int32 → Prop) (Q : Int32 → RS → Prop) (h : RS) (i0 : Nat) (x1 : Int32) (x2 : Int32) (x3 : Int32) : Prop :=
  ((h (29 + i0) 6) ≤ x3 → Q x2 h) ∧
  (¬ (h (29 + i0) 6) ≤ x3 → ∃ k1 : Nat, k1 < 4 ∧ x3 = nI k1 ∧ ((h (61 + i0) k1) = 0 → K4 h i0 x1 x2 (x3 + 1)) ∧
  (¬ (h (61 + i0) k1) = 0 → ∃ k2 : Nat, k2 < 4 ∧ x3 = nI k2 ∧ (¬ (h (69 + i0) k2) = x1 → K4 h i0 x1 x2 (x3 + 1)) ∧
  ((h (69 + i0) k2) = x1 → K4 h i0 x1 (x2 + 1) (x3 + 1))))
def wp_Re_sendsTo_4 (Q : Int32 → RS → Prop) : Nat → RS → Nat → Int32 → Int32 → Int32 → Prop
  | 0 => fun _ _ _ _ _ => False
  | n + 1 => bp_Re_sendsTo_4 (wp_Re_sendsTo_4 Q n) Q
def bp_Re_sendsTo_0 (Q : Int32 → RS → Prop) (h : RS) (i0 : Nat) (x1 : Int32) : Prop :=
  ∃ n3 : Nat, wp_Re_sendsTo_4 Q n3 h i0 x1 (0 : Int32) (0 : Int32)
def wp_Re_sendsTo (h : RS) (i0 : Nat) (x1 : Int32) (Q : Int32 → RS → Prop) : Prop := bp_Re_sendsTo_0 Q h i0 x1
def bp_V_hasRoom_22 (K22 : RS → Nat → Int32 → Prop) (Q : Int32 → RS → Prop) (h : RS) (i1 : Nat) (x2 : Int32) : Prop :=
  ((h 0 1) ≤ x2 → isB (1 : Int32) ∧ Q (1 : Int32) h) ∧
  (¬ (h 0 1) ≤ x2 → ∃ k1 : Nat, k1 < 8 ∧ x2 = nI k1 ∧ wp_Re_partsOn h i1 x2 (fun r2 h3 => wp_Re_sendsTo h3 i1 x2 (fun r4 h5 => ((((h (13 + k1) 2) - r2) + r4) ≤ (6 : Int32) → K22 h5 i1 (x2 + 1)) ∧
  (¬ (((h (13 + k1) 2) - r2) + r4) ≤ (6 : Int32) → isB (0 : Int32) ∧ Q (0 : Int32) h5))))
def wp_V_hasRoom_22 (Q : Int32 → RS → Prop) : Nat → RS → Nat → Int32 → Prop
  | 0 => fun _ _ _ => False
  | n + 1 => bp_V_hasRoom_22 (wp_V_hasRoom_22 Q n) Q
def bp_V_hasRoom_0 (Q : Int32 → RS → Prop) (h : RS) (i1 : Nat) : Prop :=
  wp_Re_sendCount h i1 (fun r6 h7 => (((h 3 0) + r6) ≤ (300 : Int32) → ∃ n8 : Nat, wp_V_hasRoom_22 Q n8 h7 i1 (0 : Int32)) ∧
  (¬ ((h 3 0) + r6) ≤ (300 : Int32) → isB (0 : Int32) ∧ Q (0 : Int32) h7))
def wp_V_hasRoom (h : RS) (i1 : Nat) (Q : Int32 → RS → Prop) : Prop := bp_V_hasRoom_0 Q h i1
def bp_V_allRise_2 (K2 : RS → Int32 → Int32 → Prop) (Q : Int32 → RS → Prop) (h : RS) (x1 : Int32) (x2 : Int32) : Prop :=
  (x1 ≤ x2 → isB (1 : Int32) ∧ Q (1 : Int32) h) ∧
  (¬ x1 ≤ x2 → ∃ k1 : Nat, k1 < 4 ∧ (x2 - (1 : Int32)) = nI k1 ∧ ∃ k2 : Nat, k2 < 4 ∧ x2 = nI k2 ∧ ((h 12 k1) < (h 12 k2) → K2 h x1 (x2 + 1)) ∧
  (¬ (h 12 k1) < (h 12 k2) → isB (0 : Int32) ∧ Q (0 : Int32) h))
def wp_V_allRise_2 (Q : Int32 → RS → Prop) : Nat → RS → Int32 → Int32 → Prop
  | 0 => fun _ _ _ => False
  | n + 1 => bp_V_allRise_2 (wp_V_allRise_2 Q n) Q
def bp_V_allRise_0 (Q : Int32 → RS → Prop) (h : RS) (x1 : Int32) : Prop :=
  ∃ n3 : Nat, wp_V_allRise_2 Q n3 h x1 (1 : Int32)
def wp_V_allRise (h : RS) (x1 : Int32) (Q : Int32 → RS → Prop) : Prop := bp_V_allRise_0 Q h x1
def bp_V_allEqual_2 (K2 : RS → Int32 → Int32 → Prop) (Q : Int32 → RS → Prop) (h : RS) (x1 : Int32) (x2 : Int32) : Prop :=
  (x1 ≤ x2 → isB (1 : Int32) ∧ Q (1 : Int32) h) ∧
  (¬ x1 ≤ x2 → ∃ k1 : Nat, k1 < 4 ∧ x2 = nI k1 ∧ ∃ k2 : Nat, k2 < 4 ∧ (0 : Int32) = nI k2 ∧ ((h 12 k1) = (h 12 k2) → K2 h x1 (x2 + 1)) ∧
  (¬ (h 12 k1) = (h 12 k2) → isB (0 : Int32) ∧ Q (0 : Int32) h))
def wp_V_allEqual_2 (Q : Int32 → RS → Prop) : Nat → RS → Int32 → Int32 → Prop
  | 0 => fun _ _ _ => False
  | n + 1 => bp_V_allEqual_2 (wp_V_allEqual_2 Q n) Q
def bp_V_allEqual_0 (Q : Int32 → RS → Prop) (h : RS) (x1 : Int32) : Prop :=
  ∃ n3 : Nat, wp_V_allEqual_2 Q n3 h x1 (1 : Int32)
def wp_V_allEqual (h : RS) (x1 : Int32) (Q : Int32 → RS → Prop) : Prop := bp_V_allEqual_0 Q h x1
def bp_V_allDiffer_9 (K2 : RS → Int32 → Int32 → Prop) (K9 : RS → Int32 → Int32 → Int32 → Prop) (Q : Int32 → RS → Prop) (h : RS) (x1 : Int32) (x2 : Int32) (x3 : Int32) : Prop :=
  (x2 ≤ x3 → K2 h x1 (x2 + 1)) ∧
  (¬ x2 ≤ x3 → ∃ k1 : Nat, k1 < 4 ∧ x2 = nI k1 ∧ ∃ k2 : Nat, k2 < 4 ∧ x3 = nI k2 ∧ (¬ (h 12 k1) = (h 12 k2) → K9 h x1 x2 (x3 + 1)) ∧
  ((h 12 k1) = (h 12 k2) → isB (0 : Int32) ∧ Q (0 : Int32) h))
def wp_V_allDiffer_9 (K2 : RS → Int32 → Int32 → Prop) (Q : Int32 → RS → Prop) : Nat → RS → Int32 → Int32 → Int32 → Prop
  | 0 => fun _ _ _ _ => False
  | n + 1 => bp_V_allDiffer_9 K2 (wp_V_allDiffer_9 K2 Q n) Q
def bp_V_allDiffer_2 (K2 : RS → Int32 → Int32 → Prop) (Q : Int32 → RS → Prop) (h : RS) (x1 : Int32) (x2 : Int32) : Prop :=
  (x1 ≤ x2 → isB (1 : Int32) ∧ Q (1 : Int32) h) ∧
  (¬ x1 ≤ x2 → ∃ n3 : Nat, wp_V_allDiffer_9 K2 Q n3 h x1 x2 (0 : Int32))
def wp_V_allDiffer_2 (Q : Int32 → RS → Prop) : Nat → RS → Int32 → Int32 → Prop
  | 0 => fun _ _ _ => False
  | n + 1 => bp_V_allDiffer_2 (wp_V_allDiffer_2 Q n) Q
def bp_V_allDiffer_0 (Q : Int32 → RS → Prop) (h : RS) (x1 : Int32) : Prop :=
  ∃ n4 : Nat, wp_V_allDiffer_2 Q n4 h x1 (1 : Int32)
def wp_V_allDiffer (h : RS) (x1 : Int32) (Q : Int32 → RS → Prop) : Prop := bp_V_allDiffer_0 Q h x1
def bp_V_sum_5 (K5 : RS → Int32 → Int64 → Int32 → Prop) (Q : Int64 → RS → Prop) (h : RS) (x1 : Int32) (x2 : Int64) (x4 : Int32) : Prop :=
  (x1 ≤ x4 → Q x2 h) ∧
  (¬ x1 ≤ x4 → ∃ k1 : Nat, k1 < 4 ∧ x4 = nI k1 ∧ K5 h x1 (x2 + (Int32.toInt64 (h 12 k1))) (x4 + 1))
def wp_V_sum_5 (Q : Int64 → RS → Prop) : Nat → RS → Int32 → Int64 → Int32 → Prop
  | 0 => fun _ _ _ _ => False
  | n + 1 => bp_V_sum_5 (wp_V_sum_5 Q n) Q
def bp_V_sum_0 (Q : Int64 → RS → Prop) (h : RS) (x1 : Int32) : Prop :=
  ∃ n2 : Nat, wp_V_sum_5 Q n2 h x1 (0 : Int64) (0 : Int32)
def wp_V_sum (h : RS) (x1 : Int32) (Q : Int64 → RS → Prop) : Prop := bp_V_sum_0 Q h x1
def bp_Re_guardHolds_0 (Q : Int32 → RS → Prop) (h : RS) (i0 : Nat) : Prop :=
  ((h (29 + i0) 4) = 1 → (wp_V_allRise h (h (29 + i0) 0) (fun r1 h2 => isB r1 ∧ Q r1 h2))) ∧
  ((h (29 + i0) 4) = 2 → (wp_V_allEqual h (h (29 + i0) 0) (fun r3 h4 => isB r3 ∧ Q r3 h4))) ∧
  ((h (29 + i0) 4) = 3 → (wp_V_allDiffer h (h (29 + i0) 0) (fun r5 h6 => isB r5 ∧ Q r5 h6))) ∧
  ((h (29 + i0) 4) = 4 → (wp_V_sum h (h (29 + i0) 0) (fun r7 h8 => (0 < (lg_cmp r7 (Int32.toInt64 (h8 (29 + i0) 5))) → isB (0 : Int32) ∧ Q (0 : Int32) h8) ∧
  (¬ 0 < (lg_cmp r7 (Int32.toInt64 (h8 (29 + i0) 5))) → isB (1 : Int32) ∧ Q (1 : Int32) h8)))) ∧
  ((h (29 + i0) 4) = 5 → (((h (29 + i0) 5) = 0 → isB (0 : Int32) ∧ Q (0 : Int32) h) ∧
  (¬ (h (29 + i0) 5) = 0 → wp_V_sum h (h (29 + i0) 0) (fun r9 h10 => ¬ (Int32.toInt64 (h10 (29 + i0) 5)) = 0 ∧ (¬ (lg_cmp (r9 - r9 / (Int32.toInt64 (h10 (29 + i0) 5)) * (Int32.toInt64 (h10 (29 + i0) 5))) (0 : Int64)) = 0 → isB (0 : Int32) ∧ Q (0 : Int32) h10) ∧
  ((lg_cmp (r9 - r9 / (Int32.toInt64 (h10 (29 + i0) 5)) * (Int32.toInt64 (h10 (29 + i0) 5))) (0 : Int64)) = 0 → isB (1 : Int32) ∧ Q (1 : Int32) h10))))) ∧
  (¬ (h (29 + i0) 4) = 1 → ¬ (h (29 + i0) 4) = 2 → ¬ (h (29 + i0) 4) = 3 → ¬ (h (29 + i0) 4) = 4 → ¬ (h (29 + i0) 4) = 5 → (isB (1 : Int32) ∧ Q (1 : Int32) h))
def wp_Re_guardHolds (h : RS) (i0 : Nat) (Q : Int32 → RS → Prop) : Prop := bp_Re_guardHolds_0 Q h i0
def bp_Re_passesTest_0 (Q : Int32 → RS → Prop) (h : RS) (i0 : Nat) (x1 : Int32) (x2 : Int32) : Prop :=
  ∃ k1 : Nat, k1 < 4 ∧ x1 = nI k1 ∧ ∃ k2 : Nat, k2 < 4 ∧ x1 = nI k2 ∧ ((h (45 + i0) k2) = 1 → ((¬ x2 = (h (53 + i0) k1) → isB (0 : Int32) ∧ Q (0 : Int32) h) ∧
  (x2 = (h (53 + i0) k1) → isB (1 : Int32) ∧ Q (1 : Int32) h))) ∧
  ((h (45 + i0) k2) = 2 → (((h (53 + i0) k1) ≤ x2 → isB (0 : Int32) ∧ Q (0 : Int32) h) ∧
  (¬ (h (53 + i0) k1) ≤ x2 → isB (1 : Int32) ∧ Q (1 : Int32) h))) ∧
  ((h (45 + i0) k2) = 3 → ((x2 < (h (53 + i0) k1) → isB (0 : Int32) ∧ Q (0 : Int32) h) ∧
  (¬ x2 < (h (53 + i0) k1) → isB (1 : Int32) ∧ Q (1 : Int32) h))) ∧
  ((h (45 + i0) k2) = 4 → (((x2 &&& (h (53 + i0) k1)) = 0 → isB (0 : Int32) ∧ Q (0 : Int32) h) ∧
  (¬ (x2 &&& (h (53 + i0) k1)) = 0 → isB (1 : Int32) ∧ Q (1 : Int32) h))) ∧
  (¬ (h (45 + i0) k2) = 1 → ¬ (h (45 + i0) k2) = 2 → ¬ (h (45 + i0) k2) = 3 → ¬ (h (45 + i0) k2) = 4 → (isB (1 : Int32) ∧ Q (1 : Int32) h))
def wp_Re_passesTest (h : RS) (i0 : Nat) (x1 : Int32) (x2 : Int32) (Q : Int32 → RS → Prop) : Prop := bp_Re_passesTest_0 Q h i0 x1 x2
def bp_Mt_holdsBefore_2 (K2 : RS → Int32 → Int32 → Int32 → Prop) (Q : Int32 → RS → Prop) (h : RS) (x1 : Int32) (x2 : Int32) (x3 : Int32) : Prop :=
  (x1 ≤ x3 → isB (0 : Int32) ∧ Q (0 : Int32) h) ∧
  (¬ x1 ≤ x3 → ∃ k1 : Nat, k1 < 4 ∧ x3 = nI k1 ∧ (¬ (h 11 k1) = x2 → K2 h x1 x2 (x3 + 1)) ∧
  ((h 11 k1) = x2 → isB (1 : Int32) ∧ Q (1 : Int32) h))
def wp_Mt_holdsBefore_2 (Q : Int32 → RS → Prop) : Nat → RS → Int32 → Int32 → Int32 → Prop
  | 0 => fun _ _ _ _ => False
  | n + 1 => bp_Mt_holdsBefore_2 (wp_Mt_holdsBefore_2 Q n) Q
def bp_Mt_holdsBefore_0 (Q : Int32 → RS → Prop) (h : RS) (x1 : Int32) (x2 : Int32) : Prop :=
  ∃ n2 : Nat, wp_Mt_holdsBefore_2 Q n2 h x1 x2 (0 : Int32)
def wp_Mt_holdsBefore (h : RS) (x1 : Int32) (x2 : Int32) (Q : Int32 → RS → Prop) : Prop := bp_Mt_holdsBefore_0 Q h x1 x2
def bp_V_fillMatch_38 (Rc : RS → Nat → Int32 → (Int32 → RS → Prop) → Prop) (K38 : RS → Nat → Int32 → Nat → Int32 → Prop) (Q : Int32 → RS → Prop) (h : RS) (i1 : Nat) (x4 : Int32) (i5 : Nat) (x6 : Int32) : Prop :=
  ((h (13 + i5) 2) ≤ x6 → isB (0 : Int32) ∧ Q (0 : Int32) h) ∧
  (¬ (h (13 + i5) 2) ≤ x6 → ∃ k1 : Nat, k1 < 6 ∧ x6 = nI k1 ∧ ∃ k2 : Nat, k2 < 300 ∧ (h (21 + i5) k1) = nI k2 ∧ wp_Re_passesTest h i1 x4 (h 7 k2) (fun r3 h4 => (r3 = 0 → K38 h4 i1 x4 i5 (x6 + 1)) ∧
  (¬ r3 = 0 → wp_Mt_holdsBefore h4 x4 (h (21 + i5) k1) (fun r5 h6 => (¬ r5 = 0 → K38 h6 i1 x4 i5 (x6 + 1)) ∧
  (r5 = 0 → ∃ k7 : Nat, k7 < 4 ∧ x4 = nI k7 ∧ ∀ h8 : RS, h8 = up2 h6 11 k7 (h (21 + i5) k1) → ∃ k9 : Nat, k9 < 4 ∧ x4 = nI k9 ∧ ∀ h10 : RS, h10 = up2 h8 12 k9 (h 7 k2) → Rc h10 i1 (x4 + (1 : Int32)) (fun r11 h12 => (r11 = 0 → K38 h12 i1 x4 i5 (x6 + 1)) ∧
  (¬ r11 = 0 → isB (1 : Int32) ∧ Q (1 : Int32) h12)))))))
def wp_V_fillMatch_38 (Rc : RS → Nat → Int32 → (Int32 → RS → Prop) → Prop) (Q : Int32 → RS → Prop) : Nat → RS → Nat → Int32 → Nat → Int32 → Prop
  | 0 => fun _ _ _ _ _ => False
  | n + 1 => bp_V_fillMatch_38 Rc (wp_V_fillMatch_38 Rc Q n) Q
def bp_V_fillMatch_15 (Rc : RS → Nat → Int32 → (Int32 → RS → Prop) → Prop) (Q : Int32 → RS → Prop) (h : RS) (i1 : Nat) : Prop :=
  wp_Re_guardHolds h i1 (fun r13 h14 => isB r13 ∧ Q r13 h14)
def bp_V_fillMatch_0 (Rc : RS → Nat → Int32 → (Int32 → RS → Prop) → Prop) (Q : Int32 → RS → Prop) (h : RS) (i1 : Nat) (x4 : Int32) : Prop :=
  ((4 : Int32) ≤ x4 → bp_V_fillMatch_15 Rc Q h i1) ∧
  (¬ (4 : Int32) ≤ x4 → (x4 < (h (29 + i1) 0) → ∃ k15 : Nat, k15 < 4 ∧ x4 = nI k15 ∧ ∃ k16 : Nat, k16 < 8 ∧ (h (37 + i1) k15) = nI k16 ∧ ∃ n17 : Nat, wp_V_fillMatch_38 Rc Q n17 h i1 x4 k16 (0 : Int32)) ∧
  (¬ x4 < (h (29 + i1) 0) → bp_V_fillMatch_15 Rc Q h i1))
def wp_V_fillMatch : Nat → RS → Nat → Int32 → (Int32 → RS → Prop) → Prop
  | 0 => fun _ _ _ _ => False
  | dd + 1 => fun h i1 x4 Q => bp_V_fillMatch_0 (wp_V_fillMatch dd) Q h i1 x4
def bp_V_findEnabledMatch_0 (Q : Int32 → RS → Prop) (h : RS) (x1 : Int32) : Prop :=
  ((h 0 4) = 0 → isB (0 : Int32) ∧ Q (0 : Int32) h) ∧
  (¬ (h 0 4) = 0 → ∃ k1 : Nat, k1 < 8 ∧ x1 = nI k1 ∧ wp_V_hasRoom h k1 (fun r2 h3 => (r2 = 0 → isB (0 : Int32) ∧ Q (0 : Int32) h3) ∧
  (¬ r2 = 0 → ∃ k4 : Nat, k4 < 8 ∧ x1 = nI k4 ∧ ∃ d7 : Nat, d7 ≤ 5 ∧ wp_V_fillMatch d7 h3 k4 (0 : Int32) (fun r5 h6 => (r5 = 0 → isB (0 : Int32) ∧ Q (0 : Int32) h6) ∧
  (¬ r5 = 0 → isB (1 : Int32) ∧ Q (1 : Int32) h6)))))
def wp_V_findEnabledMatch (h : RS) (x1 : Int32) (Q : Int32 → RS → Prop) : Prop := bp_V_findEnabledMatch_0 Q h x1
def bp_V_findNext_27 (K27 : RS → Int32 → Int32 → Prop) (Q : Int32 → RS → Prop) (h : RS) (x1 : Int32) (x2 : Int32) : Prop :=
  ((h 0 3) ≤ x2 → Q (-1 : Int32) h) ∧
  (¬ (h 0 3) ≤ x2 → ¬ (h 0 3) = 0 ∧ wp_V_findEnabledMatch h ((x1 + x2) - (x1 + x2) / (h 0 3) * (h 0 3)) (fun r1 h2 => (r1 = 0 → K27 h2 x1 (x2 + 1)) ∧
  (¬ r1 = 0 → Q ((x1 + x2) - (x1 + x2) / (h 0 3) * (h 0 3)) h2)))
def wp_V_findNext_27 (Q : Int32 → RS → Prop) : Nat → RS → Int32 → Int32 → Prop
  | 0 => fun _ _ _ => False
  | n + 1 => bp_V_findNext_27 (wp_V_findNext_27 Q n) Q
def bp_V_findNext_24 (Q : Int32 → RS → Prop) (h : RS) (y0 : Int32) : Prop :=
  ∃ n3 : Nat, wp_V_findNext_27 Q n3 h y0 (0 : Int32)
def bp_V_findNext_0 (Q : Int32 → RS → Prop) (h : RS) : Prop :=
  (¬ (h 0 8) = 0 → ∃ k4 : Nat, k4 < 300 ∧ ((h 0 8) - (1 : Int32)) = nI k4 ∧ bp_V_findNext_24 Q h ((h 5 k4) + (1 : Int32))) ∧
  ((h 0 8) = 0 → bp_V_findNext_24 Q h (0 : Int32))
def wp_V_findNext (h : RS) (Q : Int32 → RS → Prop) : Prop := bp_V_findNext_0 Q h
def bp_V_consume_0 (Q : RS → Prop) (h : RS) (x1 : Int32) : Prop :=
  ∃ k1 : Nat, k1 < 300 ∧ x1 = nI k1 ∧ ∀ h2 : RS, h2 = up2 h 8 k1 (2 : Int32) → ∃ k3 : Nat, k3 < 300 ∧ x1 = nI k3 ∧ ∀ h4 : RS, h4 = up2 h2 9 k3 (h2 0 8) → ∃ k5 : Nat, k5 < 300 ∧ x1 = nI k5 ∧ ∃ k6 : Nat, k6 < 8 ∧ (h4 6 k5) = nI k6 ∧ wp_Ch_removePending h4 k6 x1 (fun h7 => Q h7)
def wp_V_consume (h : RS) (x1 : Int32) (Q : RS → Prop) : Prop := bp_V_consume_0 Q h x1
def bp_V_greatest_6 (K6 : RS → Int32 → Int32 → Int32 → Prop) (Q : Int32 → RS → Prop) (h : RS) (x1 : Int32) (x2 : Int32) (x3 : Int32) : Prop :=
  (x1 ≤ x3 → Q x2 h) ∧
  (¬ x1 ≤ x3 → ∃ k1 : Nat, k1 < 4 ∧ x3 = nI k1 ∧ K6 h x1 (if x2 < (h 12 k1) then (h 12 k1) else x2) (x3 + 1))
def wp_V_greatest_6 (Q : Int32 → RS → Prop) : Nat → RS → Int32 → Int32 → Int32 → Prop
  | 0 => fun _ _ _ _ => False
  | n + 1 => bp_V_greatest_6 (wp_V_greatest_6 Q n) Q
def bp_V_greatest_0 (Q : Int32 → RS → Prop) (h : RS) (x1 : Int32) : Prop :=
  ∃ k2 : Nat, k2 < 4 ∧ (0 : Int32) = nI k2 ∧ ∃ n3 : Nat, wp_V_greatest_6 Q n3 h x1 (h 12 k2) (1 : Int32)
def wp_V_greatest (h : RS) (x1 : Int32) (Q : Int32 → RS → Prop) : Prop := bp_V_greatest_0 Q h x1
def bp_Re_evaluate_0 (Q : Int32 → RS → Prop) (h : RS) (i0 : Nat) (x1 : Int32) : Prop :=
  ∃ k1 : Nat, k1 < 4 ∧ x1 = nI k1 ∧ ∃ k2 : Nat, k2 < 4 ∧ x1 = nI k2 ∧ ((h (77 + i0) k2) = 1 → (∃ k3 : Nat, k3 < 4 ∧ x1 = nI k3 ∧ ∃ k4 : Nat, k4 < 4 ∧ (h (85 + i0) k3) = nI k4 ∧ Q ((h 12 k4) + (h (93 + i0) k1)) h)) ∧
  ((h (77 + i0) k2) = 2 → (∃ k5 : Nat, k5 < 4 ∧ x1 = nI k5 ∧ ∃ k6 : Nat, k6 < 4 ∧ (h (85 + i0) k5) = nI k6 ∧ Q ((h 12 k6) * (h (93 + i0) k1)) h)) ∧
  ((h (77 + i0) k2) = 3 → (wp_V_sum h (h (29 + i0) 0) (fun r7 h8 => Q ((Int64.toInt32 r7) + (h (93 + i0) k1)) h8))) ∧
  ((h (77 + i0) k2) = 4 → (wp_V_greatest h (h (29 + i0) 0) (fun r9 h10 => Q r9 h10))) ∧
  (¬ (h (77 + i0) k2) = 1 → ¬ (h (77 + i0) k2) = 2 → ¬ (h (77 + i0) k2) = 3 → ¬ (h (77 + i0) k2) = 4 → (Q (h (93 + i0) k1) h))
def wp_Re_evaluate (h : RS) (i0 : Nat) (x1 : Int32) (Q : Int32 → RS → Prop) : Prop := bp_Re_evaluate_0 Q h i0 x1
def bp_V_fire_38 (K38 : RS → Int32 → Nat → Int32 → Prop) (Q : RS → Prop) (h : RS) (x1 : Int32) (i2 : Nat) (x3 : Int32) : Prop :=
  ((h (29 + i2) 6) ≤ x3 → ∃ k1 : Nat, k1 < 300 ∧ (h 0 8) = nI k1 ∧ ∀ h2 : RS, h2 = up2 h 5 k1 x1 → ∀ h3 : RS, h3 = up2 h2 0 8 ((h2 0 8) + (1 : Int32)) → Q h3) ∧
  (¬ (h (29 + i2) 6) ≤ x3 → wp_Re_evaluate h i2 x3 (fun r4 h5 => ∃ k6 : Nat, k6 < 4 ∧ x3 = nI k6 ∧ ((h5 (61 + i2) k6) = 0 → ∃ k7 : Nat, k7 < 4 ∧ x3 = nI k7 ∧ ∃ k8 : Nat, k8 < 4 ∧ (h5 (69 + i2) k7) = nI k8 ∧ ∃ k9 : Nat, k9 < 300 ∧ (h5 11 k8) = nI k9 ∧ ∀ h10 : RS, h10 = up2 h5 10 k9 r4 → K38 h10 x1 i2 (x3 + 1)) ∧
  (¬ (h5 (61 + i2) k6) = 0 → ∃ k11 : Nat, k11 < 4 ∧ x3 = nI k11 ∧ wp_V_makeMessage h5 (h5 (69 + i2) k11) r4 (fun r12 h13 => K38 h13 x1 i2 (x3 + 1)))))
def wp_V_fire_38 (Q : RS → Prop) : Nat → RS → Int32 → Nat → Int32 → Prop
  | 0 => fun _ _ _ _ => False
  | n + 1 => bp_V_fire_38 (wp_V_fire_38 Q n) Q
def bp_V_fire_9 (K9 : RS → Int32 → Nat → Int32 → Prop) (Q : RS → Prop) (h : RS) (x1 : Int32) (i2 : Nat) (x3 : Int32) : Prop :=
  ((h (29 + i2) 0) ≤ x3 → ∃ n14 : Nat, wp_V_fire_38 Q n14 h x1 i2 (0 : Int32)) ∧
  (¬ (h (29 + i2) 0) ≤ x3 → ∃ k15 : Nat, k15 < 4 ∧ x3 = nI k15 ∧ wp_V_consume h (h 11 k15) (fun h16 => K9 h16 x1 i2 (x3 + 1)))
def wp_V_fire_9 (Q : RS → Prop) : Nat → RS → Int32 → Nat → Int32 → Prop
  | 0 => fun _ _ _ _ => False
  | n + 1 => bp_V_fire_9 (wp_V_fire_9 Q n) Q
def bp_V_fire_0 (Q : RS → Prop) (h : RS) (x1 : Int32) : Prop :=
  ∃ k17 : Nat, k17 < 8 ∧ x1 = nI k17 ∧ ∃ n18 : Nat, wp_V_fire_9 Q n18 h x1 k17 (0 : Int32)
def wp_V_fire (h : RS) (x1 : Int32) (Q : RS → Prop) : Prop := bp_V_fire_0 Q h x1
def bp_V_react_19 (K19 : RS → Int32 → Int32 → Prop) (Q : Int32 → RS → Prop) (h : RS) (x1 : Int32) (x2 : Int32) : Prop :=
  (x1 ≤ x2 → Q x1 h) ∧
  (¬ x1 ≤ x2 → wp_V_findNext h (fun r1 h2 => (¬ r1 = (-1 : Int32) → wp_V_fire h2 r1 (fun h3 => K19 h3 x1 (x2 + 1))) ∧
  (r1 = (-1 : Int32) → Q x2 h2)))
def wp_V_react_19 (Q : Int32 → RS → Prop) : Nat → RS → Int32 → Int32 → Prop
  | 0 => fun _ _ _ => False
  | n + 1 => bp_V_react_19 (wp_V_react_19 Q n) Q
def bp_V_react_0 (Q : Int32 → RS → Prop) (h : RS) (x1 : Int32) : Prop :=
  ((h 0 4) = 0 → Q (-1 : Int32) h) ∧
  (¬ (h 0 4) = 0 → wp_V_isWithin h x1 (5 : Int32) (fun r4 h5 => (¬ r4 = 0 → ∃ n6 : Nat, wp_V_react_19 Q n6 h5 x1 (0 : Int32)) ∧
  (r4 = 0 → Q (-1 : Int32) h5)))
def wp_V_react (h : RS) (x1 : Int32) (Q : Int32 → RS → Prop) : Prop := bp_V_react_0 Q h x1
def bp_V_enabled_4 (K4 : RS → Int32 → Int32 → Prop) (Q : Int32 → RS → Prop) (h : RS) (x1 : Int32) (x2 : Int32) : Prop :=
  ((h 0 3) ≤ x2 → Q x1 h) ∧
  (¬ (h 0 3) ≤ x2 → wp_V_findEnabledMatch h x2 (fun r1 h2 => (r1 = 0 → K4 h2 x1 (x2 + 1)) ∧
  (¬ r1 = 0 → K4 h2 (x1 ||| ((1 : Int32) <<< (x2 &&& 31))) (x2 + 1))))
def wp_V_enabled_4 (Q : Int32 → RS → Prop) : Nat → RS → Int32 → Int32 → Prop
  | 0 => fun _ _ _ => False
  | n + 1 => bp_V_enabled_4 (wp_V_enabled_4 Q n) Q
def bp_V_enabled_0 (Q : Int32 → RS → Prop) (h : RS) : Prop :=
  ∃ n3 : Nat, wp_V_enabled_4 Q n3 h (0 : Int32) (0 : Int32)
def wp_V_enabled (h : RS) (Q : Int32 → RS → Prop) : Prop := bp_V_enabled_0 Q h
def bp_V_next_0 (Q : Int32 → RS → Prop) (h : RS) : Prop :=
  wp_V_findNext h (fun r1 h2 => Q r1 h2)
def wp_V_next (h : RS) (Q : Int32 → RS → Prop) : Prop := bp_V_next_0 Q h
def bp_V_taken_0 (Q : Int32 → RS → Prop) (h : RS) (x1 : Int32) : Prop :=
  wp_V_findNext h (fun r1 h2 => (r1 = (-1 : Int32) → Q (-1 : Int32) h2) ∧
  (¬ r1 = (-1 : Int32) → ∃ k3 : Nat, k3 < 8 ∧ r1 = nI k3 ∧ wp_Re_hasPart h2 k3 x1 (fun r4 h5 => (¬ r4 = 0 → ∃ k6 : Nat, k6 < 4 ∧ x1 = nI k6 ∧ Q (h5 11 k6) h5) ∧
  (r4 = 0 → Q (-1 : Int32) h5))))
def wp_V_taken (h : RS) (x1 : Int32) (Q : Int32 → RS → Prop) : Prop := bp_V_taken_0 Q h x1
def bp_V_pendingAt_0 (Q : Int32 → RS → Prop) (h : RS) (x1 : Int32) (x2 : Int32) : Prop :=
  wp_V_isChannel h x1 (fun r1 h2 => (r1 = 0 → Q (-1 : Int32) h2) ∧
  (¬ r1 = 0 → (x2 < 0 → Q (-1 : Int32) h2) ∧
  (¬ x2 < 0 → ∃ k3 : Nat, k3 < 8 ∧ x1 = nI k3 ∧ (x2 < (h2 (13 + k3) 2) → ∃ k4 : Nat, k4 < 8 ∧ x1 = nI k4 ∧ ∃ k5 : Nat, k5 < 6 ∧ x2 = nI k5 ∧ Q (h2 (21 + k4) k5) h2) ∧
  (¬ x2 < (h2 (13 + k3) 2) → Q (-1 : Int32) h2))))
def wp_V_pendingAt (h : RS) (x1 : Int32) (x2 : Int32) (Q : Int32 → RS → Prop) : Prop := bp_V_pendingAt_0 Q h x1 x2
def bp_V_value_0 (Q : Int32 → RS → Prop) (h : RS) (x1 : Int32) : Prop :=
  wp_Ms_has h x1 (fun r1 h2 => (r1 = 0 → Q (0 : Int32) h2) ∧
  (¬ r1 = 0 → ∃ k3 : Nat, k3 < 300 ∧ x1 = nI k3 ∧ Q (h2 7 k3) h2))
def wp_V_value (h : RS) (x1 : Int32) (Q : Int32 → RS → Prop) : Prop := bp_V_value_0 Q h x1
def bp_V_state_0 (Q : Int32 → RS → Prop) (h : RS) (x1 : Int32) : Prop :=
  wp_Ms_has h x1 (fun r1 h2 => (r1 = 0 → Q (0 : Int32) h2) ∧
  (¬ r1 = 0 → ∃ k3 : Nat, k3 < 300 ∧ x1 = nI k3 ∧ Q (h2 8 k3) h2))
def wp_V_state (h : RS) (x1 : Int32) (Q : Int32 → RS → Prop) : Prop := bp_V_state_0 Q h x1
def bp_V_consumer_0 (Q : Int32 → RS → Prop) (h : RS) (x1 : Int32) : Prop :=
  wp_Ms_has h x1 (fun r1 h2 => (r1 = 0 → Q (-1 : Int32) h2) ∧
  (¬ r1 = 0 → ∃ k3 : Nat, k3 < 300 ∧ x1 = nI k3 ∧ Q (h2 9 k3) h2))
def wp_V_consumer (h : RS) (x1 : Int32) (Q : Int32 → RS → Prop) : Prop := bp_V_consumer_0 Q h x1
def bp_V_answer_0 (Q : Int32 → RS → Prop) (h : RS) (x1 : Int32) : Prop :=
  wp_Ms_has h x1 (fun r1 h2 => (r1 = 0 → Q (0 : Int32) h2) ∧
  (¬ r1 = 0 → ∃ k3 : Nat, k3 < 300 ∧ x1 = nI k3 ∧ Q (h2 10 k3) h2))
def wp_V_answer (h : RS) (x1 : Int32) (Q : Int32 → RS → Prop) : Prop := bp_V_answer_0 Q h x1
def bp_V_fired_0 (Q : Int32 → RS → Prop) (h : RS) (x1 : Int32) : Prop :=
  (x1 < 0 → Q (-1 : Int32) h) ∧
  (¬ x1 < 0 → ((h 0 8) ≤ x1 → Q (-1 : Int32) h) ∧
  (¬ (h 0 8) ≤ x1 → ∃ k1 : Nat, k1 < 300 ∧ x1 = nI k1 ∧ Q (h 5 k1) h))
def wp_V_fired (h : RS) (x1 : Int32) (Q : Int32 → RS → Prop) : Prop := bp_V_fired_0 Q h x1
def bp_M_channel_0 (Q : Int32 → RS → Prop) (h : RS) (x1 : Int32) : Prop :=
  (¬ (h 0 15) = 0 → Q (-1 : Int32) h) ∧
  ((h 0 15) = 0 → ((h 0 0) < (8 : Int32) → ∃ k1 : Nat, k1 < 8 ∧ (h 0 0) = nI k1 ∧ isB x1 ∧ ∀ h2 : RS, h2 = up2 h 1 k1 x1 → ∀ h3 : RS, h3 = up2 h2 0 0 ((h2 0 0) + (1 : Int32)) → Q ((h3 0 0) - (1 : Int32)) h3) ∧
  (¬ (h 0 0) < (8 : Int32) → Q (-1 : Int32) h))
def wp_M_channel (h : RS) (x1 : Int32) (Q : Int32 → RS → Prop) : Prop := bp_M_channel_0 Q h x1
def bp_M_reaction_0 (Q : Int32 → RS → Prop) (h : RS) : Prop :=
  (¬ (h 0 15) = 0 → Q (-1 : Int32) h) ∧
  ((h 0 15) = 0 → ((h 0 2) < (8 : Int32) → ∀ h1 : RS, h1 = up2 h 0 2 ((h 0 2) + (1 : Int32)) → Q ((h1 0 2) - (1 : Int32)) h1) ∧
  (¬ (h 0 2) < (8 : Int32) → Q (-1 : Int32) h))
def wp_M_reaction (h : RS) (Q : Int32 → RS → Prop) : Prop := bp_M_reaction_0 Q h
def bp_M_open_0 (Q : Int32 → RS → Prop) (h : RS) (x1 : Int32) : Prop :=
  (¬ (h 0 15) = 0 → isB (0 : Int32) ∧ Q (0 : Int32) h) ∧
  ((h 0 15) = 0 → (x1 < 0 → isB (0 : Int32) ∧ Q (0 : Int32) h) ∧
  (¬ x1 < 0 → ((h 0 2) ≤ x1 → isB (0 : Int32) ∧ Q (0 : Int32) h) ∧
  (¬ (h 0 2) ≤ x1 → isB (1 : Int32) ∧ Q (1 : Int32) h)))
def wp_M_open (h : RS) (x1 : Int32) (Q : Int32 → RS → Prop) : Prop := bp_M_open_0 Q h x1
def bp_M_isChannel_0 (Q : Int32 → RS → Prop) (h : RS) (x1 : Int32) : Prop :=
  (x1 < 0 → isB (0 : Int32) ∧ Q (0 : Int32) h) ∧
  (¬ x1 < 0 → ((h 0 0) ≤ x1 → isB (0 : Int32) ∧ Q (0 : Int32) h) ∧
  (¬ (h 0 0) ≤ x1 → isB (1 : Int32) ∧ Q (1 : Int32) h))
def wp_M_isChannel (h : RS) (x1 : Int32) (Q : Int32 → RS → Prop) : Prop := bp_M_isChannel_0 Q h x1
def bp_M_hasPart_0 (Q : Int32 → RS → Prop) (h : RS) (x1 : Int32) (x2 : Int32) : Prop :=
  (x2 < 0 → isB (0 : Int32) ∧ Q (0 : Int32) h) ∧
  (¬ x2 < 0 → ∃ k1 : Nat, k1 < 8 ∧ x1 = nI k1 ∧ ((h 2 k1) ≤ x2 → isB (0 : Int32) ∧ Q (0 : Int32) h) ∧
  (¬ (h 2 k1) ≤ x2 → isB (1 : Int32) ∧ Q (1 : Int32) h))
def wp_M_hasPart (h : RS) (x1 : Int32) (x2 : Int32) (Q : Int32 → RS → Prop) : Prop := bp_M_hasPart_0 Q h x1 x2
def bp_M_part_0 (Q : Int32 → RS → Prop) (h : RS) (x1 : Int32) (x2 : Int32) (x3 : Int32) (x4 : Int32) : Prop :=
  wp_M_open h x1 (fun r1 h2 => (r1 = 0 → Q (-1 : Int32) h2) ∧
  (¬ r1 = 0 → wp_M_isChannel h2 x2 (fun r3 h4 => (r3 = 0 → Q (-1 : Int32) h4) ∧
  (¬ r3 = 0 → (x3 < 0 → Q (-1 : Int32) h4) ∧
  (¬ x3 < 0 → ((4 : Int32) < x3 → Q (-1 : Int32) h4) ∧
  (¬ (4 : Int32) < x3 → ∃ k5 : Nat, k5 < 8 ∧ x1 = nI k5 ∧ ((h4 2 k5) < (4 : Int32) → ∃ k6 : Nat, k6 < 8 ∧ x1 = nI k6 ∧ ∃ k7 : Nat, k7 < 32 ∧ (((4 : Int32) * x1) + (h4 2 k6)) = nI k7 ∧ ∀ h8 : RS, h8 = up2 h4 3 k7 x2 → ∃ k9 : Nat, k9 < 32 ∧ (((4 : Int32) * x1) + (h4 2 k6)) = nI k9 ∧ ∀ h10 : RS, h10 = up2 h8 4 k9 x3 → ∃ k11 : Nat, k11 < 32 ∧ (((4 : Int32) * x1) + (h4 2 k6)) = nI k11 ∧ ∀ h12 : RS, h12 = up2 h10 5 k11 x4 → ∃ k13 : Nat, k13 < 8 ∧ x1 = nI k13 ∧ ∃ k14 : Nat, k14 < 8 ∧ x1 = nI k14 ∧ ∀ h15 : RS, h15 = up2 h12 2 k14 ((h12 2 k13) + (1 : Int32)) → ∃ k16 : Nat, k16 < 8 ∧ x1 = nI k16 ∧ Q ((h15 2 k16) - (1 : Int32)) h15) ∧
  (¬ (h4 2 k5) < (4 : Int32) → Q (-1 : Int32) h4)))))))
def wp_M_part (h : RS) (x1 : Int32) (x2 : Int32) (x3 : Int32) (x4 : Int32) (Q : Int32 → RS → Prop) : Prop := bp_M_part_0 Q h x1 x2 x3 x4
def bp_M_guard_0 (Q : Int32 → RS → Prop) (h : RS) (x1 : Int32) (x2 : Int32) (x3 : Int32) : Prop :=
  wp_M_open h x1 (fun r1 h2 => (r1 = 0 → isB (0 : Int32) ∧ Q (0 : Int32) h2) ∧
  (¬ r1 = 0 → (x2 < 0 → isB (0 : Int32) ∧ Q (0 : Int32) h2) ∧
  (¬ x2 < 0 → (x2 ≤ (5 : Int32) → ∃ k3 : Nat, k3 < 8 ∧ x1 = nI k3 ∧ ∀ h4 : RS, h4 = up2 h2 6 k3 x2 → ∃ k5 : Nat, k5 < 8 ∧ x1 = nI k5 ∧ ∀ h6 : RS, h6 = up2 h4 7 k5 x3 → isB (1 : Int32) ∧ Q (1 : Int32) h6) ∧
  (¬ x2 ≤ (5 : Int32) → isB (0 : Int32) ∧ Q (0 : Int32) h2))))
def wp_M_guard (h : RS) (x1 : Int32) (x2 : Int32) (x3 : Int32) (Q : Int32 → RS → Prop) : Prop := bp_M_guard_0 Q h x1 x2 x3
def bp_M_expression_19 (Q : Int32 → RS → Prop) (h : RS) (x1 : Int32) (x3 : Int32) : Prop :=
  wp_M_hasPart h x1 x3 (fun r1 h2 => (r1 = 0 → isB (0 : Int32) ∧ Q (0 : Int32) h2) ∧
  (¬ r1 = 0 → isB (1 : Int32) ∧ Q (1 : Int32) h2))
def bp_M_expression_0 (Q : Int32 → RS → Prop) (h : RS) (x1 : Int32) (x2 : Int32) (x3 : Int32) : Prop :=
  (x2 < 0 → isB (0 : Int32) ∧ Q (0 : Int32) h) ∧
  (¬ x2 < 0 → ((4 : Int32) < x2 → isB (0 : Int32) ∧ Q (0 : Int32) h) ∧
  (¬ (4 : Int32) < x2 → (x2 = (1 : Int32) → bp_M_expression_19 Q h x1 x3) ∧
  (¬ x2 = (1 : Int32) → (¬ x2 = (2 : Int32) → isB (1 : Int32) ∧ Q (1 : Int32) h) ∧
  (x2 = (2 : Int32) → bp_M_expression_19 Q h x1 x3))))
def wp_M_expression (h : RS) (x1 : Int32) (x2 : Int32) (x3 : Int32) (Q : Int32 → RS → Prop) : Prop := bp_M_expression_0 Q h x1 x2 x3
def bp_M_act_0 (Q : RS → Prop) (h : RS) (x1 : Int32) (x2 : Int32) (x3 : Int32) (x4 : Int32) (x5 : Int32) : Prop :=
  ∃ k1 : Nat, k1 < 8 ∧ x1 = nI k1 ∧ ∃ k2 : Nat, k2 < 32 ∧ (((4 : Int32) * x1) + (h 8 k1)) = nI k2 ∧ ∀ h3 : RS, h3 = up2 h 9 k2 x2 → ∃ k4 : Nat, k4 < 32 ∧ (((4 : Int32) * x1) + (h 8 k1)) = nI k4 ∧ ∀ h5 : RS, h5 = up2 h3 10 k4 x3 → ∃ k6 : Nat, k6 < 32 ∧ (((4 : Int32) * x1) + (h 8 k1)) = nI k6 ∧ ∀ h7 : RS, h7 = up2 h5 11 k6 x4 → ∃ k8 : Nat, k8 < 32 ∧ (((4 : Int32) * x1) + (h 8 k1)) = nI k8 ∧ ∀ h9 : RS, h9 = up2 h7 12 k8 x5 → ∃ k10 : Nat, k10 < 8 ∧ x1 = nI k10 ∧ ∃ k11 : Nat, k11 < 8 ∧ x1 = nI k11 ∧ ∀ h12 : RS, h12 = up2 h9 8 k11 ((h9 8 k10) + (1 : Int32)) → Q h12
def wp_M_act (h : RS) (x1 : Int32) (x2 : Int32) (x3 : Int32) (x4 : Int32) (x5 : Int32) (Q : RS → Prop) : Prop := bp_M_act_0 Q h x1 x2 x3 x4 x5
def bp_M_emit_0 (Q : Int32 → RS → Prop) (h : RS) (x1 : Int32) (x2 : Int32) (x3 : Int32) (x4 : Int32) (x5 : Int32) : Prop :=
  wp_M_open h x1 (fun r1 h2 => (r1 = 0 → isB (0 : Int32) ∧ Q (0 : Int32) h2) ∧
  (¬ r1 = 0 → wp_M_isChannel h2 x2 (fun r3 h4 => (r3 = 0 → isB (0 : Int32) ∧ Q (0 : Int32) h4) ∧
  (¬ r3 = 0 → ∃ k5 : Nat, k5 < 8 ∧ x2 = nI k5 ∧ (¬ (h4 1 k5) = 0 → isB (0 : Int32) ∧ Q (0 : Int32) h4) ∧
  ((h4 1 k5) = 0 → wp_M_expression h4 x1 x3 x4 (fun r6 h7 => (r6 = 0 → isB (0 : Int32) ∧ Q (0 : Int32) h7) ∧
  (¬ r6 = 0 → ∃ k8 : Nat, k8 < 8 ∧ x1 = nI k8 ∧ ((h7 8 k8) < (4 : Int32) → ∃ k9 : Nat, k9 < 8 ∧ x1 = nI k9 ∧ ∃ k10 : Nat, k10 < 32 ∧ (((4 : Int32) * x1) + (h7 8 k9)) = nI k10 ∧ ∀ h11 : RS, h11 = up2 h7 13 k10 x5 → wp_M_act h11 x1 x2 (-1 : Int32) x3 x4 (fun h12 => isB (1 : Int32) ∧ Q (1 : Int32) h12)) ∧
  (¬ (h7 8 k8) < (4 : Int32) → isB (0 : Int32) ∧ Q (0 : Int32) h7))))))))
def wp_M_emit (h : RS) (x1 : Int32) (x2 : Int32) (x3 : Int32) (x4 : Int32) (x5 : Int32) (Q : Int32 → RS → Prop) : Prop := bp_M_emit_0 Q h x1 x2 x3 x4 x5
def bp_M_answersPart_53 (K5 : RS → Int32 → Int32 → Int32 → Int32 → Prop) (Q : Int32 → RS → Prop) (h : RS) (x1 : Int32) (x2 : Int32) (x4 : Int32) : Prop :=
  K5 h x1 x2 (0 : Int32) (x4 + 1)
def bp_M_answersPart_49 (K5 : RS → Int32 → Int32 → Int32 → Int32 → Prop) (Q : Int32 → RS → Prop) (h : RS) (x1 : Int32) (x2 : Int32) (x4 : Int32) : Prop :=
  K5 h x1 x2 (1 : Int32) (x4 + 1)
def bp_M_answersPart_5 (K5 : RS → Int32 → Int32 → Int32 → Int32 → Prop) (Q : Int32 → RS → Prop) (h : RS) (x1 : Int32) (x2 : Int32) (x3 : Int32) (x4 : Int32) : Prop :=
  ∃ k1 : Nat, k1 < 8 ∧ x1 = nI k1 ∧ ((h 8 k1) ≤ x4 → isB x3 ∧ Q x3 h) ∧
  (¬ (h 8 k1) ≤ x4 → (¬ x3 = 0 → bp_M_answersPart_49 K5 Q h x1 x2 x4) ∧
  (x3 = 0 → ∃ k2 : Nat, k2 < 32 ∧ (((4 : Int32) * x1) + x4) = nI k2 ∧ (0 ≤ (h 9 k2) → bp_M_answersPart_53 K5 Q h x1 x2 x4) ∧
  (¬ 0 ≤ (h 9 k2) → ∃ k3 : Nat, k3 < 32 ∧ (((4 : Int32) * x1) + x4) = nI k3 ∧ (¬ (h 10 k3) = x2 → bp_M_answersPart_53 K5 Q h x1 x2 x4) ∧
  ((h 10 k3) = x2 → bp_M_answersPart_49 K5 Q h x1 x2 x4))))
def wp_M_answersPart_5 (Q : Int32 → RS → Prop) : Nat → RS → Int32 → Int32 → Int32 → Int32 → Prop
  | 0 => fun _ _ _ _ _ => False
  | n + 1 => bp_M_answersPart_5 (wp_M_answersPart_5 Q n) Q
def bp_M_answersPart_0 (Q : Int32 → RS → Prop) (h : RS) (x1 : Int32) (x2 : Int32) : Prop :=
  ∃ n4 : Nat, wp_M_answersPart_5 Q n4 h x1 x2 (0 : Int32) (0 : Int32)
def wp_M_answersPart (h : RS) (x1 : Int32) (x2 : Int32) (Q : Int32 → RS → Prop) : Prop := bp_M_answersPart_0 Q h x1 x2
def bp_M_reply_0 (Q : Int32 → RS → Prop) (h : RS) (x1 : Int32) (x2 : Int32) (x3 : Int32) (x4 : Int32) (x5 : Int32) : Prop :=
  wp_M_open h x1 (fun r1 h2 => (r1 = 0 → isB (0 : Int32) ∧ Q (0 : Int32) h2) ∧
  (¬ r1 = 0 → wp_M_hasPart h2 x1 x2 (fun r3 h4 => (r3 = 0 → isB (0 : Int32) ∧ Q (0 : Int32) h4) ∧
  (¬ r3 = 0 → ∃ k5 : Nat, k5 < 32 ∧ (((4 : Int32) * x1) + x2) = nI k5 ∧ ∃ k6 : Nat, k6 < 8 ∧ (h4 3 k5) = nI k6 ∧ (¬ (h4 1 k6) = 0 → wp_M_answersPart h4 x1 x2 (fun r7 h8 => (¬ r7 = 0 → isB (0 : Int32) ∧ Q (0 : Int32) h8) ∧
  (r7 = 0 → wp_M_expression h8 x1 x3 x4 (fun r9 h10 => (r9 = 0 → isB (0 : Int32) ∧ Q (0 : Int32) h10) ∧
  (¬ r9 = 0 → ∃ k11 : Nat, k11 < 8 ∧ x1 = nI k11 ∧ ((h10 8 k11) < (4 : Int32) → ∃ k12 : Nat, k12 < 8 ∧ x1 = nI k12 ∧ ∃ k13 : Nat, k13 < 32 ∧ (((4 : Int32) * x1) + (h10 8 k12)) = nI k13 ∧ ∀ h14 : RS, h14 = up2 h10 13 k13 x5 → wp_M_act h14 x1 (-1 : Int32) x2 x3 x4 (fun h15 => isB (1 : Int32) ∧ Q (1 : Int32) h15)) ∧
  (¬ (h10 8 k11) < (4 : Int32) → isB (0 : Int32) ∧ Q (0 : Int32) h10)))))) ∧
  ((h4 1 k6) = 0 → isB (0 : Int32) ∧ Q (0 : Int32) h4)))))
def wp_M_reply (h : RS) (x1 : Int32) (x2 : Int32) (x3 : Int32) (x4 : Int32) (x5 : Int32) (Q : Int32 → RS → Prop) : Prop := bp_M_reply_0 Q h x1 x2 x3 x4 x5
def bp_M_seal_132 (Q : Int32 → RS → Prop) (h : RS) (x2 : Int32) (y1 : Int32) : Prop :=
  isB y1 ∧ ∀ h1 : RS, h1 = up2 h 0 15 y1 → (x2 = 0 → Q (0 : Int32) h1) ∧
  (¬ x2 = 0 → Q (4 : Int32) h1)
def bp_M_seal_102 (K24 : RS → Int32 → Int32 → Int32 → Prop) (K54 : RS → Int32 → Int32 → Int32 → Int32 → Prop) (Q : Int32 → RS → Prop) (h : RS) (x1 : Int32) (x3 : Int32) (x4 : Int32) : Prop :=
  K54 h x1 (0 : Int32) x3 (x4 + 1)
def bp_M_seal_98 (K24 : RS → Int32 → Int32 → Int32 → Prop) (K54 : RS → Int32 → Int32 → Int32 → Int32 → Prop) (Q : Int32 → RS → Prop) (h : RS) (x1 : Int32) (x3 : Int32) (x4 : Int32) : Prop :=
  K54 h x1 (1 : Int32) x3 (x4 + 1)
def bp_M_seal_54 (K24 : RS → Int32 → Int32 → Int32 → Prop) (K54 : RS → Int32 → Int32 → Int32 → Int32 → Prop) (Q : Int32 → RS → Prop) (h : RS) (x1 : Int32) (x2 : Int32) (x3 : Int32) (x4 : Int32) : Prop :=
  ∃ k2 : Nat, k2 < 8 ∧ x3 = nI k2 ∧ ((h 2 k2) ≤ x4 → K24 h x1 x2 (x3 + 1)) ∧
  (¬ (h 2 k2) ≤ x4 → (¬ x2 = 0 → bp_M_seal_98 K24 K54 Q h x1 x3 x4) ∧
  (x2 = 0 → ∃ k3 : Nat, k3 < 32 ∧ (((4 : Int32) * x3) + x4) = nI k3 ∧ ∃ k4 : Nat, k4 < 8 ∧ (h 3 k3) = nI k4 ∧ ((h 1 k4) = 0 → bp_M_seal_102 K24 K54 Q h x1 x3 x4) ∧
  (¬ (h 1 k4) = 0 → wp_M_answersPart h x3 x4 (fun r5 h6 => (¬ r5 = 0 → bp_M_seal_102 K24 K54 Q h6 x1 x3 x4) ∧
  (r5 = 0 → bp_M_seal_98 K24 K54 Q h6 x1 x3 x4)))))
def wp_M_seal_54 (K24 : RS → Int32 → Int32 → Int32 → Prop) (Q : Int32 → RS → Prop) : Nat → RS → Int32 → Int32 → Int32 → Int32 → Prop
  | 0 => fun _ _ _ _ _ => False
  | n + 1 => bp_M_seal_54 K24 (wp_M_seal_54 K24 Q n) Q
def bp_M_seal_50 (K24 : RS → Int32 → Int32 → Int32 → Prop) (Q : Int32 → RS → Prop) (h : RS) (x2 : Int32) (x3 : Int32) (y0 : Int32) : Prop :=
  ∃ n7 : Nat, wp_M_seal_54 K24 Q n7 h y0 x2 x3 (0 : Int32)
def bp_M_seal_45 (K24 : RS → Int32 → Int32 → Int32 → Prop) (Q : Int32 → RS → Prop) (h : RS) (x2 : Int32) (x3 : Int32) : Prop :=
  bp_M_seal_50 K24 Q h x2 x3 (1 : Int32)
def bp_M_seal_24 (K24 : RS → Int32 → Int32 → Int32 → Prop) (Q : Int32 → RS → Prop) (h : RS) (x1 : Int32) (x2 : Int32) (x3 : Int32) : Prop :=
  ((h 0 2) ≤ x3 → (x1 = 0 → (¬ x2 = 0 → bp_M_seal_132 Q h x2 (0 : Int32)) ∧
  (x2 = 0 → bp_M_seal_132 Q h x2 (1 : Int32))) ∧
  (¬ x1 = 0 → Q (3 : Int32) h)) ∧
  (¬ (h 0 2) ≤ x3 → (¬ x1 = 0 → bp_M_seal_45 K24 Q h x2 x3) ∧
  (x1 = 0 → ∃ k8 : Nat, k8 < 8 ∧ x3 = nI k8 ∧ (¬ (h 2 k8) = 0 → bp_M_seal_50 K24 Q h x2 x3 (0 : Int32)) ∧
  ((h 2 k8) = 0 → bp_M_seal_45 K24 Q h x2 x3)))
def wp_M_seal_24 (Q : Int32 → RS → Prop) : Nat → RS → Int32 → Int32 → Int32 → Prop
  | 0 => fun _ _ _ _ => False
  | n + 1 => bp_M_seal_24 (wp_M_seal_24 Q n) Q
def bp_M_seal_0 (Q : Int32 → RS → Prop) (h : RS) : Prop :=
  ((h 0 15) = 0 → (¬ (h 0 2) = 0 → ∃ n9 : Nat, wp_M_seal_24 Q n9 h (0 : Int32) (0 : Int32) (0 : Int32)) ∧
  ((h 0 2) = 0 → Q (2 : Int32) h)) ∧
  (¬ (h 0 15) = 0 → Q (1 : Int32) h)
def wp_M_seal (h : RS) (Q : Int32 → RS → Prop) : Prop := bp_M_seal_0 Q h
def bp_M_make_0 (Q : Int32 → RS → Prop) (h : RS) (x1 : Int32) (x2 : Int32) : Prop :=
  ∃ k1 : Nat, k1 < 300 ∧ (h 0 16) = nI k1 ∧ ∀ h2 : RS, h2 = up2 h 14 k1 x1 → ∃ k3 : Nat, k3 < 300 ∧ (h2 0 16) = nI k3 ∧ ∀ h4 : RS, h4 = up2 h2 15 k3 x2 → ∃ k5 : Nat, k5 < 300 ∧ (h4 0 16) = nI k5 ∧ ∀ h6 : RS, h6 = up2 h4 16 k5 (1 : Int32) → ∃ k7 : Nat, k7 < 300 ∧ (h6 0 16) = nI k7 ∧ ∀ h8 : RS, h8 = up2 h6 17 k7 (-1 : Int32) → ∀ h9 : RS, h9 = up2 h8 0 16 ((h8 0 16) + (1 : Int32)) → Q ((h9 0 16) - (1 : Int32)) h9
def wp_M_make (h : RS) (x1 : Int32) (x2 : Int32) (Q : Int32 → RS → Prop) : Prop := bp_M_make_0 Q h x1 x2
def bp_M_gather_23 (K23 : RS → Int32 → Prop) (Q : RS → Prop) (h : RS) (x1 : Int32) : Prop :=
  ((h 0 16) ≤ x1 → Q h) ∧
  (¬ (h 0 16) ≤ x1 → ∃ k1 : Nat, k1 < 300 ∧ x1 = nI k1 ∧ ∃ k2 : Nat, k2 < 300 ∧ x1 = nI k2 ∧ (¬ (h 16 k2) = (1 : Int32) → K23 h (x1 + 1)) ∧
  ((h 16 k2) = (1 : Int32) → ∃ k3 : Nat, k3 < 8 ∧ (h 14 k1) = nI k3 ∧ ∃ k4 : Nat, k4 < 48 ∧ (((6 : Int32) * (h 14 k1)) + (h 21 k3)) = nI k4 ∧ ∀ h5 : RS, h5 = up2 h 20 k4 x1 → ∃ k6 : Nat, k6 < 8 ∧ (h 14 k1) = nI k6 ∧ ∃ k7 : Nat, k7 < 8 ∧ (h 14 k1) = nI k7 ∧ ∀ h8 : RS, h8 = up2 h5 21 k7 ((h5 21 k6) + (1 : Int32)) → K23 h8 (x1 + 1)))
def wp_M_gather_23 (Q : RS → Prop) : Nat → RS → Int32 → Prop
  | 0 => fun _ _ => False
  | n + 1 => bp_M_gather_23 (wp_M_gather_23 Q n) Q
def bp_M_gather_2 (K2 : RS → Int32 → Prop) (Q : RS → Prop) (h : RS) (x1 : Int32) : Prop :=
  ((8 : Int32) ≤ x1 → ∃ n9 : Nat, wp_M_gather_23 Q n9 h (0 : Int32)) ∧
  (¬ (8 : Int32) ≤ x1 → ∃ k10 : Nat, k10 < 8 ∧ x1 = nI k10 ∧ ∀ h11 : RS, h11 = up2 h 21 k10 (0 : Int32) → K2 h11 (x1 + 1))
def wp_M_gather_2 (Q : RS → Prop) : Nat → RS → Int32 → Prop
  | 0 => fun _ _ => False
  | n + 1 => bp_M_gather_2 (wp_M_gather_2 Q n) Q
def bp_M_gather_0 (Q : RS → Prop) (h : RS) : Prop :=
  ∃ n12 : Nat, wp_M_gather_2 Q n12 h (0 : Int32)
def wp_M_gather (h : RS) (Q : RS → Prop) : Prop := bp_M_gather_0 Q h
def bp_M_enter_0 (Q : Int32 → RS → Prop) (h : RS) (x1 : Int32) (x2 : Int32) (x3 : Int32) : Prop :=
  wp_M_gather h (fun h1 => ((h1 0 15) = 0 → Q (-1 : Int32) h1) ∧
  (¬ (h1 0 15) = 0 → wp_M_isChannel h1 x1 (fun r2 h3 => (r2 = 0 → Q (-1 : Int32) h3) ∧
  (¬ r2 = 0 → ∃ k4 : Nat, k4 < 8 ∧ x1 = nI k4 ∧ (¬ (h3 1 k4) = x3 → Q (-1 : Int32) h3) ∧
  ((h3 1 k4) = x3 → ∃ k5 : Nat, k5 < 8 ∧ x1 = nI k5 ∧ ((6 : Int32) ≤ (h3 21 k5) → Q (-1 : Int32) h3) ∧
  (¬ (6 : Int32) ≤ (h3 21 k5) → ((h3 0 16) < (300 : Int32) → wp_M_make h3 x1 x2 (fun r6 h7 => Q r6 h7)) ∧
  (¬ (h3 0 16) < (300 : Int32) → Q (-1 : Int32) h3)))))))
def wp_M_enter (h : RS) (x1 : Int32) (x2 : Int32) (x3 : Int32) (Q : Int32 → RS → Prop) : Prop := bp_M_enter_0 Q h x1 x2 x3
def bp_M_put_0 (Q : Int32 → RS → Prop) (h : RS) (x1 : Int32) (x2 : Int32) : Prop :=
  wp_M_enter h x1 x2 (0 : Int32) (fun r1 h2 => Q r1 h2)
def wp_M_put (h : RS) (x1 : Int32) (x2 : Int32) (Q : Int32 → RS → Prop) : Prop := bp_M_put_0 Q h x1 x2
def bp_M_call_0 (Q : Int32 → RS → Prop) (h : RS) (x1 : Int32) (x2 : Int32) : Prop :=
  wp_M_enter h x1 x2 (1 : Int32) (fun r1 h2 => Q r1 h2)
def wp_M_call (h : RS) (x1 : Int32) (x2 : Int32) (Q : Int32 → RS → Prop) : Prop := bp_M_call_0 Q h x1 x2
def bp_M_isMessage_0 (Q : Int32 → RS → Prop) (h : RS) (x1 : Int32) : Prop :=
  (x1 < 0 → isB (0 : Int32) ∧ Q (0 : Int32) h) ∧
  (¬ x1 < 0 → ((h 0 16) ≤ x1 → isB (0 : Int32) ∧ Q (0 : Int32) h) ∧
  (¬ (h 0 16) ≤ x1 → isB (1 : Int32) ∧ Q (1 : Int32) h))
def wp_M_isMessage (h : RS) (x1 : Int32) (Q : Int32 → RS → Prop) : Prop := bp_M_isMessage_0 Q h x1
def bp_M_withdraw_0 (Q : Int32 → RS → Prop) (h : RS) (x1 : Int32) : Prop :=
  wp_M_isMessage h x1 (fun r1 h2 => (r1 = 0 → isB (0 : Int32) ∧ Q (0 : Int32) h2) ∧
  (¬ r1 = 0 → ∃ k3 : Nat, k3 < 300 ∧ x1 = nI k3 ∧ ∃ k4 : Nat, k4 < 8 ∧ (h2 14 k3) = nI k4 ∧ ((h2 1 k4) = 0 → isB (0 : Int32) ∧ Q (0 : Int32) h2) ∧
  (¬ (h2 1 k4) = 0 → ∃ k5 : Nat, k5 < 300 ∧ x1 = nI k5 ∧ ((h2 16 k5) = (1 : Int32) → ∃ k6 : Nat, k6 < 300 ∧ x1 = nI k6 ∧ ∀ h7 : RS, h7 = up2 h2 16 k6 (3 : Int32) → isB (1 : Int32) ∧ Q (1 : Int32) h7) ∧
  (¬ (h2 16 k5) = (1 : Int32) → isB (0 : Int32) ∧ Q (0 : Int32) h2))))
def wp_M_withdraw (h : RS) (x1 : Int32) (Q : Int32 → RS → Prop) : Prop := bp_M_withdraw_0 Q h x1
def bp_M_passes_53 (Q : Int32 → RS → Prop) (h : RS) (x2 : Int32) (x3 : Int32) (x4 : Int32) : Prop :=
  (¬ x4 = (4 : Int32) → isB (0 : Int32) ∧ Q (0 : Int32) h) ∧
  (x4 = (4 : Int32) → ((x2 &&& x3) = 0 → isB (0 : Int32) ∧ Q (0 : Int32) h) ∧
  (¬ (x2 &&& x3) = 0 → isB (1 : Int32) ∧ Q (1 : Int32) h))
def bp_M_passes_42 (Q : Int32 → RS → Prop) (h : RS) (x2 : Int32) (x3 : Int32) (x4 : Int32) : Prop :=
  (¬ x4 = (3 : Int32) → bp_M_passes_53 Q h x2 x3 x4) ∧
  (x4 = (3 : Int32) → (x3 ≤ x2 → isB (1 : Int32) ∧ Q (1 : Int32) h) ∧
  (¬ x3 ≤ x2 → bp_M_passes_53 Q h x2 x3 x4))
def bp_M_passes_31 (Q : Int32 → RS → Prop) (h : RS) (x2 : Int32) (x3 : Int32) (x4 : Int32) : Prop :=
  (¬ x4 = (2 : Int32) → bp_M_passes_42 Q h x2 x3 x4) ∧
  (x4 = (2 : Int32) → (x2 < x3 → isB (1 : Int32) ∧ Q (1 : Int32) h) ∧
  (¬ x2 < x3 → bp_M_passes_42 Q h x2 x3 x4))
def bp_M_passes_0 (Q : Int32 → RS → Prop) (h : RS) (x1 : Int32) (x2 : Int32) : Prop :=
  ∃ k1 : Nat, k1 < 32 ∧ x1 = nI k1 ∧ ∃ k2 : Nat, k2 < 32 ∧ x1 = nI k2 ∧ ((h 4 k2) = 0 → isB (1 : Int32) ∧ Q (1 : Int32) h) ∧
  (¬ (h 4 k2) = 0 → (¬ (h 4 k2) = (1 : Int32) → bp_M_passes_31 Q h x2 (h 5 k1) (h 4 k2)) ∧
  ((h 4 k2) = (1 : Int32) → (x2 = (h 5 k1) → isB (1 : Int32) ∧ Q (1 : Int32) h) ∧
  (¬ x2 = (h 5 k1) → bp_M_passes_31 Q h x2 (h 5 k1) (h 4 k2))))
def wp_M_passes (h : RS) (x1 : Int32) (x2 : Int32) (Q : Int32 → RS → Prop) : Prop := bp_M_passes_0 Q h x1 x2
def bp_M_guarded_218 (Q : Int32 → RS → Prop) (h : RS) (x2 : Int32) (x3 : Int32) (x4 : Int64) : Prop :=
  (¬ x2 = (5 : Int32) → isB (0 : Int32) ∧ Q (0 : Int32) h) ∧
  (x2 = (5 : Int32) → (x3 = 0 → isB (0 : Int32) ∧ Q (0 : Int32) h) ∧
  (¬ x3 = 0 → ¬ (Int32.toInt64 x3) = 0 ∧ (¬ (lg_cmp (x4 - x4 / (Int32.toInt64 x3) * (Int32.toInt64 x3)) (0 : Int64)) = 0 → isB (0 : Int32) ∧ Q (0 : Int32) h) ∧
  ((lg_cmp (x4 - x4 / (Int32.toInt64 x3) * (Int32.toInt64 x3)) (0 : Int64)) = 0 → isB (1 : Int32) ∧ Q (1 : Int32) h)))
def bp_M_guarded_205 (Q : Int32 → RS → Prop) (h : RS) (x2 : Int32) (x3 : Int32) (x4 : Int64) : Prop :=
  (¬ x2 = (4 : Int32) → bp_M_guarded_218 Q h x2 x3 x4) ∧
  (x2 = (4 : Int32) → ((lg_cmp x4 (Int32.toInt64 x3)) ≤ 0 → isB (1 : Int32) ∧ Q (1 : Int32) h) ∧
  (¬ (lg_cmp x4 (Int32.toInt64 x3)) ≤ 0 → bp_M_guarded_218 Q h x2 x3 x4))
def bp_M_guarded_195 (Q : Int32 → RS → Prop) (h : RS) (x2 : Int32) (x3 : Int32) (x4 : Int64) (x8 : Int32) : Prop :=
  (¬ x2 = (3 : Int32) → bp_M_guarded_205 Q h x2 x3 x4) ∧
  (x2 = (3 : Int32) → (¬ x8 = 0 → isB (1 : Int32) ∧ Q (1 : Int32) h) ∧
  (x8 = 0 → bp_M_guarded_205 Q h x2 x3 x4))
def bp_M_guarded_185 (Q : Int32 → RS → Prop) (h : RS) (x2 : Int32) (x3 : Int32) (x4 : Int64) (x7 : Int32) (x8 : Int32) : Prop :=
  (¬ x2 = (2 : Int32) → bp_M_guarded_195 Q h x2 x3 x4 x8) ∧
  (x2 = (2 : Int32) → (¬ x7 = 0 → isB (1 : Int32) ∧ Q (1 : Int32) h) ∧
  (x7 = 0 → bp_M_guarded_195 Q h x2 x3 x4 x8))
def bp_M_guarded_156 (K29 : RS → Int32 → Int32 → Int32 → Int64 → Int32 → Int32 → Int32 → Int32 → Prop) (K56 : RS → Int32 → Int32 → Int32 → Int64 → Int32 → Int32 → Int32 → Int32 → Int32 → Prop) (Q : Int32 → RS → Prop) (h : RS) (x1 : Int32) (x2 : Int32) (x3 : Int32) (x4 : Int64) (x6 : Int32) (x7 : Int32) (x9 : Int32) (x10 : Int32) : Prop :=
  K56 h x1 x2 x3 x4 x6 x7 (0 : Int32) x9 (x10 + 1)
def bp_M_guarded_128 (K29 : RS → Int32 → Int32 → Int32 → Int64 → Int32 → Int32 → Int32 → Int32 → Prop) (K56 : RS → Int32 → Int32 → Int32 → Int64 → Int32 → Int32 → Int32 → Int32 → Int32 → Prop) (Q : Int32 → RS → Prop) (h : RS) (x1 : Int32) (x2 : Int32) (x3 : Int32) (x4 : Int64) (x6 : Int32) (x8 : Int32) (x9 : Int32) (x10 : Int32) (y0 : Int32) : Prop :=
  (x8 = 0 → bp_M_guarded_156 K29 K56 Q h x1 x2 x3 x4 x6 y0 x9 x10) ∧
  (¬ x8 = 0 → ∃ k1 : Nat, k1 < 4 ∧ x10 = nI k1 ∧ ∃ k2 : Nat, k2 < 4 ∧ x9 = nI k2 ∧ ((h 23 k1) = (h 23 k2) → bp_M_guarded_156 K29 K56 Q h x1 x2 x3 x4 x6 y0 x9 x10) ∧
  (¬ (h 23 k1) = (h 23 k2) → K56 h x1 x2 x3 x4 x6 y0 (1 : Int32) x9 (x10 + 1)))
def bp_M_guarded_127 (K29 : RS → Int32 → Int32 → Int32 → Int64 → Int32 → Int32 → Int32 → Int32 → Prop) (K56 : RS → Int32 → Int32 → Int32 → Int64 → Int32 → Int32 → Int32 → Int32 → Int32 → Prop) (Q : Int32 → RS → Prop) (h : RS) (x1 : Int32) (x2 : Int32) (x3 : Int32) (x4 : Int64) (x6 : Int32) (x8 : Int32) (x9 : Int32) (x10 : Int32) : Prop :=
  bp_M_guarded_128 K29 K56 Q h x1 x2 x3 x4 x6 x8 x9 x10 (0 : Int32)
def bp_M_guarded_99 (K29 : RS → Int32 → Int32 → Int32 → Int64 → Int32 → Int32 → Int32 → Int32 → Prop) (K56 : RS → Int32 → Int32 → Int32 → Int64 → Int32 → Int32 → Int32 → Int32 → Int32 → Prop) (Q : Int32 → RS → Prop) (h : RS) (x1 : Int32) (x2 : Int32) (x3 : Int32) (x4 : Int64) (x7 : Int32) (x8 : Int32) (x9 : Int32) (x10 : Int32) (y0 : Int32) : Prop :=
  (x7 = 0 → bp_M_guarded_127 K29 K56 Q h x1 x2 x3 x4 y0 x8 x9 x10) ∧
  (¬ x7 = 0 → ∃ k3 : Nat, k3 < 4 ∧ x10 = nI k3 ∧ ∃ k4 : Nat, k4 < 4 ∧ x9 = nI k4 ∧ (¬ (h 23 k3) = (h 23 k4) → bp_M_guarded_127 K29 K56 Q h x1 x2 x3 x4 y0 x8 x9 x10) ∧
  ((h 23 k3) = (h 23 k4) → bp_M_guarded_128 K29 K56 Q h x1 x2 x3 x4 y0 x8 x9 x10 (1 : Int32)))
def bp_M_guarded_98 (K29 : RS → Int32 → Int32 → Int32 → Int64 → Int32 → Int32 → Int32 → Int32 → Prop) (K56 : RS → Int32 → Int32 → Int32 → Int64 → Int32 → Int32 → Int32 → Int32 → Int32 → Prop) (Q : Int32 → RS → Prop) (h : RS) (x1 : Int32) (x2 : Int32) (x3 : Int32) (x4 : Int64) (x7 : Int32) (x8 : Int32) (x9 : Int32) (x10 : Int32) : Prop :=
  bp_M_guarded_99 K29 K56 Q h x1 x2 x3 x4 x7 x8 x9 x10 (0 : Int32)
def bp_M_guarded_94 (K29 : RS → Int32 → Int32 → Int32 → Int64 → Int32 → Int32 → Int32 → Int32 → Prop) (K56 : RS → Int32 → Int32 → Int32 → Int64 → Int32 → Int32 → Int32 → Int32 → Int32 → Prop) (Q : Int32 → RS → Prop) (h : RS) (x1 : Int32) (x2 : Int32) (x3 : Int32) (x4 : Int64) (x7 : Int32) (x8 : Int32) (x9 : Int32) (x10 : Int32) : Prop :=
  bp_M_guarded_99 K29 K56 Q h x1 x2 x3 x4 x7 x8 x9 x10 (1 : Int32)
def bp_M_guarded_56 (K29 : RS → Int32 → Int32 → Int32 → Int64 → Int32 → Int32 → Int32 → Int32 → Prop) (K56 : RS → Int32 → Int32 → Int32 → Int64 → Int32 → Int32 → Int32 → Int32 → Int32 → Prop) (Q : Int32 → RS → Prop) (h : RS) (x1 : Int32) (x2 : Int32) (x3 : Int32) (x4 : Int64) (x6 : Int32) (x7 : Int32) (x8 : Int32) (x9 : Int32) (x10 : Int32) : Prop :=
  (x9 ≤ x10 → K29 h x1 x2 x3 x4 x6 x7 x8 (x9 + 1)) ∧
  (¬ x9 ≤ x10 → (x6 = 0 → bp_M_guarded_98 K29 K56 Q h x1 x2 x3 x4 x7 x8 x9 x10) ∧
  (¬ x6 = 0 → (x10 < (x9 - (1 : Int32)) → bp_M_guarded_94 K29 K56 Q h x1 x2 x3 x4 x7 x8 x9 x10) ∧
  (¬ x10 < (x9 - (1 : Int32)) → ∃ k5 : Nat, k5 < 4 ∧ x10 = nI k5 ∧ ∃ k6 : Nat, k6 < 4 ∧ x9 = nI k6 ∧ ((h 23 k6) ≤ (h 23 k5) → bp_M_guarded_98 K29 K56 Q h x1 x2 x3 x4 x7 x8 x9 x10) ∧
  (¬ (h 23 k6) ≤ (h 23 k5) → bp_M_guarded_94 K29 K56 Q h x1 x2 x3 x4 x7 x8 x9 x10))))
def wp_M_guarded_56 (K29 : RS → Int32 → Int32 → Int32 → Int64 → Int32 → Int32 → Int32 → Int32 → Prop) (Q : Int32 → RS → Prop) : Nat → RS → Int32 → Int32 → Int32 → Int64 → Int32 → Int32 → Int32 → Int32 → Int32 → Prop
  | 0 => fun _ _ _ _ _ _ _ _ _ _ => False
  | n + 1 => bp_M_guarded_56 K29 (wp_M_guarded_56 K29 Q n) Q
def bp_M_guarded_29 (K29 : RS → Int32 → Int32 → Int32 → Int64 → Int32 → Int32 → Int32 → Int32 → Prop) (Q : Int32 → RS → Prop) (h : RS) (x1 : Int32) (x2 : Int32) (x3 : Int32) (x4 : Int64) (x6 : Int32) (x7 : Int32) (x8 : Int32) (x9 : Int32) : Prop :=
  ∃ k7 : Nat, k7 < 8 ∧ x1 = nI k7 ∧ ((h 2 k7) ≤ x9 → (x2 = 0 → isB (1 : Int32) ∧ Q (1 : Int32) h) ∧
  (¬ x2 = 0 → (¬ x2 = (1 : Int32) → bp_M_guarded_185 Q h x2 x3 x4 x7 x8) ∧
  (x2 = (1 : Int32) → (¬ x6 = 0 → isB (1 : Int32) ∧ Q (1 : Int32) h) ∧
  (x6 = 0 → bp_M_guarded_185 Q h x2 x3 x4 x7 x8)))) ∧
  (¬ (h 2 k7) ≤ x9 → ∃ k8 : Nat, k8 < 4 ∧ x9 = nI k8 ∧ ∃ n9 : Nat, wp_M_guarded_56 K29 Q n9 h x1 x2 x3 (x4 + (Int32.toInt64 (h 23 k8))) x6 x7 x8 x9 (0 : Int32))
def wp_M_guarded_29 (Q : Int32 → RS → Prop) : Nat → RS → Int32 → Int32 → Int32 → Int64 → Int32 → Int32 → Int32 → Int32 → Prop
  | 0 => fun _ _ _ _ _ _ _ _ _ => False
  | n + 1 => bp_M_guarded_29 (wp_M_guarded_29 Q n) Q
def bp_M_guarded_0 (Q : Int32 → RS → Prop) (h : RS) (x1 : Int32) : Prop :=
  ∃ k10 : Nat, k10 < 8 ∧ x1 = nI k10 ∧ ∃ k11 : Nat, k11 < 8 ∧ x1 = nI k11 ∧ ∃ n12 : Nat, wp_M_guarded_29 Q n12 h x1 (h 6 k10) (h 7 k11) (0 : Int64) (1 : Int32) (1 : Int32) (1 : Int32) (0 : Int32)
def wp_M_guarded (h : RS) (x1 : Int32) (Q : Int32 → RS → Prop) : Prop := bp_M_guarded_0 Q h x1
def bp_M_chosen_0 (Q : Int32 → RS → Prop) (h : RS) (x1 : Int32) (x2 : Int32) : Prop :=
  ∃ k1 : Nat, k1 < 32 ∧ (((4 : Int32) * x1) + x2) = nI k1 ∧ ∃ k2 : Nat, k2 < 4 ∧ x2 = nI k2 ∧ ∃ k3 : Nat, k3 < 48 ∧ (((6 : Int32) * (h 3 k1)) + (h 22 k2)) = nI k3 ∧ Q (h 20 k3) h
def wp_M_chosen (h : RS) (x1 : Int32) (x2 : Int32) (Q : Int32 → RS → Prop) : Prop := bp_M_chosen_0 Q h x1 x2
def bp_M_matches_93 (K4 : RS → Int32 → Int32 → Int32 → Prop) (K67 : RS → Int32 → Int32 → Int32 → Int32 → Int32 → Prop) (Q : Int32 → RS → Prop) (h : RS) (x1 : Int32) (x3 : Int32) (x4 : Int32) (x5 : Int32) : Prop :=
  K67 h x1 (0 : Int32) x3 x4 (x5 + 1)
def bp_M_matches_67 (K4 : RS → Int32 → Int32 → Int32 → Prop) (K67 : RS → Int32 → Int32 → Int32 → Int32 → Int32 → Prop) (Q : Int32 → RS → Prop) (h : RS) (x1 : Int32) (x2 : Int32) (x3 : Int32) (x4 : Int32) (x5 : Int32) : Prop :=
  (x3 ≤ x5 → K4 h x1 x2 (x3 + 1)) ∧
  (¬ x3 ≤ x5 → (x2 = 0 → bp_M_matches_93 K4 K67 Q h x1 x3 x4 x5) ∧
  (¬ x2 = 0 → wp_M_chosen h x1 x5 (fun r1 h2 => (r1 = x4 → bp_M_matches_93 K4 K67 Q h2 x1 x3 x4 x5) ∧
  (¬ r1 = x4 → K67 h2 x1 (1 : Int32) x3 x4 (x5 + 1)))))
def wp_M_matches_67 (K4 : RS → Int32 → Int32 → Int32 → Prop) (Q : Int32 → RS → Prop) : Nat → RS → Int32 → Int32 → Int32 → Int32 → Int32 → Prop
  | 0 => fun _ _ _ _ _ _ => False
  | n + 1 => bp_M_matches_67 K4 (wp_M_matches_67 K4 Q n) Q
def bp_M_matches_63 (K4 : RS → Int32 → Int32 → Int32 → Prop) (Q : Int32 → RS → Prop) (h : RS) (x1 : Int32) (x3 : Int32) (x4 : Int32) (y0 : Int32) : Prop :=
  ∃ n3 : Nat, wp_M_matches_67 K4 Q n3 h x1 y0 x3 x4 (0 : Int32)
def bp_M_matches_62 (K4 : RS → Int32 → Int32 → Int32 → Prop) (Q : Int32 → RS → Prop) (h : RS) (x1 : Int32) (x3 : Int32) (x4 : Int32) : Prop :=
  bp_M_matches_63 K4 Q h x1 x3 x4 (0 : Int32)
def bp_M_matches_4 (K4 : RS → Int32 → Int32 → Int32 → Prop) (Q : Int32 → RS → Prop) (h : RS) (x1 : Int32) (x2 : Int32) (x3 : Int32) : Prop :=
  ∃ k4 : Nat, k4 < 8 ∧ x1 = nI k4 ∧ ((h 2 k4) ≤ x3 → (x2 = 0 → isB (0 : Int32) ∧ Q (0 : Int32) h) ∧
  (¬ x2 = 0 → wp_M_guarded h x1 (fun r5 h6 => (r5 = 0 → isB (0 : Int32) ∧ Q (0 : Int32) h6) ∧
  (¬ r5 = 0 → isB (1 : Int32) ∧ Q (1 : Int32) h6)))) ∧
  (¬ (h 2 k4) ≤ x3 → wp_M_chosen h x1 x3 (fun r7 h8 => ∃ k9 : Nat, k9 < 300 ∧ r7 = nI k9 ∧ ∃ k10 : Nat, k10 < 4 ∧ x3 = nI k10 ∧ ∀ h11 : RS, h11 = up2 h8 23 k10 (h8 15 k9) → (x2 = 0 → bp_M_matches_62 K4 Q h11 x1 x3 r7) ∧
  (¬ x2 = 0 → ∃ k12 : Nat, k12 < 300 ∧ r7 = nI k12 ∧ wp_M_passes h11 (((4 : Int32) * x1) + x3) (h11 15 k12) (fun r13 h14 => (r13 = 0 → bp_M_matches_62 K4 Q h14 x1 x3 r7) ∧
  (¬ r13 = 0 → bp_M_matches_63 K4 Q h14 x1 x3 r7 (1 : Int32))))))
def wp_M_matches_4 (Q : Int32 → RS → Prop) : Nat → RS → Int32 → Int32 → Int32 → Prop
  | 0 => fun _ _ _ _ => False
  | n + 1 => bp_M_matches_4 (wp_M_matches_4 Q n) Q
def bp_M_matches_0 (Q : Int32 → RS → Prop) (h : RS) (x1 : Int32) : Prop :=
  ∃ n15 : Nat, wp_M_matches_4 Q n15 h x1 (1 : Int32) (0 : Int32)
def wp_M_matches (h : RS) (x1 : Int32) (Q : Int32 → RS → Prop) : Prop := bp_M_matches_0 Q h x1
def bp_M_find_58 (K40 : RS → Int32 → Int32 → Int32 → Prop) (K58 : RS → Int32 → Int32 → Int32 → Int32 → Int32 → Prop) (Q : Int32 → RS → Prop) (h : RS) (x1 : Int32) (x2 : Int32) (x3 : Int32) (x4 : Int32) (x5 : Int32) : Prop :=
  (x5 < 0 → wp_M_matches h x1 (fun r1 h2 => (r1 = 0 → K40 h2 x1 x2 (x3 + 1)) ∧
  (¬ r1 = 0 → isB (1 : Int32) ∧ Q (1 : Int32) h2))) ∧
  (¬ x5 < 0 → ∃ k3 : Nat, k3 < 32 ∧ (((4 : Int32) * x1) + x5) = nI k3 ∧ ∃ k4 : Nat, k4 < 8 ∧ (h 3 k3) = nI k4 ∧ ¬ (h 21 k4) = 0 ∧ ∃ k5 : Nat, k5 < 4 ∧ x5 = nI k5 ∧ ∀ h6 : RS, h6 = up2 h 22 k5 (x4 - x4 / (h 21 k4) * (h 21 k4)) → ¬ (h 21 k4) = 0 ∧ K58 h6 x1 x2 x3 (x4 / (h 21 k4)) (x5 + (-1)))
def wp_M_find_58 (K40 : RS → Int32 → Int32 → Int32 → Prop) (Q : Int32 → RS → Prop) : Nat → RS → Int32 → Int32 → Int32 → Int32 → Int32 → Prop
  | 0 => fun _ _ _ _ _ _ => False
  | n + 1 => bp_M_find_58 K40 (wp_M_find_58 K40 Q n) Q
def bp_M_find_40 (K40 : RS → Int32 → Int32 → Int32 → Prop) (Q : Int32 → RS → Prop) (h : RS) (x1 : Int32) (x2 : Int32) (x3 : Int32) : Prop :=
  (x2 ≤ x3 → isB (0 : Int32) ∧ Q (0 : Int32) h) ∧
  (¬ x2 ≤ x3 → ∃ k7 : Nat, k7 < 8 ∧ x1 = nI k7 ∧ ∃ n8 : Nat, wp_M_find_58 K40 Q n8 h x1 x2 x3 x3 ((h 2 k7) - (1 : Int32)))
def wp_M_find_40 (Q : Int32 → RS → Prop) : Nat → RS → Int32 → Int32 → Int32 → Prop
  | 0 => fun _ _ _ _ => False
  | n + 1 => bp_M_find_40 (wp_M_find_40 Q n) Q
def bp_M_find_4 (K4 : RS → Int32 → Int32 → Int32 → Prop) (Q : Int32 → RS → Prop) (h : RS) (x1 : Int32) (x2 : Int32) (x3 : Int32) : Prop :=
  ∃ k9 : Nat, k9 < 8 ∧ x1 = nI k9 ∧ ((h 2 k9) ≤ x3 → ∃ n10 : Nat, wp_M_find_40 Q n10 h x1 x2 (0 : Int32)) ∧
  (¬ (h 2 k9) ≤ x3 → ∃ k11 : Nat, k11 < 32 ∧ (((4 : Int32) * x1) + x3) = nI k11 ∧ ∃ k12 : Nat, k12 < 8 ∧ (h 3 k11) = nI k12 ∧ K4 h x1 (x2 * (h 21 k12)) (x3 + 1))
def wp_M_find_4 (Q : Int32 → RS → Prop) : Nat → RS → Int32 → Int32 → Int32 → Prop
  | 0 => fun _ _ _ _ => False
  | n + 1 => bp_M_find_4 (wp_M_find_4 Q n) Q
def bp_M_find_0 (Q : Int32 → RS → Prop) (h : RS) (x1 : Int32) : Prop :=
  ∃ n13 : Nat, wp_M_find_4 Q n13 h x1 (1 : Int32) (0 : Int32)
def wp_M_find (h : RS) (x1 : Int32) (Q : Int32 → RS → Prop) : Prop := bp_M_find_0 Q h x1
def bp_M_room_156 (K7 : RS → Int32 → Int32 → Int32 → Int32 → Prop) (Q : Int32 → RS → Prop) (h : RS) (x1 : Int32) (x2 : Int32) (x4 : Int32) : Prop :=
  K7 h x1 x2 (0 : Int32) (x4 + 1)
def bp_M_room_120 (K7 : RS → Int32 → Int32 → Int32 → Int32 → Prop) (K28 : RS → Int32 → Int32 → Int32 → Int32 → Int32 → Int32 → Prop) (Q : Int32 → RS → Prop) (h : RS) (x1 : Int32) (x2 : Int32) (x3 : Int32) (x4 : Int32) (x6 : Int32) (x7 : Int32) (y0 : Int32) : Prop :=
  (x7 = 0 → K28 h x1 x2 x3 x4 y0 (x6 + 1)) ∧
  (¬ x7 = 0 → K28 h x1 (x2 + (1 : Int32)) x3 x4 y0 (x6 + 1))
def bp_M_room_104 (K7 : RS → Int32 → Int32 → Int32 → Int32 → Prop) (K28 : RS → Int32 → Int32 → Int32 → Int32 → Int32 → Int32 → Prop) (Q : Int32 → RS → Prop) (h : RS) (x1 : Int32) (x2 : Int32) (x3 : Int32) (x4 : Int32) (x5 : Int32) (x6 : Int32) (y0 : Int32) : Prop :=
  (y0 = 0 → bp_M_room_120 K7 K28 Q h x1 x2 x3 x4 x6 y0 x5) ∧
  (¬ y0 = 0 → bp_M_room_120 K7 K28 Q h x1 x2 x3 x4 x6 y0 (x5 + (1 : Int32)))
def bp_M_room_103 (K7 : RS → Int32 → Int32 → Int32 → Int32 → Prop) (K28 : RS → Int32 → Int32 → Int32 → Int32 → Int32 → Int32 → Prop) (Q : Int32 → RS → Prop) (h : RS) (x1 : Int32) (x2 : Int32) (x3 : Int32) (x4 : Int32) (x5 : Int32) (x6 : Int32) : Prop :=
  bp_M_room_104 K7 K28 Q h x1 x2 x3 x4 x5 x6 (0 : Int32)
def bp_M_room_70 (K7 : RS → Int32 → Int32 → Int32 → Int32 → Prop) (K28 : RS → Int32 → Int32 → Int32 → Int32 → Int32 → Int32 → Prop) (Q : Int32 → RS → Prop) (h : RS) (x1 : Int32) (x2 : Int32) (x3 : Int32) (x4 : Int32) (x6 : Int32) (y0 : Int32) : Prop :=
  ∃ k1 : Nat, k1 < 8 ∧ x1 = nI k1 ∧ ((h 8 k1) ≤ x6 → bp_M_room_103 K7 K28 Q h x1 x2 x3 x4 y0 x6) ∧
  (¬ (h 8 k1) ≤ x6 → ∃ k2 : Nat, k2 < 32 ∧ (((4 : Int32) * x1) + x6) = nI k2 ∧ (¬ (h 9 k2) = x4 → bp_M_room_103 K7 K28 Q h x1 x2 x3 x4 y0 x6) ∧
  ((h 9 k2) = x4 → bp_M_room_104 K7 K28 Q h x1 x2 x3 x4 y0 x6 (1 : Int32)))
def bp_M_room_68 (K7 : RS → Int32 → Int32 → Int32 → Int32 → Prop) (K28 : RS → Int32 → Int32 → Int32 → Int32 → Int32 → Int32 → Prop) (Q : Int32 → RS → Prop) (h : RS) (x1 : Int32) (x2 : Int32) (x3 : Int32) (x4 : Int32) (x5 : Int32) (x6 : Int32) : Prop :=
  bp_M_room_70 K7 K28 Q h x1 x2 x3 x4 x6 x5
def bp_M_room_28 (K7 : RS → Int32 → Int32 → Int32 → Int32 → Prop) (K28 : RS → Int32 → Int32 → Int32 → Int32 → Int32 → Int32 → Prop) (Q : Int32 → RS → Prop) (h : RS) (x1 : Int32) (x2 : Int32) (x3 : Int32) (x4 : Int32) (x5 : Int32) (x6 : Int32) : Prop :=
  ((4 : Int32) ≤ x6 → (x3 = 0 → bp_M_room_156 K7 Q h x1 x2 x4) ∧
  (¬ x3 = 0 → ((6 : Int32) < x5 → bp_M_room_156 K7 Q h x1 x2 x4) ∧
  (¬ (6 : Int32) < x5 → K7 h x1 x2 (1 : Int32) (x4 + 1)))) ∧
  (¬ (4 : Int32) ≤ x6 → ∃ k3 : Nat, k3 < 8 ∧ x1 = nI k3 ∧ ((h 2 k3) ≤ x6 → bp_M_room_68 K7 K28 Q h x1 x2 x3 x4 x5 x6) ∧
  (¬ (h 2 k3) ≤ x6 → ∃ k4 : Nat, k4 < 32 ∧ (((4 : Int32) * x1) + x6) = nI k4 ∧ (¬ (h 3 k4) = x4 → bp_M_room_68 K7 K28 Q h x1 x2 x3 x4 x5 x6) ∧
  ((h 3 k4) = x4 → bp_M_room_70 K7 K28 Q h x1 x2 x3 x4 x6 (x5 - (1 : Int32)))))
def wp_M_room_28 (K7 : RS → Int32 → Int32 → Int32 → Int32 → Prop) (Q : Int32 → RS → Prop) : Nat → RS → Int32 → Int32 → Int32 → Int32 → Int32 → Int32 → Prop
  | 0 => fun _ _ _ _ _ _ _ => False
  | n + 1 => bp_M_room_28 K7 (wp_M_room_28 K7 Q n) Q
def bp_M_room_7 (K7 : RS → Int32 → Int32 → Int32 → Int32 → Prop) (Q : Int32 → RS → Prop) (h : RS) (x1 : Int32) (x2 : Int32) (x3 : Int32) (x4 : Int32) : Prop :=
  ((h 0 0) ≤ x4 → (x3 = 0 → isB (0 : Int32) ∧ Q (0 : Int32) h) ∧
  (¬ x3 = 0 → ((300 : Int32) < ((h 0 16) + x2) → isB (0 : Int32) ∧ Q (0 : Int32) h) ∧
  (¬ (300 : Int32) < ((h 0 16) + x2) → isB (1 : Int32) ∧ Q (1 : Int32) h))) ∧
  (¬ (h 0 0) ≤ x4 → ∃ k5 : Nat, k5 < 8 ∧ x4 = nI k5 ∧ ∃ n6 : Nat, wp_M_room_28 K7 Q n6 h x1 x2 x3 x4 (h 21 k5) (0 : Int32))
def wp_M_room_7 (Q : Int32 → RS → Prop) : Nat → RS → Int32 → Int32 → Int32 → Int32 → Prop
  | 0 => fun _ _ _ _ _ => False
  | n + 1 => bp_M_room_7 (wp_M_room_7 Q n) Q
def bp_M_room_0 (Q : Int32 → RS → Prop) (h : RS) (x1 : Int32) : Prop :=
  ∃ n7 : Nat, wp_M_room_7 Q n7 h x1 (0 : Int32) (1 : Int32) (0 : Int32)
def wp_M_room (h : RS) (x1 : Int32) (Q : Int32 → RS → Prop) : Prop := bp_M_room_0 Q h x1
def bp_M_enabled_47 (K8 : RS → Int32 → Int32 → Prop) (Q : Int32 → RS → Prop) (h : RS) (x1 : Int32) (x2 : Int32) : Prop :=
  K8 h x1 (x2 + 1)
def bp_M_enabled_8 (K8 : RS → Int32 → Int32 → Prop) (Q : Int32 → RS → Prop) (h : RS) (x1 : Int32) (x2 : Int32) : Prop :=
  ((h 0 2) ≤ x2 → Q x1 h) ∧
  (¬ (h 0 2) ≤ x2 → ((h 0 15) = 0 → Q x1 h) ∧
  (¬ (h 0 15) = 0 → wp_M_room h x2 (fun r1 h2 => (r1 = 0 → bp_M_enabled_47 K8 Q h2 x1 x2) ∧
  (¬ r1 = 0 → wp_M_find h2 x2 (fun r3 h4 => (r3 = 0 → bp_M_enabled_47 K8 Q h4 x1 x2) ∧
  (¬ r3 = 0 → K8 h4 (x1 + ((1 : Int32) <<< (x2 &&& 31))) (x2 + 1)))))))
def wp_M_enabled_8 (Q : Int32 → RS → Prop) : Nat → RS → Int32 → Int32 → Prop
  | 0 => fun _ _ _ => False
  | n + 1 => bp_M_enabled_8 (wp_M_enabled_8 Q n) Q
def bp_M_enabled_0 (Q : Int32 → RS → Prop) (h : RS) : Prop :=
  wp_M_gather h (fun h5 => ∃ n6 : Nat, wp_M_enabled_8 Q n6 h5 (0 : Int32) (0 : Int32))
def wp_M_enabled (h : RS) (Q : Int32 → RS → Prop) : Prop := bp_M_enabled_0 Q h
def bp_M_next_32 (K32 : RS → Int32 → Int32 → Int32 → Prop) (Q : Int32 → RS → Prop) (h : RS) (x1 : Int32) (x2 : Int32) (x3 : Int32) : Prop :=
  ((h 0 2) ≤ x3 → Q (-1 : Int32) h) ∧
  (¬ (h 0 2) ≤ x3 → ¬ (h 0 2) = 0 ∧ (¬ ((x1 >>> (((x2 + x3) - (x2 + x3) / (h 0 2) * (h 0 2)) &&& 31)) &&& (1 : Int32)) = (1 : Int32) → K32 h x1 x2 (x3 + 1)) ∧
  (((x1 >>> (((x2 + x3) - (x2 + x3) / (h 0 2) * (h 0 2)) &&& 31)) &&& (1 : Int32)) = (1 : Int32) → Q ((x2 + x3) - (x2 + x3) / (h 0 2) * (h 0 2)) h))
def wp_M_next_32 (Q : Int32 → RS → Prop) : Nat → RS → Int32 → Int32 → Int32 → Prop
  | 0 => fun _ _ _ _ => False
  | n + 1 => bp_M_next_32 (wp_M_next_32 Q n) Q
def bp_M_next_29 (Q : Int32 → RS → Prop) (h : RS) (x1 : Int32) (y0 : Int32) : Prop :=
  ∃ n1 : Nat, wp_M_next_32 Q n1 h x1 y0 (0 : Int32)
def bp_M_next_0 (Q : Int32 → RS → Prop) (h : RS) : Prop :=
  wp_M_enabled h (fun r2 h3 => (¬ (h3 0 22) = 0 → ∃ k4 : Nat, k4 < 300 ∧ ((h3 0 22) - (1 : Int32)) = nI k4 ∧ bp_M_next_29 Q h3 r2 ((h3 19 k4) + (1 : Int32))) ∧
  ((h3 0 22) = 0 → bp_M_next_29 Q h3 r2 (0 : Int32)))
def wp_M_next (h : RS) (Q : Int32 → RS → Prop) : Prop := bp_M_next_0 Q h
def bp_M_taken_0 (Q : Int32 → RS → Prop) (h : RS) (x1 : Int32) : Prop :=
  wp_M_next h (fun r1 h2 => (r1 < 0 → Q (-1 : Int32) h2) ∧
  (¬ r1 < 0 → wp_M_hasPart h2 r1 x1 (fun r3 h4 => (¬ r3 = 0 → wp_M_find h4 r1 (fun r5 h6 => wp_M_chosen h6 r1 x1 (fun r7 h8 => Q r7 h8))) ∧
  (r3 = 0 → Q (-1 : Int32) h4))))
def wp_M_taken (h : RS) (x1 : Int32) (Q : Int32 → RS → Prop) : Prop := bp_M_taken_0 Q h x1
def bp_M_result_21 (K21 : RS → Int32 → Int32 → Int32 → Int32 → Int32 → Int32 → Prop) (Q : Int32 → RS → Prop) (h : RS) (x1 : Int32) (x2 : Int32) (x3 : Int32) (x4 : Int32) (x5 : Int32) (x6 : Int32) : Prop :=
  ∃ k1 : Nat, k1 < 8 ∧ x1 = nI k1 ∧ ((h 2 k1) ≤ x6 → ∃ k2 : Nat, k2 < 32 ∧ x2 = nI k2 ∧ (¬ (h 11 k2) = (1 : Int32) → ∃ k3 : Nat, k3 < 32 ∧ x2 = nI k3 ∧ (¬ (h 11 k3) = (2 : Int32) → ∃ k4 : Nat, k4 < 32 ∧ x2 = nI k4 ∧ (¬ (h 11 k4) = 0 → ∃ k5 : Nat, k5 < 32 ∧ x2 = nI k5 ∧ (¬ (h 11 k5) = (3 : Int32) → Q x5 h) ∧
  ((h 11 k5) = (3 : Int32) → Q (x4 + x3) h)) ∧
  ((h 11 k4) = 0 → Q x3 h)) ∧
  ((h 11 k3) = (2 : Int32) → ∃ k6 : Nat, k6 < 32 ∧ x2 = nI k6 ∧ ∃ k7 : Nat, k7 < 4 ∧ (h 12 k6) = nI k7 ∧ Q ((h 23 k7) * x3) h)) ∧
  ((h 11 k2) = (1 : Int32) → ∃ k8 : Nat, k8 < 32 ∧ x2 = nI k8 ∧ ∃ k9 : Nat, k9 < 4 ∧ (h 12 k8) = nI k9 ∧ Q ((h 23 k9) + x3) h)) ∧
  (¬ (h 2 k1) ≤ x6 → ∃ k10 : Nat, k10 < 4 ∧ x6 = nI k10 ∧ ∃ k11 : Nat, k11 < 4 ∧ x6 = nI k11 ∧ ((h 23 k11) ≤ x5 → K21 h x1 x2 x3 (x4 + (h 23 k10)) x5 (x6 + 1)) ∧
  (¬ (h 23 k11) ≤ x5 → ∃ k12 : Nat, k12 < 4 ∧ x6 = nI k12 ∧ K21 h x1 x2 x3 (x4 + (h 23 k10)) (h 23 k12) (x6 + 1)))
def wp_M_result_21 (Q : Int32 → RS → Prop) : Nat → RS → Int32 → Int32 → Int32 → Int32 → Int32 → Int32 → Prop
  | 0 => fun _ _ _ _ _ _ _ => False
  | n + 1 => bp_M_result_21 (wp_M_result_21 Q n) Q
def bp_M_result_0 (Q : Int32 → RS → Prop) (h : RS) (x1 : Int32) (x2 : Int32) : Prop :=
  ∃ k13 : Nat, k13 < 32 ∧ x2 = nI k13 ∧ ∃ k14 : Nat, k14 < 4 ∧ (0 : Int32) = nI k14 ∧ ∃ n15 : Nat, wp_M_result_21 Q n15 h x1 x2 (h 13 k13) (0 : Int32) (h 23 k14) (0 : Int32)
def wp_M_result (h : RS) (x1 : Int32) (x2 : Int32) (Q : Int32 → RS → Prop) : Prop := bp_M_result_0 Q h x1 x2
def bp_M_fire_50 (K50 : RS → Int32 → Int32 → Prop) (Q : RS → Prop) (h : RS) (x1 : Int32) (x2 : Int32) : Prop :=
  ∃ k1 : Nat, k1 < 8 ∧ x1 = nI k1 ∧ ((h 8 k1) ≤ x2 → ∃ k2 : Nat, k2 < 300 ∧ (h 0 22) = nI k2 ∧ ∀ h3 : RS, h3 = up2 h 19 k2 x1 → ∀ h4 : RS, h4 = up2 h3 0 22 ((h3 0 22) + (1 : Int32)) → Q h4) ∧
  (¬ (h 8 k1) ≤ x2 → wp_M_result h x1 (((4 : Int32) * x1) + x2) (fun r5 h6 => ∃ k7 : Nat, k7 < 32 ∧ (((4 : Int32) * x1) + x2) = nI k7 ∧ ((h6 9 k7) < 0 → ∃ k8 : Nat, k8 < 32 ∧ (((4 : Int32) * x1) + x2) = nI k8 ∧ wp_M_chosen h6 x1 (h6 10 k8) (fun r9 h10 => ∃ k11 : Nat, k11 < 300 ∧ r9 = nI k11 ∧ ∀ h12 : RS, h12 = up2 h10 18 k11 r5 → K50 h12 x1 (x2 + 1))) ∧
  (¬ (h6 9 k7) < 0 → ∃ k13 : Nat, k13 < 32 ∧ (((4 : Int32) * x1) + x2) = nI k13 ∧ wp_M_make h6 (h6 9 k13) r5 (fun r14 h15 => K50 h15 x1 (x2 + 1)))))
def wp_M_fire_50 (Q : RS → Prop) : Nat → RS → Int32 → Int32 → Prop
  | 0 => fun _ _ _ => False
  | n + 1 => bp_M_fire_50 (wp_M_fire_50 Q n) Q
def bp_M_fire_8 (K8 : RS → Int32 → Int32 → Prop) (Q : RS → Prop) (h : RS) (x1 : Int32) (x2 : Int32) : Prop :=
  ∃ k16 : Nat, k16 < 8 ∧ x1 = nI k16 ∧ ((h 2 k16) ≤ x2 → ∃ n17 : Nat, wp_M_fire_50 Q n17 h x1 (0 : Int32)) ∧
  (¬ (h 2 k16) ≤ x2 → wp_M_chosen h x1 x2 (fun r18 h19 => ∃ k20 : Nat, k20 < 300 ∧ r18 = nI k20 ∧ ∀ h21 : RS, h21 = up2 h19 16 k20 (2 : Int32) → ∃ k22 : Nat, k22 < 300 ∧ r18 = nI k22 ∧ ∀ h23 : RS, h23 = up2 h21 17 k22 (h21 0 22) → K8 h23 x1 (x2 + 1)))
def wp_M_fire_8 (Q : RS → Prop) : Nat → RS → Int32 → Int32 → Prop
  | 0 => fun _ _ _ => False
  | n + 1 => bp_M_fire_8 (wp_M_fire_8 Q n) Q
def bp_M_fire_0 (Q : RS → Prop) (h : RS) (x1 : Int32) : Prop :=
  wp_M_find h x1 (fun r24 h25 => ∃ n26 : Nat, wp_M_fire_8 Q n26 h25 x1 (0 : Int32))
def wp_M_fire (h : RS) (x1 : Int32) (Q : RS → Prop) : Prop := bp_M_fire_0 Q h x1
def bp_M_react_20 (K20 : RS → Int32 → Int32 → Prop) (Q : Int32 → RS → Prop) (h : RS) (x1 : Int32) (x2 : Int32) : Prop :=
  (x1 ≤ x2 → Q x1 h) ∧
  (¬ x1 ≤ x2 → wp_M_next h (fun r1 h2 => (0 ≤ r1 → wp_M_fire h2 r1 (fun h3 => K20 h3 x1 (x2 + 1))) ∧
  (¬ 0 ≤ r1 → Q x2 h2)))
def wp_M_react_20 (Q : Int32 → RS → Prop) : Nat → RS → Int32 → Int32 → Prop
  | 0 => fun _ _ _ => False
  | n + 1 => bp_M_react_20 (wp_M_react_20 Q n) Q
def bp_M_react_0 (Q : Int32 → RS → Prop) (h : RS) (x1 : Int32) : Prop :=
  ((h 0 15) = 0 → Q (-1 : Int32) h) ∧
  (¬ (h 0 15) = 0 → (x1 < 0 → Q (-1 : Int32) h) ∧
  (¬ x1 < 0 → (x1 ≤ (5 : Int32) → ∃ n4 : Nat, wp_M_react_20 Q n4 h x1 (0 : Int32)) ∧
  (¬ x1 ≤ (5 : Int32) → Q (-1 : Int32) h)))
def wp_M_react (h : RS) (x1 : Int32) (Q : Int32 → RS → Prop) : Prop := bp_M_react_0 Q h x1
def bp_M_pendingAt_0 (Q : Int32 → RS → Prop) (h : RS) (x1 : Int32) (x2 : Int32) : Prop :=
  wp_M_gather h (fun h1 => wp_M_isChannel h1 x1 (fun r2 h3 => (r2 = 0 → Q (-1 : Int32) h3) ∧
  (¬ r2 = 0 → (x2 < 0 → Q (-1 : Int32) h3) ∧
  (¬ x2 < 0 → ∃ k4 : Nat, k4 < 8 ∧ x1 = nI k4 ∧ ((h3 21 k4) ≤ x2 → Q (-1 : Int32) h3) ∧
  (¬ (h3 21 k4) ≤ x2 → ∃ k5 : Nat, k5 < 48 ∧ (((6 : Int32) * x1) + x2) = nI k5 ∧ Q (h3 20 k5) h3)))))
def wp_M_pendingAt (h : RS) (x1 : Int32) (x2 : Int32) (Q : Int32 → RS → Prop) : Prop := bp_M_pendingAt_0 Q h x1 x2
def bp_M_value_0 (Q : Int32 → RS → Prop) (h : RS) (x1 : Int32) : Prop :=
  wp_M_isMessage h x1 (fun r1 h2 => (r1 = 0 → Q (0 : Int32) h2) ∧
  (¬ r1 = 0 → ∃ k3 : Nat, k3 < 300 ∧ x1 = nI k3 ∧ Q (h2 15 k3) h2))
def wp_M_value (h : RS) (x1 : Int32) (Q : Int32 → RS → Prop) : Prop := bp_M_value_0 Q h x1
def bp_M_state_0 (Q : Int32 → RS → Prop) (h : RS) (x1 : Int32) : Prop :=
  wp_M_isMessage h x1 (fun r1 h2 => (r1 = 0 → Q (0 : Int32) h2) ∧
  (¬ r1 = 0 → ∃ k3 : Nat, k3 < 300 ∧ x1 = nI k3 ∧ Q (h2 16 k3) h2))
def wp_M_state (h : RS) (x1 : Int32) (Q : Int32 → RS → Prop) : Prop := bp_M_state_0 Q h x1
def bp_M_consumer_0 (Q : Int32 → RS → Prop) (h : RS) (x1 : Int32) : Prop :=
  wp_M_isMessage h x1 (fun r1 h2 => (r1 = 0 → Q (-1 : Int32) h2) ∧
  (¬ r1 = 0 → ∃ k3 : Nat, k3 < 300 ∧ x1 = nI k3 ∧ Q (h2 17 k3) h2))
def wp_M_consumer (h : RS) (x1 : Int32) (Q : Int32 → RS → Prop) : Prop := bp_M_consumer_0 Q h x1
def bp_M_answer_0 (Q : Int32 → RS → Prop) (h : RS) (x1 : Int32) : Prop :=
  wp_M_isMessage h x1 (fun r1 h2 => (r1 = 0 → Q (0 : Int32) h2) ∧
  (¬ r1 = 0 → ∃ k3 : Nat, k3 < 300 ∧ x1 = nI k3 ∧ Q (h2 18 k3) h2))
def wp_M_answer (h : RS) (x1 : Int32) (Q : Int32 → RS → Prop) : Prop := bp_M_answer_0 Q h x1
def bp_M_fired_0 (Q : Int32 → RS → Prop) (h : RS) (x1 : Int32) : Prop :=
  (x1 < 0 → Q (-1 : Int32) h) ∧
  (¬ x1 < 0 → ((h 0 22) ≤ x1 → Q (-1 : Int32) h) ∧
  (¬ (h 0 22) ≤ x1 → ∃ k1 : Nat, k1 < 300 ∧ x1 = nI k1 ∧ Q (h 19 k1) h))
def wp_M_fired (h : RS) (x1 : Int32) (Q : Int32 → RS → Prop) : Prop := bp_M_fired_0 Q h x1
end
