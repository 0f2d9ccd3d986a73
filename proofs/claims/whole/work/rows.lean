section
-- ===== PART A: goes FIRST, ahead of the names: the tables' words, and 'selects' of the private methods out of them =====
/-- a private method of a class that the tables say can be made, by its rows of tables_1 -/
def lw_okq (q : MethodName × Nat) : Prop := (q.1.cls ≠ "java/lang/invoke/MethodHandle" ∧ q.1.cls ≠ "java/lang/invoke/VarHandle") ∧ Cond.instantiable q.1.cls q.2 ∈ tables_1 ∧ Cond.privateMethod q.1 ∈ tables_1 ∧ Cond.instanceMethod q.1 ∈ tables_1
theorem lw_p0 : lw_okq (⟨"JoinVessel", "mayBuild", "(I)Z"⟩, 9) := ⟨⟨by decide +kernel, by decide +kernel⟩, List.mem_of_getElem? (i := 9) (by decide +kernel), List.mem_of_getElem? (i := 176) (by decide +kernel), List.mem_of_getElem? (i := 177) (by decide +kernel)⟩
theorem lw_p1 : lw_okq (⟨"JoinVessel", "isChannel", "(I)Z"⟩, 9) := ⟨⟨by decide +kernel, by decide +kernel⟩, List.mem_of_getElem? (i := 9) (by decide +kernel), List.mem_of_getElem? (i := 180) (by decide +kernel), List.mem_of_getElem? (i := 181) (by decide +kernel)⟩
theorem lw_p2 : lw_okq (⟨"JoinVessel$Reaction", "addPart", "(III)I"⟩, 12) := ⟨⟨by decide +kernel, by decide +kernel⟩, List.mem_of_getElem? (i := 85) (by decide +kernel), List.mem_of_getElem? (i := 187) (by decide +kernel), List.mem_of_getElem? (i := 188) (by decide +kernel)⟩
theorem lw_p3 : lw_okq (⟨"JoinVessel", "isChannelOf", "(IZ)Z"⟩, 9) := ⟨⟨by decide +kernel, by decide +kernel⟩, List.mem_of_getElem? (i := 9) (by decide +kernel), List.mem_of_getElem? (i := 199) (by decide +kernel), List.mem_of_getElem? (i := 200) (by decide +kernel)⟩
theorem lw_p4 : lw_okq (⟨"JoinVessel$Reaction", "mayAddAction", "(II)Z"⟩, 12) := ⟨⟨by decide +kernel, by decide +kernel⟩, List.mem_of_getElem? (i := 85) (by decide +kernel), List.mem_of_getElem? (i := 203) (by decide +kernel), List.mem_of_getElem? (i := 204) (by decide +kernel)⟩
theorem lw_p5 : lw_okq (⟨"JoinVessel$Reaction", "hasPart", "(I)Z"⟩, 12) := ⟨⟨by decide +kernel, by decide +kernel⟩, List.mem_of_getElem? (i := 85) (by decide +kernel), List.mem_of_getElem? (i := 208) (by decide +kernel), List.mem_of_getElem? (i := 209) (by decide +kernel)⟩
theorem lw_p6 : lw_okq (⟨"JoinVessel$Reaction", "addAction", "(ZIIII)V"⟩, 12) := ⟨⟨by decide +kernel, by decide +kernel⟩, List.mem_of_getElem? (i := 85) (by decide +kernel), List.mem_of_getElem? (i := 212) (by decide +kernel), List.mem_of_getElem? (i := 213) (by decide +kernel)⟩
theorem lw_p7 : lw_okq (⟨"JoinVessel$Reaction", "hasReplyTo", "(I)Z"⟩, 12) := ⟨⟨by decide +kernel, by decide +kernel⟩, List.mem_of_getElem? (i := 85) (by decide +kernel), List.mem_of_getElem? (i := 221) (by decide +kernel), List.mem_of_getElem? (i := 222) (by decide +kernel)⟩
theorem lw_p8 : lw_okq (⟨"JoinVessel", "obstacleToSealing", "()I"⟩, 9) := ⟨⟨by decide +kernel, by decide +kernel⟩, List.mem_of_getElem? (i := 9) (by decide +kernel), List.mem_of_getElem? (i := 229) (by decide +kernel), List.mem_of_getElem? (i := 230) (by decide +kernel)⟩
theorem lw_p9 : lw_okq (⟨"JoinVessel", "leavesCallUnanswered", "(LJoinVessel$Reaction;)Z"⟩, 9) := ⟨⟨by decide +kernel, by decide +kernel⟩, List.mem_of_getElem? (i := 9) (by decide +kernel), List.mem_of_getElem? (i := 233) (by decide +kernel), List.mem_of_getElem? (i := 234) (by decide +kernel)⟩
theorem lw_p10 : lw_okq (⟨"JoinVessel", "admit", "(IIZ)I"⟩, 9) := ⟨⟨by decide +kernel, by decide +kernel⟩, List.mem_of_getElem? (i := 9) (by decide +kernel), List.mem_of_getElem? (i := 241) (by decide +kernel), List.mem_of_getElem? (i := 242) (by decide +kernel)⟩
theorem lw_p11 : lw_okq (⟨"JoinVessel", "makeMessage", "(II)I"⟩, 9) := ⟨⟨by decide +kernel, by decide +kernel⟩, List.mem_of_getElem? (i := 9) (by decide +kernel), List.mem_of_getElem? (i := 245) (by decide +kernel), List.mem_of_getElem? (i := 246) (by decide +kernel)⟩
theorem lw_p12 : lw_okq (⟨"JoinVessel$Messages", "add", "(II)I"⟩, 6) := ⟨⟨by decide +kernel, by decide +kernel⟩, List.mem_of_getElem? (i := 21) (by decide +kernel), List.mem_of_getElem? (i := 249) (by decide +kernel), List.mem_of_getElem? (i := 250) (by decide +kernel)⟩
theorem lw_p13 : lw_okq (⟨"JoinVessel$Channel", "addPending", "(I)V"⟩, 3) := ⟨⟨by decide +kernel, by decide +kernel⟩, List.mem_of_getElem? (i := 67) (by decide +kernel), List.mem_of_getElem? (i := 253) (by decide +kernel), List.mem_of_getElem? (i := 254) (by decide +kernel)⟩
theorem lw_p14 : lw_okq (⟨"JoinVessel$Messages", "has", "(I)Z"⟩, 6) := ⟨⟨by decide +kernel, by decide +kernel⟩, List.mem_of_getElem? (i := 21) (by decide +kernel), List.mem_of_getElem? (i := 265) (by decide +kernel), List.mem_of_getElem? (i := 266) (by decide +kernel)⟩
theorem lw_p15 : lw_okq (⟨"JoinVessel$Channel", "removePending", "(I)V"⟩, 3) := ⟨⟨by decide +kernel, by decide +kernel⟩, List.mem_of_getElem? (i := 67) (by decide +kernel), List.mem_of_getElem? (i := 269) (by decide +kernel), List.mem_of_getElem? (i := 270) (by decide +kernel)⟩
def lw_privs_1 : List (MethodName × Nat) := [(⟨"JoinVessel", "mayBuild", "(I)Z"⟩, 9), (⟨"JoinVessel", "isChannel", "(I)Z"⟩, 9), (⟨"JoinVessel$Reaction", "addPart", "(III)I"⟩, 12), (⟨"JoinVessel", "isChannelOf", "(IZ)Z"⟩, 9), (⟨"JoinVessel$Reaction", "mayAddAction", "(II)Z"⟩, 12), (⟨"JoinVessel$Reaction", "hasPart", "(I)Z"⟩, 12), (⟨"JoinVessel$Reaction", "addAction", "(ZIIII)V"⟩, 12), (⟨"JoinVessel$Reaction", "hasReplyTo", "(I)Z"⟩, 12), (⟨"JoinVessel", "obstacleToSealing", "()I"⟩, 9), (⟨"JoinVessel", "leavesCallUnanswered", "(LJoinVessel$Reaction;)Z"⟩, 9), (⟨"JoinVessel", "admit", "(IIZ)I"⟩, 9), (⟨"JoinVessel", "makeMessage", "(II)I"⟩, 9), (⟨"JoinVessel$Messages", "add", "(II)I"⟩, 6), (⟨"JoinVessel$Channel", "addPending", "(I)V"⟩, 3), (⟨"JoinVessel$Messages", "has", "(I)Z"⟩, 6), (⟨"JoinVessel$Channel", "removePending", "(I)V"⟩, 3)]
theorem lw_r1 : ∀ q ∈ lw_privs_1, lw_okq q := List.forall_mem_cons.mpr ⟨lw_p0, List.forall_mem_cons.mpr ⟨lw_p1, List.forall_mem_cons.mpr ⟨lw_p2, List.forall_mem_cons.mpr ⟨lw_p3, List.forall_mem_cons.mpr ⟨lw_p4, List.forall_mem_cons.mpr ⟨lw_p5, List.forall_mem_cons.mpr ⟨lw_p6, List.forall_mem_cons.mpr ⟨lw_p7, List.forall_mem_cons.mpr ⟨lw_p8, List.forall_mem_cons.mpr ⟨lw_p9, List.forall_mem_cons.mpr ⟨lw_p10, List.forall_mem_cons.mpr ⟨lw_p11, List.forall_mem_cons.mpr ⟨lw_p12, List.forall_mem_cons.mpr ⟨lw_p13, List.forall_mem_cons.mpr ⟨lw_p14, List.forall_mem_cons.mpr ⟨lw_p15, fun _ h => absurd h List.not_mem_nil⟩⟩⟩⟩⟩⟩⟩⟩⟩⟩⟩⟩⟩⟩⟩⟩
theorem lw_p16 : lw_okq (⟨"JoinVessel", "findNext", "()I"⟩, 9) := ⟨⟨by decide +kernel, by decide +kernel⟩, List.mem_of_getElem? (i := 9) (by decide +kernel), List.mem_of_getElem? (i := 277) (by decide +kernel), List.mem_of_getElem? (i := 278) (by decide +kernel)⟩
theorem lw_p17 : lw_okq (⟨"JoinVessel", "findEnabledMatch", "(I)Z"⟩, 9) := ⟨⟨by decide +kernel, by decide +kernel⟩, List.mem_of_getElem? (i := 9) (by decide +kernel), List.mem_of_getElem? (i := 281) (by decide +kernel), List.mem_of_getElem? (i := 282) (by decide +kernel)⟩
theorem lw_p18 : lw_okq (⟨"JoinVessel", "hasRoom", "(LJoinVessel$Reaction;)Z"⟩, 9) := ⟨⟨by decide +kernel, by decide +kernel⟩, List.mem_of_getElem? (i := 9) (by decide +kernel), List.mem_of_getElem? (i := 285) (by decide +kernel), List.mem_of_getElem? (i := 286) (by decide +kernel)⟩
theorem lw_p19 : lw_okq (⟨"JoinVessel$Reaction", "sendCount", "()I"⟩, 12) := ⟨⟨by decide +kernel, by decide +kernel⟩, List.mem_of_getElem? (i := 85) (by decide +kernel), List.mem_of_getElem? (i := 289) (by decide +kernel), List.mem_of_getElem? (i := 290) (by decide +kernel)⟩
theorem lw_p20 : lw_okq (⟨"JoinVessel$Reaction", "partsOn", "(I)I"⟩, 12) := ⟨⟨by decide +kernel, by decide +kernel⟩, List.mem_of_getElem? (i := 85) (by decide +kernel), List.mem_of_getElem? (i := 293) (by decide +kernel), List.mem_of_getElem? (i := 294) (by decide +kernel)⟩
theorem lw_p21 : lw_okq (⟨"JoinVessel$Reaction", "sendsTo", "(I)I"⟩, 12) := ⟨⟨by decide +kernel, by decide +kernel⟩, List.mem_of_getElem? (i := 85) (by decide +kernel), List.mem_of_getElem? (i := 297) (by decide +kernel), List.mem_of_getElem? (i := 298) (by decide +kernel)⟩
theorem lw_p22 : lw_okq (⟨"JoinVessel$Reaction", "guardHolds", "([I)Z"⟩, 12) := ⟨⟨by decide +kernel, by decide +kernel⟩, List.mem_of_getElem? (i := 85) (by decide +kernel), List.mem_of_getElem? (i := 304) (by decide +kernel), List.mem_of_getElem? (i := 305) (by decide +kernel)⟩
theorem lw_p23 : lw_okq (⟨"JoinVessel$Reaction", "passesTest", "(II)Z"⟩, 12) := ⟨⟨by decide +kernel, by decide +kernel⟩, List.mem_of_getElem? (i := 85) (by decide +kernel), List.mem_of_getElem? (i := 320) (by decide +kernel), List.mem_of_getElem? (i := 321) (by decide +kernel)⟩
theorem lw_p24 : lw_okq (⟨"JoinVessel$Match", "holdsBefore", "(II)Z"⟩, 2) := ⟨⟨by decide +kernel, by decide +kernel⟩, List.mem_of_getElem? (i := 53) (by decide +kernel), List.mem_of_getElem? (i := 324) (by decide +kernel), List.mem_of_getElem? (i := 325) (by decide +kernel)⟩
theorem lw_p25 : lw_okq (⟨"JoinVessel", "fire", "(I)V"⟩, 9) := ⟨⟨by decide +kernel, by decide +kernel⟩, List.mem_of_getElem? (i := 9) (by decide +kernel), List.mem_of_getElem? (i := 328) (by decide +kernel), List.mem_of_getElem? (i := 329) (by decide +kernel)⟩
theorem lw_p26 : lw_okq (⟨"JoinVessel", "consume", "(I)V"⟩, 9) := ⟨⟨by decide +kernel, by decide +kernel⟩, List.mem_of_getElem? (i := 9) (by decide +kernel), List.mem_of_getElem? (i := 332) (by decide +kernel), List.mem_of_getElem? (i := 333) (by decide +kernel)⟩
theorem lw_p27 : lw_okq (⟨"JoinVessel$Reaction", "evaluate", "(I[I)I"⟩, 12) := ⟨⟨by decide +kernel, by decide +kernel⟩, List.mem_of_getElem? (i := 85) (by decide +kernel), List.mem_of_getElem? (i := 336) (by decide +kernel), List.mem_of_getElem? (i := 337) (by decide +kernel)⟩
theorem lw_p28 : lw_okq (⟨"JoinVesselModel", "open", "(I)Z"⟩, 28) := ⟨⟨by decide +kernel, by decide +kernel⟩, List.mem_of_getElem? (i := 382) (by decide +kernel), List.mem_of_getElem? (i := 485) (by decide +kernel), List.mem_of_getElem? (i := 486) (by decide +kernel)⟩
theorem lw_p29 : lw_okq (⟨"JoinVesselModel", "isChannel", "(I)Z"⟩, 28) := ⟨⟨by decide +kernel, by decide +kernel⟩, List.mem_of_getElem? (i := 382) (by decide +kernel), List.mem_of_getElem? (i := 489) (by decide +kernel), List.mem_of_getElem? (i := 490) (by decide +kernel)⟩
theorem lw_p30 : lw_okq (⟨"JoinVesselModel", "expression", "(III)Z"⟩, 28) := ⟨⟨by decide +kernel, by decide +kernel⟩, List.mem_of_getElem? (i := 382) (by decide +kernel), List.mem_of_getElem? (i := 501) (by decide +kernel), List.mem_of_getElem? (i := 502) (by decide +kernel)⟩
theorem lw_p31 : lw_okq (⟨"JoinVesselModel", "hasPart", "(II)Z"⟩, 28) := ⟨⟨by decide +kernel, by decide +kernel⟩, List.mem_of_getElem? (i := 382) (by decide +kernel), List.mem_of_getElem? (i := 505) (by decide +kernel), List.mem_of_getElem? (i := 506) (by decide +kernel)⟩
def lw_privs_2 : List (MethodName × Nat) := [(⟨"JoinVessel", "findNext", "()I"⟩, 9), (⟨"JoinVessel", "findEnabledMatch", "(I)Z"⟩, 9), (⟨"JoinVessel", "hasRoom", "(LJoinVessel$Reaction;)Z"⟩, 9), (⟨"JoinVessel$Reaction", "sendCount", "()I"⟩, 12), (⟨"JoinVessel$Reaction", "partsOn", "(I)I"⟩, 12), (⟨"JoinVessel$Reaction", "sendsTo", "(I)I"⟩, 12), (⟨"JoinVessel$Reaction", "guardHolds", "([I)Z"⟩, 12), (⟨"JoinVessel$Reaction", "passesTest", "(II)Z"⟩, 12), (⟨"JoinVessel$Match", "holdsBefore", "(II)Z"⟩, 2), (⟨"JoinVessel", "fire", "(I)V"⟩, 9), (⟨"JoinVessel", "consume", "(I)V"⟩, 9), (⟨"JoinVessel$Reaction", "evaluate", "(I[I)I"⟩, 12), (⟨"JoinVesselModel", "open", "(I)Z"⟩, 28), (⟨"JoinVesselModel", "isChannel", "(I)Z"⟩, 28), (⟨"JoinVesselModel", "expression", "(III)Z"⟩, 28), (⟨"JoinVesselModel", "hasPart", "(II)Z"⟩, 28)]
theorem lw_r2 : ∀ q ∈ lw_privs_2, lw_okq q := List.forall_mem_cons.mpr ⟨lw_p16, List.forall_mem_cons.mpr ⟨lw_p17, List.forall_mem_cons.mpr ⟨lw_p18, List.forall_mem_cons.mpr ⟨lw_p19, List.forall_mem_cons.mpr ⟨lw_p20, List.forall_mem_cons.mpr ⟨lw_p21, List.forall_mem_cons.mpr ⟨lw_p22, List.forall_mem_cons.mpr ⟨lw_p23, List.forall_mem_cons.mpr ⟨lw_p24, List.forall_mem_cons.mpr ⟨lw_p25, List.forall_mem_cons.mpr ⟨lw_p26, List.forall_mem_cons.mpr ⟨lw_p27, List.forall_mem_cons.mpr ⟨lw_p28, List.forall_mem_cons.mpr ⟨lw_p29, List.forall_mem_cons.mpr ⟨lw_p30, List.forall_mem_cons.mpr ⟨lw_p31, fun _ h => absurd h List.not_mem_nil⟩⟩⟩⟩⟩⟩⟩⟩⟩⟩⟩⟩⟩⟩⟩⟩
theorem lw_p32 : lw_okq (⟨"JoinVesselModel", "act", "(IIIII)V"⟩, 28) := ⟨⟨by decide +kernel, by decide +kernel⟩, List.mem_of_getElem? (i := 382) (by decide +kernel), List.mem_of_getElem? (i := 509) (by decide +kernel), List.mem_of_getElem? (i := 510) (by decide +kernel)⟩
theorem lw_p33 : lw_okq (⟨"JoinVesselModel", "answersPart", "(II)Z"⟩, 28) := ⟨⟨by decide +kernel, by decide +kernel⟩, List.mem_of_getElem? (i := 382) (by decide +kernel), List.mem_of_getElem? (i := 517) (by decide +kernel), List.mem_of_getElem? (i := 518) (by decide +kernel)⟩
theorem lw_p34 : lw_okq (⟨"JoinVesselModel", "enter", "(IIZ)I"⟩, 28) := ⟨⟨by decide +kernel, by decide +kernel⟩, List.mem_of_getElem? (i := 382) (by decide +kernel), List.mem_of_getElem? (i := 529) (by decide +kernel), List.mem_of_getElem? (i := 530) (by decide +kernel)⟩
theorem lw_p35 : lw_okq (⟨"JoinVesselModel", "gather", "()V"⟩, 28) := ⟨⟨by decide +kernel, by decide +kernel⟩, List.mem_of_getElem? (i := 382) (by decide +kernel), List.mem_of_getElem? (i := 533) (by decide +kernel), List.mem_of_getElem? (i := 534) (by decide +kernel)⟩
theorem lw_p36 : lw_okq (⟨"JoinVesselModel", "make", "(II)I"⟩, 28) := ⟨⟨by decide +kernel, by decide +kernel⟩, List.mem_of_getElem? (i := 382) (by decide +kernel), List.mem_of_getElem? (i := 537) (by decide +kernel), List.mem_of_getElem? (i := 538) (by decide +kernel)⟩
theorem lw_p37 : lw_okq (⟨"JoinVesselModel", "isMessage", "(I)Z"⟩, 28) := ⟨⟨by decide +kernel, by decide +kernel⟩, List.mem_of_getElem? (i := 382) (by decide +kernel), List.mem_of_getElem? (i := 549) (by decide +kernel), List.mem_of_getElem? (i := 550) (by decide +kernel)⟩
theorem lw_p38 : lw_okq (⟨"JoinVesselModel", "room", "(I)Z"⟩, 28) := ⟨⟨by decide +kernel, by decide +kernel⟩, List.mem_of_getElem? (i := 382) (by decide +kernel), List.mem_of_getElem? (i := 557) (by decide +kernel), List.mem_of_getElem? (i := 558) (by decide +kernel)⟩
theorem lw_p39 : lw_okq (⟨"JoinVesselModel", "find", "(I)Z"⟩, 28) := ⟨⟨by decide +kernel, by decide +kernel⟩, List.mem_of_getElem? (i := 382) (by decide +kernel), List.mem_of_getElem? (i := 561) (by decide +kernel), List.mem_of_getElem? (i := 562) (by decide +kernel)⟩
theorem lw_p40 : lw_okq (⟨"JoinVesselModel", "matches", "(I)Z"⟩, 28) := ⟨⟨by decide +kernel, by decide +kernel⟩, List.mem_of_getElem? (i := 382) (by decide +kernel), List.mem_of_getElem? (i := 565) (by decide +kernel), List.mem_of_getElem? (i := 566) (by decide +kernel)⟩
theorem lw_p41 : lw_okq (⟨"JoinVesselModel", "chosen", "(II)I"⟩, 28) := ⟨⟨by decide +kernel, by decide +kernel⟩, List.mem_of_getElem? (i := 382) (by decide +kernel), List.mem_of_getElem? (i := 569) (by decide +kernel), List.mem_of_getElem? (i := 570) (by decide +kernel)⟩
theorem lw_p42 : lw_okq (⟨"JoinVesselModel", "passes", "(II)Z"⟩, 28) := ⟨⟨by decide +kernel, by decide +kernel⟩, List.mem_of_getElem? (i := 382) (by decide +kernel), List.mem_of_getElem? (i := 573) (by decide +kernel), List.mem_of_getElem? (i := 574) (by decide +kernel)⟩
theorem lw_p43 : lw_okq (⟨"JoinVesselModel", "guarded", "(I)Z"⟩, 28) := ⟨⟨by decide +kernel, by decide +kernel⟩, List.mem_of_getElem? (i := 382) (by decide +kernel), List.mem_of_getElem? (i := 577) (by decide +kernel), List.mem_of_getElem? (i := 578) (by decide +kernel)⟩
theorem lw_p44 : lw_okq (⟨"JoinVesselModel", "fire", "(I)V"⟩, 28) := ⟨⟨by decide +kernel, by decide +kernel⟩, List.mem_of_getElem? (i := 382) (by decide +kernel), List.mem_of_getElem? (i := 595) (by decide +kernel), List.mem_of_getElem? (i := 596) (by decide +kernel)⟩
theorem lw_p45 : lw_okq (⟨"JoinVesselModel", "result", "(II)I"⟩, 28) := ⟨⟨by decide +kernel, by decide +kernel⟩, List.mem_of_getElem? (i := 382) (by decide +kernel), List.mem_of_getElem? (i := 599) (by decide +kernel), List.mem_of_getElem? (i := 600) (by decide +kernel)⟩
def lw_privs_3 : List (MethodName × Nat) := [(⟨"JoinVesselModel", "act", "(IIIII)V"⟩, 28), (⟨"JoinVesselModel", "answersPart", "(II)Z"⟩, 28), (⟨"JoinVesselModel", "enter", "(IIZ)I"⟩, 28), (⟨"JoinVesselModel", "gather", "()V"⟩, 28), (⟨"JoinVesselModel", "make", "(II)I"⟩, 28), (⟨"JoinVesselModel", "isMessage", "(I)Z"⟩, 28), (⟨"JoinVesselModel", "room", "(I)Z"⟩, 28), (⟨"JoinVesselModel", "find", "(I)Z"⟩, 28), (⟨"JoinVesselModel", "matches", "(I)Z"⟩, 28), (⟨"JoinVesselModel", "chosen", "(II)I"⟩, 28), (⟨"JoinVesselModel", "passes", "(II)Z"⟩, 28), (⟨"JoinVesselModel", "guarded", "(I)Z"⟩, 28), (⟨"JoinVesselModel", "fire", "(I)V"⟩, 28), (⟨"JoinVesselModel", "result", "(II)I"⟩, 28)]
theorem lw_r3 : ∀ q ∈ lw_privs_3, lw_okq q := List.forall_mem_cons.mpr ⟨lw_p32, List.forall_mem_cons.mpr ⟨lw_p33, List.forall_mem_cons.mpr ⟨lw_p34, List.forall_mem_cons.mpr ⟨lw_p35, List.forall_mem_cons.mpr ⟨lw_p36, List.forall_mem_cons.mpr ⟨lw_p37, List.forall_mem_cons.mpr ⟨lw_p38, List.forall_mem_cons.mpr ⟨lw_p39, List.forall_mem_cons.mpr ⟨lw_p40, List.forall_mem_cons.mpr ⟨lw_p41, List.forall_mem_cons.mpr ⟨lw_p42, List.forall_mem_cons.mpr ⟨lw_p43, List.forall_mem_cons.mpr ⟨lw_p44, List.forall_mem_cons.mpr ⟨lw_p45, fun _ h => absurd h List.not_mem_nil⟩⟩⟩⟩⟩⟩⟩⟩⟩⟩⟩⟩⟩⟩
def lw_privs : List (MethodName × Nat) := lw_privs_1 ++ (lw_privs_2 ++ (lw_privs_3))
def lw_tbl : List Cond := k2_sels lw_privs ++ tables_1
theorem lw_privs_ok : ∀ q ∈ lw_privs, lw_okq q := by
  show ∀ q ∈ lw_privs_1 ++ (lw_privs_2 ++ (lw_privs_3)), lw_okq q
  exact List.forall_mem_append.mpr ⟨lw_r1, List.forall_mem_append.mpr ⟨lw_r2, lw_r3⟩⟩
end
section
/-! The raw world: cells 0 .. n-1 at addresses a i, each out of the raw state h (cell, place). All contracts are over the whole world of a side. -/
abbrev RS : Type := Nat → Nat → Int32
def up2 (h : RS) (i k : Nat) (v : Int32) : RS := va_up h i (upd (h i) k v)
def gW (n : Nat) (a : Nat → Nat) (ce : (Nat → Int32) → Nat → va_E) (h : RS) : va_W := (List.range n).map (fun i => (a i, ce (h i) i))
theorem gW_at {n : Nat} {a : Nat → Nat} {ce : (Nat → Int32) → Nat → va_E} {h : RS} {i : Nat} {x : va_E} (hi : i < n) (hx : ce (h i) i = x) : (gW n a ce h)[i]? = some (a i, x) := by
  subst hx
  simp [gW, hi]
theorem gW_set {n : Nat} {a : Nat → Nat} {ce : (Nat → Int32) → Nat → va_E} {h : RS} {i : Nat} {x : Nat → Int32} {y : va_E} (hi : i < n) (hy : ce x i = y) : (gW n a ce h).set i (a i, y) = gW n a ce (va_up h i x) := by
  subst hy
  apply List.ext_getElem?
  intro j
  by_cases hj : j = i
  · subst hj
    simp [gW, hi, va_up]
  · rw [List.getElem?_set_ne (Ne.symm hj)]
    by_cases hn : j < n
    · simp [gW, va_up, hj, hn]
    · simp [gW, hn]
def inW (a : Nat → Nat) (n : Nat) : Nat → Prop := fun q => ∃ i, i < n ∧ q = a i
def injW (a : Nat → Nat) (n : Nat) : Prop := ∀ i j, i < n → j < n → a i = a j → i = j
theorem gW_lt {n : Nat} {a : Nat → Nat} {ce : (Nat → Int32) → Nat → va_E} {h : RS} {i : Nat} {q : Nat × va_E} (hq : (gW n a ce h)[i]? = some q) : i < n ∧ q.1 = a i := by
  have hl := (List.getElem?_eq_some_iff.mp hq).1
  have hn : i < n := by simpa [gW] using hl
  rw [gW_at hn rfl] at hq
  cases hq
  exact ⟨hn, rfl⟩
theorem gW_D {n : Nat} {a : Nat → Nat} {ce : (Nat → Int32) → Nat → va_E} {h : RS} (hI : injW a n) : va_D (inW a n) (gW n a ce h) := by
  refine ⟨fun i j x y hi hj hxy => ?_, fun k q hk => ?_⟩
  · obtain ⟨h1, e1⟩ := gW_lt hi
    obtain ⟨h2, e2⟩ := gW_lt hj
    exact hI i j h1 h2 (e1.symm.trans (hxy.trans e2))
  · obtain ⟨h1, e1⟩ := gW_lt hk
    exact ⟨k, h1, e1⟩
theorem in_nI {x : Int32} {n k : Nat} (hk : k < n) (hn : n < 2 ^ 31) (hx : x = nI k) : vp_in x n ∧ x.toNatClampNeg = k := by
  subst hx
  exact ⟨vp_in_nI hk hn, nI_clamp (Nat.lt_trans hk hn)⟩
/-- a boolean as the machine keeps it -/
def isB (v : Int32) : Prop := v = 0 ∨ v = 1
theorem isB_0 : isB 0 := Or.inl rfl
theorem isB_1 : isB 1 := Or.inr rfl
theorem isB_n {v : Int32} (h : isB v) : narrow .boolean (.int v) = .int v := by
  rcases h with rfl | rfl <;> rfl
theorem isB_f {v : Int32} (h : isB v) : fits .boolean (.int v) = true := by
  rcases h with rfl | rfl <;> decide
theorem isB_v {v : Int32} (h : isB v) : vp_nar .boolean v = v := by
  rcases h with rfl | rfl <;> rfl
/-- the tables' words may be carried to any callee -/
def TbOk (tb : List Cond) : Prop := (∀ w ∈ tb, w.onTables = true) ∧ ∀ w ∈ tb, ∀ s U : State, s.WarmedH U.vm → va_Nw w s → va_Nw w U
/-- what is fixed during a method's walk -/
def Cx (p : Program) (l : Launch) (R : Room) (s : State) (m : MethodId) (args : Array Value) (meth : Method) (c : Code) (cc : ByteArray) (nL : Nat) (own : String) (ret : Option FieldType) (D : va_G) (cl : List vw_C) (tys : List (ClassId × FieldType)) (a : Nat → Nat) (n F L : Nat) (tb : List Cond) : Prop :=
  p.tables.exec = Jvm.exec ∧ c.code = cc ∧ c.maxLocals = nL ∧ s.vm.findClass own = some m.cls ∧ (∀ w ∈ tb, w.before args s = true) ∧ meth.sig.returnType = ret ∧ meth.locks = false ∧ va_K D cl tys s ∧ injW a n ∧ F ≤ R.frames ∧ L ≤ R.locals ∧ TbOk tb
/-- from pc with the locals lv, the operands st and the raw state h the machine comes to Q -/
def Z (p : Program) (l : Launch) (e : Env) (R : Room) (s : State) (m : MethodId) (args : Array Value) (below : List Frame) (meth : Method) (c : Code) (D : va_G) (cl : List vw_C) (n : Nat) (a : Nat → Nat) (ce : (Nat → Int32) → Nat → va_E) (nL : Nat) (Q : State → Prop) (h : RS) (pc : Nat) (lv : List (Nat × Value)) (st : List Value) : Prop :=
  ∀ (H : Heap) (locs : List Loc) (ls : Array Slot), va_P D cl (gW n a ce h) H → va_S (inW a n) s.heap H locs → lv_has ls nL lv → W p l e R s m args below meth c H locs 0 0 Q (F0 m pc ls st)
section ZR
variable {p : Program} {l : Launch} {e : Env} {R : Room} {s : State} {m : MethodId} {args : Array Value} {below : List Frame} {meth : Method} {c : Code} {D : va_G} {cl : List vw_C} {n : Nat} {a : Nat → Nat} {ce : (Nat → Int32) → Nat → va_E} {nL : Nat} {Q : State → Prop} {h : RS} {pc : Nat} {lv lv' : List (Nat × Value)} {st : List Value} {cc : ByteArray} {own : String} {ret : Option FieldType} {tys : List (ClassId × FieldType)} {F L : Nat} {tb : List Cond}
theorem z_iconst (X : Cx p l R s m args meth c cc nL own ret D cl tys a n F L tb) {k : Int} {v : Int32} (hdg : decode cc pc = .ok (.iconst k, 1)) (hv : Int32.ofInt k = v) (z : Z p l e R s m args below meth c D cl n a ce nL Q h (pc + 1) lv (.int v :: st)) : Z p l e R s m args below meth c D cl n a ce nL Q h pc lv st :=
  fun H locs ls hP hS hl => lv_iconst X.1 X.2.1 hdg hv (z H locs ls hP hS hl)
theorem z_bipush (X : Cx p l R s m args meth c cc nL own ret D cl tys a n F L tb) {k : Int} {v : Int32} (hdg : decode cc pc = .ok (.bipush k, 2)) (hv : (Int8.ofInt k).toInt32 = v) (z : Z p l e R s m args below meth c D cl n a ce nL Q h (pc + 2) lv (.int v :: st)) : Z p l e R s m args below meth c D cl n a ce nL Q h pc lv st :=
  fun H locs ls hP hS hl => lv_bipush X.1 X.2.1 hdg hv (z H locs ls hP hS hl)
theorem z_sipush (X : Cx p l R s m args meth c cc nL own ret D cl tys a n F L tb) {k : Int} {v : Int32} (hdg : decode cc pc = .ok (.sipush k, 3)) (hv : (Int16.ofInt k).toInt32 = v) (z : Z p l e R s m args below meth c D cl n a ce nL Q h (pc + 3) lv (.int v :: st)) : Z p l e R s m args below meth c D cl n a ce nL Q h pc lv st :=
  fun H locs ls hP hS hl => lv_sipush X.1 X.2.1 hdg hv (z H locs ls hP hS hl)
theorem z_lconst (X : Cx p l R s m args meth c cc nL own ret D cl tys a n F L tb) {k : Fin 2} {v : Int64} (hdg : decode cc pc = .ok (.lconst k, 1)) (hv : Int64.ofNat (k : Nat) = v) (z : Z p l e R s m args below meth c D cl n a ce nL Q h (pc + 1) lv (.long v :: st)) : Z p l e R s m args below meth c D cl n a ce nL Q h pc lv st :=
  fun H locs ls hP hS hl => lv_lconst X.1 X.2.1 hdg hv (z H locs ls hP hS hl)
theorem z_iload_n (X : Cx p l R s m args meth c cc nL own ret D cl tys a n F L tb) (j : Nat) {k : Fin 4} {i : Nat} {x : Int32} (hdg : decode cc pc = .ok (.iload_n k, 1)) (hi : (k : Nat) = i) (hj : lv[j]? = some (i, .int x)) (z : Z p l e R s m args below meth c D cl n a ce nL Q h (pc + 1) lv (.int x :: st)) : Z p l e R s m args below meth c D cl n a ce nL Q h pc lv st :=
  fun H locs ls hP hS hl => lv_iload_n X.1 X.2.1 hdg hi (lv_at hl j hj) (z H locs ls hP hS hl)
theorem z_iload (X : Cx p l R s m args meth c cc nL own ret D cl tys a n F L tb) (j : Nat) {i : Nat} {x : Int32} (hdg : decode cc pc = .ok (.iload i, 2)) (hj : lv[j]? = some (i, .int x)) (z : Z p l e R s m args below meth c D cl n a ce nL Q h (pc + 2) lv (.int x :: st)) : Z p l e R s m args below meth c D cl n a ce nL Q h pc lv st :=
  fun H locs ls hP hS hl => lv_iload X.1 X.2.1 hdg (lv_at hl j hj) (z H locs ls hP hS hl)
theorem z_lload_n (X : Cx p l R s m args meth c cc nL own ret D cl tys a n F L tb) (j : Nat) {k : Fin 4} {i : Nat} {x : Int64} (hdg : decode cc pc = .ok (.lload_n k, 1)) (hi : (k : Nat) = i) (hj : lv[j]? = some (i, .long x)) (z : Z p l e R s m args below meth c D cl n a ce nL Q h (pc + 1) lv (.long x :: st)) : Z p l e R s m args below meth c D cl n a ce nL Q h pc lv st :=
  fun H locs ls hP hS hl => lv_lload_n X.1 X.2.1 hdg hi (lv_at hl j hj) (z H locs ls hP hS hl)
theorem z_lload (X : Cx p l R s m args meth c cc nL own ret D cl tys a n F L tb) (j : Nat) {i : Nat} {x : Int64} (hdg : decode cc pc = .ok (.lload i, 2)) (hj : lv[j]? = some (i, .long x)) (z : Z p l e R s m args below meth c D cl n a ce nL Q h (pc + 2) lv (.long x :: st)) : Z p l e R s m args below meth c D cl n a ce nL Q h pc lv st :=
  fun H locs ls hP hS hl => lv_lload X.1 X.2.1 hdg (lv_at hl j hj) (z H locs ls hP hS hl)
theorem z_aload_n (X : Cx p l R s m args meth c cc nL own ret D cl tys a n F L tb) (j : Nat) {k : Fin 4} {i x : Nat} (hdg : decode cc pc = .ok (.aload_n k, 1)) (hi : (k : Nat) = i) (hj : lv[j]? = some (i, .ref x)) (z : Z p l e R s m args below meth c D cl n a ce nL Q h (pc + 1) lv (.ref x :: st)) : Z p l e R s m args below meth c D cl n a ce nL Q h pc lv st :=
  fun H locs ls hP hS hl => lv_aload_n X.1 X.2.1 hdg hi (lv_at hl j hj) (z H locs ls hP hS hl)
theorem z_aload (X : Cx p l R s m args meth c cc nL own ret D cl tys a n F L tb) (j : Nat) {i x : Nat} (hdg : decode cc pc = .ok (.aload i, 2)) (hj : lv[j]? = some (i, .ref x)) (z : Z p l e R s m args below meth c D cl n a ce nL Q h (pc + 2) lv (.ref x :: st)) : Z p l e R s m args below meth c D cl n a ce nL Q h pc lv st :=
  fun H locs ls hP hS hl => lv_aload X.1 X.2.1 hdg (lv_at hl j hj) (z H locs ls hP hS hl)
theorem z_istore_n (X : Cx p l R s m args meth c cc nL own ret D cl tys a n F L tb) {k : Fin 4} {i : Nat} {x : Int32} (hdg : decode cc pc = .ok (.istore_n k, 1)) (hi : (k : Nat) = i) (hn : i < nL) (hl' : (i, Value.int x) :: lv.filter (fun q => !(q.1 == i) && !(q.1 + 1 == i && q.2.category == 2)) = lv') (z : Z p l e R s m args below meth c D cl n a ce nL Q h (pc + 1) lv' st) : Z p l e R s m args below meth c D cl n a ce nL Q h pc lv (.int x :: st) :=
  fun H locs _ hP hS hl => lv_istore_n X.1 X.2.1 hdg hi hl hn hl' (fun ls' h' => z H locs ls' hP hS h')
theorem z_istore (X : Cx p l R s m args meth c cc nL own ret D cl tys a n F L tb) {i : Nat} {x : Int32} (hdg : decode cc pc = .ok (.istore i, 2)) (hn : i < nL) (hl' : (i, Value.int x) :: lv.filter (fun q => !(q.1 == i) && !(q.1 + 1 == i && q.2.category == 2)) = lv') (z : Z p l e R s m args below meth c D cl n a ce nL Q h (pc + 2) lv' st) : Z p l e R s m args below meth c D cl n a ce nL Q h pc lv (.int x :: st) :=
  fun H locs _ hP hS hl => lv_istore X.1 X.2.1 hdg hl hn hl' (fun ls' h' => z H locs ls' hP hS h')
theorem z_lstore_n (X : Cx p l R s m args meth c cc nL own ret D cl tys a n F L tb) {k : Fin 4} {i : Nat} {x : Int64} (hdg : decode cc pc = .ok (.lstore_n k, 1)) (hi : (k : Nat) = i) (hn : i + 1 < nL) (hl' : (i, Value.long x) :: lv.filter (fun q => !(q.1 == i) && (!(q.1 == i + 1) && !(q.1 + 1 == i && q.2.category == 2))) = lv') (z : Z p l e R s m args below meth c D cl n a ce nL Q h (pc + 1) lv' st) : Z p l e R s m args below meth c D cl n a ce nL Q h pc lv (.long x :: st) :=
  fun H locs _ hP hS hl => lv_lstore_n X.1 X.2.1 hdg hi hl hn hl' (fun ls' h' => z H locs ls' hP hS h')
theorem z_lstore (X : Cx p l R s m args meth c cc nL own ret D cl tys a n F L tb) {i : Nat} {x : Int64} (hdg : decode cc pc = .ok (.lstore i, 2)) (hn : i + 1 < nL) (hl' : (i, Value.long x) :: lv.filter (fun q => !(q.1 == i) && (!(q.1 == i + 1) && !(q.1 + 1 == i && q.2.category == 2))) = lv') (z : Z p l e R s m args below meth c D cl n a ce nL Q h (pc + 2) lv' st) : Z p l e R s m args below meth c D cl n a ce nL Q h pc lv (.long x :: st) :=
  fun H locs _ hP hS hl => lv_lstore X.1 X.2.1 hdg hl hn hl' (fun ls' h' => z H locs ls' hP hS h')
theorem z_astore_n (X : Cx p l R s m args meth c cc nL own ret D cl tys a n F L tb) {k : Fin 4} {i x : Nat} (hdg : decode cc pc = .ok (.astore_n k, 1)) (hi : (k : Nat) = i) (hn : i < nL) (hl' : (i, Value.ref x) :: lv.filter (fun q => !(q.1 == i) && !(q.1 + 1 == i && q.2.category == 2)) = lv') (z : Z p l e R s m args below meth c D cl n a ce nL Q h (pc + 1) lv' st) : Z p l e R s m args below meth c D cl n a ce nL Q h pc lv (.ref x :: st) :=
  fun H locs _ hP hS hl => lv_astore_n X.1 X.2.1 hdg hi hl hn hl' (fun ls' h' => z H locs ls' hP hS h')
theorem z_astore (X : Cx p l R s m args meth c cc nL own ret D cl tys a n F L tb) {i x : Nat} (hdg : decode cc pc = .ok (.astore i, 2)) (hn : i < nL) (hl' : (i, Value.ref x) :: lv.filter (fun q => !(q.1 == i) && !(q.1 + 1 == i && q.2.category == 2)) = lv') (z : Z p l e R s m args below meth c D cl n a ce nL Q h (pc + 2) lv' st) : Z p l e R s m args below meth c D cl n a ce nL Q h pc lv (.ref x :: st) :=
  fun H locs _ hP hS hl => lv_astore X.1 X.2.1 hdg hl hn hl' (fun ls' h' => z H locs ls' hP hS h')
theorem z_iinc (X : Cx p l R s m args meth c cc nL own ret D cl tys a n F L tb) (j : Nat) {i : Nat} {k : Int} {x v : Int32} (hdg : decode cc pc = .ok (.iinc i k, 3)) (hj : lv[j]? = some (i, .int x)) (hv : x + Int32.ofInt k = v) (hn : i < nL) (hl' : (i, Value.int v) :: lv.filter (fun q => !(q.1 == i) && !(q.1 + 1 == i && q.2.category == 2)) = lv') (z : Z p l e R s m args below meth c D cl n a ce nL Q h (pc + 3) lv' st) : Z p l e R s m args below meth c D cl n a ce nL Q h pc lv st :=
  fun H locs _ hP hS hl => lv_iinc X.1 X.2.1 hdg hl hj hv hn hl' (fun ls' h' => z H locs ls' hP hS h')
theorem z_iadd (X : Cx p l R s m args meth c cc nL own ret D cl tys a n F L tb) {x y : Int32} (hdg : decode cc pc = .ok (.iadd, 1)) (z : Z p l e R s m args below meth c D cl n a ce nL Q h (pc + 1) lv (.int (x + y) :: st)) : Z p l e R s m args below meth c D cl n a ce nL Q h pc lv (.int y :: .int x :: st) :=
  fun H locs ls hP hS hl => lv_iadd X.1 X.2.1 hdg (z H locs ls hP hS hl)
theorem z_isub (X : Cx p l R s m args meth c cc nL own ret D cl tys a n F L tb) {x y : Int32} (hdg : decode cc pc = .ok (.isub, 1)) (z : Z p l e R s m args below meth c D cl n a ce nL Q h (pc + 1) lv (.int (x - y) :: st)) : Z p l e R s m args below meth c D cl n a ce nL Q h pc lv (.int y :: .int x :: st) :=
  fun H locs ls hP hS hl => lv_isub X.1 X.2.1 hdg (z H locs ls hP hS hl)
theorem z_imul (X : Cx p l R s m args meth c cc nL own ret D cl tys a n F L tb) {x y : Int32} (hdg : decode cc pc = .ok (.imul, 1)) (z : Z p l e R s m args below meth c D cl n a ce nL Q h (pc + 1) lv (.int (x * y) :: st)) : Z p l e R s m args below meth c D cl n a ce nL Q h pc lv (.int y :: .int x :: st) :=
  fun H locs ls hP hS hl => lv_imul X.1 X.2.1 hdg (z H locs ls hP hS hl)
theorem z_iand (X : Cx p l R s m args meth c cc nL own ret D cl tys a n F L tb) {x y : Int32} (hdg : decode cc pc = .ok (.iand, 1)) (z : Z p l e R s m args below meth c D cl n a ce nL Q h (pc + 1) lv (.int (x &&& y) :: st)) : Z p l e R s m args below meth c D cl n a ce nL Q h pc lv (.int y :: .int x :: st) :=
  fun H locs ls hP hS hl => lv_iand X.1 X.2.1 hdg (z H locs ls hP hS hl)
theorem z_ior (X : Cx p l R s m args meth c cc nL own ret D cl tys a n F L tb) {x y : Int32} (hdg : decode cc pc = .ok (.ior, 1)) (z : Z p l e R s m args below meth c D cl n a ce nL Q h (pc + 1) lv (.int (x ||| y) :: st)) : Z p l e R s m args below meth c D cl n a ce nL Q h pc lv (.int y :: .int x :: st) :=
  fun H locs ls hP hS hl => lv_ior X.1 X.2.1 hdg (z H locs ls hP hS hl)
theorem z_idiv (X : Cx p l R s m args meth c cc nL own ret D cl tys a n F L tb) {x y : Int32} (hdg : decode cc pc = .ok (.idiv, 1)) (hne : ¬ y = 0) (z : Z p l e R s m args below meth c D cl n a ce nL Q h (pc + 1) lv (.int (x / y) :: st)) : Z p l e R s m args below meth c D cl n a ce nL Q h pc lv (.int y :: .int x :: st) :=
  fun H locs ls hP hS hl => lv_idiv X.1 X.2.1 hdg hne (z H locs ls hP hS hl)
theorem z_irem (X : Cx p l R s m args meth c cc nL own ret D cl tys a n F L tb) {x y : Int32} (hdg : decode cc pc = .ok (.irem, 1)) (hne : ¬ y = 0) (z : Z p l e R s m args below meth c D cl n a ce nL Q h (pc + 1) lv (.int (x - x / y * y) :: st)) : Z p l e R s m args below meth c D cl n a ce nL Q h pc lv (.int y :: .int x :: st) :=
  fun H locs ls hP hS hl => lv_irem X.1 X.2.1 hdg hne (z H locs ls hP hS hl)
theorem z_ladd (X : Cx p l R s m args meth c cc nL own ret D cl tys a n F L tb) {x y : Int64} (hdg : decode cc pc = .ok (.ladd, 1)) (z : Z p l e R s m args below meth c D cl n a ce nL Q h (pc + 1) lv (.long (x + y) :: st)) : Z p l e R s m args below meth c D cl n a ce nL Q h pc lv (.long y :: .long x :: st) :=
  fun H locs ls hP hS hl => lv_ladd X.1 X.2.1 hdg (z H locs ls hP hS hl)
theorem z_lrem (X : Cx p l R s m args meth c cc nL own ret D cl tys a n F L tb) {x y : Int64} (hdg : decode cc pc = .ok (.lrem, 1)) (hne : ¬ y = 0) (z : Z p l e R s m args below meth c D cl n a ce nL Q h (pc + 1) lv (.long (x - x / y * y) :: st)) : Z p l e R s m args below meth c D cl n a ce nL Q h pc lv (.long y :: .long x :: st) :=
  fun H locs ls hP hS hl => lv_lrem X.1 X.2.1 hdg hne (z H locs ls hP hS hl)
theorem z_ishl (X : Cx p l R s m args meth c cc nL own ret D cl tys a n F L tb) {x y : Int32} (hdg : decode cc pc = .ok (.ishl, 1)) (z : Z p l e R s m args below meth c D cl n a ce nL Q h (pc + 1) lv (.int (x <<< (y &&& 31)) :: st)) : Z p l e R s m args below meth c D cl n a ce nL Q h pc lv (.int y :: .int x :: st) :=
  fun H locs ls hP hS hl => lv_ishl X.1 X.2.1 hdg (z H locs ls hP hS hl)
theorem z_ishr (X : Cx p l R s m args meth c cc nL own ret D cl tys a n F L tb) {x y : Int32} (hdg : decode cc pc = .ok (.ishr, 1)) (z : Z p l e R s m args below meth c D cl n a ce nL Q h (pc + 1) lv (.int (x >>> (y &&& 31)) :: st)) : Z p l e R s m args below meth c D cl n a ce nL Q h pc lv (.int y :: .int x :: st) :=
  fun H locs ls hP hS hl => lv_ishr X.1 X.2.1 hdg (z H locs ls hP hS hl)
theorem z_i2l (X : Cx p l R s m args meth c cc nL own ret D cl tys a n F L tb) {x : Int32} (hdg : decode cc pc = .ok (.i2l, 1)) (z : Z p l e R s m args below meth c D cl n a ce nL Q h (pc + 1) lv (.long x.toInt64 :: st)) : Z p l e R s m args below meth c D cl n a ce nL Q h pc lv (.int x :: st) :=
  fun H locs ls hP hS hl => lv_i2l X.1 X.2.1 hdg rfl (z H locs ls hP hS hl)
theorem z_l2i (X : Cx p l R s m args meth c cc nL own ret D cl tys a n F L tb) {x : Int64} (hdg : decode cc pc = .ok (.l2i, 1)) (z : Z p l e R s m args below meth c D cl n a ce nL Q h (pc + 1) lv (.int x.toInt32 :: st)) : Z p l e R s m args below meth c D cl n a ce nL Q h pc lv (.long x :: st) :=
  fun H locs ls hP hS hl => lv_l2i X.1 X.2.1 hdg rfl (z H locs ls hP hS hl)
theorem z_lcmp (X : Cx p l R s m args meth c cc nL own ret D cl tys a n F L tb) {x y : Int64} (hdg : decode cc pc = .ok (.lcmp, 1)) (z : Z p l e R s m args below meth c D cl n a ce nL Q h (pc + 1) lv (.int (lg_cmp x y) :: st)) : Z p l e R s m args below meth c D cl n a ce nL Q h pc lv (.long y :: .long x :: st) :=
  fun H locs ls hP hS hl => W.lcmp X.1 X.2.1 hdg (z H locs ls hP hS hl)
theorem z_dup (X : Cx p l R s m args meth c cc nL own ret D cl tys a n F L tb) {v : Value} (hdg : decode cc pc = .ok (.dup, 1)) (hv : v.category = 1) (z : Z p l e R s m args below meth c D cl n a ce nL Q h (pc + 1) lv (v :: v :: st)) : Z p l e R s m args below meth c D cl n a ce nL Q h pc lv (v :: st) :=
  fun H locs ls hP hS hl => lv_dup X.1 X.2.1 hdg hv (z H locs ls hP hS hl)
theorem z_dup_x1 (X : Cx p l R s m args meth c cc nL own ret D cl tys a n F L tb) {v w : Value} (hdg : decode cc pc = .ok (.dup_x1, 1)) (hv : v.category = 1) (hw : w.category = 1) (z : Z p l e R s m args below meth c D cl n a ce nL Q h (pc + 1) lv (v :: w :: v :: st)) : Z p l e R s m args below meth c D cl n a ce nL Q h pc lv (v :: w :: st) :=
  fun H locs ls hP hS hl => lv_dup_x1 X.1 X.2.1 hdg hv hw (z H locs ls hP hS hl)
theorem z_dup2 (X : Cx p l R s m args meth c cc nL own ret D cl tys a n F L tb) {v w : Value} (hdg : decode cc pc = .ok (.dup2, 1)) (hv : v.category = 1) (hw : w.category = 1) (z : Z p l e R s m args below meth c D cl n a ce nL Q h (pc + 1) lv (v :: w :: v :: w :: st)) : Z p l e R s m args below meth c D cl n a ce nL Q h pc lv (v :: w :: st) :=
  fun H locs ls hP hS hl => lv_dup2_11 X.1 X.2.1 hdg hv hw (z H locs ls hP hS hl)
theorem z_pop (X : Cx p l R s m args meth c cc nL own ret D cl tys a n F L tb) {v : Value} (hdg : decode cc pc = .ok (.pop, 1)) (hv : v.category = 1) (z : Z p l e R s m args below meth c D cl n a ce nL Q h (pc + 1) lv st) : Z p l e R s m args below meth c D cl n a ce nL Q h pc lv (v :: st) :=
  fun H locs ls hP hS hl => lv_pop X.1 X.2.1 hdg hv (z H locs ls hP hS hl)
theorem z_goto (X : Cx p l R s m args meth c cc nL own ret D cl tys a n F L tb) {off : Int} {tgt : Nat} (hdg : decode cc pc = .ok (.goto off, 3)) (ht : (pc : Int) + off = (tgt : Int)) (z : Z p l e R s m args below meth c D cl n a ce nL Q h tgt lv st) : Z p l e R s m args below meth c D cl n a ce nL Q h pc lv st :=
  fun H locs ls hP hS hl => lv_goto X.1 X.2.1 hdg ht (z H locs ls hP hS hl)
/-- a jump to a place that is told apart by fewer locals -/
theorem z_to (ks : List Nat) (hk : lv_pick lv ks = lv') (z : Z p l e R s m args below meth c D cl n a ce nL Q h pc lv' st) : Z p l e R s m args below meth c D cl n a ce nL Q h pc lv st :=
  fun H locs ls hP hS hl => z H locs ls hP hS (lv_sub hl ks hk)
theorem z_if_eq (X : Cx p l R s m args meth c cc nL own ret D cl tys a n F L tb) {x : Int32} {off : Int} {tgt : Nat} (hdg : decode cc pc = .ok (.ifCond .eq off, 3)) (ht : (pc : Int) + off = (tgt : Int)) (kt : x = 0 → Z p l e R s m args below meth c D cl n a ce nL Q h tgt lv st) (kf : ¬ x = 0 → Z p l e R s m args below meth c D cl n a ce nL Q h (pc + 3) lv st) : Z p l e R s m args below meth c D cl n a ce nL Q h pc lv (.int x :: st) :=
  fun H locs ls hP hS hl => lv_if_eq X.1 X.2.1 hdg ht (fun q => kt q H locs ls hP hS hl) (fun q => kf q H locs ls hP hS hl)
theorem z_icmp_eq (X : Cx p l R s m args meth c cc nL own ret D cl tys a n F L tb) {x y : Int32} {off : Int} {tgt : Nat} (hdg : decode cc pc = .ok (.if_icmp .eq off, 3)) (ht : (pc : Int) + off = (tgt : Int)) (kt : x = y → Z p l e R s m args below meth c D cl n a ce nL Q h tgt lv st) (kf : ¬ x = y → Z p l e R s m args below meth c D cl n a ce nL Q h (pc + 3) lv st) : Z p l e R s m args below meth c D cl n a ce nL Q h pc lv (.int y :: .int x :: st) :=
  fun H locs ls hP hS hl => lv_icmp_eq X.1 X.2.1 hdg ht (fun q => kt q H locs ls hP hS hl) (fun q => kf q H locs ls hP hS hl)
theorem z_if_ne (X : Cx p l R s m args meth c cc nL own ret D cl tys a n F L tb) {x : Int32} {off : Int} {tgt : Nat} (hdg : decode cc pc = .ok (.ifCond .ne off, 3)) (ht : (pc : Int) + off = (tgt : Int)) (kt : ¬ x = 0 → Z p l e R s m args below meth c D cl n a ce nL Q h tgt lv st) (kf : x = 0 → Z p l e R s m args below meth c D cl n a ce nL Q h (pc + 3) lv st) : Z p l e R s m args below meth c D cl n a ce nL Q h pc lv (.int x :: st) :=
  fun H locs ls hP hS hl => lv_if_ne X.1 X.2.1 hdg ht (fun q => kt q H locs ls hP hS hl) (fun q => kf q H locs ls hP hS hl)
theorem z_icmp_ne (X : Cx p l R s m args meth c cc nL own ret D cl tys a n F L tb) {x y : Int32} {off : Int} {tgt : Nat} (hdg : decode cc pc = .ok (.if_icmp .ne off, 3)) (ht : (pc : Int) + off = (tgt : Int)) (kt : ¬ x = y → Z p l e R s m args below meth c D cl n a ce nL Q h tgt lv st) (kf : x = y → Z p l e R s m args below meth c D cl n a ce nL Q h (pc + 3) lv st) : Z p l e R s m args below meth c D cl n a ce nL Q h pc lv (.int y :: .int x :: st) :=
  fun H locs ls hP hS hl => lv_icmp_ne X.1 X.2.1 hdg ht (fun q => kt q H locs ls hP hS hl) (fun q => kf q H locs ls hP hS hl)
theorem z_if_lt (X : Cx p l R s m args meth c cc nL own ret D cl tys a n F L tb) {x : Int32} {off : Int} {tgt : Nat} (hdg : decode cc pc = .ok (.ifCond .lt off, 3)) (ht : (pc : Int) + off = (tgt : Int)) (kt : x < 0 → Z p l e R s m args below meth c D cl n a ce nL Q h tgt lv st) (kf : ¬ x < 0 → Z p l e R s m args below meth c D cl n a ce nL Q h (pc + 3) lv st) : Z p l e R s m args below meth c D cl n a ce nL Q h pc lv (.int x :: st) :=
  fun H locs ls hP hS hl => lv_if_lt X.1 X.2.1 hdg ht (fun q => kt q H locs ls hP hS hl) (fun q => kf q H locs ls hP hS hl)
theorem z_icmp_lt (X : Cx p l R s m args meth c cc nL own ret D cl tys a n F L tb) {x y : Int32} {off : Int} {tgt : Nat} (hdg : decode cc pc = .ok (.if_icmp .lt off, 3)) (ht : (pc : Int) + off = (tgt : Int)) (kt : x < y → Z p l e R s m args below meth c D cl n a ce nL Q h tgt lv st) (kf : ¬ x < y → Z p l e R s m args below meth c D cl n a ce nL Q h (pc + 3) lv st) : Z p l e R s m args below meth c D cl n a ce nL Q h pc lv (.int y :: .int x :: st) :=
  fun H locs ls hP hS hl => lv_icmp_lt X.1 X.2.1 hdg ht (fun q => kt q H locs ls hP hS hl) (fun q => kf q H locs ls hP hS hl)
theorem z_if_ge (X : Cx p l R s m args meth c cc nL own ret D cl tys a n F L tb) {x : Int32} {off : Int} {tgt : Nat} (hdg : decode cc pc = .ok (.ifCond .ge off, 3)) (ht : (pc : Int) + off = (tgt : Int)) (kt : 0 ≤ x → Z p l e R s m args below meth c D cl n a ce nL Q h tgt lv st) (kf : ¬ 0 ≤ x → Z p l e R s m args below meth c D cl n a ce nL Q h (pc + 3) lv st) : Z p l e R s m args below meth c D cl n a ce nL Q h pc lv (.int x :: st) :=
  fun H locs ls hP hS hl => lv_if_ge X.1 X.2.1 hdg ht (fun q => kt q H locs ls hP hS hl) (fun q => kf q H locs ls hP hS hl)
theorem z_icmp_ge (X : Cx p l R s m args meth c cc nL own ret D cl tys a n F L tb) {x y : Int32} {off : Int} {tgt : Nat} (hdg : decode cc pc = .ok (.if_icmp .ge off, 3)) (ht : (pc : Int) + off = (tgt : Int)) (kt : y ≤ x → Z p l e R s m args below meth c D cl n a ce nL Q h tgt lv st) (kf : ¬ y ≤ x → Z p l e R s m args below meth c D cl n a ce nL Q h (pc + 3) lv st) : Z p l e R s m args below meth c D cl n a ce nL Q h pc lv (.int y :: .int x :: st) :=
  fun H locs ls hP hS hl => lv_icmp_ge X.1 X.2.1 hdg ht (fun q => kt q H locs ls hP hS hl) (fun q => kf q H locs ls hP hS hl)
theorem z_if_gt (X : Cx p l R s m args meth c cc nL own ret D cl tys a n F L tb) {x : Int32} {off : Int} {tgt : Nat} (hdg : decode cc pc = .ok (.ifCond .gt off, 3)) (ht : (pc : Int) + off = (tgt : Int)) (kt : 0 < x → Z p l e R s m args below meth c D cl n a ce nL Q h tgt lv st) (kf : ¬ 0 < x → Z p l e R s m args below meth c D cl n a ce nL Q h (pc + 3) lv st) : Z p l e R s m args below meth c D cl n a ce nL Q h pc lv (.int x :: st) :=
  fun H locs ls hP hS hl => lv_if_gt X.1 X.2.1 hdg ht (fun q => kt q H locs ls hP hS hl) (fun q => kf q H locs ls hP hS hl)
theorem z_icmp_gt (X : Cx p l R s m args meth c cc nL own ret D cl tys a n F L tb) {x y : Int32} {off : Int} {tgt : Nat} (hdg : decode cc pc = .ok (.if_icmp .gt off, 3)) (ht : (pc : Int) + off = (tgt : Int)) (kt : y < x → Z p l e R s m args below meth c D cl n a ce nL Q h tgt lv st) (kf : ¬ y < x → Z p l e R s m args below meth c D cl n a ce nL Q h (pc + 3) lv st) : Z p l e R s m args below meth c D cl n a ce nL Q h pc lv (.int y :: .int x :: st) :=
  fun H locs ls hP hS hl => lv_icmp_gt X.1 X.2.1 hdg ht (fun q => kt q H locs ls hP hS hl) (fun q => kf q H locs ls hP hS hl)
theorem z_if_le (X : Cx p l R s m args meth c cc nL own ret D cl tys a n F L tb) {x : Int32} {off : Int} {tgt : Nat} (hdg : decode cc pc = .ok (.ifCond .le off, 3)) (ht : (pc : Int) + off = (tgt : Int)) (kt : x ≤ 0 → Z p l e R s m args below meth c D cl n a ce nL Q h tgt lv st) (kf : ¬ x ≤ 0 → Z p l e R s m args below meth c D cl n a ce nL Q h (pc + 3) lv st) : Z p l e R s m args below meth c D cl n a ce nL Q h pc lv (.int x :: st) :=
  fun H locs ls hP hS hl => lv_if_le X.1 X.2.1 hdg ht (fun q => kt q H locs ls hP hS hl) (fun q => kf q H locs ls hP hS hl)
theorem z_icmp_le (X : Cx p l R s m args meth c cc nL own ret D cl tys a n F L tb) {x y : Int32} {off : Int} {tgt : Nat} (hdg : decode cc pc = .ok (.if_icmp .le off, 3)) (ht : (pc : Int) + off = (tgt : Int)) (kt : x ≤ y → Z p l e R s m args below meth c D cl n a ce nL Q h tgt lv st) (kf : ¬ x ≤ y → Z p l e R s m args below meth c D cl n a ce nL Q h (pc + 3) lv st) : Z p l e R s m args below meth c D cl n a ce nL Q h pc lv (.int y :: .int x :: st) :=
  fun H locs ls hP hS hl => lv_icmp_le X.1 X.2.1 hdg ht (fun q => kt q H locs ls hP hS hl) (fun q => kf q H locs ls hP hS hl)
/-- a switch, case by case -/
theorem z_sw {x k : Int32} (kt : x = k → Z p l e R s m args below meth c D cl n a ce nL Q h pc lv (.int x :: st)) (kf : ¬ x = k → Z p l e R s m args below meth c D cl n a ce nL Q h pc lv (.int x :: st)) : Z p l e R s m args below meth c D cl n a ce nL Q h pc lv (.int x :: st) := by
  by_cases q : x = k
  · exact kt q
  · exact kf q
theorem z_tableOut (X : Cx p l R s m args meth c cc nL own ret D cl tys a n F L tb) {dflt lo hi : Int} {offs : Array Int} {len : Nat} {x : Int32} {tgt : Nat} (hdg : decode cc pc = .ok (.tableswitch dflt lo hi offs, len)) (hx : x.toInt < lo ∨ hi < x.toInt) (ht : (pc : Int) + dflt = (tgt : Int)) (z : Z p l e R s m args below meth c D cl n a ce nL Q h tgt lv st) : Z p l e R s m args below meth c D cl n a ce nL Q h pc lv (.int x :: st) :=
  fun H locs ls hP hS hl => lv_tableOut X.1 X.2.1 hdg hx ht (z H locs ls hP hS hl)
theorem z_tableIn (X : Cx p l R s m args meth c cc nL own ret D cl tys a n F L tb) {dflt lo hi : Int} {offs : Array Int} {len : Nat} {x : Int32} {off : Int} {tgt : Nat} (hdg : decode cc pc = .ok (.tableswitch dflt lo hi offs, len)) (h1 : ¬ x.toInt < lo) (h2 : ¬ hi < x.toInt) (ho : offs[(x.toInt - lo).toNat]? = some off) (ht : (pc : Int) + off = (tgt : Int)) (z : Z p l e R s m args below meth c D cl n a ce nL Q h tgt lv st) : Z p l e R s m args below meth c D cl n a ce nL Q h pc lv (.int x :: st) :=
  fun H locs ls hP hS hl => lv_tableIn X.1 X.2.1 hdg h1 h2 ho ht (z H locs ls hP hS hl)
/-- getfield: a field of its own -/
theorem z_get (X : Cx p l R s m args meth c cc nL own ret D cl tys a n F L tb) {i ci N index : Nat} {fs : List Value} {C ref : String} {T : u_T} {v : Value} (hi : i < n) (hc : ce (h i) i = .inr (ci, fs)) (hcl : cl[ci]? = some (C, T, N)) (hin : ∀ w ∈ u_ws C T N, w ∈ tb) (k : Nat) (hk : k < N) (hlink : Cond.fieldLink own index ref (T k).2.1 (T k).2.2.1 ∈ tb) (href : (T k).1 = ref) (hv : fs[k]? = some v) (hdg : decode cc pc = .ok (.getfield index, 3)) (z : Z p l e R s m args below meth c D cl n a ce nL Q h (pc + 3) lv (v :: st)) : Z p l e R s m args below meth c D cl n a ce nL Q h pc lv (.ref (a i) :: st) :=
  fun H locs ls hP hS hl => va_get X.1 X.2.1 X.2.2.2.2.1 hin X.2.2.2.1 X.2.2.2.2.2.2.2.1 hP i (gW_at hi hc) hcl k hk (X.2.2.2.2.1 _ hlink) (fun _ h9 => by rw [← href]; exact h9) hv hdg (z H locs ls hP hS hl)
/-- .. a nest mate's -/
theorem z_getN (X : Cx p l R s m args meth c cc nL own ret D cl tys a n F L tb) {i ci N index : Nat} {fs : List Value} {C ref host : String} {T : u_T} {v : Value} (hi : i < n) (hc : ce (h i) i = .inr (ci, fs)) (hcl : cl[ci]? = some (C, T, N)) (hin : ∀ w ∈ u_ws C T N, w ∈ tb) (k : Nat) (hk : k < N) (hlink : Cond.fieldLinkNest own index ref (T k).2.1 (T k).2.2.1 host ∈ tb) (href : (T k).1 = ref) (hv : fs[k]? = some v) (hdg : decode cc pc = .ok (.getfield index, 3)) (z : Z p l e R s m args below meth c D cl n a ce nL Q h (pc + 3) lv (v :: st)) : Z p l e R s m args below meth c D cl n a ce nL Q h pc lv (.ref (a i) :: st) :=
  fun H locs ls hP hS hl => va_getN X.1 X.2.1 X.2.2.2.2.1 hin X.2.2.2.1 X.2.2.2.2.2.2.2.1 hP i (gW_at hi hc) hcl k hk (X.2.2.2.2.1 _ hlink) (fun _ h9 => by rw [← href]; exact h9) hv hdg (z H locs ls hP hS hl)
/-- putfield of an int or a boolean (not final) -/
theorem z_put (X : Cx p l R s m args meth c cc nL own ret D cl tys a n F L tb) {i ci N index : Nat} {fs : List Value} {C ref : String} {T : u_T} {x : Int32} {ty : FieldType} (hi : i < n) (hc : ce (h i) i = .inr (ci, fs)) (hcl : cl[ci]? = some (C, T, N)) (hin : ∀ w ∈ u_ws C T N, w ∈ tb) (ty0 : Nat → FieldType) (hty : ∀ k, k < N → parseFieldDescriptor (T k).2.2.1 = some (ty0 k)) (hnm : ∀ a, a < N → ∀ b, b < N → a ≠ b → (T a).2.1 ≠ (T b).2.1) (k : Nat) (hk : k < N) (hlink : Cond.fieldLink own index ref (T k).2.1 (T k).2.2.1 ∈ tb) (href : (T k).1 = ref) (hfin : (T k).2.2.2 = false) (hd : parseFieldDescriptor (T k).2.2.1 = some ty) (hn : narrow ty (.int x) = .int x) (hfit : fits ty (.int x) = true) (hl : k < fs.length) (hc' : ce (upd (h i) k x) i = .inr (ci, fs.set k (.int x))) (hdg : decode cc pc = .ok (.putfield index, 3)) (z : Z p l e R s m args below meth c D cl n a ce nL Q (up2 h i k x) (pc + 3) lv st) : Z p l e R s m args below meth c D cl n a ce nL Q h pc lv (.int x :: .ref (a i) :: st) :=
  fun H locs ls hP hS hl2 => va_put X.1 X.2.1 X.2.2.2.2.1 hin ty0 hty hnm X.2.2.2.1 X.2.2.2.2.2.2.2.1 hP (gW_D X.2.2.2.2.2.2.2.2.1) hS i (gW_at hi hc) hcl k hk (X.2.2.2.2.1 _ hlink) (fun _ h9 => by rw [← href]; exact h9) hfin hd hn hfit hl hdg (fun H1 locs1 hP1 _ hS1 => z H1 locs1 ls (by rw [gW_set hi hc'] at hP1; exact hP1) hS1 hl2)
theorem z_putN (X : Cx p l R s m args meth c cc nL own ret D cl tys a n F L tb) {i ci N index : Nat} {fs : List Value} {C ref host : String} {T : u_T} {x : Int32} {ty : FieldType} (hi : i < n) (hc : ce (h i) i = .inr (ci, fs)) (hcl : cl[ci]? = some (C, T, N)) (hin : ∀ w ∈ u_ws C T N, w ∈ tb) (ty0 : Nat → FieldType) (hty : ∀ k, k < N → parseFieldDescriptor (T k).2.2.1 = some (ty0 k)) (hnm : ∀ a, a < N → ∀ b, b < N → a ≠ b → (T a).2.1 ≠ (T b).2.1) (k : Nat) (hk : k < N) (hlink : Cond.fieldLinkNest own index ref (T k).2.1 (T k).2.2.1 host ∈ tb) (href : (T k).1 = ref) (hfin : (T k).2.2.2 = false) (hd : parseFieldDescriptor (T k).2.2.1 = some ty) (hn : narrow ty (.int x) = .int x) (hfit : fits ty (.int x) = true) (hl : k < fs.length) (hc' : ce (upd (h i) k x) i = .inr (ci, fs.set k (.int x))) (hdg : decode cc pc = .ok (.putfield index, 3)) (z : Z p l e R s m args below meth c D cl n a ce nL Q (up2 h i k x) (pc + 3) lv st) : Z p l e R s m args below meth c D cl n a ce nL Q h pc lv (.int x :: .ref (a i) :: st) :=
  fun H locs ls hP hS hl2 => va_putN X.1 X.2.1 X.2.2.2.2.1 hin ty0 hty hnm X.2.2.2.1 X.2.2.2.2.2.2.2.1 hP (gW_D X.2.2.2.2.2.2.2.2.1) hS i (gW_at hi hc) hcl k hk (X.2.2.2.2.1 _ hlink) (fun _ h9 => by rw [← href]; exact h9) hfin hd hn hfit hl hdg (fun H1 locs1 hP1 _ hS1 => z H1 locs1 ls (by rw [gW_set hi hc'] at hP1; exact hP1) hS1 hl2)
/-- iaload, iastore, baload, bastore, aaload -/
theorem z_iald (X : Cx p l R s m args meth c cc nL own ret D cl tys a n F L tb) (t0 : Nat) {i w k : Nat} {cA : ClassId} {x : Int32} (hi : i < n) (hc : ce (h i) i = .inl (cA, w, .inl (h i))) (ht : tys[t0]? = some (cA, .int)) (hw : w < 2 ^ 31) (hk : k < w) (hx : x = nI k) (hdg : decode cc pc = .ok (.iaload, 1)) (z : Z p l e R s m args below meth c D cl n a ce nL Q h (pc + 1) lv (.int (h i k) :: st)) : Z p l e R s m args below meth c D cl n a ce nL Q h pc lv (.int x :: .ref (a i) :: st) :=
  fun H locs ls hP hS hl => va_iald X.1 X.2.1 X.2.2.2.2.2.2.2.1 hP i t0 (gW_at hi hc) ht (in_nI hk hw hx).1 hdg (by rw [(in_nI hk hw hx).2]; exact z H locs ls hP hS hl)
theorem z_zald (X : Cx p l R s m args meth c cc nL own ret D cl tys a n F L tb) (t0 : Nat) {i w k : Nat} {cA : ClassId} {x : Int32} (hi : i < n) (hc : ce (h i) i = .inl (cA, w, .inl (h i))) (ht : tys[t0]? = some (cA, .boolean)) (hw : w < 2 ^ 31) (hk : k < w) (hx : x = nI k) (hdg : decode cc pc = .ok (.baload, 1)) (z : Z p l e R s m args below meth c D cl n a ce nL Q h (pc + 1) lv (.int (h i k) :: st)) : Z p l e R s m args below meth c D cl n a ce nL Q h pc lv (.int x :: .ref (a i) :: st) :=
  fun H locs ls hP hS hl => va_zald X.1 X.2.1 X.2.2.2.2.2.2.2.1 hP i t0 (gW_at hi hc) ht (in_nI hk hw hx).1 hdg (by rw [(in_nI hk hw hx).2]; exact z H locs ls hP hS hl)
theorem z_iast (X : Cx p l R s m args meth c cc nL own ret D cl tys a n F L tb) (t0 : Nat) {i w k : Nat} {cA : ClassId} {x y : Int32} (hi : i < n) (hc : ∀ g, ce g i = .inl (cA, w, .inl g)) (ht : tys[t0]? = some (cA, .int)) (hw : w < 2 ^ 31) (hk : k < w) (hx : x = nI k) (hdg : decode cc pc = .ok (.iastore, 1)) (z : Z p l e R s m args below meth c D cl n a ce nL Q (up2 h i k y) (pc + 1) lv st) : Z p l e R s m args below meth c D cl n a ce nL Q h pc lv (.int y :: .int x :: .ref (a i) :: st) :=
  fun H locs ls hP hS hl => va_iast X.1 X.2.1 X.2.2.2.2.2.2.2.1 hP (gW_D X.2.2.2.2.2.2.2.2.1) hS i t0 (gW_at hi (hc _)) ht (in_nI hk hw hx).1 hdg (fun H1 locs1 hP1 _ hS1 => z H1 locs1 ls (by rw [(in_nI hk hw hx).2, gW_set hi (hc _)] at hP1; exact hP1) hS1 hl)
theorem z_zast (X : Cx p l R s m args meth c cc nL own ret D cl tys a n F L tb) (t0 : Nat) {i w k : Nat} {cA : ClassId} {x y : Int32} (hi : i < n) (hc : ∀ g, ce g i = .inl (cA, w, .inl g)) (ht : tys[t0]? = some (cA, .boolean)) (hw : w < 2 ^ 31) (hk : k < w) (hx : x = nI k) (hy : isB y) (hdg : decode cc pc = .ok (.bastore, 1)) (z : Z p l e R s m args below meth c D cl n a ce nL Q (up2 h i k y) (pc + 1) lv st) : Z p l e R s m args below meth c D cl n a ce nL Q h pc lv (.int y :: .int x :: .ref (a i) :: st) :=
  fun H locs ls hP hS hl => va_zast X.1 X.2.1 X.2.2.2.2.2.2.2.1 hP (gW_D X.2.2.2.2.2.2.2.2.1) hS i t0 (gW_at hi (hc _)) ht (in_nI hk hw hx).1 hdg (fun H1 locs1 hP1 _ hS1 => z H1 locs1 ls (by rw [(in_nI hk hw hx).2, isB_v hy, gW_set hi (hc _)] at hP1; exact hP1) hS1 hl)
theorem z_aald (X : Cx p l R s m args meth c cc nL own ret D cl tys a n F L tb) (t0 : Nat) {i w k : Nat} {cA : ClassId} {C : String} {g : Nat → Nat} {x : Int32} (hi : i < n) (hc : ce (h i) i = .inl (cA, w, .inr (.inr (.inr (.inr (fun j => some (a (g j)))))))) (ht : tys[t0]? = some (cA, .object C)) (hw : w < 2 ^ 31) (hk : k < w) (hx : x = nI k) (hdg : decode cc pc = .ok (.aaload, 1)) (z : Z p l e R s m args below meth c D cl n a ce nL Q h (pc + 1) lv (.ref (a (g k)) :: st)) : Z p l e R s m args below meth c D cl n a ce nL Q h pc lv (.int x :: .ref (a i) :: st) :=
  fun H locs ls hP hS hl => va_aldq X.1 X.2.1 X.2.2.2.2.2.2.2.1 hP i t0 (gW_at hi hc) ht (in_nI hk hw hx).1 hdg (by rw [(in_nI hk hw hx).2]; exact z H locs ls hP hS hl)
theorem z_mmax (X : Cx p l R s m args meth c cc nL own ret D cl tys a n F L tb) {index : Nat} (hlink : Cond.methodLink own index Lib.Math.max.name ∈ tb) (hstat : Cond.static Lib.Math.max.name ∈ tb) (hini : Cond.initialized "java/lang/Math" ∈ tb) (hcode : Cond.code Lib.Math.max.name Lib.Math.max.code 2 (some .int) ∈ tb) (hF : 1 ≤ F) (hL : (st.map fun v => v.category).sum + 13 ≤ L) {x y : Int32} (hdg : decode cc pc = .ok (.invokestatic index, 3)) (z : Z p l e R s m args below meth c D cl n a ce nL Q h (pc + 3) lv (.int (if x < y then y else x) :: st)) : Z p l e R s m args below meth c D cl n a ce nL Q h pc lv (.int y :: .int x :: st) :=
  fun H locs ls hP hS hl => va_mmax X.1 X.2.1 (X.2.2.1.trans hl.1.symm) X.2.2.2.1 (X.2.2.2.2.1 _ hlink) (X.2.2.2.2.1 _ hstat) (X.2.2.2.2.1 _ hini) (X.2.2.2.2.1 _ hcode) (Nat.le_trans hF X.2.2.2.2.2.2.2.2.2.1) (Nat.le_trans hL X.2.2.2.2.2.2.2.2.2.2.1) (Nat.zero_le _) (Nat.zero_le _) hdg (z H locs ls hP hS hl)
/-- a contract's start: the world, the kinds of objects, the tables' words -/
def PreC (tb : List Cond) (D : va_G) (cl : List vw_C) (tys : List (ClassId × FieldType)) (n : Nat) (a : Nat → Nat) (ce : (Nat → Int32) → Nat → va_E) (h : RS) (U : State) : Prop := va_P D cl (gW n a ce h) U.heap ∧ va_K D cl tys U ∧ ∀ w ∈ tb, va_Nw w U
/-- .. and its end -/
def AtC (D : va_G) (cl : List vw_C) (n : Nat) (a : Nat → Nat) (ce : (Nat → Int32) → Nat → va_E) (h : RS) (t : State) : Prop := va_P D cl (gW n a ce h) t.heap
theorem m_of {y : MethodName} {av : List Value} {Qc : Array Value → State → Outcome → State → Prop} (hy : plainName y.cls = true) (hI : injW a n) (ht : TbOk tb) (hlen : (lg_sl av).length ≤ nL)
    (body : ∀ (p : Program) (e : Env) (R : Room) (s : State) (m : MethodId) (below : List Frame) (meth : Method) (c : Code), Cx p l R s m av.toArray meth c cc nL y.cls ret D cl tys a n F L tb → Z p l e R s m av.toArray below meth c D cl n a ce nL (MQ below Qc av.toArray s 0 0 (inW a n)) h 0 (lv_args 0 av) []) :
    Met l y [.code y cc nL ret] { frames := F, cells := 0, slots := 0, locals := L } (va_Pc av (PreC tb D cl tys n a ce h)) Qc 0 0 (inW a n) := by
  refine Met.ofW (cc := cc) (maxL := nL) (ret := ret) hy rfl ?_
  intro p e s m args below meth c s₁ B hml hv
  obtain ⟨rfl, hP, hK, hT⟩ := hv
  rw [lg_entry_eq]
  exact body p e _ s m below meth c ⟨B.exec, B.bytes, hml, findClass_of_methodNamed B.named, fun w hw => va_Nw.use (ht.1 w hw) (hT w hw), B.returns, B.notSynchronized, hK, hI, Nat.le_refl _, Nat.le_refl _, ht⟩ s.heap [] _ hP va_S.rf (lv_entry av hlen)
theorem z_iret (X : Cx p l R s m args meth c cc nL own (some .int) D cl tys a n F L tb) {post : Int32 → RS → Prop} {v : Int32} (hdg : decode cc pc = .ok (.ireturn, 1)) (hq : post v h) : Z p l e R s m args below meth c D cl n a ce nL (MQ below (va_Qi post (AtC D cl n a ce) (inW a n)) args s 0 0 (inW a n)) h pc lv [.int v] :=
  fun H locs ls hP hS hl => W.iret X.1 X.2.1 X.2.2.2.2.2.1 (fun t ht hW => ⟨⟨v, h, rfl, hq, by show va_P _ _ _ _; rw [ht]; exact hP⟩, hS.F ht⟩) hS.2.2 hdg X.2.2.2.2.2.2.1
theorem z_zret (X : Cx p l R s m args meth c cc nL own (some .boolean) D cl tys a n F L tb) {post : Int32 → RS → Prop} {v : Int32} (hB : isB v) (hdg : decode cc pc = .ok (.ireturn, 1)) (hq : post v h) : Z p l e R s m args below meth c D cl n a ce nL (MQ below (va_Qi post (AtC D cl n a ce) (inW a n)) args s 0 0 (inW a n)) h pc lv [.int v] :=
  fun H locs ls hP hS hl => W.zret X.1 X.2.1 X.2.2.2.2.2.1 (isB_n hB) (fun t ht hW => ⟨⟨v, h, rfl, hq, by show va_P _ _ _ _; rw [ht]; exact hP⟩, hS.F ht⟩) hS.2.2 hdg X.2.2.2.2.2.2.1
theorem z_lret (X : Cx p l R s m args meth c cc nL own (some .long) D cl tys a n F L tb) {post : Int64 → RS → Prop} {v : Int64} (hdg : decode cc pc = .ok (.lreturn, 1)) (hq : post v h) : Z p l e R s m args below meth c D cl n a ce nL (MQ below (va_Ql post (AtC D cl n a ce) (inW a n)) args s 0 0 (inW a n)) h pc lv [.long v] :=
  fun H locs ls hP hS hl => W.lret X.1 X.2.1 X.2.2.2.2.2.1 (fun t ht hW => ⟨⟨v, h, rfl, hq, by show va_P _ _ _ _; rw [ht]; exact hP⟩, hS.F ht⟩) hS.2.2 hdg X.2.2.2.2.2.2.1
theorem z_vret (X : Cx p l R s m args meth c cc nL own none D cl tys a n F L tb) {post : RS → Prop} (hdg : decode cc pc = .ok (.return_, 1)) (hq : post h) : Z p l e R s m args below meth c D cl n a ce nL (MQ below (va_Qv post (AtC D cl n a ce) (inW a n)) args s 0 0 (inW a n)) h pc lv [] :=
  fun H locs ls hP hS hl => W.vret X.1 X.2.1 X.2.2.2.2.2.1 (fun t ht hW => ⟨⟨h, rfl, hq, by show va_P _ _ _ _; rw [ht]; exact hP⟩, hS.F ht⟩) hS.2.2 hdg X.2.2.2.2.2.2.1
theorem preC_blind {av : List Value} (ht : TbOk tb) : FrameBlind (va_Pc av (PreC tb D cl tys n a ce h)) := fun _ U _ _ q => ⟨q.1, q.2.1, va_K.moved (u := U) (Vm.Alike.refl U.vm) q.2.2.1, fun w hw => va_Nw.same (u := U) (ht.1 w hw) rfl (q.2.2.2 w hw)⟩
theorem preC_at {av : List Value} {H : Heap} (X : Cx p l R s m args meth c cc nL own ret D cl tys a n F L tb) (hP : va_P D cl (gW n a ce h) H) : ∀ U : State, U.heap = H → s.WarmedH U.vm → va_Pc av (PreC tb D cl tys n a ce h) av.toArray U := fun U hU hW => ⟨rfl, by rw [hU]; exact hP, va_K.moved hW.alike X.2.2.2.2.2.2.2.1, fun w hw => X.2.2.2.2.2.2.2.2.2.2.2.2 w hw s U hW (va_Nw.of (X.2.2.2.2.2.2.2.2.2.2.2.1 w hw) (X.2.2.2.2.1 w hw))⟩
theorem code_warm {y : MethodName} {bytes : ByteArray} {maxL : Nat} {rt : Option FieldType} (X : Cx p l R s m args meth c cc nL own ret D cl tys a n F L tb) (hcode : Cond.code y bytes maxL rt ∈ tb) : ∀ w ∈ [Cond.code y bytes maxL rt], ∀ (a' : Array Value) (U : State), s.WarmedH U.vm → w.before a' U = true := fun w hw a' U hW => by
  cases List.mem_singleton.mp hw
  exact va_Nw.use (X.2.2.2.2.2.2.2.2.2.2.2.1 _ hcode) (X.2.2.2.2.2.2.2.2.2.2.2.2 _ hcode s U hW (va_Nw.of (X.2.2.2.2.2.2.2.2.2.2.2.1 _ hcode) (X.2.2.2.2.1 _ hcode)))
theorem par_n {y : MethodName} {k : Nat} (h : (parseMethodDescriptor y.desc).map (fun d => d.parameters.length) = some k) : ∀ sig, parseMethodDescriptor y.desc = some sig → k = sig.parameters.length := fun sig h1 => by
  rw [h1] at h
  exact (Option.some.inj h).symm
def nmh (y : MethodName) (k : Nat) : Prop := y.cls ≠ "java/lang/invoke/MethodHandle" ∧ y.cls ≠ "java/lang/invoke/VarHandle" ∧ (parseMethodDescriptor y.desc).map (fun d => d.parameters.length) = some k
theorem z_cVi (X : Cx p l R s m args meth c cc nL own ret D cl tys a n F L tb) {y : MethodName} {bytes : ByteArray} {rt : Option FieldType} {maxL F1 L1 k index : Nat} {post : Int32 → RS → Prop} {i ci N : Nat} {fs : List Value} {T : u_T} (As : List Value) (hM : Met l y [.code y bytes maxL rt] { frames := F1, cells := 0, slots := 0, locals := L1 } (va_Pc (.ref (a i) :: As) (PreC tb D cl tys n a ce h)) (va_Qi post (AtC D cl n a ce) (inW a n)) 0 0 (inW a n)) (hF : F1 + 1 ≤ F) (hL : 8 + (maxL + 11) + L1 ≤ L) (hlink : Cond.methodLink own index y ∈ tb) (hcode : Cond.code y bytes maxL rt ∈ tb) (hini : Cond.initialized y.cls ∈ tb) (hinst : Cond.instanceMethod y ∈ tb) (hsel : Cond.selects y.cls y y ∈ tb) (hi : i < n) (hc : ce (h i) i = .inr (ci, fs)) (hcl : cl[ci]? = some (y.cls, T, N)) (hd : nmh y k) (hk : As.length = k) {stk : List Value} (hstk : stk = As.reverse ++ .ref (a i) :: st) (hr : (st.map fun v => v.category).sum ≤ 8) (hdg : decode cc pc = .ok (.invokevirtual index, 3)) (z : ∀ (r : Int32) (h1 : RS), post r h1 → Z p l e R s m args below meth c D cl n a ce nL Q h1 (pc + 3) lv (.int r :: st)) : Z p l e R s m args below meth c D cl n a ce nL Q h pc lv stk := by
  intro H locs ls hP hS hl
  subst hstk
  exact va_calli (va_runV (As := As) (rest := st) ⟨X.1, X.2.1, X.2.2.1, X.2.2.2.1, X.2.2.2.2.1⟩ hM ⟨⟨rfl, rfl, Nat.le_trans hF X.2.2.2.2.2.2.2.2.2.1, Nat.le_trans hL X.2.2.2.2.2.2.2.2.2.2.1, code_warm X hcode, List.mem_singleton.mpr rfl, X.2.2.2.2.1 _ hcode, X.2.2.2.2.1 _ hini, ⟨hd.1, hd.2.1⟩, par_n hd.2.2, X.2.2.2.2.1 _ hlink⟩, X.2.2.2.2.1 _ hinst, X.2.2.2.2.1 _ hsel⟩ ⟨preC_blind X.2.2.2.2.2.2.2.2.2.2.2, va_recv X.2.2.2.2.2.2.2.1 hP hcl (gW_at hi hc), preC_at X hP⟩ rfl hk hl.1 rfl (lv_room hr) hdg ⟨Nat.zero_le _, Nat.zero_le _⟩) hS (fun q _ h9 => h9) (fun q h9 => h9) (fun r h1 t H1 locs1 ht hvm hq hB hz hk9 hS1 => z r h1 hq H1 locs1 ls (by have h8 : va_P D cl (gW n a ce h1) t.heap := hB; rw [ht] at h8; exact h8) hS1 hl)
theorem z_cVv (X : Cx p l R s m args meth c cc nL own ret D cl tys a n F L tb) {y : MethodName} {bytes : ByteArray} {rt : Option FieldType} {maxL F1 L1 k index : Nat} {post : RS → Prop} {i ci N : Nat} {fs : List Value} {T : u_T} (As : List Value) (hM : Met l y [.code y bytes maxL rt] { frames := F1, cells := 0, slots := 0, locals := L1 } (va_Pc (.ref (a i) :: As) (PreC tb D cl tys n a ce h)) (va_Qv post (AtC D cl n a ce) (inW a n)) 0 0 (inW a n)) (hF : F1 + 1 ≤ F) (hL : 8 + (maxL + 11) + L1 ≤ L) (hlink : Cond.methodLink own index y ∈ tb) (hcode : Cond.code y bytes maxL rt ∈ tb) (hini : Cond.initialized y.cls ∈ tb) (hinst : Cond.instanceMethod y ∈ tb) (hsel : Cond.selects y.cls y y ∈ tb) (hi : i < n) (hc : ce (h i) i = .inr (ci, fs)) (hcl : cl[ci]? = some (y.cls, T, N)) (hd : nmh y k) (hk : As.length = k) {stk : List Value} (hstk : stk = As.reverse ++ .ref (a i) :: st) (hr : (st.map fun v => v.category).sum ≤ 8) (hdg : decode cc pc = .ok (.invokevirtual index, 3)) (z : ∀ h1 : RS, post h1 → Z p l e R s m args below meth c D cl n a ce nL Q h1 (pc + 3) lv st) : Z p l e R s m args below meth c D cl n a ce nL Q h pc lv stk := by
  intro H locs ls hP hS hl
  subst hstk
  exact va_callv (va_runV (As := As) (rest := st) ⟨X.1, X.2.1, X.2.2.1, X.2.2.2.1, X.2.2.2.2.1⟩ hM ⟨⟨rfl, rfl, Nat.le_trans hF X.2.2.2.2.2.2.2.2.2.1, Nat.le_trans hL X.2.2.2.2.2.2.2.2.2.2.1, code_warm X hcode, List.mem_singleton.mpr rfl, X.2.2.2.2.1 _ hcode, X.2.2.2.2.1 _ hini, ⟨hd.1, hd.2.1⟩, par_n hd.2.2, X.2.2.2.2.1 _ hlink⟩, X.2.2.2.2.1 _ hinst, X.2.2.2.2.1 _ hsel⟩ ⟨preC_blind X.2.2.2.2.2.2.2.2.2.2.2, va_recv X.2.2.2.2.2.2.2.1 hP hcl (gW_at hi hc), preC_at X hP⟩ rfl hk hl.1 rfl (lv_room hr) hdg ⟨Nat.zero_le _, Nat.zero_le _⟩) hS (fun q _ h9 => h9) (fun q h9 => h9) (fun h1 t H1 locs1 ht hvm hq hB hz hk9 hS1 => z h1 hq H1 locs1 ls (by have h8 : va_P D cl (gW n a ce h1) t.heap := hB; rw [ht] at h8; exact h8) hS1 hl)
theorem z_cVl (X : Cx p l R s m args meth c cc nL own ret D cl tys a n F L tb) {y : MethodName} {bytes : ByteArray} {rt : Option FieldType} {maxL F1 L1 k index : Nat} {post : Int64 → RS → Prop} {i ci N : Nat} {fs : List Value} {T : u_T} (As : List Value) (hM : Met l y [.code y bytes maxL rt] { frames := F1, cells := 0, slots := 0, locals := L1 } (va_Pc (.ref (a i) :: As) (PreC tb D cl tys n a ce h)) (va_Ql post (AtC D cl n a ce) (inW a n)) 0 0 (inW a n)) (hF : F1 + 1 ≤ F) (hL : 8 + (maxL + 11) + L1 ≤ L) (hlink : Cond.methodLink own index y ∈ tb) (hcode : Cond.code y bytes maxL rt ∈ tb) (hini : Cond.initialized y.cls ∈ tb) (hinst : Cond.instanceMethod y ∈ tb) (hsel : Cond.selects y.cls y y ∈ tb) (hi : i < n) (hc : ce (h i) i = .inr (ci, fs)) (hcl : cl[ci]? = some (y.cls, T, N)) (hd : nmh y k) (hk : As.length = k) {stk : List Value} (hstk : stk = As.reverse ++ .ref (a i) :: st) (hr : (st.map fun v => v.category).sum ≤ 8) (hdg : decode cc pc = .ok (.invokevirtual index, 3)) (z : ∀ (r : Int64) (h1 : RS), post r h1 → Z p l e R s m args below meth c D cl n a ce nL Q h1 (pc + 3) lv (.long r :: st)) : Z p l e R s m args below meth c D cl n a ce nL Q h pc lv stk := by
  intro H locs ls hP hS hl
  subst hstk
  exact va_calll (va_runV (As := As) (rest := st) ⟨X.1, X.2.1, X.2.2.1, X.2.2.2.1, X.2.2.2.2.1⟩ hM ⟨⟨rfl, rfl, Nat.le_trans hF X.2.2.2.2.2.2.2.2.2.1, Nat.le_trans hL X.2.2.2.2.2.2.2.2.2.2.1, code_warm X hcode, List.mem_singleton.mpr rfl, X.2.2.2.2.1 _ hcode, X.2.2.2.2.1 _ hini, ⟨hd.1, hd.2.1⟩, par_n hd.2.2, X.2.2.2.2.1 _ hlink⟩, X.2.2.2.2.1 _ hinst, X.2.2.2.2.1 _ hsel⟩ ⟨preC_blind X.2.2.2.2.2.2.2.2.2.2.2, va_recv X.2.2.2.2.2.2.2.1 hP hcl (gW_at hi hc), preC_at X hP⟩ rfl hk hl.1 rfl (lv_room hr) hdg ⟨Nat.zero_le _, Nat.zero_le _⟩) hS (fun q _ h9 => h9) (fun q h9 => h9) (fun r h1 t H1 locs1 ht hvm hq hB hz hk9 hS1 => z r h1 hq H1 locs1 ls (by have h8 : va_P D cl (gW n a ce h1) t.heap := hB; rw [ht] at h8; exact h8) hS1 hl)
theorem z_cVNi (X : Cx p l R s m args meth c cc nL own ret D cl tys a n F L tb) {y : MethodName} {bytes : ByteArray} {rt : Option FieldType} {maxL F1 L1 k index : Nat} {host : String} {post : Int32 → RS → Prop} {i ci N : Nat} {fs : List Value} {T : u_T} (As : List Value) (hM : Met l y [.code y bytes maxL rt] { frames := F1, cells := 0, slots := 0, locals := L1 } (va_Pc (.ref (a i) :: As) (PreC tb D cl tys n a ce h)) (va_Qi post (AtC D cl n a ce) (inW a n)) 0 0 (inW a n)) (hF : F1 + 1 ≤ F) (hL : 8 + (maxL + 11) + L1 ≤ L) (hlink : Cond.methodLinkNest own index y host ∈ tb) (hcode : Cond.code y bytes maxL rt ∈ tb) (hini : Cond.initialized y.cls ∈ tb) (hinst : Cond.instanceMethod y ∈ tb) (hsel : Cond.selects y.cls y y ∈ tb) (hi : i < n) (hc : ce (h i) i = .inr (ci, fs)) (hcl : cl[ci]? = some (y.cls, T, N)) (hd : nmh y k) (hk : As.length = k) {stk : List Value} (hstk : stk = As.reverse ++ .ref (a i) :: st) (hr : (st.map fun v => v.category).sum ≤ 8) (hdg : decode cc pc = .ok (.invokevirtual index, 3)) (z : ∀ (r : Int32) (h1 : RS), post r h1 → Z p l e R s m args below meth c D cl n a ce nL Q h1 (pc + 3) lv (.int r :: st)) : Z p l e R s m args below meth c D cl n a ce nL Q h pc lv stk := by
  intro H locs ls hP hS hl
  subst hstk
  exact va_calli (va_runVN (As := As) (rest := st) ⟨X.1, X.2.1, X.2.2.1, X.2.2.2.1, X.2.2.2.2.1⟩ hM ⟨⟨⟨rfl, rfl, Nat.le_trans hF X.2.2.2.2.2.2.2.2.2.1, Nat.le_trans hL X.2.2.2.2.2.2.2.2.2.2.1, code_warm X hcode, List.mem_singleton.mpr rfl⟩, X.2.2.2.2.1 _ hcode, X.2.2.2.2.1 _ hini, ⟨hd.1, hd.2.1⟩, par_n hd.2.2, X.2.2.2.2.1 _ hlink⟩, X.2.2.2.2.1 _ hinst, X.2.2.2.2.1 _ hsel⟩ ⟨preC_blind X.2.2.2.2.2.2.2.2.2.2.2, va_recv X.2.2.2.2.2.2.2.1 hP hcl (gW_at hi hc), preC_at X hP⟩ rfl hk hl.1 rfl (lv_room hr) hdg ⟨Nat.zero_le _, Nat.zero_le _⟩) hS (fun q _ h9 => h9) (fun q h9 => h9) (fun r h1 t H1 locs1 ht hvm hq hB hz hk9 hS1 => z r h1 hq H1 locs1 ls (by have h8 : va_P D cl (gW n a ce h1) t.heap := hB; rw [ht] at h8; exact h8) hS1 hl)
theorem z_cVNv (X : Cx p l R s m args meth c cc nL own ret D cl tys a n F L tb) {y : MethodName} {bytes : ByteArray} {rt : Option FieldType} {maxL F1 L1 k index : Nat} {host : String} {post : RS → Prop} {i ci N : Nat} {fs : List Value} {T : u_T} (As : List Value) (hM : Met l y [.code y bytes maxL rt] { frames := F1, cells := 0, slots := 0, locals := L1 } (va_Pc (.ref (a i) :: As) (PreC tb D cl tys n a ce h)) (va_Qv post (AtC D cl n a ce) (inW a n)) 0 0 (inW a n)) (hF : F1 + 1 ≤ F) (hL : 8 + (maxL + 11) + L1 ≤ L) (hlink : Cond.methodLinkNest own index y host ∈ tb) (hcode : Cond.code y bytes maxL rt ∈ tb) (hini : Cond.initialized y.cls ∈ tb) (hinst : Cond.instanceMethod y ∈ tb) (hsel : Cond.selects y.cls y y ∈ tb) (hi : i < n) (hc : ce (h i) i = .inr (ci, fs)) (hcl : cl[ci]? = some (y.cls, T, N)) (hd : nmh y k) (hk : As.length = k) {stk : List Value} (hstk : stk = As.reverse ++ .ref (a i) :: st) (hr : (st.map fun v => v.category).sum ≤ 8) (hdg : decode cc pc = .ok (.invokevirtual index, 3)) (z : ∀ h1 : RS, post h1 → Z p l e R s m args below meth c D cl n a ce nL Q h1 (pc + 3) lv st) : Z p l e R s m args below meth c D cl n a ce nL Q h pc lv stk := by
  intro H locs ls hP hS hl
  subst hstk
  exact va_callv (va_runVN (As := As) (rest := st) ⟨X.1, X.2.1, X.2.2.1, X.2.2.2.1, X.2.2.2.2.1⟩ hM ⟨⟨⟨rfl, rfl, Nat.le_trans hF X.2.2.2.2.2.2.2.2.2.1, Nat.le_trans hL X.2.2.2.2.2.2.2.2.2.2.1, code_warm X hcode, List.mem_singleton.mpr rfl⟩, X.2.2.2.2.1 _ hcode, X.2.2.2.2.1 _ hini, ⟨hd.1, hd.2.1⟩, par_n hd.2.2, X.2.2.2.2.1 _ hlink⟩, X.2.2.2.2.1 _ hinst, X.2.2.2.2.1 _ hsel⟩ ⟨preC_blind X.2.2.2.2.2.2.2.2.2.2.2, va_recv X.2.2.2.2.2.2.2.1 hP hcl (gW_at hi hc), preC_at X hP⟩ rfl hk hl.1 rfl (lv_room hr) hdg ⟨Nat.zero_le _, Nat.zero_le _⟩) hS (fun q _ h9 => h9) (fun q h9 => h9) (fun h1 t H1 locs1 ht hvm hq hB hz hk9 hS1 => z h1 hq H1 locs1 ls (by have h8 : va_P D cl (gW n a ce h1) t.heap := hB; rw [ht] at h8; exact h8) hS1 hl)
theorem z_cVNl (X : Cx p l R s m args meth c cc nL own ret D cl tys a n F L tb) {y : MethodName} {bytes : ByteArray} {rt : Option FieldType} {maxL F1 L1 k index : Nat} {host : String} {post : Int64 → RS → Prop} {i ci N : Nat} {fs : List Value} {T : u_T} (As : List Value) (hM : Met l y [.code y bytes maxL rt] { frames := F1, cells := 0, slots := 0, locals := L1 } (va_Pc (.ref (a i) :: As) (PreC tb D cl tys n a ce h)) (va_Ql post (AtC D cl n a ce) (inW a n)) 0 0 (inW a n)) (hF : F1 + 1 ≤ F) (hL : 8 + (maxL + 11) + L1 ≤ L) (hlink : Cond.methodLinkNest own index y host ∈ tb) (hcode : Cond.code y bytes maxL rt ∈ tb) (hini : Cond.initialized y.cls ∈ tb) (hinst : Cond.instanceMethod y ∈ tb) (hsel : Cond.selects y.cls y y ∈ tb) (hi : i < n) (hc : ce (h i) i = .inr (ci, fs)) (hcl : cl[ci]? = some (y.cls, T, N)) (hd : nmh y k) (hk : As.length = k) {stk : List Value} (hstk : stk = As.reverse ++ .ref (a i) :: st) (hr : (st.map fun v => v.category).sum ≤ 8) (hdg : decode cc pc = .ok (.invokevirtual index, 3)) (z : ∀ (r : Int64) (h1 : RS), post r h1 → Z p l e R s m args below meth c D cl n a ce nL Q h1 (pc + 3) lv (.long r :: st)) : Z p l e R s m args below meth c D cl n a ce nL Q h pc lv stk := by
  intro H locs ls hP hS hl
  subst hstk
  exact va_calll (va_runVN (As := As) (rest := st) ⟨X.1, X.2.1, X.2.2.1, X.2.2.2.1, X.2.2.2.2.1⟩ hM ⟨⟨⟨rfl, rfl, Nat.le_trans hF X.2.2.2.2.2.2.2.2.2.1, Nat.le_trans hL X.2.2.2.2.2.2.2.2.2.2.1, code_warm X hcode, List.mem_singleton.mpr rfl⟩, X.2.2.2.2.1 _ hcode, X.2.2.2.2.1 _ hini, ⟨hd.1, hd.2.1⟩, par_n hd.2.2, X.2.2.2.2.1 _ hlink⟩, X.2.2.2.2.1 _ hinst, X.2.2.2.2.1 _ hsel⟩ ⟨preC_blind X.2.2.2.2.2.2.2.2.2.2.2, va_recv X.2.2.2.2.2.2.2.1 hP hcl (gW_at hi hc), preC_at X hP⟩ rfl hk hl.1 rfl (lv_room hr) hdg ⟨Nat.zero_le _, Nat.zero_le _⟩) hS (fun q _ h9 => h9) (fun q h9 => h9) (fun r h1 t H1 locs1 ht hvm hq hB hz hk9 hS1 => z r h1 hq H1 locs1 ls (by have h8 : va_P D cl (gW n a ce h1) t.heap := hB; rw [ht] at h8; exact h8) hS1 hl)
theorem z_cSi (X : Cx p l R s m args meth c cc nL own ret D cl tys a n F L tb) {y : MethodName} {bytes : ByteArray} {rt : Option FieldType} {maxL F1 L1 k index : Nat} {post : Int32 → RS → Prop} (As : List Value) (hM : Met l y [.code y bytes maxL rt] { frames := F1, cells := 0, slots := 0, locals := L1 } (va_Pc As (PreC tb D cl tys n a ce h)) (va_Qi post (AtC D cl n a ce) (inW a n)) 0 0 (inW a n)) (hF : F1 + 1 ≤ F) (hL : 8 + (maxL + 11) + L1 ≤ L) (hlink : Cond.methodLink own index y ∈ tb) (hcode : Cond.code y bytes maxL rt ∈ tb) (hini : Cond.initialized y.cls ∈ tb) (hstat : Cond.static y ∈ tb) (hd : nmh y k) (hk : As.length = k) {stk : List Value} (hstk : stk = As.reverse ++ st) (hr : (st.map fun v => v.category).sum ≤ 8) (hdg : decode cc pc = .ok (.invokestatic index, 3)) (z : ∀ (r : Int32) (h1 : RS), post r h1 → Z p l e R s m args below meth c D cl n a ce nL Q h1 (pc + 3) lv (.int r :: st)) : Z p l e R s m args below meth c D cl n a ce nL Q h pc lv stk := by
  intro H locs ls hP hS hl
  subst hstk
  exact va_calli (va_runS (As := As) (rest := st) ⟨X.1, X.2.1, X.2.2.1, X.2.2.2.1, X.2.2.2.2.1⟩ hM ⟨⟨rfl, rfl, Nat.le_trans hF X.2.2.2.2.2.2.2.2.2.1, Nat.le_trans hL X.2.2.2.2.2.2.2.2.2.2.1, code_warm X hcode, List.mem_singleton.mpr rfl, X.2.2.2.2.1 _ hcode, X.2.2.2.2.1 _ hini, ⟨hd.1, hd.2.1⟩, par_n hd.2.2, X.2.2.2.2.1 _ hlink⟩, X.2.2.2.2.1 _ hstat⟩ ⟨preC_blind X.2.2.2.2.2.2.2.2.2.2.2, preC_at X hP⟩ rfl hk hl.1 rfl (lv_room hr) hdg ⟨Nat.zero_le _, Nat.zero_le _⟩) hS (fun q _ h9 => h9) (fun q h9 => h9) (fun r h1 t H1 locs1 ht hvm hq hB hz hk9 hS1 => z r h1 hq H1 locs1 ls (by have h8 : va_P D cl (gW n a ce h1) t.heap := hB; rw [ht] at h8; exact h8) hS1 hl)
theorem z_cSv (X : Cx p l R s m args meth c cc nL own ret D cl tys a n F L tb) {y : MethodName} {bytes : ByteArray} {rt : Option FieldType} {maxL F1 L1 k index : Nat} {post : RS → Prop} (As : List Value) (hM : Met l y [.code y bytes maxL rt] { frames := F1, cells := 0, slots := 0, locals := L1 } (va_Pc As (PreC tb D cl tys n a ce h)) (va_Qv post (AtC D cl n a ce) (inW a n)) 0 0 (inW a n)) (hF : F1 + 1 ≤ F) (hL : 8 + (maxL + 11) + L1 ≤ L) (hlink : Cond.methodLink own index y ∈ tb) (hcode : Cond.code y bytes maxL rt ∈ tb) (hini : Cond.initialized y.cls ∈ tb) (hstat : Cond.static y ∈ tb) (hd : nmh y k) (hk : As.length = k) {stk : List Value} (hstk : stk = As.reverse ++ st) (hr : (st.map fun v => v.category).sum ≤ 8) (hdg : decode cc pc = .ok (.invokestatic index, 3)) (z : ∀ h1 : RS, post h1 → Z p l e R s m args below meth c D cl n a ce nL Q h1 (pc + 3) lv st) : Z p l e R s m args below meth c D cl n a ce nL Q h pc lv stk := by
  intro H locs ls hP hS hl
  subst hstk
  exact va_callv (va_runS (As := As) (rest := st) ⟨X.1, X.2.1, X.2.2.1, X.2.2.2.1, X.2.2.2.2.1⟩ hM ⟨⟨rfl, rfl, Nat.le_trans hF X.2.2.2.2.2.2.2.2.2.1, Nat.le_trans hL X.2.2.2.2.2.2.2.2.2.2.1, code_warm X hcode, List.mem_singleton.mpr rfl, X.2.2.2.2.1 _ hcode, X.2.2.2.2.1 _ hini, ⟨hd.1, hd.2.1⟩, par_n hd.2.2, X.2.2.2.2.1 _ hlink⟩, X.2.2.2.2.1 _ hstat⟩ ⟨preC_blind X.2.2.2.2.2.2.2.2.2.2.2, preC_at X hP⟩ rfl hk hl.1 rfl (lv_room hr) hdg ⟨Nat.zero_le _, Nat.zero_le _⟩) hS (fun q _ h9 => h9) (fun q h9 => h9) (fun h1 t H1 locs1 ht hvm hq hB hz hk9 hS1 => z h1 hq H1 locs1 ls (by have h8 : va_P D cl (gW n a ce h1) t.heap := hB; rw [ht] at h8; exact h8) hS1 hl)
theorem z_cSl (X : Cx p l R s m args meth c cc nL own ret D cl tys a n F L tb) {y : MethodName} {bytes : ByteArray} {rt : Option FieldType} {maxL F1 L1 k index : Nat} {post : Int64 → RS → Prop} (As : List Value) (hM : Met l y [.code y bytes maxL rt] { frames := F1, cells := 0, slots := 0, locals := L1 } (va_Pc As (PreC tb D cl tys n a ce h)) (va_Ql post (AtC D cl n a ce) (inW a n)) 0 0 (inW a n)) (hF : F1 + 1 ≤ F) (hL : 8 + (maxL + 11) + L1 ≤ L) (hlink : Cond.methodLink own index y ∈ tb) (hcode : Cond.code y bytes maxL rt ∈ tb) (hini : Cond.initialized y.cls ∈ tb) (hstat : Cond.static y ∈ tb) (hd : nmh y k) (hk : As.length = k) {stk : List Value} (hstk : stk = As.reverse ++ st) (hr : (st.map fun v => v.category).sum ≤ 8) (hdg : decode cc pc = .ok (.invokestatic index, 3)) (z : ∀ (r : Int64) (h1 : RS), post r h1 → Z p l e R s m args below meth c D cl n a ce nL Q h1 (pc + 3) lv (.long r :: st)) : Z p l e R s m args below meth c D cl n a ce nL Q h pc lv stk := by
  intro H locs ls hP hS hl
  subst hstk
  exact va_calll (va_runS (As := As) (rest := st) ⟨X.1, X.2.1, X.2.2.1, X.2.2.2.1, X.2.2.2.2.1⟩ hM ⟨⟨rfl, rfl, Nat.le_trans hF X.2.2.2.2.2.2.2.2.2.1, Nat.le_trans hL X.2.2.2.2.2.2.2.2.2.2.1, code_warm X hcode, List.mem_singleton.mpr rfl, X.2.2.2.2.1 _ hcode, X.2.2.2.2.1 _ hini, ⟨hd.1, hd.2.1⟩, par_n hd.2.2, X.2.2.2.2.1 _ hlink⟩, X.2.2.2.2.1 _ hstat⟩ ⟨preC_blind X.2.2.2.2.2.2.2.2.2.2.2, preC_at X hP⟩ rfl hk hl.1 rfl (lv_room hr) hdg ⟨Nat.zero_le _, Nat.zero_le _⟩) hS (fun q _ h9 => h9) (fun q h9 => h9) (fun r h1 t H1 locs1 ht hvm hq hB hz hk9 hS1 => z r h1 hq H1 locs1 ls (by have h8 : va_P D cl (gW n a ce h1) t.heap := hB; rw [ht] at h8; exact h8) hS1 hl)
theorem z_cSNi (X : Cx p l R s m args meth c cc nL own ret D cl tys a n F L tb) {y : MethodName} {bytes : ByteArray} {rt : Option FieldType} {maxL F1 L1 k index : Nat} {host : String} {post : Int32 → RS → Prop} (As : List Value) (hM : Met l y [.code y bytes maxL rt] { frames := F1, cells := 0, slots := 0, locals := L1 } (va_Pc As (PreC tb D cl tys n a ce h)) (va_Qi post (AtC D cl n a ce) (inW a n)) 0 0 (inW a n)) (hF : F1 + 1 ≤ F) (hL : 8 + (maxL + 11) + L1 ≤ L) (hlink : Cond.methodLinkNest own index y host ∈ tb) (hcode : Cond.code y bytes maxL rt ∈ tb) (hini : Cond.initialized y.cls ∈ tb) (hstat : Cond.static y ∈ tb) (hd : nmh y k) (hk : As.length = k) {stk : List Value} (hstk : stk = As.reverse ++ st) (hr : (st.map fun v => v.category).sum ≤ 8) (hdg : decode cc pc = .ok (.invokestatic index, 3)) (z : ∀ (r : Int32) (h1 : RS), post r h1 → Z p l e R s m args below meth c D cl n a ce nL Q h1 (pc + 3) lv (.int r :: st)) : Z p l e R s m args below meth c D cl n a ce nL Q h pc lv stk := by
  intro H locs ls hP hS hl
  subst hstk
  exact va_calli (va_runSN (As := As) (rest := st) ⟨X.1, X.2.1, X.2.2.1, X.2.2.2.1, X.2.2.2.2.1⟩ hM ⟨⟨⟨rfl, rfl, Nat.le_trans hF X.2.2.2.2.2.2.2.2.2.1, Nat.le_trans hL X.2.2.2.2.2.2.2.2.2.2.1, code_warm X hcode, List.mem_singleton.mpr rfl⟩, X.2.2.2.2.1 _ hcode, X.2.2.2.2.1 _ hini, ⟨hd.1, hd.2.1⟩, par_n hd.2.2, X.2.2.2.2.1 _ hlink⟩, X.2.2.2.2.1 _ hstat, trivial⟩ ⟨preC_blind X.2.2.2.2.2.2.2.2.2.2.2, preC_at X hP⟩ rfl hk hl.1 rfl (lv_room hr) hdg ⟨Nat.zero_le _, Nat.zero_le _⟩) hS (fun q _ h9 => h9) (fun q h9 => h9) (fun r h1 t H1 locs1 ht hvm hq hB hz hk9 hS1 => z r h1 hq H1 locs1 ls (by have h8 : va_P D cl (gW n a ce h1) t.heap := hB; rw [ht] at h8; exact h8) hS1 hl)
theorem z_cSNv (X : Cx p l R s m args meth c cc nL own ret D cl tys a n F L tb) {y : MethodName} {bytes : ByteArray} {rt : Option FieldType} {maxL F1 L1 k index : Nat} {host : String} {post : RS → Prop} (As : List Value) (hM : Met l y [.code y bytes maxL rt] { frames := F1, cells := 0, slots := 0, locals := L1 } (va_Pc As (PreC tb D cl tys n a ce h)) (va_Qv post (AtC D cl n a ce) (inW a n)) 0 0 (inW a n)) (hF : F1 + 1 ≤ F) (hL : 8 + (maxL + 11) + L1 ≤ L) (hlink : Cond.methodLinkNest own index y host ∈ tb) (hcode : Cond.code y bytes maxL rt ∈ tb) (hini : Cond.initialized y.cls ∈ tb) (hstat : Cond.static y ∈ tb) (hd : nmh y k) (hk : As.length = k) {stk : List Value} (hstk : stk = As.reverse ++ st) (hr : (st.map fun v => v.category).sum ≤ 8) (hdg : decode cc pc = .ok (.invokestatic index, 3)) (z : ∀ h1 : RS, post h1 → Z p l e R s m args below meth c D cl n a ce nL Q h1 (pc + 3) lv st) : Z p l e R s m args below meth c D cl n a ce nL Q h pc lv stk := by
  intro H locs ls hP hS hl
  subst hstk
  exact va_callv (va_runSN (As := As) (rest := st) ⟨X.1, X.2.1, X.2.2.1, X.2.2.2.1, X.2.2.2.2.1⟩ hM ⟨⟨⟨rfl, rfl, Nat.le_trans hF X.2.2.2.2.2.2.2.2.2.1, Nat.le_trans hL X.2.2.2.2.2.2.2.2.2.2.1, code_warm X hcode, List.mem_singleton.mpr rfl⟩, X.2.2.2.2.1 _ hcode, X.2.2.2.2.1 _ hini, ⟨hd.1, hd.2.1⟩, par_n hd.2.2, X.2.2.2.2.1 _ hlink⟩, X.2.2.2.2.1 _ hstat, trivial⟩ ⟨preC_blind X.2.2.2.2.2.2.2.2.2.2.2, preC_at X hP⟩ rfl hk hl.1 rfl (lv_room hr) hdg ⟨Nat.zero_le _, Nat.zero_le _⟩) hS (fun q _ h9 => h9) (fun q h9 => h9) (fun h1 t H1 locs1 ht hvm hq hB hz hk9 hS1 => z h1 hq H1 locs1 ls (by have h8 : va_P D cl (gW n a ce h1) t.heap := hB; rw [ht] at h8; exact h8) hS1 hl)
theorem z_cSNl (X : Cx p l R s m args meth c cc nL own ret D cl tys a n F L tb) {y : MethodName} {bytes : ByteArray} {rt : Option FieldType} {maxL F1 L1 k index : Nat} {host : String} {post : Int64 → RS → Prop} (As : List Value) (hM : Met l y [.code y bytes maxL rt] { frames := F1, cells := 0, slots := 0, locals := L1 } (va_Pc As (PreC tb D cl tys n a ce h)) (va_Ql post (AtC D cl n a ce) (inW a n)) 0 0 (inW a n)) (hF : F1 + 1 ≤ F) (hL : 8 + (maxL + 11) + L1 ≤ L) (hlink : Cond.methodLinkNest own index y host ∈ tb) (hcode : Cond.code y bytes maxL rt ∈ tb) (hini : Cond.initialized y.cls ∈ tb) (hstat : Cond.static y ∈ tb) (hd : nmh y k) (hk : As.length = k) {stk : List Value} (hstk : stk = As.reverse ++ st) (hr : (st.map fun v => v.category).sum ≤ 8) (hdg : decode cc pc = .ok (.invokestatic index, 3)) (z : ∀ (r : Int64) (h1 : RS), post r h1 → Z p l e R s m args below meth c D cl n a ce nL Q h1 (pc + 3) lv (.long r :: st)) : Z p l e R s m args below meth c D cl n a ce nL Q h pc lv stk := by
  intro H locs ls hP hS hl
  subst hstk
  exact va_calll (va_runSN (As := As) (rest := st) ⟨X.1, X.2.1, X.2.2.1, X.2.2.2.1, X.2.2.2.2.1⟩ hM ⟨⟨⟨rfl, rfl, Nat.le_trans hF X.2.2.2.2.2.2.2.2.2.1, Nat.le_trans hL X.2.2.2.2.2.2.2.2.2.2.1, code_warm X hcode, List.mem_singleton.mpr rfl⟩, X.2.2.2.2.1 _ hcode, X.2.2.2.2.1 _ hini, ⟨hd.1, hd.2.1⟩, par_n hd.2.2, X.2.2.2.2.1 _ hlink⟩, X.2.2.2.2.1 _ hstat, trivial⟩ ⟨preC_blind X.2.2.2.2.2.2.2.2.2.2.2, preC_at X hP⟩ rfl hk hl.1 rfl (lv_room hr) hdg ⟨Nat.zero_le _, Nat.zero_le _⟩) hS (fun q _ h9 => h9) (fun q h9 => h9) (fun r h1 t H1 locs1 ht hvm hq hB hz hk9 hS1 => z r h1 hq H1 locs1 ls (by have h8 : va_P D cl (gW n a ce h1) t.heap := hB; rw [ht] at h8; exact h8) hS1 hl)
end ZR
end
section
def isNw : Cond → Bool
  | .fieldLinkNest .. => true
  | .methodLinkNest .. => true
  | _ => false
def okW (w : Cond) : Bool := w.onTables && (w.keeps || isNw w)
/-- the tables' words that any callee may be handed -/
def tbW : List Cond := lw_tbl.filter okW
theorem tb1_in {w : Cond} (h : w ∈ tables_1_1) (ho : okW w = true) : w ∈ tbW := List.mem_filter.mpr ⟨List.mem_append_right _ (List.mem_append_left _ h), ho⟩
theorem tb2_in {w : Cond} (h : w ∈ tables_1_2) (ho : okW w = true) : w ∈ tbW := List.mem_filter.mpr ⟨List.mem_append_right _ (List.mem_append_right _ (List.mem_append_left _ h)), ho⟩
theorem tb3_in {w : Cond} (h : w ∈ tables_1_3) (ho : okW w = true) : w ∈ tbW := List.mem_filter.mpr ⟨List.mem_append_right _ (List.mem_append_right _ (List.mem_append_right _ h)), ho⟩
theorem tbs_in {w : Cond} (h : w ∈ k2_sels lw_privs) (ho : okW w = true) : w ∈ tbW := List.mem_filter.mpr ⟨List.mem_append_left _ h, ho⟩
theorem tb_ok : TbOk tbW := by
  have h0 : ∀ w ∈ tbW, w.onTables = true ∧ (w.keeps = true ∨ isNw w = true) := fun w hw => by
    have h1 := (List.mem_filter.mp hw).2
    simpa only [okW, Bool.and_eq_true, Bool.or_eq_true] using h1
  refine ⟨fun w hw => (h0 w hw).1, fun w hw s U hW hZ => ?_⟩
  obtain ⟨h1, h2 | h2⟩ := h0 w hw
  · exact word_at (args := #[]) (a' := #[]) hW (Or.inl (by rw [h1, h2]; rfl)) hZ
  · cases w <;> first | exact va_Nw.warmF hW hZ | exact va_Nw.warmM hW hZ | (exact absurd h2 (by simp [isNw]))
theorem lt_ix {c b n : Nat} (hc : c < 8) (hb : b + 8 ≤ n) : b + c < n := by omega
def R_V : String := "JoinVessel"
def F_V : u_T := fun k => match k with
  | 0 => ("JoinVessel", "channels", "[LJoinVessel$Channel;", true)
  | 1 => ("JoinVessel", "channelCount", "I", false)
  | 2 => ("JoinVessel", "reactions", "[LJoinVessel$Reaction;", true)
  | 3 => ("JoinVessel", "reactionCount", "I", false)
  | 4 => ("JoinVessel", "isSealed", "Z", false)
  | 5 => ("JoinVessel", "messages", "LJoinVessel$Messages;", true)
  | 6 => ("JoinVessel", "match", "LJoinVessel$Match;", true)
  | 7 => ("JoinVessel", "firings", "[I", true)
  | _ => ("JoinVessel", "firingCount", "I", false)
def t_V : Nat → FieldType := fun k => match k with
  | 0 => .array (.object "JoinVessel$Channel")
  | 1 => .int
  | 2 => .array (.object "JoinVessel$Reaction")
  | 3 => .int
  | 4 => .boolean
  | 5 => .object "JoinVessel$Messages"
  | 6 => .object "JoinVessel$Match"
  | 7 => .array .int
  | _ => .int
theorem n_V : ∀ a, a < 9 → ∀ b, b < 9 → a ≠ b → (F_V a).2.1 ≠ (F_V b).2.1 := by decide +kernel
theorem t_V_ok : ∀ k, k < 9 → parseFieldDescriptor (F_V k).2.2.1 = some (t_V k) := by decide +kernel
theorem hin_V : ∀ w ∈ u_ws R_V F_V 9, w ∈ tbW := by decide +kernel
def R_Ch : String := "JoinVessel$Channel"
def F_Ch : u_T := fun k => match k with
  | 0 => ("JoinVessel$Channel", "isAnswered", "Z", false)
  | 1 => ("JoinVessel$Channel", "pendingNumbers", "[I", true)
  | _ => ("JoinVessel$Channel", "pendingCount", "I", false)
def t_Ch : Nat → FieldType := fun k => match k with
  | 0 => .boolean
  | 1 => .array .int
  | _ => .int
theorem n_Ch : ∀ a, a < 3 → ∀ b, b < 3 → a ≠ b → (F_Ch a).2.1 ≠ (F_Ch b).2.1 := by decide +kernel
theorem t_Ch_ok : ∀ k, k < 3 → parseFieldDescriptor (F_Ch k).2.2.1 = some (t_Ch k) := by decide +kernel
theorem hin_Ch : ∀ w ∈ u_ws R_Ch F_Ch 3, w ∈ tbW := by decide +kernel
def R_Ms : String := "JoinVessel$Messages"
def F_Ms : u_T := fun k => match k with
  | 0 => ("JoinVessel$Messages", "count", "I", false)
  | 1 => ("JoinVessel$Messages", "channelNumbers", "[I", true)
  | 2 => ("JoinVessel$Messages", "values", "[I", true)
  | 3 => ("JoinVessel$Messages", "states", "[I", true)
  | 4 => ("JoinVessel$Messages", "consumers", "[I", true)
  | _ => ("JoinVessel$Messages", "answers", "[I", true)
def t_Ms : Nat → FieldType := fun k => match k with
  | 0 => .int
  | 1 => .array .int
  | 2 => .array .int
  | 3 => .array .int
  | 4 => .array .int
  | _ => .array .int
theorem n_Ms : ∀ a, a < 6 → ∀ b, b < 6 → a ≠ b → (F_Ms a).2.1 ≠ (F_Ms b).2.1 := by decide +kernel
theorem t_Ms_ok : ∀ k, k < 6 → parseFieldDescriptor (F_Ms k).2.2.1 = some (t_Ms k) := by decide +kernel
theorem hin_Ms : ∀ w ∈ u_ws R_Ms F_Ms 6, w ∈ tbW := by decide +kernel
def R_Mt : String := "JoinVessel$Match"
def F_Mt : u_T := fun k => match k with
  | 0 => ("JoinVessel$Match", "numbers", "[I", true)
  | _ => ("JoinVessel$Match", "values", "[I", true)
def t_Mt : Nat → FieldType := fun k => match k with
  | 0 => .array .int
  | _ => .array .int
theorem n_Mt : ∀ a, a < 2 → ∀ b, b < 2 → a ≠ b → (F_Mt a).2.1 ≠ (F_Mt b).2.1 := by decide +kernel
theorem t_Mt_ok : ∀ k, k < 2 → parseFieldDescriptor (F_Mt k).2.2.1 = some (t_Mt k) := by decide +kernel
theorem hin_Mt : ∀ w ∈ u_ws R_Mt F_Mt 2, w ∈ tbW := by decide +kernel
def R_Re : String := "JoinVessel$Reaction"
def F_Re : u_T := fun k => match k with
  | 0 => ("JoinVessel$Reaction", "partCount", "I", false)
  | 1 => ("JoinVessel$Reaction", "partChannels", "[I", true)
  | 2 => ("JoinVessel$Reaction", "partTests", "[I", true)
  | 3 => ("JoinVessel$Reaction", "partNumbers", "[I", true)
  | 4 => ("JoinVessel$Reaction", "guardKind", "I", false)
  | 5 => ("JoinVessel$Reaction", "guardNumber", "I", false)
  | 6 => ("JoinVessel$Reaction", "actionCount", "I", false)
  | 7 => ("JoinVessel$Reaction", "actionSends", "[Z", true)
  | 8 => ("JoinVessel$Reaction", "actionTargets", "[I", true)
  | 9 => ("JoinVessel$Reaction", "actionKinds", "[I", true)
  | 10 => ("JoinVessel$Reaction", "actionParts", "[I", true)
  | _ => ("JoinVessel$Reaction", "actionNumbers", "[I", true)
def t_Re : Nat → FieldType := fun k => match k with
  | 0 => .int
  | 1 => .array .int
  | 2 => .array .int
  | 3 => .array .int
  | 4 => .int
  | 5 => .int
  | 6 => .int
  | 7 => .array .boolean
  | 8 => .array .int
  | 9 => .array .int
  | 10 => .array .int
  | _ => .array .int
theorem n_Re : ∀ a, a < 12 → ∀ b, b < 12 → a ≠ b → (F_Re a).2.1 ≠ (F_Re b).2.1 := by decide +kernel
theorem t_Re_ok : ∀ k, k < 12 → parseFieldDescriptor (F_Re k).2.2.1 = some (t_Re k) := by decide +kernel
theorem hin_Re : ∀ w ∈ u_ws R_Re F_Re 12, w ∈ tbW := by decide +kernel
abbrev clV : List vw_C := [(R_V, F_V, 9), (R_Ch, F_Ch, 3), (R_Ms, F_Ms, 6), (R_Mt, F_Mt, 2), (R_Re, F_Re, 12)]
abbrev tyV (q : Nat → ClassId) : List (ClassId × FieldType) := [(q 0, .int), (q 1, .boolean), (q 2, .object "JoinVessel$Channel"), (q 3, .object "JoinVessel$Reaction")]
def ceV1 (a : Nat → Nat) (q : Nat → ClassId) (x : Nat → Int32) (i : Nat) : va_E := match i with
  | 0 => .inr (0, [.ref (a 1), .int (x 1), .ref (a 2), .int (x 3), .int (x 4), .ref (a 3), .ref (a 4), .ref (a 5), .int (x 8)])
  | 1 => .inl (q 2, 8, .inr (.inr (.inr (.inr (fun j => some (a (13 + j)))))))
  | 2 => .inl (q 3, 8, .inr (.inr (.inr (.inr (fun j => some (a (29 + j)))))))
  | 3 => .inr (2, [.int (x 0), .ref (a 6), .ref (a 7), .ref (a 8), .ref (a 9), .ref (a 10)])
  | 4 => .inr (3, [.ref (a 11), .ref (a 12)])
  | 5 => .inl (q 0, 300, .inl x)
  | 6 => .inl (q 0, 300, .inl x)
  | 7 => .inl (q 0, 300, .inl x)
  | 8 => .inl (q 0, 300, .inl x)
  | 9 => .inl (q 0, 300, .inl x)
  | 10 => .inl (q 0, 300, .inl x)
  | 11 => .inl (q 0, 4, .inl x)
  | _ => .inl (q 0, 4, .inl x)
def ceV (a : Nat → Nat) (q : Nat → ClassId) (x : Nat → Int32) (i : Nat) : va_E := if i < 13 then ceV1 a q x i
  else if i < 21 then .inr (1, [.int (x 0), .ref (a (21 + (i - 13))), .int (x 2)])
  else if i < 29 then .inl (q 0, 6, .inl x)
  else if i < 37 then .inr (4, [.int (x 0), .ref (a (37 + (i - 29))), .ref (a (45 + (i - 29))), .ref (a (53 + (i - 29))), .int (x 4), .int (x 5), .int (x 6), .ref (a (61 + (i - 29))), .ref (a (69 + (i - 29))), .ref (a (77 + (i - 29))), .ref (a (85 + (i - 29))), .ref (a (93 + (i - 29)))])
  else if i < 45 then .inl (q 0, 4, .inl x)
  else if i < 53 then .inl (q 0, 4, .inl x)
  else if i < 61 then .inl (q 0, 4, .inl x)
  else if i < 69 then .inl (q 1, 4, .inl x)
  else if i < 77 then .inl (q 0, 4, .inl x)
  else if i < 85 then .inl (q 0, 4, .inl x)
  else if i < 93 then .inl (q 0, 4, .inl x)
  else .inl (q 0, 4, .inl x)
theorem cV_V {a : Nat → Nat} {q : Nat → ClassId} (x : Nat → Int32) : ceV a q x 0 = .inr (0, [.ref (a 1), .int (x 1), .ref (a 2), .int (x 3), .int (x 4), .ref (a 3), .ref (a 4), .ref (a 5), .int (x 8)]) := rfl
theorem cV_Chs {a : Nat → Nat} {q : Nat → ClassId} (x : Nat → Int32) : ceV a q x 1 = .inl (q 2, 8, .inr (.inr (.inr (.inr (fun j => some (a (13 + j))))))) := rfl
theorem cV_Res {a : Nat → Nat} {q : Nat → ClassId} (x : Nat → Int32) : ceV a q x 2 = .inl (q 3, 8, .inr (.inr (.inr (.inr (fun j => some (a (29 + j))))))) := rfl
theorem cV_Msgs {a : Nat → Nat} {q : Nat → ClassId} (x : Nat → Int32) : ceV a q x 3 = .inr (2, [.int (x 0), .ref (a 6), .ref (a 7), .ref (a 8), .ref (a 9), .ref (a 10)]) := rfl
theorem cV_Mat {a : Nat → Nat} {q : Nat → ClassId} (x : Nat → Int32) : ceV a q x 4 = .inr (3, [.ref (a 11), .ref (a 12)]) := rfl
theorem cV_Fir {a : Nat → Nat} {q : Nat → ClassId} (x : Nat → Int32) : ceV a q x 5 = .inl (q 0, 300, .inl x) := rfl
theorem cV_mCh {a : Nat → Nat} {q : Nat → ClassId} (x : Nat → Int32) : ceV a q x 6 = .inl (q 0, 300, .inl x) := rfl
theorem cV_mVa {a : Nat → Nat} {q : Nat → ClassId} (x : Nat → Int32) : ceV a q x 7 = .inl (q 0, 300, .inl x) := rfl
theorem cV_mSt {a : Nat → Nat} {q : Nat → ClassId} (x : Nat → Int32) : ceV a q x 8 = .inl (q 0, 300, .inl x) := rfl
theorem cV_mCo {a : Nat → Nat} {q : Nat → ClassId} (x : Nat → Int32) : ceV a q x 9 = .inl (q 0, 300, .inl x) := rfl
theorem cV_mAn {a : Nat → Nat} {q : Nat → ClassId} (x : Nat → Int32) : ceV a q x 10 = .inl (q 0, 300, .inl x) := rfl
theorem cV_tNu {a : Nat → Nat} {q : Nat → ClassId} (x : Nat → Int32) : ceV a q x 11 = .inl (q 0, 4, .inl x) := rfl
theorem cV_tVa {a : Nat → Nat} {q : Nat → ClassId} (x : Nat → Int32) : ceV a q x 12 = .inl (q 0, 4, .inl x) := rfl
theorem cV_Ch {a : Nat → Nat} {q : Nat → ClassId} (x : Nat → Int32) {c : Nat} (hc : c < 8) : ceV a q x (13 + c) = .inr (1, [.int (x 0), .ref (a (21 + c)), .int (x 2)]) := by
  unfold ceV
  rw [if_neg (by omega), if_pos (by omega), Nat.add_sub_cancel_left]
theorem cV_Pn {a : Nat → Nat} {q : Nat → ClassId} (x : Nat → Int32) {c : Nat} (hc : c < 8) : ceV a q x (21 + c) = .inl (q 0, 6, .inl x) := by
  unfold ceV
  rw [if_neg (by omega), if_neg (by omega), if_pos (by omega)]
theorem cV_Re {a : Nat → Nat} {q : Nat → ClassId} (x : Nat → Int32) {c : Nat} (hc : c < 8) : ceV a q x (29 + c) = .inr (4, [.int (x 0), .ref (a (37 + c)), .ref (a (45 + c)), .ref (a (53 + c)), .int (x 4), .int (x 5), .int (x 6), .ref (a (61 + c)), .ref (a (69 + c)), .ref (a (77 + c)), .ref (a (85 + c)), .ref (a (93 + c))]) := by
  unfold ceV
  rw [if_neg (by omega), if_neg (by omega), if_neg (by omega), if_pos (by omega), Nat.add_sub_cancel_left]
theorem cV_pC {a : Nat → Nat} {q : Nat → ClassId} (x : Nat → Int32) {c : Nat} (hc : c < 8) : ceV a q x (37 + c) = .inl (q 0, 4, .inl x) := by
  unfold ceV
  rw [if_neg (by omega), if_neg (by omega), if_neg (by omega), if_neg (by omega), if_pos (by omega)]
theorem cV_pT {a : Nat → Nat} {q : Nat → ClassId} (x : Nat → Int32) {c : Nat} (hc : c < 8) : ceV a q x (45 + c) = .inl (q 0, 4, .inl x) := by
  unfold ceV
  rw [if_neg (by omega), if_neg (by omega), if_neg (by omega), if_neg (by omega), if_neg (by omega), if_pos (by omega)]
theorem cV_pN {a : Nat → Nat} {q : Nat → ClassId} (x : Nat → Int32) {c : Nat} (hc : c < 8) : ceV a q x (53 + c) = .inl (q 0, 4, .inl x) := by
  unfold ceV
  rw [if_neg (by omega), if_neg (by omega), if_neg (by omega), if_neg (by omega), if_neg (by omega), if_neg (by omega), if_pos (by omega)]
theorem cV_aS {a : Nat → Nat} {q : Nat → ClassId} (x : Nat → Int32) {c : Nat} (hc : c < 8) : ceV a q x (61 + c) = .inl (q 1, 4, .inl x) := by
  unfold ceV
  rw [if_neg (by omega), if_neg (by omega), if_neg (by omega), if_neg (by omega), if_neg (by omega), if_neg (by omega), if_neg (by omega), if_pos (by omega)]
theorem cV_aT {a : Nat → Nat} {q : Nat → ClassId} (x : Nat → Int32) {c : Nat} (hc : c < 8) : ceV a q x (69 + c) = .inl (q 0, 4, .inl x) := by
  unfold ceV
  rw [if_neg (by omega), if_neg (by omega), if_neg (by omega), if_neg (by omega), if_neg (by omega), if_neg (by omega), if_neg (by omega), if_neg (by omega), if_pos (by omega)]
theorem cV_aK {a : Nat → Nat} {q : Nat → ClassId} (x : Nat → Int32) {c : Nat} (hc : c < 8) : ceV a q x (77 + c) = .inl (q 0, 4, .inl x) := by
  unfold ceV
  rw [if_neg (by omega), if_neg (by omega), if_neg (by omega), if_neg (by omega), if_neg (by omega), if_neg (by omega), if_neg (by omega), if_neg (by omega), if_neg (by omega), if_pos (by omega)]
theorem cV_aP {a : Nat → Nat} {q : Nat → ClassId} (x : Nat → Int32) {c : Nat} (hc : c < 8) : ceV a q x (85 + c) = .inl (q 0, 4, .inl x) := by
  unfold ceV
  rw [if_neg (by omega), if_neg (by omega), if_neg (by omega), if_neg (by omega), if_neg (by omega), if_neg (by omega), if_neg (by omega), if_neg (by omega), if_neg (by omega), if_neg (by omega), if_pos (by omega)]
theorem cV_aN {a : Nat → Nat} {q : Nat → ClassId} (x : Nat → Int32) {c : Nat} (hc : c < 8) : ceV a q x (93 + c) = .inl (q 0, 4, .inl x) := by
  unfold ceV
  rw [if_neg (by omega), if_neg (by omega), if_neg (by omega), if_neg (by omega), if_neg (by omega), if_neg (by omega), if_neg (by omega), if_neg (by omega), if_neg (by omega), if_neg (by omega), if_neg (by omega)]
def R_M : String := "JoinVesselModel"
def F_M : u_T := fun k => match k with
  | 0 => ("JoinVesselModel", "channels", "I", false)
  | 1 => ("JoinVesselModel", "answered", "[Z", true)
  | 2 => ("JoinVesselModel", "reactions", "I", false)
  | 3 => ("JoinVesselModel", "parts", "[I", true)
  | 4 => ("JoinVesselModel", "partChannel", "[I", true)
  | 5 => ("JoinVesselModel", "partTest", "[I", true)
  | 6 => ("JoinVesselModel", "partNumber", "[I", true)
  | 7 => ("JoinVesselModel", "guardKind", "[I", true)
  | 8 => ("JoinVesselModel", "guardNumber", "[I", true)
  | 9 => ("JoinVesselModel", "actions", "[I", true)
  | 10 => ("JoinVesselModel", "target", "[I", true)
  | 11 => ("JoinVesselModel", "replied", "[I", true)
  | 12 => ("JoinVesselModel", "kind", "[I", true)
  | 13 => ("JoinVesselModel", "which", "[I", true)
  | 14 => ("JoinVesselModel", "number", "[I", true)
  | 15 => ("JoinVesselModel", "closed", "Z", false)
  | 16 => ("JoinVesselModel", "made", "I", false)
  | 17 => ("JoinVesselModel", "channelOf", "[I", true)
  | 18 => ("JoinVesselModel", "values", "[I", true)
  | 19 => ("JoinVesselModel", "states", "[I", true)
  | 20 => ("JoinVesselModel", "consumers", "[I", true)
  | 21 => ("JoinVesselModel", "answers", "[I", true)
  | 22 => ("JoinVesselModel", "firings", "I", false)
  | 23 => ("JoinVesselModel", "firedBy", "[I", true)
  | 24 => ("JoinVesselModel", "gathered", "[I", true)
  | 25 => ("JoinVesselModel", "count", "[I", true)
  | 26 => ("JoinVesselModel", "digit", "[I", true)
  | _ => ("JoinVesselModel", "tried", "[I", true)
def t_M : Nat → FieldType := fun k => match k with
  | 0 => .int
  | 1 => .array .boolean
  | 2 => .int
  | 3 => .array .int
  | 4 => .array .int
  | 5 => .array .int
  | 6 => .array .int
  | 7 => .array .int
  | 8 => .array .int
  | 9 => .array .int
  | 10 => .array .int
  | 11 => .array .int
  | 12 => .array .int
  | 13 => .array .int
  | 14 => .array .int
  | 15 => .boolean
  | 16 => .int
  | 17 => .array .int
  | 18 => .array .int
  | 19 => .array .int
  | 20 => .array .int
  | 21 => .array .int
  | 22 => .int
  | 23 => .array .int
  | 24 => .array .int
  | 25 => .array .int
  | 26 => .array .int
  | _ => .array .int
theorem n_M : ∀ a, a < 28 → ∀ b, b < 28 → a ≠ b → (F_M a).2.1 ≠ (F_M b).2.1 := by decide +kernel
theorem t_M_ok : ∀ k, k < 28 → parseFieldDescriptor (F_M k).2.2.1 = some (t_M k) := by decide +kernel
theorem hin_M : ∀ w ∈ u_ws R_M F_M 28, w ∈ tbW := by decide +kernel
abbrev clM : List vw_C := [(R_M, F_M, 28)]
abbrev tyM (q : Nat → ClassId) : List (ClassId × FieldType) := [(q 0, .int), (q 1, .boolean)]
def ceM1 (a : Nat → Nat) (q : Nat → ClassId) (x : Nat → Int32) (i : Nat) : va_E := match i with
  | 0 => .inr (0, [.int (x 0), .ref (a 1), .int (x 2), .ref (a 2), .ref (a 3), .ref (a 4), .ref (a 5), .ref (a 6), .ref (a 7), .ref (a 8), .ref (a 9), .ref (a 10), .ref (a 11), .ref (a 12), .ref (a 13), .int (x 15), .int (x 16), .ref (a 14), .ref (a 15), .ref (a 16), .ref (a 17), .ref (a 18), .int (x 22), .ref (a 19), .ref (a 20), .ref (a 21), .ref (a 22), .ref (a 23)])
  | 1 => .inl (q 1, 8, .inl x)
  | 2 => .inl (q 0, 8, .inl x)
  | 3 => .inl (q 0, 32, .inl x)
  | 4 => .inl (q 0, 32, .inl x)
  | 5 => .inl (q 0, 32, .inl x)
  | 6 => .inl (q 0, 8, .inl x)
  | 7 => .inl (q 0, 8, .inl x)
  | 8 => .inl (q 0, 8, .inl x)
  | 9 => .inl (q 0, 32, .inl x)
  | 10 => .inl (q 0, 32, .inl x)
  | 11 => .inl (q 0, 32, .inl x)
  | 12 => .inl (q 0, 32, .inl x)
  | 13 => .inl (q 0, 32, .inl x)
  | 14 => .inl (q 0, 300, .inl x)
  | 15 => .inl (q 0, 300, .inl x)
  | 16 => .inl (q 0, 300, .inl x)
  | 17 => .inl (q 0, 300, .inl x)
  | 18 => .inl (q 0, 300, .inl x)
  | 19 => .inl (q 0, 300, .inl x)
  | 20 => .inl (q 0, 48, .inl x)
  | 21 => .inl (q 0, 8, .inl x)
  | 22 => .inl (q 0, 4, .inl x)
  | _ => .inl (q 0, 4, .inl x)
def ceM (a : Nat → Nat) (q : Nat → ClassId) (x : Nat → Int32) (i : Nat) : va_E := ceM1 a q x i
theorem cM_M {a : Nat → Nat} {q : Nat → ClassId} (x : Nat → Int32) : ceM a q x 0 = .inr (0, [.int (x 0), .ref (a 1), .int (x 2), .ref (a 2), .ref (a 3), .ref (a 4), .ref (a 5), .ref (a 6), .ref (a 7), .ref (a 8), .ref (a 9), .ref (a 10), .ref (a 11), .ref (a 12), .ref (a 13), .int (x 15), .int (x 16), .ref (a 14), .ref (a 15), .ref (a 16), .ref (a 17), .ref (a 18), .int (x 22), .ref (a 19), .ref (a 20), .ref (a 21), .ref (a 22), .ref (a 23)]) := rfl
theorem cM__answered {a : Nat → Nat} {q : Nat → ClassId} (x : Nat → Int32) : ceM a q x 1 = .inl (q 1, 8, .inl x) := rfl
theorem cM__parts {a : Nat → Nat} {q : Nat → ClassId} (x : Nat → Int32) : ceM a q x 2 = .inl (q 0, 8, .inl x) := rfl
theorem cM__partChannel {a : Nat → Nat} {q : Nat → ClassId} (x : Nat → Int32) : ceM a q x 3 = .inl (q 0, 32, .inl x) := rfl
theorem cM__partTest {a : Nat → Nat} {q : Nat → ClassId} (x : Nat → Int32) : ceM a q x 4 = .inl (q 0, 32, .inl x) := rfl
theorem cM__partNumber {a : Nat → Nat} {q : Nat → ClassId} (x : Nat → Int32) : ceM a q x 5 = .inl (q 0, 32, .inl x) := rfl
theorem cM__guardKind {a : Nat → Nat} {q : Nat → ClassId} (x : Nat → Int32) : ceM a q x 6 = .inl (q 0, 8, .inl x) := rfl
theorem cM__guardNumber {a : Nat → Nat} {q : Nat → ClassId} (x : Nat → Int32) : ceM a q x 7 = .inl (q 0, 8, .inl x) := rfl
theorem cM__actions {a : Nat → Nat} {q : Nat → ClassId} (x : Nat → Int32) : ceM a q x 8 = .inl (q 0, 8, .inl x) := rfl
theorem cM__target {a : Nat → Nat} {q : Nat → ClassId} (x : Nat → Int32) : ceM a q x 9 = .inl (q 0, 32, .inl x) := rfl
theorem cM__replied {a : Nat → Nat} {q : Nat → ClassId} (x : Nat → Int32) : ceM a q x 10 = .inl (q 0, 32, .inl x) := rfl
theorem cM__kind {a : Nat → Nat} {q : Nat → ClassId} (x : Nat → Int32) : ceM a q x 11 = .inl (q 0, 32, .inl x) := rfl
theorem cM__which {a : Nat → Nat} {q : Nat → ClassId} (x : Nat → Int32) : ceM a q x 12 = .inl (q 0, 32, .inl x) := rfl
theorem cM__number {a : Nat → Nat} {q : Nat → ClassId} (x : Nat → Int32) : ceM a q x 13 = .inl (q 0, 32, .inl x) := rfl
theorem cM__channelOf {a : Nat → Nat} {q : Nat → ClassId} (x : Nat → Int32) : ceM a q x 14 = .inl (q 0, 300, .inl x) := rfl
theorem cM__values {a : Nat → Nat} {q : Nat → ClassId} (x : Nat → Int32) : ceM a q x 15 = .inl (q 0, 300, .inl x) := rfl
theorem cM__states {a : Nat → Nat} {q : Nat → ClassId} (x : Nat → Int32) : ceM a q x 16 = .inl (q 0, 300, .inl x) := rfl
theorem cM__consumers {a : Nat → Nat} {q : Nat → ClassId} (x : Nat → Int32) : ceM a q x 17 = .inl (q 0, 300, .inl x) := rfl
theorem cM__answers {a : Nat → Nat} {q : Nat → ClassId} (x : Nat → Int32) : ceM a q x 18 = .inl (q 0, 300, .inl x) := rfl
theorem cM__firedBy {a : Nat → Nat} {q : Nat → ClassId} (x : Nat → Int32) : ceM a q x 19 = .inl (q 0, 300, .inl x) := rfl
theorem cM__gathered {a : Nat → Nat} {q : Nat → ClassId} (x : Nat → Int32) : ceM a q x 20 = .inl (q 0, 48, .inl x) := rfl
theorem cM__count {a : Nat → Nat} {q : Nat → ClassId} (x : Nat → Int32) : ceM a q x 21 = .inl (q 0, 8, .inl x) := rfl
theorem cM__digit {a : Nat → Nat} {q : Nat → ClassId} (x : Nat → Int32) : ceM a q x 22 = .inl (q 0, 4, .inl x) := rfl
theorem cM__tried {a : Nat → Nat} {q : Nat → ClassId} (x : Nat → Int32) : ceM a q x 23 = .inl (q 0, 4, .inl x) := rfl
abbrev b_V_channel : ByteArray := prog_1_method_2_code
def y_V_channel : MethodName := ⟨R_V, "channel", "(Z)I"⟩
abbrev b_V_reaction : ByteArray := prog_1_method_3_code
def y_V_reaction : MethodName := ⟨R_V, "reaction", "()I"⟩
abbrev b_V_part : ByteArray := prog_1_method_4_code
def y_V_part : MethodName := ⟨R_V, "part", "(IIII)I"⟩
abbrev b_V_guard : ByteArray := prog_1_method_5_code
def y_V_guard : MethodName := ⟨R_V, "guard", "(III)Z"⟩
abbrev b_V_emit : ByteArray := prog_1_method_6_code
def y_V_emit : MethodName := ⟨R_V, "emit", "(IIIII)Z"⟩
abbrev b_V_reply : ByteArray := prog_1_method_7_code
def y_V_reply : MethodName := ⟨R_V, "reply", "(IIIII)Z"⟩
abbrev b_V_seal : ByteArray := prog_1_method_8_code
def y_V_seal : MethodName := ⟨R_V, "seal", "()I"⟩
abbrev b_V_put : ByteArray := prog_1_method_9_code
def y_V_put : MethodName := ⟨R_V, "put", "(II)I"⟩
abbrev b_V_call : ByteArray := prog_1_method_10_code
def y_V_call : MethodName := ⟨R_V, "call", "(II)I"⟩
abbrev b_V_withdraw : ByteArray := prog_1_method_11_code
def y_V_withdraw : MethodName := ⟨R_V, "withdraw", "(I)Z"⟩
abbrev b_V_react : ByteArray := prog_1_method_12_code
def y_V_react : MethodName := ⟨R_V, "react", "(I)I"⟩
abbrev b_V_enabled : ByteArray := prog_1_method_13_code
def y_V_enabled : MethodName := ⟨R_V, "enabled", "()I"⟩
abbrev b_V_next : ByteArray := prog_1_method_14_code
def y_V_next : MethodName := ⟨R_V, "next", "()I"⟩
abbrev b_V_taken : ByteArray := prog_1_method_15_code
def y_V_taken : MethodName := ⟨R_V, "taken", "(I)I"⟩
abbrev b_V_pendingAt : ByteArray := prog_1_method_16_code
def y_V_pendingAt : MethodName := ⟨R_V, "pendingAt", "(II)I"⟩
abbrev b_V_value : ByteArray := prog_1_method_17_code
def y_V_value : MethodName := ⟨R_V, "value", "(I)I"⟩
abbrev b_V_state : ByteArray := prog_1_method_18_code
def y_V_state : MethodName := ⟨R_V, "state", "(I)I"⟩
abbrev b_V_consumer : ByteArray := prog_1_method_19_code
def y_V_consumer : MethodName := ⟨R_V, "consumer", "(I)I"⟩
abbrev b_V_answer : ByteArray := prog_1_method_20_code
def y_V_answer : MethodName := ⟨R_V, "answer", "(I)I"⟩
abbrev b_V_fired : ByteArray := prog_1_method_21_code
def y_V_fired : MethodName := ⟨R_V, "fired", "(I)I"⟩
abbrev b_V_isWithin : ByteArray := prog_1_method_22_code
def y_V_isWithin : MethodName := ⟨R_V, "isWithin", "(II)Z"⟩
abbrev b_V_isChannel : ByteArray := prog_1_method_23_code
def y_V_isChannel : MethodName := ⟨R_V, "isChannel", "(I)Z"⟩
abbrev b_V_isChannelOf : ByteArray := prog_1_method_24_code
def y_V_isChannelOf : MethodName := ⟨R_V, "isChannelOf", "(IZ)Z"⟩
abbrev b_V_mayBuild : ByteArray := prog_1_method_25_code
def y_V_mayBuild : MethodName := ⟨R_V, "mayBuild", "(I)Z"⟩
abbrev b_V_obstacleToSealing : ByteArray := prog_1_method_26_code
def y_V_obstacleToSealing : MethodName := ⟨R_V, "obstacleToSealing", "()I"⟩
abbrev b_V_leavesCallUnanswered : ByteArray := prog_1_method_27_code
def y_V_leavesCallUnanswered : MethodName := ⟨R_V, "leavesCallUnanswered", "(LJoinVessel$Reaction;)Z"⟩
abbrev b_V_admit : ByteArray := prog_1_method_28_code
def y_V_admit : MethodName := ⟨R_V, "admit", "(IIZ)I"⟩
abbrev b_V_makeMessage : ByteArray := prog_1_method_29_code
def y_V_makeMessage : MethodName := ⟨R_V, "makeMessage", "(II)I"⟩
abbrev b_V_findNext : ByteArray := prog_1_method_30_code
def y_V_findNext : MethodName := ⟨R_V, "findNext", "()I"⟩
abbrev b_V_findEnabledMatch : ByteArray := prog_1_method_31_code
def y_V_findEnabledMatch : MethodName := ⟨R_V, "findEnabledMatch", "(I)Z"⟩
abbrev b_V_hasRoom : ByteArray := prog_1_method_32_code
def y_V_hasRoom : MethodName := ⟨R_V, "hasRoom", "(LJoinVessel$Reaction;)Z"⟩
abbrev b_V_fillMatch : ByteArray := prog_1_method_33_code
def y_V_fillMatch : MethodName := ⟨R_V, "fillMatch", "(LJoinVessel$Match;LJoinVessel$Reaction;[LJoinVessel$Channel;LJoinVessel$Messages;I)Z"⟩
abbrev b_V_fire : ByteArray := prog_1_method_34_code
def y_V_fire : MethodName := ⟨R_V, "fire", "(I)V"⟩
abbrev b_V_consume : ByteArray := prog_1_method_35_code
def y_V_consume : MethodName := ⟨R_V, "consume", "(I)V"⟩
abbrev b_V_sum : ByteArray := prog_1_method_36_code
def y_V_sum : MethodName := ⟨R_V, "sum", "([II)J"⟩
abbrev b_V_greatest : ByteArray := prog_1_method_37_code
def y_V_greatest : MethodName := ⟨R_V, "greatest", "([II)I"⟩
abbrev b_V_allRise : ByteArray := prog_1_method_38_code
def y_V_allRise : MethodName := ⟨R_V, "allRise", "([II)Z"⟩
abbrev b_V_allEqual : ByteArray := prog_1_method_39_code
def y_V_allEqual : MethodName := ⟨R_V, "allEqual", "([II)Z"⟩
abbrev b_V_allDiffer : ByteArray := prog_1_method_40_code
def y_V_allDiffer : MethodName := ⟨R_V, "allDiffer", "([II)Z"⟩
abbrev b_M_channel : ByteArray := prog_7_method_2_code
def y_M_channel : MethodName := ⟨R_M, "channel", "(Z)I"⟩
abbrev b_M_reaction : ByteArray := prog_7_method_3_code
def y_M_reaction : MethodName := ⟨R_M, "reaction", "()I"⟩
abbrev b_M_open : ByteArray := prog_7_method_4_code
def y_M_open : MethodName := ⟨R_M, "open", "(I)Z"⟩
abbrev b_M_isChannel : ByteArray := prog_7_method_5_code
def y_M_isChannel : MethodName := ⟨R_M, "isChannel", "(I)Z"⟩
abbrev b_M_hasPart : ByteArray := prog_7_method_6_code
def y_M_hasPart : MethodName := ⟨R_M, "hasPart", "(II)Z"⟩
abbrev b_M_part : ByteArray := prog_7_method_7_code
def y_M_part : MethodName := ⟨R_M, "part", "(IIII)I"⟩
abbrev b_M_guard : ByteArray := prog_7_method_8_code
def y_M_guard : MethodName := ⟨R_M, "guard", "(III)Z"⟩
abbrev b_M_expression : ByteArray := prog_7_method_9_code
def y_M_expression : MethodName := ⟨R_M, "expression", "(III)Z"⟩
abbrev b_M_act : ByteArray := prog_7_method_10_code
def y_M_act : MethodName := ⟨R_M, "act", "(IIIII)V"⟩
abbrev b_M_emit : ByteArray := prog_7_method_11_code
def y_M_emit : MethodName := ⟨R_M, "emit", "(IIIII)Z"⟩
abbrev b_M_answersPart : ByteArray := prog_7_method_12_code
def y_M_answersPart : MethodName := ⟨R_M, "answersPart", "(II)Z"⟩
abbrev b_M_reply : ByteArray := prog_7_method_13_code
def y_M_reply : MethodName := ⟨R_M, "reply", "(IIIII)Z"⟩
abbrev b_M_seal : ByteArray := prog_7_method_14_code
def y_M_seal : MethodName := ⟨R_M, "seal", "()I"⟩
abbrev b_M_make : ByteArray := prog_7_method_15_code
def y_M_make : MethodName := ⟨R_M, "make", "(II)I"⟩
abbrev b_M_gather : ByteArray := prog_7_method_16_code
def y_M_gather : MethodName := ⟨R_M, "gather", "()V"⟩
abbrev b_M_enter : ByteArray := prog_7_method_17_code
def y_M_enter : MethodName := ⟨R_M, "enter", "(IIZ)I"⟩
abbrev b_M_put : ByteArray := prog_7_method_18_code
def y_M_put : MethodName := ⟨R_M, "put", "(II)I"⟩
abbrev b_M_call : ByteArray := prog_7_method_19_code
def y_M_call : MethodName := ⟨R_M, "call", "(II)I"⟩
abbrev b_M_isMessage : ByteArray := prog_7_method_20_code
def y_M_isMessage : MethodName := ⟨R_M, "isMessage", "(I)Z"⟩
abbrev b_M_withdraw : ByteArray := prog_7_method_21_code
def y_M_withdraw : MethodName := ⟨R_M, "withdraw", "(I)Z"⟩
abbrev b_M_passes : ByteArray := prog_7_method_22_code
def y_M_passes : MethodName := ⟨R_M, "passes", "(II)Z"⟩
abbrev b_M_guarded : ByteArray := prog_7_method_23_code
def y_M_guarded : MethodName := ⟨R_M, "guarded", "(I)Z"⟩
abbrev b_M_chosen : ByteArray := prog_7_method_24_code
def y_M_chosen : MethodName := ⟨R_M, "chosen", "(II)I"⟩
abbrev b_M_matches : ByteArray := prog_7_method_25_code
def y_M_matches : MethodName := ⟨R_M, "matches", "(I)Z"⟩
abbrev b_M_find : ByteArray := prog_7_method_26_code
def y_M_find : MethodName := ⟨R_M, "find", "(I)Z"⟩
abbrev b_M_room : ByteArray := prog_7_method_27_code
def y_M_room : MethodName := ⟨R_M, "room", "(I)Z"⟩
abbrev b_M_enabled : ByteArray := prog_7_method_28_code
def y_M_enabled : MethodName := ⟨R_M, "enabled", "()I"⟩
abbrev b_M_next : ByteArray := prog_7_method_29_code
def y_M_next : MethodName := ⟨R_M, "next", "()I"⟩
abbrev b_M_taken : ByteArray := prog_7_method_30_code
def y_M_taken : MethodName := ⟨R_M, "taken", "(I)I"⟩
abbrev b_M_result : ByteArray := prog_7_method_31_code
def y_M_result : MethodName := ⟨R_M, "result", "(II)I"⟩
abbrev b_M_fire : ByteArray := prog_7_method_32_code
def y_M_fire : MethodName := ⟨R_M, "fire", "(I)V"⟩
abbrev b_M_react : ByteArray := prog_7_method_33_code
def y_M_react : MethodName := ⟨R_M, "react", "(I)I"⟩
abbrev b_M_pendingAt : ByteArray := prog_7_method_34_code
def y_M_pendingAt : MethodName := ⟨R_M, "pendingAt", "(II)I"⟩
abbrev b_M_value : ByteArray := prog_7_method_35_code
def y_M_value : MethodName := ⟨R_M, "value", "(I)I"⟩
abbrev b_M_state : ByteArray := prog_7_method_36_code
def y_M_state : MethodName := ⟨R_M, "state", "(I)I"⟩
abbrev b_M_consumer : ByteArray := prog_7_method_37_code
def y_M_consumer : MethodName := ⟨R_M, "consumer", "(I)I"⟩
abbrev b_M_answer : ByteArray := prog_7_method_38_code
def y_M_answer : MethodName := ⟨R_M, "answer", "(I)I"⟩
abbrev b_M_fired : ByteArray := prog_7_method_39_code
def y_M_fired : MethodName := ⟨R_M, "fired", "(I)I"⟩
abbrev b_Ch_addPending : ByteArray := prog_2_method_2_code
def y_Ch_addPending : MethodName := ⟨R_Ch, "addPending", "(I)V"⟩
abbrev b_Ch_removePending : ByteArray := prog_2_method_3_code
def y_Ch_removePending : MethodName := ⟨R_Ch, "removePending", "(I)V"⟩
abbrev b_Mt_holdsBefore : ByteArray := prog_3_method_2_code
def y_Mt_holdsBefore : MethodName := ⟨R_Mt, "holdsBefore", "(II)Z"⟩
abbrev b_Ms_has : ByteArray := prog_4_method_2_code
def y_Ms_has : MethodName := ⟨R_Ms, "has", "(I)Z"⟩
abbrev b_Ms_add : ByteArray := prog_4_method_3_code
def y_Ms_add : MethodName := ⟨R_Ms, "add", "(II)I"⟩
abbrev b_Re_addPart : ByteArray := prog_5_method_2_code
def y_Re_addPart : MethodName := ⟨R_Re, "addPart", "(III)I"⟩
abbrev b_Re_hasPart : ByteArray := prog_5_method_3_code
def y_Re_hasPart : MethodName := ⟨R_Re, "hasPart", "(I)Z"⟩
abbrev b_Re_mayAddAction : ByteArray := prog_5_method_4_code
def y_Re_mayAddAction : MethodName := ⟨R_Re, "mayAddAction", "(II)Z"⟩
abbrev b_Re_addAction : ByteArray := prog_5_method_5_code
def y_Re_addAction : MethodName := ⟨R_Re, "addAction", "(ZIIII)V"⟩
abbrev b_Re_hasReplyTo : ByteArray := prog_5_method_6_code
def y_Re_hasReplyTo : MethodName := ⟨R_Re, "hasReplyTo", "(I)Z"⟩
abbrev b_Re_partsOn : ByteArray := prog_5_method_7_code
def y_Re_partsOn : MethodName := ⟨R_Re, "partsOn", "(I)I"⟩
abbrev b_Re_sendCount : ByteArray := prog_5_method_8_code
def y_Re_sendCount : MethodName := ⟨R_Re, "sendCount", "()I"⟩
abbrev b_Re_sendsTo : ByteArray := prog_5_method_9_code
def y_Re_sendsTo : MethodName := ⟨R_Re, "sendsTo", "(I)I"⟩
abbrev b_Re_passesTest : ByteArray := prog_5_method_10_code
def y_Re_passesTest : MethodName := ⟨R_Re, "passesTest", "(II)Z"⟩
abbrev b_Re_guardHolds : ByteArray := prog_5_method_11_code
def y_Re_guardHolds : MethodName := ⟨R_Re, "guardHolds", "([I)Z"⟩
abbrev b_Re_evaluate : ByteArray := prog_5_method_12_code
def y_Re_evaluate : MethodName := ⟨R_Re, "evaluate", "(I[I)I"⟩
theorem cd_V_channel : Cond.code y_V_channel b_V_channel 2 (some .int) ∈ tbW := tb1_in (List.mem_of_getElem? (i := 166) rfl) rfl
theorem nm_V_channel : nmh y_V_channel 1 := ⟨by decide +kernel, by decide +kernel, by decide +kernel⟩
theorem cd_V_reaction : Cond.code y_V_reaction b_V_reaction 1 (some .int) ∈ tbW := tb1_in (List.mem_of_getElem? (i := 170) rfl) rfl
theorem nm_V_reaction : nmh y_V_reaction 0 := ⟨by decide +kernel, by decide +kernel, by decide +kernel⟩
theorem cd_V_part : Cond.code y_V_part b_V_part 5 (some .int) ∈ tbW := tb1_in (List.mem_of_getElem? (i := 174) rfl) rfl
theorem nm_V_part : nmh y_V_part 4 := ⟨by decide +kernel, by decide +kernel, by decide +kernel⟩
theorem cd_V_guard : Cond.code y_V_guard b_V_guard 4 (some .boolean) ∈ tbW := tb1_in (List.mem_of_getElem? (i := 193) rfl) rfl
theorem nm_V_guard : nmh y_V_guard 3 := ⟨by decide +kernel, by decide +kernel, by decide +kernel⟩
theorem cd_V_emit : Cond.code y_V_emit b_V_emit 6 (some .boolean) ∈ tbW := tb1_in (List.mem_of_getElem? (i := 197) rfl) rfl
theorem nm_V_emit : nmh y_V_emit 5 := ⟨by decide +kernel, by decide +kernel, by decide +kernel⟩
theorem cd_V_reply : Cond.code y_V_reply b_V_reply 7 (some .boolean) ∈ tbW := tb1_in (List.mem_of_getElem? (i := 218) rfl) rfl
theorem nm_V_reply : nmh y_V_reply 5 := ⟨by decide +kernel, by decide +kernel, by decide +kernel⟩
theorem cd_V_seal : Cond.code y_V_seal b_V_seal 2 (some .int) ∈ tbW := tb1_in (List.mem_of_getElem? (i := 227) rfl) rfl
theorem nm_V_seal : nmh y_V_seal 0 := ⟨by decide +kernel, by decide +kernel, by decide +kernel⟩
theorem cd_V_put : Cond.code y_V_put b_V_put 3 (some .int) ∈ tbW := tb1_in (List.mem_of_getElem? (i := 239) rfl) rfl
theorem nm_V_put : nmh y_V_put 2 := ⟨by decide +kernel, by decide +kernel, by decide +kernel⟩
theorem cd_V_call : Cond.code y_V_call b_V_call 3 (some .int) ∈ tbW := tb2_in (List.mem_of_getElem? (i := 19) rfl) rfl
theorem nm_V_call : nmh y_V_call 2 := ⟨by decide +kernel, by decide +kernel, by decide +kernel⟩
theorem cd_V_withdraw : Cond.code y_V_withdraw b_V_withdraw 3 (some .boolean) ∈ tbW := tb2_in (List.mem_of_getElem? (i := 23) rfl) rfl
theorem nm_V_withdraw : nmh y_V_withdraw 1 := ⟨by decide +kernel, by decide +kernel, by decide +kernel⟩
theorem cd_V_react : Cond.code y_V_react b_V_react 4 (some .int) ∈ tbW := tb2_in (List.mem_of_getElem? (i := 35) rfl) rfl
theorem nm_V_react : nmh y_V_react 1 := ⟨by decide +kernel, by decide +kernel, by decide +kernel⟩
theorem cd_V_enabled : Cond.code y_V_enabled b_V_enabled 3 (some .int) ∈ tbW := tb2_in (List.mem_of_getElem? (i := 108) rfl) rfl
theorem nm_V_enabled : nmh y_V_enabled 0 := ⟨by decide +kernel, by decide +kernel, by decide +kernel⟩
theorem cd_V_next : Cond.code y_V_next b_V_next 1 (some .int) ∈ tbW := tb2_in (List.mem_of_getElem? (i := 112) rfl) rfl
theorem nm_V_next : nmh y_V_next 0 := ⟨by decide +kernel, by decide +kernel, by decide +kernel⟩
theorem cd_V_taken : Cond.code y_V_taken b_V_taken 3 (some .int) ∈ tbW := tb2_in (List.mem_of_getElem? (i := 116) rfl) rfl
theorem nm_V_taken : nmh y_V_taken 1 := ⟨by decide +kernel, by decide +kernel, by decide +kernel⟩
theorem cd_V_pendingAt : Cond.code y_V_pendingAt b_V_pendingAt 3 (some .int) ∈ tbW := tb2_in (List.mem_of_getElem? (i := 120) rfl) rfl
theorem nm_V_pendingAt : nmh y_V_pendingAt 2 := ⟨by decide +kernel, by decide +kernel, by decide +kernel⟩
theorem cd_V_value : Cond.code y_V_value b_V_value 2 (some .int) ∈ tbW := tb2_in (List.mem_of_getElem? (i := 124) rfl) rfl
theorem nm_V_value : nmh y_V_value 1 := ⟨by decide +kernel, by decide +kernel, by decide +kernel⟩
theorem cd_V_state : Cond.code y_V_state b_V_state 2 (some .int) ∈ tbW := tb2_in (List.mem_of_getElem? (i := 128) rfl) rfl
theorem nm_V_state : nmh y_V_state 1 := ⟨by decide +kernel, by decide +kernel, by decide +kernel⟩
theorem cd_V_consumer : Cond.code y_V_consumer b_V_consumer 2 (some .int) ∈ tbW := tb2_in (List.mem_of_getElem? (i := 132) rfl) rfl
theorem nm_V_consumer : nmh y_V_consumer 1 := ⟨by decide +kernel, by decide +kernel, by decide +kernel⟩
theorem cd_V_answer : Cond.code y_V_answer b_V_answer 2 (some .int) ∈ tbW := tb2_in (List.mem_of_getElem? (i := 136) rfl) rfl
theorem nm_V_answer : nmh y_V_answer 1 := ⟨by decide +kernel, by decide +kernel, by decide +kernel⟩
theorem cd_V_fired : Cond.code y_V_fired b_V_fired 2 (some .int) ∈ tbW := tb2_in (List.mem_of_getElem? (i := 140) rfl) rfl
theorem nm_V_fired : nmh y_V_fired 1 := ⟨by decide +kernel, by decide +kernel, by decide +kernel⟩
theorem cd_V_isWithin : Cond.code y_V_isWithin b_V_isWithin 2 (some .boolean) ∈ tbW := tb1_in (List.mem_of_getElem? (i := 185) rfl) rfl
theorem nm_V_isWithin : nmh y_V_isWithin 2 := ⟨by decide +kernel, by decide +kernel, by decide +kernel⟩
theorem cd_V_isChannel : Cond.code y_V_isChannel b_V_isChannel 2 (some .boolean) ∈ tbW := tb1_in (List.mem_of_getElem? (i := 182) rfl) rfl
theorem nm_V_isChannel : nmh y_V_isChannel 1 := ⟨by decide +kernel, by decide +kernel, by decide +kernel⟩
theorem cd_V_isChannelOf : Cond.code y_V_isChannelOf b_V_isChannelOf 3 (some .boolean) ∈ tbW := tb1_in (List.mem_of_getElem? (i := 201) rfl) rfl
theorem nm_V_isChannelOf : nmh y_V_isChannelOf 2 := ⟨by decide +kernel, by decide +kernel, by decide +kernel⟩
theorem cd_V_mayBuild : Cond.code y_V_mayBuild b_V_mayBuild 2 (some .boolean) ∈ tbW := tb1_in (List.mem_of_getElem? (i := 178) rfl) rfl
theorem nm_V_mayBuild : nmh y_V_mayBuild 1 := ⟨by decide +kernel, by decide +kernel, by decide +kernel⟩
theorem cd_V_obstacleToSealing : Cond.code y_V_obstacleToSealing b_V_obstacleToSealing 2 (some .int) ∈ tbW := tb1_in (List.mem_of_getElem? (i := 231) rfl) rfl
theorem nm_V_obstacleToSealing : nmh y_V_obstacleToSealing 0 := ⟨by decide +kernel, by decide +kernel, by decide +kernel⟩
theorem cd_V_leavesCallUnanswered : Cond.code y_V_leavesCallUnanswered b_V_leavesCallUnanswered 3 (some .boolean) ∈ tbW := tb1_in (List.mem_of_getElem? (i := 235) rfl) rfl
theorem nm_V_leavesCallUnanswered : nmh y_V_leavesCallUnanswered 1 := ⟨by decide +kernel, by decide +kernel, by decide +kernel⟩
theorem cd_V_admit : Cond.code y_V_admit b_V_admit 4 (some .int) ∈ tbW := tb2_in (List.mem_of_getElem? (i := 3) rfl) rfl
theorem nm_V_admit : nmh y_V_admit 3 := ⟨by decide +kernel, by decide +kernel, by decide +kernel⟩
theorem cd_V_makeMessage : Cond.code y_V_makeMessage b_V_makeMessage 4 (some .int) ∈ tbW := tb2_in (List.mem_of_getElem? (i := 7) rfl) rfl
theorem nm_V_makeMessage : nmh y_V_makeMessage 2 := ⟨by decide +kernel, by decide +kernel, by decide +kernel⟩
theorem cd_V_findNext : Cond.code y_V_findNext b_V_findNext 4 (some .int) ∈ tbW := tb2_in (List.mem_of_getElem? (i := 39) rfl) rfl
theorem nm_V_findNext : nmh y_V_findNext 0 := ⟨by decide +kernel, by decide +kernel, by decide +kernel⟩
theorem cd_V_findEnabledMatch : Cond.code y_V_findEnabledMatch b_V_findEnabledMatch 2 (some .boolean) ∈ tbW := tb2_in (List.mem_of_getElem? (i := 43) rfl) rfl
theorem nm_V_findEnabledMatch : nmh y_V_findEnabledMatch 1 := ⟨by decide +kernel, by decide +kernel, by decide +kernel⟩
theorem cd_V_hasRoom : Cond.code y_V_hasRoom b_V_hasRoom 4 (some .boolean) ∈ tbW := tb2_in (List.mem_of_getElem? (i := 47) rfl) rfl
theorem nm_V_hasRoom : nmh y_V_hasRoom 1 := ⟨by decide +kernel, by decide +kernel, by decide +kernel⟩
theorem cd_V_fillMatch : Cond.code y_V_fillMatch b_V_fillMatch 9 (some .boolean) ∈ tbW := tb2_in (List.mem_of_getElem? (i := 62) rfl) rfl
theorem nm_V_fillMatch : nmh y_V_fillMatch 5 := ⟨by decide +kernel, by decide +kernel, by decide +kernel⟩
theorem cd_V_fire : Cond.code y_V_fire b_V_fire 5 none ∈ tbW := tb2_in (List.mem_of_getElem? (i := 90) rfl) rfl
theorem nm_V_fire : nmh y_V_fire 1 := ⟨by decide +kernel, by decide +kernel, by decide +kernel⟩
theorem cd_V_consume : Cond.code y_V_consume b_V_consume 2 none ∈ tbW := tb2_in (List.mem_of_getElem? (i := 94) rfl) rfl
theorem nm_V_consume : nmh y_V_consume 1 := ⟨by decide +kernel, by decide +kernel, by decide +kernel⟩
theorem cd_V_sum : Cond.code y_V_sum b_V_sum 5 (some .long) ∈ tbW := tb2_in (List.mem_of_getElem? (i := 78) rfl) rfl
theorem nm_V_sum : nmh y_V_sum 2 := ⟨by decide +kernel, by decide +kernel, by decide +kernel⟩
theorem cd_V_greatest : Cond.code y_V_greatest b_V_greatest 4 (some .int) ∈ tbW := tb2_in (List.mem_of_getElem? (i := 101) rfl) rfl
theorem nm_V_greatest : nmh y_V_greatest 2 := ⟨by decide +kernel, by decide +kernel, by decide +kernel⟩
theorem cd_V_allRise : Cond.code y_V_allRise b_V_allRise 3 (some .boolean) ∈ tbW := tb2_in (List.mem_of_getElem? (i := 69) rfl) rfl
theorem nm_V_allRise : nmh y_V_allRise 2 := ⟨by decide +kernel, by decide +kernel, by decide +kernel⟩
theorem cd_V_allEqual : Cond.code y_V_allEqual b_V_allEqual 3 (some .boolean) ∈ tbW := tb2_in (List.mem_of_getElem? (i := 72) rfl) rfl
theorem nm_V_allEqual : nmh y_V_allEqual 2 := ⟨by decide +kernel, by decide +kernel, by decide +kernel⟩
theorem cd_V_allDiffer : Cond.code y_V_allDiffer b_V_allDiffer 4 (some .boolean) ∈ tbW := tb2_in (List.mem_of_getElem? (i := 75) rfl) rfl
theorem nm_V_allDiffer : nmh y_V_allDiffer 2 := ⟨by decide +kernel, by decide +kernel, by decide +kernel⟩
theorem cd_M_channel : Cond.code y_M_channel b_M_channel 2 (some .int) ∈ tbW := tb2_in (List.mem_of_getElem? (i := 235) rfl) rfl
theorem nm_M_channel : nmh y_M_channel 1 := ⟨by decide +kernel, by decide +kernel, by decide +kernel⟩
theorem cd_M_reaction : Cond.code y_M_reaction b_M_reaction 1 (some .int) ∈ tbW := tb2_in (List.mem_of_getElem? (i := 239) rfl) rfl
theorem nm_M_reaction : nmh y_M_reaction 0 := ⟨by decide +kernel, by decide +kernel, by decide +kernel⟩
theorem cd_M_open : Cond.code y_M_open b_M_open 2 (some .boolean) ∈ tbW := tb3_in (List.mem_of_getElem? (i := 7) rfl) rfl
theorem nm_M_open : nmh y_M_open 1 := ⟨by decide +kernel, by decide +kernel, by decide +kernel⟩
theorem cd_M_isChannel : Cond.code y_M_isChannel b_M_isChannel 2 (some .boolean) ∈ tbW := tb3_in (List.mem_of_getElem? (i := 11) rfl) rfl
theorem nm_M_isChannel : nmh y_M_isChannel 1 := ⟨by decide +kernel, by decide +kernel, by decide +kernel⟩
theorem cd_M_hasPart : Cond.code y_M_hasPart b_M_hasPart 3 (some .boolean) ∈ tbW := tb3_in (List.mem_of_getElem? (i := 27) rfl) rfl
theorem nm_M_hasPart : nmh y_M_hasPart 2 := ⟨by decide +kernel, by decide +kernel, by decide +kernel⟩
theorem cd_M_part : Cond.code y_M_part b_M_part 6 (some .int) ∈ tbW := tb3_in (List.mem_of_getElem? (i := 3) rfl) rfl
theorem nm_M_part : nmh y_M_part 4 := ⟨by decide +kernel, by decide +kernel, by decide +kernel⟩
theorem cd_M_guard : Cond.code y_M_guard b_M_guard 4 (some .boolean) ∈ tbW := tb3_in (List.mem_of_getElem? (i := 15) rfl) rfl
theorem nm_M_guard : nmh y_M_guard 3 := ⟨by decide +kernel, by decide +kernel, by decide +kernel⟩
theorem cd_M_expression : Cond.code y_M_expression b_M_expression 4 (some .boolean) ∈ tbW := tb3_in (List.mem_of_getElem? (i := 23) rfl) rfl
theorem nm_M_expression : nmh y_M_expression 3 := ⟨by decide +kernel, by decide +kernel, by decide +kernel⟩
theorem cd_M_act : Cond.code y_M_act b_M_act 7 none ∈ tbW := tb3_in (List.mem_of_getElem? (i := 31) rfl) rfl
theorem nm_M_act : nmh y_M_act 5 := ⟨by decide +kernel, by decide +kernel, by decide +kernel⟩
theorem cd_M_emit : Cond.code y_M_emit b_M_emit 6 (some .boolean) ∈ tbW := tb3_in (List.mem_of_getElem? (i := 19) rfl) rfl
theorem nm_M_emit : nmh y_M_emit 5 := ⟨by decide +kernel, by decide +kernel, by decide +kernel⟩
theorem cd_M_answersPart : Cond.code y_M_answersPart b_M_answersPart 5 (some .boolean) ∈ tbW := tb3_in (List.mem_of_getElem? (i := 39) rfl) rfl
theorem nm_M_answersPart : nmh y_M_answersPart 2 := ⟨by decide +kernel, by decide +kernel, by decide +kernel⟩
theorem cd_M_reply : Cond.code y_M_reply b_M_reply 6 (some .boolean) ∈ tbW := tb3_in (List.mem_of_getElem? (i := 35) rfl) rfl
theorem nm_M_reply : nmh y_M_reply 5 := ⟨by decide +kernel, by decide +kernel, by decide +kernel⟩
theorem cd_M_seal : Cond.code y_M_seal b_M_seal 5 (some .int) ∈ tbW := tb3_in (List.mem_of_getElem? (i := 43) rfl) rfl
theorem nm_M_seal : nmh y_M_seal 0 := ⟨by decide +kernel, by decide +kernel, by decide +kernel⟩
theorem cd_M_make : Cond.code y_M_make b_M_make 3 (some .int) ∈ tbW := tb3_in (List.mem_of_getElem? (i := 59) rfl) rfl
theorem nm_M_make : nmh y_M_make 2 := ⟨by decide +kernel, by decide +kernel, by decide +kernel⟩
theorem cd_M_gather : Cond.code y_M_gather b_M_gather 3 none ∈ tbW := tb3_in (List.mem_of_getElem? (i := 55) rfl) rfl
theorem nm_M_gather : nmh y_M_gather 0 := ⟨by decide +kernel, by decide +kernel, by decide +kernel⟩
theorem cd_M_enter : Cond.code y_M_enter b_M_enter 4 (some .int) ∈ tbW := tb3_in (List.mem_of_getElem? (i := 51) rfl) rfl
theorem nm_M_enter : nmh y_M_enter 3 := ⟨by decide +kernel, by decide +kernel, by decide +kernel⟩
theorem cd_M_put : Cond.code y_M_put b_M_put 3 (some .int) ∈ tbW := tb3_in (List.mem_of_getElem? (i := 47) rfl) rfl
theorem nm_M_put : nmh y_M_put 2 := ⟨by decide +kernel, by decide +kernel, by decide +kernel⟩
theorem cd_M_call : Cond.code y_M_call b_M_call 3 (some .int) ∈ tbW := tb3_in (List.mem_of_getElem? (i := 63) rfl) rfl
theorem nm_M_call : nmh y_M_call 2 := ⟨by decide +kernel, by decide +kernel, by decide +kernel⟩
theorem cd_M_isMessage : Cond.code y_M_isMessage b_M_isMessage 2 (some .boolean) ∈ tbW := tb3_in (List.mem_of_getElem? (i := 71) rfl) rfl
theorem nm_M_isMessage : nmh y_M_isMessage 1 := ⟨by decide +kernel, by decide +kernel, by decide +kernel⟩
theorem cd_M_withdraw : Cond.code y_M_withdraw b_M_withdraw 2 (some .boolean) ∈ tbW := tb3_in (List.mem_of_getElem? (i := 67) rfl) rfl
theorem nm_M_withdraw : nmh y_M_withdraw 1 := ⟨by decide +kernel, by decide +kernel, by decide +kernel⟩
theorem cd_M_passes : Cond.code y_M_passes b_M_passes 5 (some .boolean) ∈ tbW := tb3_in (List.mem_of_getElem? (i := 95) rfl) rfl
theorem nm_M_passes : nmh y_M_passes 2 := ⟨by decide +kernel, by decide +kernel, by decide +kernel⟩
theorem cd_M_guarded : Cond.code y_M_guarded b_M_guarded 11 (some .boolean) ∈ tbW := tb3_in (List.mem_of_getElem? (i := 99) rfl) rfl
theorem nm_M_guarded : nmh y_M_guarded 1 := ⟨by decide +kernel, by decide +kernel, by decide +kernel⟩
theorem cd_M_chosen : Cond.code y_M_chosen b_M_chosen 3 (some .int) ∈ tbW := tb3_in (List.mem_of_getElem? (i := 91) rfl) rfl
theorem nm_M_chosen : nmh y_M_chosen 2 := ⟨by decide +kernel, by decide +kernel, by decide +kernel⟩
theorem cd_M_matches : Cond.code y_M_matches b_M_matches 6 (some .boolean) ∈ tbW := tb3_in (List.mem_of_getElem? (i := 87) rfl) rfl
theorem nm_M_matches : nmh y_M_matches 1 := ⟨by decide +kernel, by decide +kernel, by decide +kernel⟩
theorem cd_M_find : Cond.code y_M_find b_M_find 7 (some .boolean) ∈ tbW := tb3_in (List.mem_of_getElem? (i := 83) rfl) rfl
theorem nm_M_find : nmh y_M_find 1 := ⟨by decide +kernel, by decide +kernel, by decide +kernel⟩
theorem cd_M_room : Cond.code y_M_room b_M_room 8 (some .boolean) ∈ tbW := tb3_in (List.mem_of_getElem? (i := 79) rfl) rfl
theorem nm_M_room : nmh y_M_room 1 := ⟨by decide +kernel, by decide +kernel, by decide +kernel⟩
theorem cd_M_enabled : Cond.code y_M_enabled b_M_enabled 3 (some .int) ∈ tbW := tb3_in (List.mem_of_getElem? (i := 75) rfl) rfl
theorem nm_M_enabled : nmh y_M_enabled 0 := ⟨by decide +kernel, by decide +kernel, by decide +kernel⟩
theorem cd_M_next : Cond.code y_M_next b_M_next 5 (some .int) ∈ tbW := tb3_in (List.mem_of_getElem? (i := 103) rfl) rfl
theorem nm_M_next : nmh y_M_next 0 := ⟨by decide +kernel, by decide +kernel, by decide +kernel⟩
theorem cd_M_taken : Cond.code y_M_taken b_M_taken 3 (some .int) ∈ tbW := tb3_in (List.mem_of_getElem? (i := 108) rfl) rfl
theorem nm_M_taken : nmh y_M_taken 1 := ⟨by decide +kernel, by decide +kernel, by decide +kernel⟩
theorem cd_M_result : Cond.code y_M_result b_M_result 7 (some .int) ∈ tbW := tb3_in (List.mem_of_getElem? (i := 121) rfl) rfl
theorem nm_M_result : nmh y_M_result 2 := ⟨by decide +kernel, by decide +kernel, by decide +kernel⟩
theorem cd_M_fire : Cond.code y_M_fire b_M_fire 5 none ∈ tbW := tb3_in (List.mem_of_getElem? (i := 117) rfl) rfl
theorem nm_M_fire : nmh y_M_fire 1 := ⟨by decide +kernel, by decide +kernel, by decide +kernel⟩
theorem cd_M_react : Cond.code y_M_react b_M_react 4 (some .int) ∈ tbW := tb3_in (List.mem_of_getElem? (i := 113) rfl) rfl
theorem nm_M_react : nmh y_M_react 1 := ⟨by decide +kernel, by decide +kernel, by decide +kernel⟩
theorem cd_M_pendingAt : Cond.code y_M_pendingAt b_M_pendingAt 3 (some .int) ∈ tbW := tb3_in (List.mem_of_getElem? (i := 125) rfl) rfl
theorem nm_M_pendingAt : nmh y_M_pendingAt 2 := ⟨by decide +kernel, by decide +kernel, by decide +kernel⟩
theorem cd_M_value : Cond.code y_M_value b_M_value 2 (some .int) ∈ tbW := tb3_in (List.mem_of_getElem? (i := 129) rfl) rfl
theorem nm_M_value : nmh y_M_value 1 := ⟨by decide +kernel, by decide +kernel, by decide +kernel⟩
theorem cd_M_state : Cond.code y_M_state b_M_state 2 (some .int) ∈ tbW := tb3_in (List.mem_of_getElem? (i := 133) rfl) rfl
theorem nm_M_state : nmh y_M_state 1 := ⟨by decide +kernel, by decide +kernel, by decide +kernel⟩
theorem cd_M_consumer : Cond.code y_M_consumer b_M_consumer 2 (some .int) ∈ tbW := tb3_in (List.mem_of_getElem? (i := 137) rfl) rfl
theorem nm_M_consumer : nmh y_M_consumer 1 := ⟨by decide +kernel, by decide +kernel, by decide +kernel⟩
theorem cd_M_answer : Cond.code y_M_answer b_M_answer 2 (some .int) ∈ tbW := tb3_in (List.mem_of_getElem? (i := 141) rfl) rfl
theorem nm_M_answer : nmh y_M_answer 1 := ⟨by decide +kernel, by decide +kernel, by decide +kernel⟩
theorem cd_M_fired : Cond.code y_M_fired b_M_fired 2 (some .int) ∈ tbW := tb3_in (List.mem_of_getElem? (i := 145) rfl) rfl
theorem nm_M_fired : nmh y_M_fired 1 := ⟨by decide +kernel, by decide +kernel, by decide +kernel⟩
theorem cd_Ch_addPending : Cond.code y_Ch_addPending b_Ch_addPending 2 none ∈ tbW := tb2_in (List.mem_of_getElem? (i := 15) rfl) rfl
theorem nm_Ch_addPending : nmh y_Ch_addPending 1 := ⟨by decide +kernel, by decide +kernel, by decide +kernel⟩
theorem cd_Ch_removePending : Cond.code y_Ch_removePending b_Ch_removePending 4 none ∈ tbW := tb2_in (List.mem_of_getElem? (i := 31) rfl) rfl
theorem nm_Ch_removePending : nmh y_Ch_removePending 1 := ⟨by decide +kernel, by decide +kernel, by decide +kernel⟩
theorem cd_Mt_holdsBefore : Cond.code y_Mt_holdsBefore b_Mt_holdsBefore 4 (some .boolean) ∈ tbW := tb2_in (List.mem_of_getElem? (i := 86) rfl) rfl
theorem nm_Mt_holdsBefore : nmh y_Mt_holdsBefore 2 := ⟨by decide +kernel, by decide +kernel, by decide +kernel⟩
theorem cd_Ms_has : Cond.code y_Ms_has b_Ms_has 2 (some .boolean) ∈ tbW := tb2_in (List.mem_of_getElem? (i := 27) rfl) rfl
theorem nm_Ms_has : nmh y_Ms_has 1 := ⟨by decide +kernel, by decide +kernel, by decide +kernel⟩
theorem cd_Ms_add : Cond.code y_Ms_add b_Ms_add 4 (some .int) ∈ tbW := tb2_in (List.mem_of_getElem? (i := 11) rfl) rfl
theorem nm_Ms_add : nmh y_Ms_add 2 := ⟨by decide +kernel, by decide +kernel, by decide +kernel⟩
theorem cd_Re_addPart : Cond.code y_Re_addPart b_Re_addPart 5 (some .int) ∈ tbW := tb1_in (List.mem_of_getElem? (i := 189) rfl) rfl
theorem nm_Re_addPart : nmh y_Re_addPart 3 := ⟨by decide +kernel, by decide +kernel, by decide +kernel⟩
theorem cd_Re_hasPart : Cond.code y_Re_hasPart b_Re_hasPart 2 (some .boolean) ∈ tbW := tb1_in (List.mem_of_getElem? (i := 210) rfl) rfl
theorem nm_Re_hasPart : nmh y_Re_hasPart 1 := ⟨by decide +kernel, by decide +kernel, by decide +kernel⟩
theorem cd_Re_mayAddAction : Cond.code y_Re_mayAddAction b_Re_mayAddAction 4 (some .boolean) ∈ tbW := tb1_in (List.mem_of_getElem? (i := 205) rfl) rfl
theorem nm_Re_mayAddAction : nmh y_Re_mayAddAction 2 := ⟨by decide +kernel, by decide +kernel, by decide +kernel⟩
theorem cd_Re_addAction : Cond.code y_Re_addAction b_Re_addAction 7 none ∈ tbW := tb1_in (List.mem_of_getElem? (i := 214) rfl) rfl
theorem nm_Re_addAction : nmh y_Re_addAction 5 := ⟨by decide +kernel, by decide +kernel, by decide +kernel⟩
theorem cd_Re_hasReplyTo : Cond.code y_Re_hasReplyTo b_Re_hasReplyTo 3 (some .boolean) ∈ tbW := tb1_in (List.mem_of_getElem? (i := 223) rfl) rfl
theorem nm_Re_hasReplyTo : nmh y_Re_hasReplyTo 1 := ⟨by decide +kernel, by decide +kernel, by decide +kernel⟩
theorem cd_Re_partsOn : Cond.code y_Re_partsOn b_Re_partsOn 4 (some .int) ∈ tbW := tb2_in (List.mem_of_getElem? (i := 55) rfl) rfl
theorem nm_Re_partsOn : nmh y_Re_partsOn 1 := ⟨by decide +kernel, by decide +kernel, by decide +kernel⟩
theorem cd_Re_sendCount : Cond.code y_Re_sendCount b_Re_sendCount 3 (some .int) ∈ tbW := tb2_in (List.mem_of_getElem? (i := 51) rfl) rfl
theorem nm_Re_sendCount : nmh y_Re_sendCount 0 := ⟨by decide +kernel, by decide +kernel, by decide +kernel⟩
theorem cd_Re_sendsTo : Cond.code y_Re_sendsTo b_Re_sendsTo 4 (some .int) ∈ tbW := tb2_in (List.mem_of_getElem? (i := 59) rfl) rfl
theorem nm_Re_sendsTo : nmh y_Re_sendsTo 1 := ⟨by decide +kernel, by decide +kernel, by decide +kernel⟩
theorem cd_Re_passesTest : Cond.code y_Re_passesTest b_Re_passesTest 4 (some .boolean) ∈ tbW := tb2_in (List.mem_of_getElem? (i := 82) rfl) rfl
theorem nm_Re_passesTest : nmh y_Re_passesTest 2 := ⟨by decide +kernel, by decide +kernel, by decide +kernel⟩
theorem cd_Re_guardHolds : Cond.code y_Re_guardHolds b_Re_guardHolds 2 (some .boolean) ∈ tbW := tb2_in (List.mem_of_getElem? (i := 66) rfl) rfl
theorem nm_Re_guardHolds : nmh y_Re_guardHolds 1 := ⟨by decide +kernel, by decide +kernel, by decide +kernel⟩
theorem cd_Re_evaluate : Cond.code y_Re_evaluate b_Re_evaluate 4 (some .int) ∈ tbW := tb2_in (List.mem_of_getElem? (i := 98) rfl) rfl
theorem nm_Re_evaluate : nmh y_Re_evaluate 2 := ⟨by decide +kernel, by decide +kernel, by decide +kernel⟩
theorem lk1 : Cond.fieldLink R_V 28 "JoinVessel" "isSealed" "Z" ∈ tbW := tb1_in (List.mem_of_getElem? (i := 139) rfl) rfl
theorem lk2 : Cond.fieldLink R_V 15 "JoinVessel" "channelCount" "I" ∈ tbW := tb1_in (List.mem_of_getElem? (i := 136) rfl) rfl
theorem lk3 : Cond.fieldLink R_V 11 "JoinVessel" "channels" "[LJoinVessel$Channel;" ∈ tbW := tb1_in (List.mem_of_getElem? (i := 135) rfl) rfl
theorem lk4 : Cond.fieldLinkNest R_V 55 "JoinVessel$Channel" "isAnswered" "Z" "JoinVessel" ∈ tbW := tb1_in (List.mem_of_getElem? (i := 73) rfl) rfl
theorem lk5 : Cond.fieldLink R_V 25 "JoinVessel" "reactionCount" "I" ∈ tbW := tb1_in (List.mem_of_getElem? (i := 138) rfl) rfl
theorem lk6 : Cond.fieldLink R_Re 9 "JoinVessel$Reaction" "partCount" "I" ∈ tbW := tb1_in (List.mem_of_getElem? (i := 90) rfl) rfl
theorem lk7 : Cond.fieldLink R_Re 15 "JoinVessel$Reaction" "partChannels" "[I" ∈ tbW := tb1_in (List.mem_of_getElem? (i := 92) rfl) rfl
theorem lk8 : Cond.fieldLink R_Re 19 "JoinVessel$Reaction" "partTests" "[I" ∈ tbW := tb1_in (List.mem_of_getElem? (i := 94) rfl) rfl
theorem lk9 : Cond.fieldLink R_Re 22 "JoinVessel$Reaction" "partNumbers" "[I" ∈ tbW := tb1_in (List.mem_of_getElem? (i := 95) rfl) rfl
theorem lk10 : Cond.methodLink R_V 58 y_V_mayBuild ∈ tbW := tb1_in (List.mem_of_getElem? (i := 175) rfl) rfl
theorem lk11 : Cond.initialized R_V ∈ tbW := tb1_in (List.mem_of_getElem? (i := 1) rfl) rfl
theorem lk12 : Cond.instanceMethod y_V_mayBuild ∈ tbW := tb1_in (List.mem_of_getElem? (i := 177) rfl) rfl
theorem lk13 : Cond.selects R_V y_V_mayBuild y_V_mayBuild ∈ tbW := tbs_in (List.mem_of_getElem? (i := 0) rfl) rfl
theorem lk14 : Cond.methodLink R_V 62 y_V_isChannel ∈ tbW := tb1_in (List.mem_of_getElem? (i := 179) rfl) rfl
theorem lk15 : Cond.instanceMethod y_V_isChannel ∈ tbW := tb1_in (List.mem_of_getElem? (i := 181) rfl) rfl
theorem lk16 : Cond.selects R_V y_V_isChannel y_V_isChannel ∈ tbW := tbs_in (List.mem_of_getElem? (i := 1) rfl) rfl
theorem lk17 : Cond.methodLink R_V 65 y_V_isWithin ∈ tbW := tb1_in (List.mem_of_getElem? (i := 183) rfl) rfl
theorem lk18 : Cond.static y_V_isWithin ∈ tbW := tb1_in (List.mem_of_getElem? (i := 184) rfl) rfl
theorem lk19 : Cond.fieldLink R_V 21 "JoinVessel" "reactions" "[LJoinVessel$Reaction;" ∈ tbW := tb1_in (List.mem_of_getElem? (i := 137) rfl) rfl
theorem lk20 : Cond.fieldLinkNest R_V 69 "JoinVessel$Reaction" "partCount" "I" "JoinVessel" ∈ tbW := tb1_in (List.mem_of_getElem? (i := 91) rfl) rfl
theorem lk21 : Cond.methodLinkNest R_V 72 y_Re_addPart "JoinVessel" ∈ tbW := tb1_in (List.mem_of_getElem? (i := 186) rfl) rfl
theorem lk22 : Cond.initialized R_Re ∈ tbW := tb1_in (List.mem_of_getElem? (i := 5) rfl) rfl
theorem lk23 : Cond.instanceMethod y_Re_addPart ∈ tbW := tb1_in (List.mem_of_getElem? (i := 188) rfl) rfl
theorem lk24 : Cond.selects R_Re y_Re_addPart y_Re_addPart ∈ tbW := tbs_in (List.mem_of_getElem? (i := 2) rfl) rfl
theorem lk25 : Cond.fieldLinkNest R_V 76 "JoinVessel$Reaction" "guardKind" "I" "JoinVessel" ∈ tbW := tb1_in (List.mem_of_getElem? (i := 97) rfl) rfl
theorem lk26 : Cond.fieldLinkNest R_V 79 "JoinVessel$Reaction" "guardNumber" "I" "JoinVessel" ∈ tbW := tb1_in (List.mem_of_getElem? (i := 99) rfl) rfl
theorem lk27 : Cond.methodLink R_Re 54 y_Re_hasPart ∈ tbW := tb1_in (List.mem_of_getElem? (i := 207) rfl) rfl
theorem lk28 : Cond.instanceMethod y_Re_hasPart ∈ tbW := tb1_in (List.mem_of_getElem? (i := 209) rfl) rfl
theorem lk29 : Cond.selects R_Re y_Re_hasPart y_Re_hasPart ∈ tbW := tbs_in (List.mem_of_getElem? (i := 5) rfl) rfl
theorem lk30 : Cond.methodLinkNest R_Re 50 y_V_isWithin "JoinVessel" ∈ tbW := tb1_in (List.mem_of_getElem? (i := 206) rfl) rfl
theorem lk31 : Cond.fieldLink R_Re 31 "JoinVessel$Reaction" "actionCount" "I" ∈ tbW := tb1_in (List.mem_of_getElem? (i := 100) rfl) rfl
theorem lk32 : Cond.fieldLink R_Re 34 "JoinVessel$Reaction" "actionSends" "[Z" ∈ tbW := tb1_in (List.mem_of_getElem? (i := 102) rfl) rfl
theorem lk33 : Cond.fieldLink R_Re 38 "JoinVessel$Reaction" "actionTargets" "[I" ∈ tbW := tb1_in (List.mem_of_getElem? (i := 104) rfl) rfl
theorem lk34 : Cond.fieldLink R_Re 41 "JoinVessel$Reaction" "actionKinds" "[I" ∈ tbW := tb1_in (List.mem_of_getElem? (i := 106) rfl) rfl
theorem lk35 : Cond.fieldLink R_Re 44 "JoinVessel$Reaction" "actionParts" "[I" ∈ tbW := tb1_in (List.mem_of_getElem? (i := 107) rfl) rfl
theorem lk36 : Cond.fieldLink R_Re 47 "JoinVessel$Reaction" "actionNumbers" "[I" ∈ tbW := tb1_in (List.mem_of_getElem? (i := 108) rfl) rfl
theorem lk37 : Cond.methodLink R_V 82 y_V_isChannelOf ∈ tbW := tb1_in (List.mem_of_getElem? (i := 198) rfl) rfl
theorem lk38 : Cond.instanceMethod y_V_isChannelOf ∈ tbW := tb1_in (List.mem_of_getElem? (i := 200) rfl) rfl
theorem lk39 : Cond.selects R_V y_V_isChannelOf y_V_isChannelOf ∈ tbW := tbs_in (List.mem_of_getElem? (i := 3) rfl) rfl
theorem lk40 : Cond.methodLinkNest R_V 86 y_Re_mayAddAction "JoinVessel" ∈ tbW := tb1_in (List.mem_of_getElem? (i := 202) rfl) rfl
theorem lk41 : Cond.instanceMethod y_Re_mayAddAction ∈ tbW := tb1_in (List.mem_of_getElem? (i := 204) rfl) rfl
theorem lk42 : Cond.selects R_Re y_Re_mayAddAction y_Re_mayAddAction ∈ tbW := tbs_in (List.mem_of_getElem? (i := 4) rfl) rfl
theorem lk43 : Cond.methodLinkNest R_V 89 y_Re_addAction "JoinVessel" ∈ tbW := tb1_in (List.mem_of_getElem? (i := 211) rfl) rfl
theorem lk44 : Cond.instanceMethod y_Re_addAction ∈ tbW := tb1_in (List.mem_of_getElem? (i := 213) rfl) rfl
theorem lk45 : Cond.selects R_Re y_Re_addAction y_Re_addAction ∈ tbW := tbs_in (List.mem_of_getElem? (i := 6) rfl) rfl
theorem lk46 : Cond.methodLinkNest R_V 93 y_Re_hasPart "JoinVessel" ∈ tbW := tb1_in (List.mem_of_getElem? (i := 219) rfl) rfl
theorem lk47 : Cond.fieldLinkNest R_V 96 "JoinVessel$Reaction" "partChannels" "[I" "JoinVessel" ∈ tbW := tb1_in (List.mem_of_getElem? (i := 93) rfl) rfl
theorem lk48 : Cond.methodLinkNest R_V 99 y_Re_hasReplyTo "JoinVessel" ∈ tbW := tb1_in (List.mem_of_getElem? (i := 220) rfl) rfl
theorem lk49 : Cond.instanceMethod y_Re_hasReplyTo ∈ tbW := tb1_in (List.mem_of_getElem? (i := 222) rfl) rfl
theorem lk50 : Cond.selects R_Re y_Re_hasReplyTo y_Re_hasReplyTo ∈ tbW := tbs_in (List.mem_of_getElem? (i := 7) rfl) rfl
theorem lk51 : Cond.methodLink R_V 150 y_V_leavesCallUnanswered ∈ tbW := tb1_in (List.mem_of_getElem? (i := 232) rfl) rfl
theorem lk52 : Cond.instanceMethod y_V_leavesCallUnanswered ∈ tbW := tb1_in (List.mem_of_getElem? (i := 234) rfl) rfl
theorem lk53 : Cond.selects R_V y_V_leavesCallUnanswered y_V_leavesCallUnanswered ∈ tbW := tbs_in (List.mem_of_getElem? (i := 9) rfl) rfl
theorem lk54 : Cond.methodLink R_V 102 y_V_obstacleToSealing ∈ tbW := tb1_in (List.mem_of_getElem? (i := 228) rfl) rfl
theorem lk55 : Cond.instanceMethod y_V_obstacleToSealing ∈ tbW := tb1_in (List.mem_of_getElem? (i := 230) rfl) rfl
theorem lk56 : Cond.selects R_V y_V_obstacleToSealing y_V_obstacleToSealing ∈ tbW := tbs_in (List.mem_of_getElem? (i := 8) rfl) rfl
theorem lk57 : Cond.fieldLink R_Ms 9 "JoinVessel$Messages" "count" "I" ∈ tbW := tb1_in (List.mem_of_getElem? (i := 26) rfl) rfl
theorem lk58 : Cond.fieldLink R_Ms 15 "JoinVessel$Messages" "channelNumbers" "[I" ∈ tbW := tb1_in (List.mem_of_getElem? (i := 28) rfl) rfl
theorem lk59 : Cond.fieldLink R_Ms 19 "JoinVessel$Messages" "values" "[I" ∈ tbW := tb1_in (List.mem_of_getElem? (i := 30) rfl) rfl
theorem lk60 : Cond.fieldLink R_Ms 22 "JoinVessel$Messages" "states" "[I" ∈ tbW := tb1_in (List.mem_of_getElem? (i := 32) rfl) rfl
theorem lk61 : Cond.fieldLink R_Ms 25 "JoinVessel$Messages" "consumers" "[I" ∈ tbW := tb1_in (List.mem_of_getElem? (i := 34) rfl) rfl
theorem lk62 : Cond.fieldLink R_Ch 15 "JoinVessel$Channel" "pendingNumbers" "[I" ∈ tbW := tb1_in (List.mem_of_getElem? (i := 74) rfl) rfl
theorem lk63 : Cond.fieldLink R_Ch 19 "JoinVessel$Channel" "pendingCount" "I" ∈ tbW := tb1_in (List.mem_of_getElem? (i := 76) rfl) rfl
theorem lk64 : Cond.fieldLink R_V 35 "JoinVessel" "messages" "LJoinVessel$Messages;" ∈ tbW := tb1_in (List.mem_of_getElem? (i := 140) rfl) rfl
theorem lk65 : Cond.methodLinkNest R_V 161 y_Ms_add "JoinVessel" ∈ tbW := tb2_in (List.mem_of_getElem? (i := 8) rfl) rfl
theorem lk66 : Cond.initialized R_Ms ∈ tbW := tb1_in (List.mem_of_getElem? (i := 2) rfl) rfl
theorem lk67 : Cond.instanceMethod y_Ms_add ∈ tbW := tb2_in (List.mem_of_getElem? (i := 10) rfl) rfl
theorem lk68 : Cond.selects R_Ms y_Ms_add y_Ms_add ∈ tbW := tbs_in (List.mem_of_getElem? (i := 12) rfl) rfl
theorem lk69 : Cond.methodLinkNest R_V 164 y_Ch_addPending "JoinVessel" ∈ tbW := tb2_in (List.mem_of_getElem? (i := 12) rfl) rfl
theorem lk70 : Cond.initialized R_Ch ∈ tbW := tb1_in (List.mem_of_getElem? (i := 4) rfl) rfl
theorem lk71 : Cond.instanceMethod y_Ch_addPending ∈ tbW := tb2_in (List.mem_of_getElem? (i := 14) rfl) rfl
theorem lk72 : Cond.selects R_Ch y_Ch_addPending y_Ch_addPending ∈ tbW := tbs_in (List.mem_of_getElem? (i := 13) rfl) rfl
theorem lk73 : Cond.fieldLinkNest R_V 135 "JoinVessel$Channel" "pendingCount" "I" "JoinVessel" ∈ tbW := tb1_in (List.mem_of_getElem? (i := 77) rfl) rfl
theorem lk74 : Cond.fieldLinkNest R_V 154 "JoinVessel$Messages" "count" "I" "JoinVessel" ∈ tbW := tb1_in (List.mem_of_getElem? (i := 27) rfl) rfl
theorem lk75 : Cond.methodLink R_V 157 y_V_makeMessage ∈ tbW := tb2_in (List.mem_of_getElem? (i := 4) rfl) rfl
theorem lk76 : Cond.instanceMethod y_V_makeMessage ∈ tbW := tb2_in (List.mem_of_getElem? (i := 6) rfl) rfl
theorem lk77 : Cond.selects R_V y_V_makeMessage y_V_makeMessage ∈ tbW := tbs_in (List.mem_of_getElem? (i := 11) rfl) rfl
theorem lk78 : Cond.methodLink R_V 106 y_V_admit ∈ tbW := tb2_in (List.mem_of_getElem? (i := 0) rfl) rfl
theorem lk79 : Cond.instanceMethod y_V_admit ∈ tbW := tb2_in (List.mem_of_getElem? (i := 2) rfl) rfl
theorem lk80 : Cond.selects R_V y_V_admit y_V_admit ∈ tbW := tbs_in (List.mem_of_getElem? (i := 10) rfl) rfl
theorem lk81 : Cond.methodLinkNest R_V 110 y_Ms_has "JoinVessel" ∈ tbW := tb2_in (List.mem_of_getElem? (i := 24) rfl) rfl
theorem lk82 : Cond.instanceMethod y_Ms_has ∈ tbW := tb2_in (List.mem_of_getElem? (i := 26) rfl) rfl
theorem lk83 : Cond.selects R_Ms y_Ms_has y_Ms_has ∈ tbW := tbs_in (List.mem_of_getElem? (i := 14) rfl) rfl
theorem lk84 : Cond.fieldLinkNest R_V 113 "JoinVessel$Messages" "states" "[I" "JoinVessel" ∈ tbW := tb1_in (List.mem_of_getElem? (i := 33) rfl) rfl
theorem lk85 : Cond.fieldLinkNest R_V 116 "JoinVessel$Messages" "channelNumbers" "[I" "JoinVessel" ∈ tbW := tb1_in (List.mem_of_getElem? (i := 29) rfl) rfl
theorem lk86 : Cond.methodLinkNest R_V 119 y_Ch_removePending "JoinVessel" ∈ tbW := tb2_in (List.mem_of_getElem? (i := 28) rfl) rfl
theorem lk87 : Cond.instanceMethod y_Ch_removePending ∈ tbW := tb2_in (List.mem_of_getElem? (i := 30) rfl) rfl
theorem lk88 : Cond.selects R_Ch y_Ch_removePending y_Ch_removePending ∈ tbW := tbs_in (List.mem_of_getElem? (i := 15) rfl) rfl
theorem lk89 : Cond.methodLinkNest R_V 177 y_Re_partsOn "JoinVessel" ∈ tbW := tb2_in (List.mem_of_getElem? (i := 52) rfl) rfl
theorem lk90 : Cond.instanceMethod y_Re_partsOn ∈ tbW := tb2_in (List.mem_of_getElem? (i := 54) rfl) rfl
theorem lk91 : Cond.selects R_Re y_Re_partsOn y_Re_partsOn ∈ tbW := tbs_in (List.mem_of_getElem? (i := 20) rfl) rfl
theorem lk92 : Cond.methodLinkNest R_V 181 y_Re_sendsTo "JoinVessel" ∈ tbW := tb2_in (List.mem_of_getElem? (i := 56) rfl) rfl
theorem lk93 : Cond.instanceMethod y_Re_sendsTo ∈ tbW := tb2_in (List.mem_of_getElem? (i := 58) rfl) rfl
theorem lk94 : Cond.selects R_Re y_Re_sendsTo y_Re_sendsTo ∈ tbW := tbs_in (List.mem_of_getElem? (i := 21) rfl) rfl
theorem lk95 : Cond.methodLinkNest R_V 174 y_Re_sendCount "JoinVessel" ∈ tbW := tb2_in (List.mem_of_getElem? (i := 48) rfl) rfl
theorem lk96 : Cond.instanceMethod y_Re_sendCount ∈ tbW := tb2_in (List.mem_of_getElem? (i := 50) rfl) rfl
theorem lk97 : Cond.selects R_Re y_Re_sendCount y_Re_sendCount ∈ tbW := tbs_in (List.mem_of_getElem? (i := 19) rfl) rfl
theorem lk98 : Cond.fieldLink R_Re 25 "JoinVessel$Reaction" "guardKind" "I" ∈ tbW := tb1_in (List.mem_of_getElem? (i := 96) rfl) rfl
theorem lk99 : Cond.methodLinkNest R_Re 58 y_V_allRise "JoinVessel" ∈ tbW := tb2_in (List.mem_of_getElem? (i := 67) rfl) rfl
theorem lk100 : Cond.static y_V_allRise ∈ tbW := tb2_in (List.mem_of_getElem? (i := 68) rfl) rfl
theorem lk101 : Cond.methodLinkNest R_Re 62 y_V_allEqual "JoinVessel" ∈ tbW := tb2_in (List.mem_of_getElem? (i := 70) rfl) rfl
theorem lk102 : Cond.static y_V_allEqual ∈ tbW := tb2_in (List.mem_of_getElem? (i := 71) rfl) rfl
theorem lk103 : Cond.methodLinkNest R_Re 65 y_V_allDiffer "JoinVessel" ∈ tbW := tb2_in (List.mem_of_getElem? (i := 73) rfl) rfl
theorem lk104 : Cond.static y_V_allDiffer ∈ tbW := tb2_in (List.mem_of_getElem? (i := 74) rfl) rfl
theorem lk105 : Cond.methodLinkNest R_Re 68 y_V_sum "JoinVessel" ∈ tbW := tb2_in (List.mem_of_getElem? (i := 76) rfl) rfl
theorem lk106 : Cond.static y_V_sum ∈ tbW := tb2_in (List.mem_of_getElem? (i := 77) rfl) rfl
theorem lk107 : Cond.fieldLink R_Re 28 "JoinVessel$Reaction" "guardNumber" "I" ∈ tbW := tb1_in (List.mem_of_getElem? (i := 98) rfl) rfl
theorem lk108 : Cond.fieldLink R_Mt 9 "JoinVessel$Match" "numbers" "[I" ∈ tbW := tb1_in (List.mem_of_getElem? (i := 58) rfl) rfl
theorem lk109 : Cond.fieldLinkNest R_V 138 "JoinVessel$Channel" "pendingNumbers" "[I" "JoinVessel" ∈ tbW := tb1_in (List.mem_of_getElem? (i := 75) rfl) rfl
theorem lk110 : Cond.fieldLinkNest R_V 141 "JoinVessel$Messages" "values" "[I" "JoinVessel" ∈ tbW := tb1_in (List.mem_of_getElem? (i := 31) rfl) rfl
theorem lk111 : Cond.methodLinkNest R_V 189 y_Re_passesTest "JoinVessel" ∈ tbW := tb2_in (List.mem_of_getElem? (i := 79) rfl) rfl
theorem lk112 : Cond.instanceMethod y_Re_passesTest ∈ tbW := tb2_in (List.mem_of_getElem? (i := 81) rfl) rfl
theorem lk113 : Cond.selects R_Re y_Re_passesTest y_Re_passesTest ∈ tbW := tbs_in (List.mem_of_getElem? (i := 23) rfl) rfl
theorem lk114 : Cond.methodLinkNest R_V 192 y_Mt_holdsBefore "JoinVessel" ∈ tbW := tb2_in (List.mem_of_getElem? (i := 83) rfl) rfl
theorem lk115 : Cond.initialized R_Mt ∈ tbW := tb1_in (List.mem_of_getElem? (i := 3) rfl) rfl
theorem lk116 : Cond.instanceMethod y_Mt_holdsBefore ∈ tbW := tb2_in (List.mem_of_getElem? (i := 85) rfl) rfl
theorem lk117 : Cond.selects R_Mt y_Mt_holdsBefore y_Mt_holdsBefore ∈ tbW := tbs_in (List.mem_of_getElem? (i := 24) rfl) rfl
theorem lk118 : Cond.fieldLinkNest R_V 132 "JoinVessel$Match" "numbers" "[I" "JoinVessel" ∈ tbW := tb1_in (List.mem_of_getElem? (i := 59) rfl) rfl
theorem lk119 : Cond.fieldLinkNest R_V 184 "JoinVessel$Match" "values" "[I" "JoinVessel" ∈ tbW := tb1_in (List.mem_of_getElem? (i := 61) rfl) rfl
theorem lk120 : Cond.methodLink R_V 170 y_V_fillMatch ∈ tbW := tb2_in (List.mem_of_getElem? (i := 60) rfl) rfl
theorem lk121 : Cond.static y_V_fillMatch ∈ tbW := tb2_in (List.mem_of_getElem? (i := 61) rfl) rfl
theorem lk122 : Cond.methodLinkNest R_V 185 y_Re_guardHolds "JoinVessel" ∈ tbW := tb2_in (List.mem_of_getElem? (i := 63) rfl) rfl
theorem lk123 : Cond.instanceMethod y_Re_guardHolds ∈ tbW := tb2_in (List.mem_of_getElem? (i := 65) rfl) rfl
theorem lk124 : Cond.selects R_Re y_Re_guardHolds y_Re_guardHolds ∈ tbW := tbs_in (List.mem_of_getElem? (i := 22) rfl) rfl
theorem lk125 : Cond.methodLink R_V 167 y_V_hasRoom ∈ tbW := tb2_in (List.mem_of_getElem? (i := 44) rfl) rfl
theorem lk126 : Cond.instanceMethod y_V_hasRoom ∈ tbW := tb2_in (List.mem_of_getElem? (i := 46) rfl) rfl
theorem lk127 : Cond.selects R_V y_V_hasRoom y_V_hasRoom ∈ tbW := tbs_in (List.mem_of_getElem? (i := 18) rfl) rfl
theorem lk128 : Cond.fieldLink R_V 42 "JoinVessel" "match" "LJoinVessel$Match;" ∈ tbW := tb1_in (List.mem_of_getElem? (i := 141) rfl) rfl
theorem lk129 : Cond.methodLink R_V 129 y_V_findEnabledMatch ∈ tbW := tb2_in (List.mem_of_getElem? (i := 40) rfl) rfl
theorem lk130 : Cond.instanceMethod y_V_findEnabledMatch ∈ tbW := tb2_in (List.mem_of_getElem? (i := 42) rfl) rfl
theorem lk131 : Cond.selects R_V y_V_findEnabledMatch y_V_findEnabledMatch ∈ tbW := tbs_in (List.mem_of_getElem? (i := 17) rfl) rfl
theorem lk132 : Cond.fieldLink R_V 50 "JoinVessel" "firingCount" "I" ∈ tbW := tb1_in (List.mem_of_getElem? (i := 143) rfl) rfl
theorem lk133 : Cond.fieldLink R_V 46 "JoinVessel" "firings" "[I" ∈ tbW := tb1_in (List.mem_of_getElem? (i := 142) rfl) rfl
theorem lk134 : Cond.fieldLinkNest R_V 144 "JoinVessel$Messages" "consumers" "[I" "JoinVessel" ∈ tbW := tb1_in (List.mem_of_getElem? (i := 35) rfl) rfl
theorem lk135 : Cond.methodLink R_V 212 Lib.Math.max.name ∈ tbW := tb2_in (List.mem_of_getElem? (i := 102) rfl) rfl
theorem lk136 : Cond.static Lib.Math.max.name ∈ tbW := tb2_in (List.mem_of_getElem? (i := 103) rfl) rfl
theorem lk137 : Cond.initialized "java/lang/Math" ∈ tbW := tb1_in (List.mem_of_getElem? (i := 7) rfl) rfl
theorem lk138 : Cond.code Lib.Math.max.name Lib.Math.max.code 2 (some .int) ∈ tbW := tb2_in (List.mem_of_getElem? (i := 104) rfl) rfl
theorem lk139 : Cond.methodLinkNest R_Re 72 y_V_greatest "JoinVessel" ∈ tbW := tb2_in (List.mem_of_getElem? (i := 99) rfl) rfl
theorem lk140 : Cond.static y_V_greatest ∈ tbW := tb2_in (List.mem_of_getElem? (i := 100) rfl) rfl
theorem lk141 : Cond.fieldLinkNest R_V 198 "JoinVessel$Reaction" "actionCount" "I" "JoinVessel" ∈ tbW := tb1_in (List.mem_of_getElem? (i := 101) rfl) rfl
theorem lk142 : Cond.methodLinkNest R_V 201 y_Re_evaluate "JoinVessel" ∈ tbW := tb2_in (List.mem_of_getElem? (i := 95) rfl) rfl
theorem lk143 : Cond.instanceMethod y_Re_evaluate ∈ tbW := tb2_in (List.mem_of_getElem? (i := 97) rfl) rfl
theorem lk144 : Cond.selects R_Re y_Re_evaluate y_Re_evaluate ∈ tbW := tbs_in (List.mem_of_getElem? (i := 27) rfl) rfl
theorem lk145 : Cond.fieldLinkNest R_V 205 "JoinVessel$Reaction" "actionSends" "[Z" "JoinVessel" ∈ tbW := tb1_in (List.mem_of_getElem? (i := 103) rfl) rfl
theorem lk146 : Cond.fieldLinkNest R_V 147 "JoinVessel$Messages" "answers" "[I" "JoinVessel" ∈ tbW := tb1_in (List.mem_of_getElem? (i := 37) rfl) rfl
theorem lk147 : Cond.fieldLinkNest R_V 209 "JoinVessel$Reaction" "actionTargets" "[I" "JoinVessel" ∈ tbW := tb1_in (List.mem_of_getElem? (i := 105) rfl) rfl
theorem lk148 : Cond.methodLink R_V 195 y_V_consume ∈ tbW := tb2_in (List.mem_of_getElem? (i := 91) rfl) rfl
theorem lk149 : Cond.instanceMethod y_V_consume ∈ tbW := tb2_in (List.mem_of_getElem? (i := 93) rfl) rfl
theorem lk150 : Cond.selects R_V y_V_consume y_V_consume ∈ tbW := tbs_in (List.mem_of_getElem? (i := 26) rfl) rfl
theorem lk151 : Cond.methodLink R_V 123 y_V_findNext ∈ tbW := tb2_in (List.mem_of_getElem? (i := 36) rfl) rfl
theorem lk152 : Cond.instanceMethod y_V_findNext ∈ tbW := tb2_in (List.mem_of_getElem? (i := 38) rfl) rfl
theorem lk153 : Cond.selects R_V y_V_findNext y_V_findNext ∈ tbW := tbs_in (List.mem_of_getElem? (i := 16) rfl) rfl
theorem lk154 : Cond.methodLink R_V 126 y_V_fire ∈ tbW := tb2_in (List.mem_of_getElem? (i := 87) rfl) rfl
theorem lk155 : Cond.instanceMethod y_V_fire ∈ tbW := tb2_in (List.mem_of_getElem? (i := 89) rfl) rfl
theorem lk156 : Cond.selects R_V y_V_fire y_V_fire ∈ tbW := tbs_in (List.mem_of_getElem? (i := 25) rfl) rfl
theorem lk157 : Cond.fieldLink R_M 80 "JoinVesselModel" "closed" "Z" ∈ tbW := tb2_in (List.mem_of_getElem? (i := 162) rfl) rfl
theorem lk158 : Cond.fieldLink R_M 84 "JoinVesselModel" "channels" "I" ∈ tbW := tb2_in (List.mem_of_getElem? (i := 147) rfl) rfl
theorem lk159 : Cond.fieldLink R_M 7 "JoinVesselModel" "answered" "[Z" ∈ tbW := tb2_in (List.mem_of_getElem? (i := 148) rfl) rfl
theorem lk160 : Cond.fieldLink R_M 88 "JoinVesselModel" "reactions" "I" ∈ tbW := tb2_in (List.mem_of_getElem? (i := 149) rfl) rfl
theorem lk161 : Cond.fieldLink R_M 13 "JoinVesselModel" "parts" "[I" ∈ tbW := tb2_in (List.mem_of_getElem? (i := 150) rfl) rfl
theorem lk162 : Cond.methodLink R_M 91 y_M_open ∈ tbW := tb3_in (List.mem_of_getElem? (i := 4) rfl) rfl
theorem lk163 : Cond.initialized R_M ∈ tbW := tb1_in (List.mem_of_getElem? (i := 6) rfl) rfl
theorem lk164 : Cond.instanceMethod y_M_open ∈ tbW := tb3_in (List.mem_of_getElem? (i := 6) rfl) rfl
theorem lk165 : Cond.selects R_M y_M_open y_M_open ∈ tbW := tbs_in (List.mem_of_getElem? (i := 28) rfl) rfl
theorem lk166 : Cond.methodLink R_M 95 y_M_isChannel ∈ tbW := tb3_in (List.mem_of_getElem? (i := 8) rfl) rfl
theorem lk167 : Cond.instanceMethod y_M_isChannel ∈ tbW := tb3_in (List.mem_of_getElem? (i := 10) rfl) rfl
theorem lk168 : Cond.selects R_M y_M_isChannel y_M_isChannel ∈ tbW := tbs_in (List.mem_of_getElem? (i := 29) rfl) rfl
theorem lk169 : Cond.fieldLink R_M 17 "JoinVesselModel" "partChannel" "[I" ∈ tbW := tb2_in (List.mem_of_getElem? (i := 151) rfl) rfl
theorem lk170 : Cond.fieldLink R_M 20 "JoinVesselModel" "partTest" "[I" ∈ tbW := tb2_in (List.mem_of_getElem? (i := 152) rfl) rfl
theorem lk171 : Cond.fieldLink R_M 23 "JoinVesselModel" "partNumber" "[I" ∈ tbW := tb2_in (List.mem_of_getElem? (i := 153) rfl) rfl
theorem lk172 : Cond.fieldLink R_M 26 "JoinVesselModel" "guardKind" "[I" ∈ tbW := tb2_in (List.mem_of_getElem? (i := 154) rfl) rfl
theorem lk173 : Cond.fieldLink R_M 29 "JoinVesselModel" "guardNumber" "[I" ∈ tbW := tb2_in (List.mem_of_getElem? (i := 155) rfl) rfl
theorem lk174 : Cond.methodLink R_M 98 y_M_hasPart ∈ tbW := tb3_in (List.mem_of_getElem? (i := 24) rfl) rfl
theorem lk175 : Cond.instanceMethod y_M_hasPart ∈ tbW := tb3_in (List.mem_of_getElem? (i := 26) rfl) rfl
theorem lk176 : Cond.selects R_M y_M_hasPart y_M_hasPart ∈ tbW := tbs_in (List.mem_of_getElem? (i := 31) rfl) rfl
theorem lk177 : Cond.fieldLink R_M 32 "JoinVesselModel" "actions" "[I" ∈ tbW := tb2_in (List.mem_of_getElem? (i := 156) rfl) rfl
theorem lk178 : Cond.fieldLink R_M 35 "JoinVesselModel" "target" "[I" ∈ tbW := tb2_in (List.mem_of_getElem? (i := 157) rfl) rfl
theorem lk179 : Cond.fieldLink R_M 38 "JoinVesselModel" "replied" "[I" ∈ tbW := tb2_in (List.mem_of_getElem? (i := 158) rfl) rfl
theorem lk180 : Cond.fieldLink R_M 41 "JoinVesselModel" "kind" "[I" ∈ tbW := tb2_in (List.mem_of_getElem? (i := 159) rfl) rfl
theorem lk181 : Cond.fieldLink R_M 44 "JoinVesselModel" "which" "[I" ∈ tbW := tb2_in (List.mem_of_getElem? (i := 160) rfl) rfl
theorem lk182 : Cond.methodLink R_M 102 y_M_expression ∈ tbW := tb3_in (List.mem_of_getElem? (i := 20) rfl) rfl
theorem lk183 : Cond.instanceMethod y_M_expression ∈ tbW := tb3_in (List.mem_of_getElem? (i := 22) rfl) rfl
theorem lk184 : Cond.selects R_M y_M_expression y_M_expression ∈ tbW := tbs_in (List.mem_of_getElem? (i := 30) rfl) rfl
theorem lk185 : Cond.fieldLink R_M 47 "JoinVesselModel" "number" "[I" ∈ tbW := tb2_in (List.mem_of_getElem? (i := 161) rfl) rfl
theorem lk186 : Cond.methodLink R_M 106 y_M_act ∈ tbW := tb3_in (List.mem_of_getElem? (i := 28) rfl) rfl
theorem lk187 : Cond.instanceMethod y_M_act ∈ tbW := tb3_in (List.mem_of_getElem? (i := 30) rfl) rfl
theorem lk188 : Cond.selects R_M y_M_act y_M_act ∈ tbW := tbs_in (List.mem_of_getElem? (i := 32) rfl) rfl
theorem lk189 : Cond.methodLink R_M 110 y_M_answersPart ∈ tbW := tb3_in (List.mem_of_getElem? (i := 36) rfl) rfl
theorem lk190 : Cond.instanceMethod y_M_answersPart ∈ tbW := tb3_in (List.mem_of_getElem? (i := 38) rfl) rfl
theorem lk191 : Cond.selects R_M y_M_answersPart y_M_answersPart ∈ tbW := tbs_in (List.mem_of_getElem? (i := 33) rfl) rfl
theorem lk192 : Cond.fieldLink R_M 50 "JoinVesselModel" "channelOf" "[I" ∈ tbW := tb2_in (List.mem_of_getElem? (i := 164) rfl) rfl
theorem lk193 : Cond.fieldLink R_M 113 "JoinVesselModel" "made" "I" ∈ tbW := tb2_in (List.mem_of_getElem? (i := 163) rfl) rfl
theorem lk194 : Cond.fieldLink R_M 53 "JoinVesselModel" "values" "[I" ∈ tbW := tb2_in (List.mem_of_getElem? (i := 165) rfl) rfl
theorem lk195 : Cond.fieldLink R_M 56 "JoinVesselModel" "states" "[I" ∈ tbW := tb2_in (List.mem_of_getElem? (i := 166) rfl) rfl
theorem lk196 : Cond.fieldLink R_M 59 "JoinVesselModel" "consumers" "[I" ∈ tbW := tb2_in (List.mem_of_getElem? (i := 167) rfl) rfl
theorem lk197 : Cond.fieldLink R_M 68 "JoinVesselModel" "gathered" "[I" ∈ tbW := tb2_in (List.mem_of_getElem? (i := 171) rfl) rfl
theorem lk198 : Cond.fieldLink R_M 71 "JoinVesselModel" "count" "[I" ∈ tbW := tb2_in (List.mem_of_getElem? (i := 172) rfl) rfl
theorem lk199 : Cond.methodLink R_M 116 y_M_gather ∈ tbW := tb3_in (List.mem_of_getElem? (i := 52) rfl) rfl
theorem lk200 : Cond.instanceMethod y_M_gather ∈ tbW := tb3_in (List.mem_of_getElem? (i := 54) rfl) rfl
theorem lk201 : Cond.selects R_M y_M_gather y_M_gather ∈ tbW := tbs_in (List.mem_of_getElem? (i := 35) rfl) rfl
theorem lk202 : Cond.methodLink R_M 119 y_M_make ∈ tbW := tb3_in (List.mem_of_getElem? (i := 56) rfl) rfl
theorem lk203 : Cond.instanceMethod y_M_make ∈ tbW := tb3_in (List.mem_of_getElem? (i := 58) rfl) rfl
theorem lk204 : Cond.selects R_M y_M_make y_M_make ∈ tbW := tbs_in (List.mem_of_getElem? (i := 36) rfl) rfl
theorem lk205 : Cond.methodLink R_M 123 y_M_enter ∈ tbW := tb3_in (List.mem_of_getElem? (i := 48) rfl) rfl
theorem lk206 : Cond.instanceMethod y_M_enter ∈ tbW := tb3_in (List.mem_of_getElem? (i := 50) rfl) rfl
theorem lk207 : Cond.selects R_M y_M_enter y_M_enter ∈ tbW := tbs_in (List.mem_of_getElem? (i := 34) rfl) rfl
theorem lk208 : Cond.methodLink R_M 127 y_M_isMessage ∈ tbW := tb3_in (List.mem_of_getElem? (i := 68) rfl) rfl
theorem lk209 : Cond.instanceMethod y_M_isMessage ∈ tbW := tb3_in (List.mem_of_getElem? (i := 70) rfl) rfl
theorem lk210 : Cond.selects R_M y_M_isMessage y_M_isMessage ∈ tbW := tbs_in (List.mem_of_getElem? (i := 37) rfl) rfl
theorem lk211 : Cond.fieldLink R_M 77 "JoinVesselModel" "tried" "[I" ∈ tbW := tb2_in (List.mem_of_getElem? (i := 174) rfl) rfl
theorem lk212 : Cond.fieldLink R_M 74 "JoinVesselModel" "digit" "[I" ∈ tbW := tb2_in (List.mem_of_getElem? (i := 173) rfl) rfl
theorem lk213 : Cond.methodLink R_M 130 y_M_chosen ∈ tbW := tb3_in (List.mem_of_getElem? (i := 88) rfl) rfl
theorem lk214 : Cond.instanceMethod y_M_chosen ∈ tbW := tb3_in (List.mem_of_getElem? (i := 90) rfl) rfl
theorem lk215 : Cond.selects R_M y_M_chosen y_M_chosen ∈ tbW := tbs_in (List.mem_of_getElem? (i := 41) rfl) rfl
theorem lk216 : Cond.methodLink R_M 136 y_M_guarded ∈ tbW := tb3_in (List.mem_of_getElem? (i := 96) rfl) rfl
theorem lk217 : Cond.instanceMethod y_M_guarded ∈ tbW := tb3_in (List.mem_of_getElem? (i := 98) rfl) rfl
theorem lk218 : Cond.selects R_M y_M_guarded y_M_guarded ∈ tbW := tbs_in (List.mem_of_getElem? (i := 43) rfl) rfl
theorem lk219 : Cond.methodLink R_M 133 y_M_passes ∈ tbW := tb3_in (List.mem_of_getElem? (i := 92) rfl) rfl
theorem lk220 : Cond.instanceMethod y_M_passes ∈ tbW := tb3_in (List.mem_of_getElem? (i := 94) rfl) rfl
theorem lk221 : Cond.selects R_M y_M_passes y_M_passes ∈ tbW := tbs_in (List.mem_of_getElem? (i := 42) rfl) rfl
theorem lk222 : Cond.methodLink R_M 139 y_M_matches ∈ tbW := tb3_in (List.mem_of_getElem? (i := 84) rfl) rfl
theorem lk223 : Cond.instanceMethod y_M_matches ∈ tbW := tb3_in (List.mem_of_getElem? (i := 86) rfl) rfl
theorem lk224 : Cond.selects R_M y_M_matches y_M_matches ∈ tbW := tbs_in (List.mem_of_getElem? (i := 40) rfl) rfl
theorem lk225 : Cond.methodLink R_M 142 y_M_room ∈ tbW := tb3_in (List.mem_of_getElem? (i := 76) rfl) rfl
theorem lk226 : Cond.instanceMethod y_M_room ∈ tbW := tb3_in (List.mem_of_getElem? (i := 78) rfl) rfl
theorem lk227 : Cond.selects R_M y_M_room y_M_room ∈ tbW := tbs_in (List.mem_of_getElem? (i := 38) rfl) rfl
theorem lk228 : Cond.methodLink R_M 145 y_M_find ∈ tbW := tb3_in (List.mem_of_getElem? (i := 80) rfl) rfl
theorem lk229 : Cond.instanceMethod y_M_find ∈ tbW := tb3_in (List.mem_of_getElem? (i := 82) rfl) rfl
theorem lk230 : Cond.selects R_M y_M_find y_M_find ∈ tbW := tbs_in (List.mem_of_getElem? (i := 39) rfl) rfl
theorem lk231 : Cond.methodLink R_M 148 y_M_enabled ∈ tbW := tb3_in (List.mem_of_getElem? (i := 104) rfl) rfl
theorem lk232 : Cond.instanceMethod y_M_enabled ∈ tbW := tb3_in (List.mem_of_getElem? (i := 73) rfl) rfl
theorem lk233 : Cond.selects R_M y_M_enabled y_M_enabled ∈ tbW := tb3_in (List.mem_of_getElem? (i := 74) rfl) rfl
theorem lk234 : Cond.fieldLink R_M 152 "JoinVesselModel" "firings" "I" ∈ tbW := tb2_in (List.mem_of_getElem? (i := 169) rfl) rfl
theorem lk235 : Cond.fieldLink R_M 65 "JoinVesselModel" "firedBy" "[I" ∈ tbW := tb2_in (List.mem_of_getElem? (i := 170) rfl) rfl
theorem lk236 : Cond.methodLink R_M 155 y_M_next ∈ tbW := tb3_in (List.mem_of_getElem? (i := 109) rfl) rfl
theorem lk237 : Cond.instanceMethod y_M_next ∈ tbW := tb3_in (List.mem_of_getElem? (i := 101) rfl) rfl
theorem lk238 : Cond.selects R_M y_M_next y_M_next ∈ tbW := tb3_in (List.mem_of_getElem? (i := 102) rfl) rfl
theorem lk239 : Cond.methodLink R_M 158 y_M_result ∈ tbW := tb3_in (List.mem_of_getElem? (i := 118) rfl) rfl
theorem lk240 : Cond.instanceMethod y_M_result ∈ tbW := tb3_in (List.mem_of_getElem? (i := 120) rfl) rfl
theorem lk241 : Cond.selects R_M y_M_result y_M_result ∈ tbW := tbs_in (List.mem_of_getElem? (i := 45) rfl) rfl
theorem lk242 : Cond.fieldLink R_M 62 "JoinVesselModel" "answers" "[I" ∈ tbW := tb2_in (List.mem_of_getElem? (i := 168) rfl) rfl
theorem lk243 : Cond.methodLink R_M 161 y_M_fire ∈ tbW := tb3_in (List.mem_of_getElem? (i := 114) rfl) rfl
theorem lk244 : Cond.instanceMethod y_M_fire ∈ tbW := tb3_in (List.mem_of_getElem? (i := 116) rfl) rfl
theorem lk245 : Cond.selects R_M y_M_fire y_M_fire ∈ tbW := tbs_in (List.mem_of_getElem? (i := 44) rfl) rfl
theorem sw_1_4 {x : Int32} (e1 : ¬ x = 1) (e2 : ¬ x = 2) (e3 : ¬ x = 3) (e4 : ¬ x = 4) : x.toInt < 1 ∨ 4 < x.toInt := by
  have t1 : x.toInt ≠ 1 := fun e => e1 (Int32.toInt_inj.mp (e.trans (by decide)))
  have t2 : x.toInt ≠ 2 := fun e => e2 (Int32.toInt_inj.mp (e.trans (by decide)))
  have t3 : x.toInt ≠ 3 := fun e => e3 (Int32.toInt_inj.mp (e.trans (by decide)))
  have t4 : x.toInt ≠ 4 := fun e => e4 (Int32.toInt_inj.mp (e.trans (by decide)))
  omega
theorem sw_1_5 {x : Int32} (e1 : ¬ x = 1) (e2 : ¬ x = 2) (e3 : ¬ x = 3) (e4 : ¬ x = 4) (e5 : ¬ x = 5) : x.toInt < 1 ∨ 5 < x.toInt := by
  have t1 : x.toInt ≠ 1 := fun e => e1 (Int32.toInt_inj.mp (e.trans (by decide)))
  have t2 : x.toInt ≠ 2 := fun e => e2 (Int32.toInt_inj.mp (e.trans (by decide)))
  have t3 : x.toInt ≠ 3 := fun e => e3 (Int32.toInt_inj.mp (e.trans (by decide)))
  have t4 : x.toInt ≠ 4 := fun e => e4 (Int32.toInt_inj.mp (e.trans (by decide)))
  have t5 : x.toInt ≠ 5 := fun e => e5 (Int32.toInt_inj.mp (e.trans (by decide)))
  omega
end
section
theorem d_V_channel_0 : decode b_V_channel 0 = .ok (.aload_n 0, 1) := by decide +kernel
theorem d_V_channel_1 : decode b_V_channel 1 = .ok (.getfield 28, 3) := by decide +kernel
theorem d_V_channel_4 : decode b_V_channel 4 = .ok (.ifCond .ne 12, 3) := by decide +kernel
theorem d_V_channel_7 : decode b_V_channel 7 = .ok (.aload_n 0, 1) := by decide +kernel
theorem d_V_channel_8 : decode b_V_channel 8 = .ok (.getfield 15, 3) := by decide +kernel
theorem d_V_channel_11 : decode b_V_channel 11 = .ok (.bipush 8, 2) := by decide +kernel
theorem d_V_channel_13 : decode b_V_channel 13 = .ok (.if_icmp .lt 5, 3) := by decide +kernel
theorem d_V_channel_16 : decode b_V_channel 16 = .ok (.iconst (-1), 1) := by decide +kernel
theorem d_V_channel_17 : decode b_V_channel 17 = .ok (.ireturn, 1) := by decide +kernel
theorem d_V_channel_18 : decode b_V_channel 18 = .ok (.aload_n 0, 1) := by decide +kernel
theorem d_V_channel_19 : decode b_V_channel 19 = .ok (.getfield 11, 3) := by decide +kernel
theorem d_V_channel_22 : decode b_V_channel 22 = .ok (.aload_n 0, 1) := by decide +kernel
theorem d_V_channel_23 : decode b_V_channel 23 = .ok (.getfield 15, 3) := by decide +kernel
theorem d_V_channel_26 : decode b_V_channel 26 = .ok (.aaload, 1) := by decide +kernel
theorem d_V_channel_27 : decode b_V_channel 27 = .ok (.iload_n 1, 1) := by decide +kernel
theorem d_V_channel_28 : decode b_V_channel 28 = .ok (.putfield 55, 3) := by decide +kernel
theorem d_V_channel_31 : decode b_V_channel 31 = .ok (.aload_n 0, 1) := by decide +kernel
theorem d_V_channel_32 : decode b_V_channel 32 = .ok (.dup, 1) := by decide +kernel
theorem d_V_channel_33 : decode b_V_channel 33 = .ok (.getfield 15, 3) := by decide +kernel
theorem d_V_channel_36 : decode b_V_channel 36 = .ok (.iconst 1, 1) := by decide +kernel
theorem d_V_channel_37 : decode b_V_channel 37 = .ok (.iadd, 1) := by decide +kernel
theorem d_V_channel_38 : decode b_V_channel 38 = .ok (.putfield 15, 3) := by decide +kernel
theorem d_V_channel_41 : decode b_V_channel 41 = .ok (.aload_n 0, 1) := by decide +kernel
theorem d_V_channel_42 : decode b_V_channel 42 = .ok (.getfield 15, 3) := by decide +kernel
theorem d_V_channel_45 : decode b_V_channel 45 = .ok (.iconst 1, 1) := by decide +kernel
theorem d_V_channel_46 : decode b_V_channel 46 = .ok (.isub, 1) := by decide +kernel
theorem d_V_channel_47 : decode b_V_channel 47 = .ok (.ireturn, 1) := by decide +kernel
theorem d_V_reaction_0 : decode b_V_reaction 0 = .ok (.aload_n 0, 1) := by decide +kernel
theorem d_V_reaction_1 : decode b_V_reaction 1 = .ok (.getfield 28, 3) := by decide +kernel
theorem d_V_reaction_4 : decode b_V_reaction 4 = .ok (.ifCond .ne 12, 3) := by decide +kernel
theorem d_V_reaction_7 : decode b_V_reaction 7 = .ok (.aload_n 0, 1) := by decide +kernel
theorem d_V_reaction_8 : decode b_V_reaction 8 = .ok (.getfield 25, 3) := by decide +kernel
theorem d_V_reaction_11 : decode b_V_reaction 11 = .ok (.bipush 8, 2) := by decide +kernel
theorem d_V_reaction_13 : decode b_V_reaction 13 = .ok (.if_icmp .lt 5, 3) := by decide +kernel
theorem d_V_reaction_16 : decode b_V_reaction 16 = .ok (.iconst (-1), 1) := by decide +kernel
theorem d_V_reaction_17 : decode b_V_reaction 17 = .ok (.ireturn, 1) := by decide +kernel
theorem d_V_reaction_18 : decode b_V_reaction 18 = .ok (.aload_n 0, 1) := by decide +kernel
theorem d_V_reaction_19 : decode b_V_reaction 19 = .ok (.dup, 1) := by decide +kernel
theorem d_V_reaction_20 : decode b_V_reaction 20 = .ok (.getfield 25, 3) := by decide +kernel
theorem d_V_reaction_23 : decode b_V_reaction 23 = .ok (.iconst 1, 1) := by decide +kernel
theorem d_V_reaction_24 : decode b_V_reaction 24 = .ok (.iadd, 1) := by decide +kernel
theorem d_V_reaction_25 : decode b_V_reaction 25 = .ok (.putfield 25, 3) := by decide +kernel
theorem d_V_reaction_28 : decode b_V_reaction 28 = .ok (.aload_n 0, 1) := by decide +kernel
theorem d_V_reaction_29 : decode b_V_reaction 29 = .ok (.getfield 25, 3) := by decide +kernel
theorem d_V_reaction_32 : decode b_V_reaction 32 = .ok (.iconst 1, 1) := by decide +kernel
theorem d_V_reaction_33 : decode b_V_reaction 33 = .ok (.isub, 1) := by decide +kernel
theorem d_V_reaction_34 : decode b_V_reaction 34 = .ok (.ireturn, 1) := by decide +kernel
theorem d_V_mayBuild_0 : decode b_V_mayBuild 0 = .ok (.aload_n 0, 1) := by decide +kernel
theorem d_V_mayBuild_1 : decode b_V_mayBuild 1 = .ok (.getfield 28, 3) := by decide +kernel
theorem d_V_mayBuild_4 : decode b_V_mayBuild 4 = .ok (.ifCond .ne 19, 3) := by decide +kernel
theorem d_V_mayBuild_7 : decode b_V_mayBuild 7 = .ok (.iload_n 1, 1) := by decide +kernel
theorem d_V_mayBuild_8 : decode b_V_mayBuild 8 = .ok (.ifCond .lt 15, 3) := by decide +kernel
theorem d_V_mayBuild_11 : decode b_V_mayBuild 11 = .ok (.iload_n 1, 1) := by decide +kernel
theorem d_V_mayBuild_12 : decode b_V_mayBuild 12 = .ok (.aload_n 0, 1) := by decide +kernel
theorem d_V_mayBuild_13 : decode b_V_mayBuild 13 = .ok (.getfield 25, 3) := by decide +kernel
theorem d_V_mayBuild_16 : decode b_V_mayBuild 16 = .ok (.if_icmp .ge 7, 3) := by decide +kernel
theorem d_V_mayBuild_19 : decode b_V_mayBuild 19 = .ok (.iconst 1, 1) := by decide +kernel
theorem d_V_mayBuild_20 : decode b_V_mayBuild 20 = .ok (.goto 4, 3) := by decide +kernel
theorem d_V_mayBuild_23 : decode b_V_mayBuild 23 = .ok (.iconst 0, 1) := by decide +kernel
theorem d_V_mayBuild_24 : decode b_V_mayBuild 24 = .ok (.ireturn, 1) := by decide +kernel
theorem d_V_isChannel_0 : decode b_V_isChannel 0 = .ok (.iload_n 1, 1) := by decide +kernel
theorem d_V_isChannel_1 : decode b_V_isChannel 1 = .ok (.ifCond .lt 15, 3) := by decide +kernel
theorem d_V_isChannel_4 : decode b_V_isChannel 4 = .ok (.iload_n 1, 1) := by decide +kernel
theorem d_V_isChannel_5 : decode b_V_isChannel 5 = .ok (.aload_n 0, 1) := by decide +kernel
theorem d_V_isChannel_6 : decode b_V_isChannel 6 = .ok (.getfield 15, 3) := by decide +kernel
theorem d_V_isChannel_9 : decode b_V_isChannel 9 = .ok (.if_icmp .ge 7, 3) := by decide +kernel
theorem d_V_isChannel_12 : decode b_V_isChannel 12 = .ok (.iconst 1, 1) := by decide +kernel
theorem d_V_isChannel_13 : decode b_V_isChannel 13 = .ok (.goto 4, 3) := by decide +kernel
theorem d_V_isChannel_16 : decode b_V_isChannel 16 = .ok (.iconst 0, 1) := by decide +kernel
theorem d_V_isChannel_17 : decode b_V_isChannel 17 = .ok (.ireturn, 1) := by decide +kernel
theorem d_V_isWithin_0 : decode b_V_isWithin 0 = .ok (.iload_n 0, 1) := by decide +kernel
theorem d_V_isWithin_1 : decode b_V_isWithin 1 = .ok (.ifCond .lt 12, 3) := by decide +kernel
theorem d_V_isWithin_4 : decode b_V_isWithin 4 = .ok (.iload_n 0, 1) := by decide +kernel
theorem d_V_isWithin_5 : decode b_V_isWithin 5 = .ok (.iload_n 1, 1) := by decide +kernel
theorem d_V_isWithin_6 : decode b_V_isWithin 6 = .ok (.if_icmp .gt 7, 3) := by decide +kernel
theorem d_V_isWithin_9 : decode b_V_isWithin 9 = .ok (.iconst 1, 1) := by decide +kernel
theorem d_V_isWithin_10 : decode b_V_isWithin 10 = .ok (.goto 4, 3) := by decide +kernel
theorem d_V_isWithin_13 : decode b_V_isWithin 13 = .ok (.iconst 0, 1) := by decide +kernel
theorem d_V_isWithin_14 : decode b_V_isWithin 14 = .ok (.ireturn, 1) := by decide +kernel
theorem d_Re_addPart_0 : decode b_Re_addPart 0 = .ok (.aload_n 0, 1) := by decide +kernel
theorem d_Re_addPart_1 : decode b_Re_addPart 1 = .ok (.getfield 9, 3) := by decide +kernel
theorem d_Re_addPart_4 : decode b_Re_addPart 4 = .ok (.istore 4, 2) := by decide +kernel
theorem d_Re_addPart_6 : decode b_Re_addPart 6 = .ok (.aload_n 0, 1) := by decide +kernel
theorem d_Re_addPart_7 : decode b_Re_addPart 7 = .ok (.getfield 15, 3) := by decide +kernel
theorem d_Re_addPart_10 : decode b_Re_addPart 10 = .ok (.iload 4, 2) := by decide +kernel
theorem d_Re_addPart_12 : decode b_Re_addPart 12 = .ok (.iload_n 1, 1) := by decide +kernel
theorem d_Re_addPart_13 : decode b_Re_addPart 13 = .ok (.iastore, 1) := by decide +kernel
theorem d_Re_addPart_14 : decode b_Re_addPart 14 = .ok (.aload_n 0, 1) := by decide +kernel
theorem d_Re_addPart_15 : decode b_Re_addPart 15 = .ok (.getfield 19, 3) := by decide +kernel
theorem d_Re_addPart_18 : decode b_Re_addPart 18 = .ok (.iload 4, 2) := by decide +kernel
theorem d_Re_addPart_20 : decode b_Re_addPart 20 = .ok (.iload_n 2, 1) := by decide +kernel
theorem d_Re_addPart_21 : decode b_Re_addPart 21 = .ok (.iastore, 1) := by decide +kernel
theorem d_Re_addPart_22 : decode b_Re_addPart 22 = .ok (.aload_n 0, 1) := by decide +kernel
theorem d_Re_addPart_23 : decode b_Re_addPart 23 = .ok (.getfield 22, 3) := by decide +kernel
theorem d_Re_addPart_26 : decode b_Re_addPart 26 = .ok (.iload 4, 2) := by decide +kernel
theorem d_Re_addPart_28 : decode b_Re_addPart 28 = .ok (.iload_n 3, 1) := by decide +kernel
theorem d_Re_addPart_29 : decode b_Re_addPart 29 = .ok (.iastore, 1) := by decide +kernel
theorem d_Re_addPart_30 : decode b_Re_addPart 30 = .ok (.aload_n 0, 1) := by decide +kernel
theorem d_Re_addPart_31 : decode b_Re_addPart 31 = .ok (.dup, 1) := by decide +kernel
theorem d_Re_addPart_32 : decode b_Re_addPart 32 = .ok (.getfield 9, 3) := by decide +kernel
theorem d_Re_addPart_35 : decode b_Re_addPart 35 = .ok (.iconst 1, 1) := by decide +kernel
theorem d_Re_addPart_36 : decode b_Re_addPart 36 = .ok (.iadd, 1) := by decide +kernel
theorem d_Re_addPart_37 : decode b_Re_addPart 37 = .ok (.putfield 9, 3) := by decide +kernel
theorem d_Re_addPart_40 : decode b_Re_addPart 40 = .ok (.iload 4, 2) := by decide +kernel
theorem d_Re_addPart_42 : decode b_Re_addPart 42 = .ok (.ireturn, 1) := by decide +kernel
theorem d_V_part_0 : decode b_V_part 0 = .ok (.aload_n 0, 1) := by decide +kernel
theorem d_V_part_1 : decode b_V_part 1 = .ok (.iload_n 1, 1) := by decide +kernel
theorem d_V_part_2 : decode b_V_part 2 = .ok (.invokevirtual 58, 3) := by decide +kernel
theorem d_V_part_5 : decode b_V_part 5 = .ok (.ifCond .eq 19, 3) := by decide +kernel
theorem d_V_part_8 : decode b_V_part 8 = .ok (.aload_n 0, 1) := by decide +kernel
theorem d_V_part_9 : decode b_V_part 9 = .ok (.iload_n 2, 1) := by decide +kernel
theorem d_V_part_10 : decode b_V_part 10 = .ok (.invokevirtual 62, 3) := by decide +kernel
theorem d_V_part_13 : decode b_V_part 13 = .ok (.ifCond .eq 11, 3) := by decide +kernel
theorem d_V_part_16 : decode b_V_part 16 = .ok (.iload_n 3, 1) := by decide +kernel
theorem d_V_part_17 : decode b_V_part 17 = .ok (.iconst 4, 1) := by decide +kernel
theorem d_V_part_18 : decode b_V_part 18 = .ok (.invokestatic 65, 3) := by decide +kernel
theorem d_V_part_21 : decode b_V_part 21 = .ok (.ifCond .ne 5, 3) := by decide +kernel
theorem d_V_part_24 : decode b_V_part 24 = .ok (.iconst (-1), 1) := by decide +kernel
theorem d_V_part_25 : decode b_V_part 25 = .ok (.ireturn, 1) := by decide +kernel
theorem d_V_part_26 : decode b_V_part 26 = .ok (.aload_n 0, 1) := by decide +kernel
theorem d_V_part_27 : decode b_V_part 27 = .ok (.getfield 21, 3) := by decide +kernel
theorem d_V_part_30 : decode b_V_part 30 = .ok (.iload_n 1, 1) := by decide +kernel
theorem d_V_part_31 : decode b_V_part 31 = .ok (.aaload, 1) := by decide +kernel
theorem d_V_part_32 : decode b_V_part 32 = .ok (.getfield 69, 3) := by decide +kernel
theorem d_V_part_35 : decode b_V_part 35 = .ok (.iconst 4, 1) := by decide +kernel
theorem d_V_part_36 : decode b_V_part 36 = .ok (.if_icmp .lt 5, 3) := by decide +kernel
theorem d_V_part_39 : decode b_V_part 39 = .ok (.iconst (-1), 1) := by decide +kernel
theorem d_V_part_40 : decode b_V_part 40 = .ok (.ireturn, 1) := by decide +kernel
theorem d_V_part_41 : decode b_V_part 41 = .ok (.aload_n 0, 1) := by decide +kernel
theorem d_V_part_42 : decode b_V_part 42 = .ok (.getfield 21, 3) := by decide +kernel
theorem d_V_part_45 : decode b_V_part 45 = .ok (.iload_n 1, 1) := by decide +kernel
theorem d_V_part_46 : decode b_V_part 46 = .ok (.aaload, 1) := by decide +kernel
theorem d_V_part_47 : decode b_V_part 47 = .ok (.iload_n 2, 1) := by decide +kernel
theorem d_V_part_48 : decode b_V_part 48 = .ok (.iload_n 3, 1) := by decide +kernel
theorem d_V_part_49 : decode b_V_part 49 = .ok (.iload 4, 2) := by decide +kernel
theorem d_V_part_51 : decode b_V_part 51 = .ok (.invokevirtual 72, 3) := by decide +kernel
theorem d_V_part_54 : decode b_V_part 54 = .ok (.ireturn, 1) := by decide +kernel
theorem d_V_guard_0 : decode b_V_guard 0 = .ok (.aload_n 0, 1) := by decide +kernel
theorem d_V_guard_1 : decode b_V_guard 1 = .ok (.iload_n 1, 1) := by decide +kernel
theorem d_V_guard_2 : decode b_V_guard 2 = .ok (.invokevirtual 58, 3) := by decide +kernel
theorem d_V_guard_5 : decode b_V_guard 5 = .ok (.ifCond .eq 11, 3) := by decide +kernel
theorem d_V_guard_8 : decode b_V_guard 8 = .ok (.iload_n 2, 1) := by decide +kernel
theorem d_V_guard_9 : decode b_V_guard 9 = .ok (.iconst 5, 1) := by decide +kernel
theorem d_V_guard_10 : decode b_V_guard 10 = .ok (.invokestatic 65, 3) := by decide +kernel
theorem d_V_guard_13 : decode b_V_guard 13 = .ok (.ifCond .ne 5, 3) := by decide +kernel
theorem d_V_guard_16 : decode b_V_guard 16 = .ok (.iconst 0, 1) := by decide +kernel
theorem d_V_guard_17 : decode b_V_guard 17 = .ok (.ireturn, 1) := by decide +kernel
theorem d_V_guard_18 : decode b_V_guard 18 = .ok (.aload_n 0, 1) := by decide +kernel
theorem d_V_guard_19 : decode b_V_guard 19 = .ok (.getfield 21, 3) := by decide +kernel
theorem d_V_guard_22 : decode b_V_guard 22 = .ok (.iload_n 1, 1) := by decide +kernel
theorem d_V_guard_23 : decode b_V_guard 23 = .ok (.aaload, 1) := by decide +kernel
theorem d_V_guard_24 : decode b_V_guard 24 = .ok (.iload_n 2, 1) := by decide +kernel
theorem d_V_guard_25 : decode b_V_guard 25 = .ok (.putfield 76, 3) := by decide +kernel
theorem d_V_guard_28 : decode b_V_guard 28 = .ok (.aload_n 0, 1) := by decide +kernel
theorem d_V_guard_29 : decode b_V_guard 29 = .ok (.getfield 21, 3) := by decide +kernel
theorem d_V_guard_32 : decode b_V_guard 32 = .ok (.iload_n 1, 1) := by decide +kernel
theorem d_V_guard_33 : decode b_V_guard 33 = .ok (.aaload, 1) := by decide +kernel
theorem d_V_guard_34 : decode b_V_guard 34 = .ok (.iload_n 3, 1) := by decide +kernel
theorem d_V_guard_35 : decode b_V_guard 35 = .ok (.putfield 79, 3) := by decide +kernel
theorem d_V_guard_38 : decode b_V_guard 38 = .ok (.iconst 1, 1) := by decide +kernel
theorem d_V_guard_39 : decode b_V_guard 39 = .ok (.ireturn, 1) := by decide +kernel
theorem d_V_isChannelOf_0 : decode b_V_isChannelOf 0 = .ok (.aload_n 0, 1) := by decide +kernel
theorem d_V_isChannelOf_1 : decode b_V_isChannelOf 1 = .ok (.iload_n 1, 1) := by decide +kernel
theorem d_V_isChannelOf_2 : decode b_V_isChannelOf 2 = .ok (.invokevirtual 62, 3) := by decide +kernel
theorem d_V_isChannelOf_5 : decode b_V_isChannelOf 5 = .ok (.ifCond .eq 20, 3) := by decide +kernel
theorem d_V_isChannelOf_8 : decode b_V_isChannelOf 8 = .ok (.aload_n 0, 1) := by decide +kernel
theorem d_V_isChannelOf_9 : decode b_V_isChannelOf 9 = .ok (.getfield 11, 3) := by decide +kernel
theorem d_V_isChannelOf_12 : decode b_V_isChannelOf 12 = .ok (.iload_n 1, 1) := by decide +kernel
theorem d_V_isChannelOf_13 : decode b_V_isChannelOf 13 = .ok (.aaload, 1) := by decide +kernel
theorem d_V_isChannelOf_14 : decode b_V_isChannelOf 14 = .ok (.getfield 55, 3) := by decide +kernel
theorem d_V_isChannelOf_17 : decode b_V_isChannelOf 17 = .ok (.iload_n 2, 1) := by decide +kernel
theorem d_V_isChannelOf_18 : decode b_V_isChannelOf 18 = .ok (.if_icmp .ne 7, 3) := by decide +kernel
theorem d_V_isChannelOf_21 : decode b_V_isChannelOf 21 = .ok (.iconst 1, 1) := by decide +kernel
theorem d_V_isChannelOf_22 : decode b_V_isChannelOf 22 = .ok (.goto 4, 3) := by decide +kernel
theorem d_V_isChannelOf_25 : decode b_V_isChannelOf 25 = .ok (.iconst 0, 1) := by decide +kernel
theorem d_V_isChannelOf_26 : decode b_V_isChannelOf 26 = .ok (.ireturn, 1) := by decide +kernel
theorem d_Re_hasPart_0 : decode b_Re_hasPart 0 = .ok (.iload_n 1, 1) := by decide +kernel
theorem d_Re_hasPart_1 : decode b_Re_hasPart 1 = .ok (.ifCond .lt 15, 3) := by decide +kernel
theorem d_Re_hasPart_4 : decode b_Re_hasPart 4 = .ok (.iload_n 1, 1) := by decide +kernel
theorem d_Re_hasPart_5 : decode b_Re_hasPart 5 = .ok (.aload_n 0, 1) := by decide +kernel
theorem d_Re_hasPart_6 : decode b_Re_hasPart 6 = .ok (.getfield 9, 3) := by decide +kernel
theorem d_Re_hasPart_9 : decode b_Re_hasPart 9 = .ok (.if_icmp .ge 7, 3) := by decide +kernel
theorem d_Re_hasPart_12 : decode b_Re_hasPart 12 = .ok (.iconst 1, 1) := by decide +kernel
theorem d_Re_hasPart_13 : decode b_Re_hasPart 13 = .ok (.goto 4, 3) := by decide +kernel
theorem d_Re_hasPart_16 : decode b_Re_hasPart 16 = .ok (.iconst 0, 1) := by decide +kernel
theorem d_Re_hasPart_17 : decode b_Re_hasPart 17 = .ok (.ireturn, 1) := by decide +kernel
theorem d_Re_mayAddAction_0 : decode b_Re_mayAddAction 0 = .ok (.iload_n 1, 1) := by decide +kernel
theorem d_Re_mayAddAction_1 : decode b_Re_mayAddAction 1 = .ok (.iconst 4, 1) := by decide +kernel
theorem d_Re_mayAddAction_2 : decode b_Re_mayAddAction 2 = .ok (.invokestatic 50, 3) := by decide +kernel
theorem d_Re_mayAddAction_5 : decode b_Re_mayAddAction 5 = .ok (.ifCond .eq 11, 3) := by decide +kernel
theorem d_Re_mayAddAction_8 : decode b_Re_mayAddAction 8 = .ok (.aload_n 0, 1) := by decide +kernel
theorem d_Re_mayAddAction_9 : decode b_Re_mayAddAction 9 = .ok (.getfield 31, 3) := by decide +kernel
theorem d_Re_mayAddAction_12 : decode b_Re_mayAddAction 12 = .ok (.iconst 4, 1) := by decide +kernel
theorem d_Re_mayAddAction_13 : decode b_Re_mayAddAction 13 = .ok (.if_icmp .lt 5, 3) := by decide +kernel
theorem d_Re_mayAddAction_16 : decode b_Re_mayAddAction 16 = .ok (.iconst 0, 1) := by decide +kernel
theorem d_Re_mayAddAction_17 : decode b_Re_mayAddAction 17 = .ok (.ireturn, 1) := by decide +kernel
theorem d_Re_mayAddAction_18 : decode b_Re_mayAddAction 18 = .ok (.iload_n 1, 1) := by decide +kernel
theorem d_Re_mayAddAction_19 : decode b_Re_mayAddAction 19 = .ok (.iconst 1, 1) := by decide +kernel
theorem d_Re_mayAddAction_20 : decode b_Re_mayAddAction 20 = .ok (.if_icmp .eq 8, 3) := by decide +kernel
theorem d_Re_mayAddAction_23 : decode b_Re_mayAddAction 23 = .ok (.iload_n 1, 1) := by decide +kernel
theorem d_Re_mayAddAction_24 : decode b_Re_mayAddAction 24 = .ok (.iconst 2, 1) := by decide +kernel
theorem d_Re_mayAddAction_25 : decode b_Re_mayAddAction 25 = .ok (.if_icmp .ne 7, 3) := by decide +kernel
theorem d_Re_mayAddAction_28 : decode b_Re_mayAddAction 28 = .ok (.iconst 1, 1) := by decide +kernel
theorem d_Re_mayAddAction_29 : decode b_Re_mayAddAction 29 = .ok (.goto 4, 3) := by decide +kernel
theorem d_Re_mayAddAction_32 : decode b_Re_mayAddAction 32 = .ok (.iconst 0, 1) := by decide +kernel
theorem d_Re_mayAddAction_33 : decode b_Re_mayAddAction 33 = .ok (.istore_n 3, 1) := by decide +kernel
theorem d_Re_mayAddAction_34 : decode b_Re_mayAddAction 34 = .ok (.iload_n 3, 1) := by decide +kernel
theorem d_Re_mayAddAction_35 : decode b_Re_mayAddAction 35 = .ok (.ifCond .eq 11, 3) := by decide +kernel
theorem d_Re_mayAddAction_38 : decode b_Re_mayAddAction 38 = .ok (.aload_n 0, 1) := by decide +kernel
theorem d_Re_mayAddAction_39 : decode b_Re_mayAddAction 39 = .ok (.iload_n 2, 1) := by decide +kernel
theorem d_Re_mayAddAction_40 : decode b_Re_mayAddAction 40 = .ok (.invokevirtual 54, 3) := by decide +kernel
theorem d_Re_mayAddAction_43 : decode b_Re_mayAddAction 43 = .ok (.ifCond .eq 7, 3) := by decide +kernel
theorem d_Re_mayAddAction_46 : decode b_Re_mayAddAction 46 = .ok (.iconst 1, 1) := by decide +kernel
theorem d_Re_mayAddAction_47 : decode b_Re_mayAddAction 47 = .ok (.goto 4, 3) := by decide +kernel
theorem d_Re_mayAddAction_50 : decode b_Re_mayAddAction 50 = .ok (.iconst 0, 1) := by decide +kernel
theorem d_Re_mayAddAction_51 : decode b_Re_mayAddAction 51 = .ok (.ireturn, 1) := by decide +kernel
theorem d_Re_addAction_0 : decode b_Re_addAction 0 = .ok (.aload_n 0, 1) := by decide +kernel
theorem d_Re_addAction_1 : decode b_Re_addAction 1 = .ok (.getfield 31, 3) := by decide +kernel
theorem d_Re_addAction_4 : decode b_Re_addAction 4 = .ok (.istore 6, 2) := by decide +kernel
theorem d_Re_addAction_6 : decode b_Re_addAction 6 = .ok (.aload_n 0, 1) := by decide +kernel
theorem d_Re_addAction_7 : decode b_Re_addAction 7 = .ok (.getfield 34, 3) := by decide +kernel
theorem d_Re_addAction_10 : decode b_Re_addAction 10 = .ok (.iload 6, 2) := by decide +kernel
theorem d_Re_addAction_12 : decode b_Re_addAction 12 = .ok (.iload_n 1, 1) := by decide +kernel
theorem d_Re_addAction_13 : decode b_Re_addAction 13 = .ok (.bastore, 1) := by decide +kernel
theorem d_Re_addAction_14 : decode b_Re_addAction 14 = .ok (.aload_n 0, 1) := by decide +kernel
theorem d_Re_addAction_15 : decode b_Re_addAction 15 = .ok (.getfield 38, 3) := by decide +kernel
theorem d_Re_addAction_18 : decode b_Re_addAction 18 = .ok (.iload 6, 2) := by decide +kernel
theorem d_Re_addAction_20 : decode b_Re_addAction 20 = .ok (.iload_n 2, 1) := by decide +kernel
theorem d_Re_addAction_21 : decode b_Re_addAction 21 = .ok (.iastore, 1) := by decide +kernel
theorem d_Re_addAction_22 : decode b_Re_addAction 22 = .ok (.aload_n 0, 1) := by decide +kernel
theorem d_Re_addAction_23 : decode b_Re_addAction 23 = .ok (.getfield 41, 3) := by decide +kernel
theorem d_Re_addAction_26 : decode b_Re_addAction 26 = .ok (.iload 6, 2) := by decide +kernel
theorem d_Re_addAction_28 : decode b_Re_addAction 28 = .ok (.iload_n 3, 1) := by decide +kernel
theorem d_Re_addAction_29 : decode b_Re_addAction 29 = .ok (.iastore, 1) := by decide +kernel
theorem d_Re_addAction_30 : decode b_Re_addAction 30 = .ok (.aload_n 0, 1) := by decide +kernel
theorem d_Re_addAction_31 : decode b_Re_addAction 31 = .ok (.getfield 44, 3) := by decide +kernel
theorem d_Re_addAction_34 : decode b_Re_addAction 34 = .ok (.iload 6, 2) := by decide +kernel
theorem d_Re_addAction_36 : decode b_Re_addAction 36 = .ok (.iload 4, 2) := by decide +kernel
theorem d_Re_addAction_38 : decode b_Re_addAction 38 = .ok (.iastore, 1) := by decide +kernel
theorem d_Re_addAction_39 : decode b_Re_addAction 39 = .ok (.aload_n 0, 1) := by decide +kernel
theorem d_Re_addAction_40 : decode b_Re_addAction 40 = .ok (.getfield 47, 3) := by decide +kernel
theorem d_Re_addAction_43 : decode b_Re_addAction 43 = .ok (.iload 6, 2) := by decide +kernel
theorem d_Re_addAction_45 : decode b_Re_addAction 45 = .ok (.iload 5, 2) := by decide +kernel
theorem d_Re_addAction_47 : decode b_Re_addAction 47 = .ok (.iastore, 1) := by decide +kernel
theorem d_Re_addAction_48 : decode b_Re_addAction 48 = .ok (.aload_n 0, 1) := by decide +kernel
theorem d_Re_addAction_49 : decode b_Re_addAction 49 = .ok (.dup, 1) := by decide +kernel
theorem d_Re_addAction_50 : decode b_Re_addAction 50 = .ok (.getfield 31, 3) := by decide +kernel
theorem d_Re_addAction_53 : decode b_Re_addAction 53 = .ok (.iconst 1, 1) := by decide +kernel
theorem d_Re_addAction_54 : decode b_Re_addAction 54 = .ok (.iadd, 1) := by decide +kernel
theorem d_Re_addAction_55 : decode b_Re_addAction 55 = .ok (.putfield 31, 3) := by decide +kernel
theorem d_Re_addAction_58 : decode b_Re_addAction 58 = .ok (.return_, 1) := by decide +kernel
theorem d_V_emit_0 : decode b_V_emit 0 = .ok (.aload_n 0, 1) := by decide +kernel
theorem d_V_emit_1 : decode b_V_emit 1 = .ok (.iload_n 1, 1) := by decide +kernel
theorem d_V_emit_2 : decode b_V_emit 2 = .ok (.invokevirtual 58, 3) := by decide +kernel
theorem d_V_emit_5 : decode b_V_emit 5 = .ok (.ifCond .eq 12, 3) := by decide +kernel
theorem d_V_emit_8 : decode b_V_emit 8 = .ok (.aload_n 0, 1) := by decide +kernel
theorem d_V_emit_9 : decode b_V_emit 9 = .ok (.iload_n 2, 1) := by decide +kernel
theorem d_V_emit_10 : decode b_V_emit 10 = .ok (.iconst 0, 1) := by decide +kernel
theorem d_V_emit_11 : decode b_V_emit 11 = .ok (.invokevirtual 82, 3) := by decide +kernel
theorem d_V_emit_14 : decode b_V_emit 14 = .ok (.ifCond .ne 5, 3) := by decide +kernel
theorem d_V_emit_17 : decode b_V_emit 17 = .ok (.iconst 0, 1) := by decide +kernel
theorem d_V_emit_18 : decode b_V_emit 18 = .ok (.ireturn, 1) := by decide +kernel
theorem d_V_emit_19 : decode b_V_emit 19 = .ok (.aload_n 0, 1) := by decide +kernel
theorem d_V_emit_20 : decode b_V_emit 20 = .ok (.getfield 21, 3) := by decide +kernel
theorem d_V_emit_23 : decode b_V_emit 23 = .ok (.iload_n 1, 1) := by decide +kernel
theorem d_V_emit_24 : decode b_V_emit 24 = .ok (.aaload, 1) := by decide +kernel
theorem d_V_emit_25 : decode b_V_emit 25 = .ok (.iload_n 3, 1) := by decide +kernel
theorem d_V_emit_26 : decode b_V_emit 26 = .ok (.iload 4, 2) := by decide +kernel
theorem d_V_emit_28 : decode b_V_emit 28 = .ok (.invokevirtual 86, 3) := by decide +kernel
theorem d_V_emit_31 : decode b_V_emit 31 = .ok (.ifCond .ne 5, 3) := by decide +kernel
theorem d_V_emit_34 : decode b_V_emit 34 = .ok (.iconst 0, 1) := by decide +kernel
theorem d_V_emit_35 : decode b_V_emit 35 = .ok (.ireturn, 1) := by decide +kernel
theorem d_V_emit_36 : decode b_V_emit 36 = .ok (.aload_n 0, 1) := by decide +kernel
theorem d_V_emit_37 : decode b_V_emit 37 = .ok (.getfield 21, 3) := by decide +kernel
theorem d_V_emit_40 : decode b_V_emit 40 = .ok (.iload_n 1, 1) := by decide +kernel
theorem d_V_emit_41 : decode b_V_emit 41 = .ok (.aaload, 1) := by decide +kernel
theorem d_V_emit_42 : decode b_V_emit 42 = .ok (.iconst 1, 1) := by decide +kernel
theorem d_V_emit_43 : decode b_V_emit 43 = .ok (.iload_n 2, 1) := by decide +kernel
theorem d_V_emit_44 : decode b_V_emit 44 = .ok (.iload_n 3, 1) := by decide +kernel
theorem d_V_emit_45 : decode b_V_emit 45 = .ok (.iload 4, 2) := by decide +kernel
theorem d_V_emit_47 : decode b_V_emit 47 = .ok (.iload 5, 2) := by decide +kernel
theorem d_V_emit_49 : decode b_V_emit 49 = .ok (.invokevirtual 89, 3) := by decide +kernel
theorem d_V_emit_52 : decode b_V_emit 52 = .ok (.iconst 1, 1) := by decide +kernel
theorem d_V_emit_53 : decode b_V_emit 53 = .ok (.ireturn, 1) := by decide +kernel
theorem d_Re_hasReplyTo_0 : decode b_Re_hasReplyTo 0 = .ok (.iconst 0, 1) := by decide +kernel
theorem d_Re_hasReplyTo_1 : decode b_Re_hasReplyTo 1 = .ok (.istore_n 2, 1) := by decide +kernel
theorem d_Re_hasReplyTo_2 : decode b_Re_hasReplyTo 2 = .ok (.iload_n 2, 1) := by decide +kernel
theorem d_Re_hasReplyTo_3 : decode b_Re_hasReplyTo 3 = .ok (.aload_n 0, 1) := by decide +kernel
theorem d_Re_hasReplyTo_4 : decode b_Re_hasReplyTo 4 = .ok (.getfield 31, 3) := by decide +kernel
theorem d_Re_hasReplyTo_7 : decode b_Re_hasReplyTo 7 = .ok (.if_icmp .ge 30, 3) := by decide +kernel
theorem d_Re_hasReplyTo_10 : decode b_Re_hasReplyTo 10 = .ok (.aload_n 0, 1) := by decide +kernel
theorem d_Re_hasReplyTo_11 : decode b_Re_hasReplyTo 11 = .ok (.getfield 34, 3) := by decide +kernel
theorem d_Re_hasReplyTo_14 : decode b_Re_hasReplyTo 14 = .ok (.iload_n 2, 1) := by decide +kernel
theorem d_Re_hasReplyTo_15 : decode b_Re_hasReplyTo 15 = .ok (.baload, 1) := by decide +kernel
theorem d_Re_hasReplyTo_16 : decode b_Re_hasReplyTo 16 = .ok (.ifCond .ne 15, 3) := by decide +kernel
theorem d_Re_hasReplyTo_19 : decode b_Re_hasReplyTo 19 = .ok (.aload_n 0, 1) := by decide +kernel
theorem d_Re_hasReplyTo_20 : decode b_Re_hasReplyTo 20 = .ok (.getfield 38, 3) := by decide +kernel
theorem d_Re_hasReplyTo_23 : decode b_Re_hasReplyTo 23 = .ok (.iload_n 2, 1) := by decide +kernel
theorem d_Re_hasReplyTo_24 : decode b_Re_hasReplyTo 24 = .ok (.iaload, 1) := by decide +kernel
theorem d_Re_hasReplyTo_25 : decode b_Re_hasReplyTo 25 = .ok (.iload_n 1, 1) := by decide +kernel
theorem d_Re_hasReplyTo_26 : decode b_Re_hasReplyTo 26 = .ok (.if_icmp .ne 5, 3) := by decide +kernel
theorem d_Re_hasReplyTo_29 : decode b_Re_hasReplyTo 29 = .ok (.iconst 1, 1) := by decide +kernel
theorem d_Re_hasReplyTo_30 : decode b_Re_hasReplyTo 30 = .ok (.ireturn, 1) := by decide +kernel
theorem d_Re_hasReplyTo_31 : decode b_Re_hasReplyTo 31 = .ok (.iinc 2 1, 3) := by decide +kernel
theorem d_Re_hasReplyTo_34 : decode b_Re_hasReplyTo 34 = .ok (.goto (-32), 3) := by decide +kernel
theorem d_Re_hasReplyTo_37 : decode b_Re_hasReplyTo 37 = .ok (.iconst 0, 1) := by decide +kernel
theorem d_Re_hasReplyTo_38 : decode b_Re_hasReplyTo 38 = .ok (.ireturn, 1) := by decide +kernel
theorem d_V_reply_0 : decode b_V_reply 0 = .ok (.aload_n 0, 1) := by decide +kernel
theorem d_V_reply_1 : decode b_V_reply 1 = .ok (.iload_n 1, 1) := by decide +kernel
theorem d_V_reply_2 : decode b_V_reply 2 = .ok (.invokevirtual 58, 3) := by decide +kernel
theorem d_V_reply_5 : decode b_V_reply 5 = .ok (.ifCond .eq 16, 3) := by decide +kernel
theorem d_V_reply_8 : decode b_V_reply 8 = .ok (.aload_n 0, 1) := by decide +kernel
theorem d_V_reply_9 : decode b_V_reply 9 = .ok (.getfield 21, 3) := by decide +kernel
theorem d_V_reply_12 : decode b_V_reply 12 = .ok (.iload_n 1, 1) := by decide +kernel
theorem d_V_reply_13 : decode b_V_reply 13 = .ok (.aaload, 1) := by decide +kernel
theorem d_V_reply_14 : decode b_V_reply 14 = .ok (.iload_n 2, 1) := by decide +kernel
theorem d_V_reply_15 : decode b_V_reply 15 = .ok (.invokevirtual 93, 3) := by decide +kernel
theorem d_V_reply_18 : decode b_V_reply 18 = .ok (.ifCond .ne 5, 3) := by decide +kernel
theorem d_V_reply_21 : decode b_V_reply 21 = .ok (.iconst 0, 1) := by decide +kernel
theorem d_V_reply_22 : decode b_V_reply 22 = .ok (.ireturn, 1) := by decide +kernel
theorem d_V_reply_23 : decode b_V_reply 23 = .ok (.aload_n 0, 1) := by decide +kernel
theorem d_V_reply_24 : decode b_V_reply 24 = .ok (.getfield 21, 3) := by decide +kernel
theorem d_V_reply_27 : decode b_V_reply 27 = .ok (.iload_n 1, 1) := by decide +kernel
theorem d_V_reply_28 : decode b_V_reply 28 = .ok (.aaload, 1) := by decide +kernel
theorem d_V_reply_29 : decode b_V_reply 29 = .ok (.astore 6, 2) := by decide +kernel
theorem d_V_reply_31 : decode b_V_reply 31 = .ok (.aload_n 0, 1) := by decide +kernel
theorem d_V_reply_32 : decode b_V_reply 32 = .ok (.getfield 11, 3) := by decide +kernel
theorem d_V_reply_35 : decode b_V_reply 35 = .ok (.aload 6, 2) := by decide +kernel
theorem d_V_reply_37 : decode b_V_reply 37 = .ok (.getfield 96, 3) := by decide +kernel
theorem d_V_reply_40 : decode b_V_reply 40 = .ok (.iload_n 2, 1) := by decide +kernel
theorem d_V_reply_41 : decode b_V_reply 41 = .ok (.iaload, 1) := by decide +kernel
theorem d_V_reply_42 : decode b_V_reply 42 = .ok (.aaload, 1) := by decide +kernel
theorem d_V_reply_43 : decode b_V_reply 43 = .ok (.getfield 55, 3) := by decide +kernel
theorem d_V_reply_46 : decode b_V_reply 46 = .ok (.ifCond .eq 12, 3) := by decide +kernel
theorem d_V_reply_49 : decode b_V_reply 49 = .ok (.aload 6, 2) := by decide +kernel
theorem d_V_reply_51 : decode b_V_reply 51 = .ok (.iload_n 2, 1) := by decide +kernel
theorem d_V_reply_52 : decode b_V_reply 52 = .ok (.invokevirtual 99, 3) := by decide +kernel
theorem d_V_reply_55 : decode b_V_reply 55 = .ok (.ifCond .eq 5, 3) := by decide +kernel
theorem d_V_reply_58 : decode b_V_reply 58 = .ok (.iconst 0, 1) := by decide +kernel
theorem d_V_reply_59 : decode b_V_reply 59 = .ok (.ireturn, 1) := by decide +kernel
theorem d_V_reply_60 : decode b_V_reply 60 = .ok (.aload 6, 2) := by decide +kernel
theorem d_V_reply_62 : decode b_V_reply 62 = .ok (.iload_n 3, 1) := by decide +kernel
theorem d_V_reply_63 : decode b_V_reply 63 = .ok (.iload 4, 2) := by decide +kernel
theorem d_V_reply_65 : decode b_V_reply 65 = .ok (.invokevirtual 86, 3) := by decide +kernel
theorem d_V_reply_68 : decode b_V_reply 68 = .ok (.ifCond .ne 5, 3) := by decide +kernel
theorem d_V_reply_71 : decode b_V_reply 71 = .ok (.iconst 0, 1) := by decide +kernel
theorem d_V_reply_72 : decode b_V_reply 72 = .ok (.ireturn, 1) := by decide +kernel
theorem d_V_reply_73 : decode b_V_reply 73 = .ok (.aload 6, 2) := by decide +kernel
theorem d_V_reply_75 : decode b_V_reply 75 = .ok (.iconst 0, 1) := by decide +kernel
theorem d_V_reply_76 : decode b_V_reply 76 = .ok (.iload_n 2, 1) := by decide +kernel
theorem d_V_reply_77 : decode b_V_reply 77 = .ok (.iload_n 3, 1) := by decide +kernel
theorem d_V_reply_78 : decode b_V_reply 78 = .ok (.iload 4, 2) := by decide +kernel
theorem d_V_reply_80 : decode b_V_reply 80 = .ok (.iload 5, 2) := by decide +kernel
theorem d_V_reply_82 : decode b_V_reply 82 = .ok (.invokevirtual 89, 3) := by decide +kernel
theorem d_V_reply_85 : decode b_V_reply 85 = .ok (.iconst 1, 1) := by decide +kernel
theorem d_V_reply_86 : decode b_V_reply 86 = .ok (.ireturn, 1) := by decide +kernel
theorem d_V_leavesCallUnanswered_0 : decode b_V_leavesCallUnanswered 0 = .ok (.iconst 0, 1) := by decide +kernel
theorem d_V_leavesCallUnanswered_1 : decode b_V_leavesCallUnanswered 1 = .ok (.istore_n 2, 1) := by decide +kernel
theorem d_V_leavesCallUnanswered_2 : decode b_V_leavesCallUnanswered 2 = .ok (.iload_n 2, 1) := by decide +kernel
theorem d_V_leavesCallUnanswered_3 : decode b_V_leavesCallUnanswered 3 = .ok (.aload_n 1, 1) := by decide +kernel
theorem d_V_leavesCallUnanswered_4 : decode b_V_leavesCallUnanswered 4 = .ok (.getfield 69, 3) := by decide +kernel
theorem d_V_leavesCallUnanswered_7 : decode b_V_leavesCallUnanswered 7 = .ok (.if_icmp .ge 36, 3) := by decide +kernel
theorem d_V_leavesCallUnanswered_10 : decode b_V_leavesCallUnanswered 10 = .ok (.aload_n 0, 1) := by decide +kernel
theorem d_V_leavesCallUnanswered_11 : decode b_V_leavesCallUnanswered 11 = .ok (.getfield 11, 3) := by decide +kernel
theorem d_V_leavesCallUnanswered_14 : decode b_V_leavesCallUnanswered 14 = .ok (.aload_n 1, 1) := by decide +kernel
theorem d_V_leavesCallUnanswered_15 : decode b_V_leavesCallUnanswered 15 = .ok (.getfield 96, 3) := by decide +kernel
theorem d_V_leavesCallUnanswered_18 : decode b_V_leavesCallUnanswered 18 = .ok (.iload_n 2, 1) := by decide +kernel
theorem d_V_leavesCallUnanswered_19 : decode b_V_leavesCallUnanswered 19 = .ok (.iaload, 1) := by decide +kernel
theorem d_V_leavesCallUnanswered_20 : decode b_V_leavesCallUnanswered 20 = .ok (.aaload, 1) := by decide +kernel
theorem d_V_leavesCallUnanswered_21 : decode b_V_leavesCallUnanswered 21 = .ok (.getfield 55, 3) := by decide +kernel
theorem d_V_leavesCallUnanswered_24 : decode b_V_leavesCallUnanswered 24 = .ok (.ifCond .eq 13, 3) := by decide +kernel
theorem d_V_leavesCallUnanswered_27 : decode b_V_leavesCallUnanswered 27 = .ok (.aload_n 1, 1) := by decide +kernel
theorem d_V_leavesCallUnanswered_28 : decode b_V_leavesCallUnanswered 28 = .ok (.iload_n 2, 1) := by decide +kernel
theorem d_V_leavesCallUnanswered_29 : decode b_V_leavesCallUnanswered 29 = .ok (.invokevirtual 99, 3) := by decide +kernel
theorem d_V_leavesCallUnanswered_32 : decode b_V_leavesCallUnanswered 32 = .ok (.ifCond .ne 5, 3) := by decide +kernel
theorem d_V_leavesCallUnanswered_35 : decode b_V_leavesCallUnanswered 35 = .ok (.iconst 1, 1) := by decide +kernel
theorem d_V_leavesCallUnanswered_36 : decode b_V_leavesCallUnanswered 36 = .ok (.ireturn, 1) := by decide +kernel
theorem d_V_leavesCallUnanswered_37 : decode b_V_leavesCallUnanswered 37 = .ok (.iinc 2 1, 3) := by decide +kernel
theorem d_V_leavesCallUnanswered_40 : decode b_V_leavesCallUnanswered 40 = .ok (.goto (-38), 3) := by decide +kernel
theorem d_V_leavesCallUnanswered_43 : decode b_V_leavesCallUnanswered 43 = .ok (.iconst 0, 1) := by decide +kernel
theorem d_V_leavesCallUnanswered_44 : decode b_V_leavesCallUnanswered 44 = .ok (.ireturn, 1) := by decide +kernel
theorem d_V_obstacleToSealing_0 : decode b_V_obstacleToSealing 0 = .ok (.aload_n 0, 1) := by decide +kernel
theorem d_V_obstacleToSealing_1 : decode b_V_obstacleToSealing 1 = .ok (.getfield 28, 3) := by decide +kernel
theorem d_V_obstacleToSealing_4 : decode b_V_obstacleToSealing 4 = .ok (.ifCond .eq 5, 3) := by decide +kernel
theorem d_V_obstacleToSealing_7 : decode b_V_obstacleToSealing 7 = .ok (.iconst 1, 1) := by decide +kernel
theorem d_V_obstacleToSealing_8 : decode b_V_obstacleToSealing 8 = .ok (.ireturn, 1) := by decide +kernel
theorem d_V_obstacleToSealing_9 : decode b_V_obstacleToSealing 9 = .ok (.aload_n 0, 1) := by decide +kernel
theorem d_V_obstacleToSealing_10 : decode b_V_obstacleToSealing 10 = .ok (.getfield 25, 3) := by decide +kernel
theorem d_V_obstacleToSealing_13 : decode b_V_obstacleToSealing 13 = .ok (.ifCond .ne 5, 3) := by decide +kernel
theorem d_V_obstacleToSealing_16 : decode b_V_obstacleToSealing 16 = .ok (.iconst 2, 1) := by decide +kernel
theorem d_V_obstacleToSealing_17 : decode b_V_obstacleToSealing 17 = .ok (.ireturn, 1) := by decide +kernel
theorem d_V_obstacleToSealing_18 : decode b_V_obstacleToSealing 18 = .ok (.iconst 0, 1) := by decide +kernel
theorem d_V_obstacleToSealing_19 : decode b_V_obstacleToSealing 19 = .ok (.istore_n 1, 1) := by decide +kernel
theorem d_V_obstacleToSealing_20 : decode b_V_obstacleToSealing 20 = .ok (.iload_n 1, 1) := by decide +kernel
theorem d_V_obstacleToSealing_21 : decode b_V_obstacleToSealing 21 = .ok (.aload_n 0, 1) := by decide +kernel
theorem d_V_obstacleToSealing_22 : decode b_V_obstacleToSealing 22 = .ok (.getfield 25, 3) := by decide +kernel
theorem d_V_obstacleToSealing_25 : decode b_V_obstacleToSealing 25 = .ok (.if_icmp .ge 23, 3) := by decide +kernel
theorem d_V_obstacleToSealing_28 : decode b_V_obstacleToSealing 28 = .ok (.aload_n 0, 1) := by decide +kernel
theorem d_V_obstacleToSealing_29 : decode b_V_obstacleToSealing 29 = .ok (.getfield 21, 3) := by decide +kernel
theorem d_V_obstacleToSealing_32 : decode b_V_obstacleToSealing 32 = .ok (.iload_n 1, 1) := by decide +kernel
theorem d_V_obstacleToSealing_33 : decode b_V_obstacleToSealing 33 = .ok (.aaload, 1) := by decide +kernel
theorem d_V_obstacleToSealing_34 : decode b_V_obstacleToSealing 34 = .ok (.getfield 69, 3) := by decide +kernel
theorem d_V_obstacleToSealing_37 : decode b_V_obstacleToSealing 37 = .ok (.ifCond .ne 5, 3) := by decide +kernel
theorem d_V_obstacleToSealing_40 : decode b_V_obstacleToSealing 40 = .ok (.iconst 3, 1) := by decide +kernel
theorem d_V_obstacleToSealing_41 : decode b_V_obstacleToSealing 41 = .ok (.ireturn, 1) := by decide +kernel
theorem d_V_obstacleToSealing_42 : decode b_V_obstacleToSealing 42 = .ok (.iinc 1 1, 3) := by decide +kernel
theorem d_V_obstacleToSealing_45 : decode b_V_obstacleToSealing 45 = .ok (.goto (-25), 3) := by decide +kernel
theorem d_V_obstacleToSealing_48 : decode b_V_obstacleToSealing 48 = .ok (.iconst 0, 1) := by decide +kernel
theorem d_V_obstacleToSealing_49 : decode b_V_obstacleToSealing 49 = .ok (.istore_n 1, 1) := by decide +kernel
theorem d_V_obstacleToSealing_50 : decode b_V_obstacleToSealing 50 = .ok (.iload_n 1, 1) := by decide +kernel
theorem d_V_obstacleToSealing_51 : decode b_V_obstacleToSealing 51 = .ok (.aload_n 0, 1) := by decide +kernel
theorem d_V_obstacleToSealing_52 : decode b_V_obstacleToSealing 52 = .ok (.getfield 25, 3) := by decide +kernel
theorem d_V_obstacleToSealing_55 : decode b_V_obstacleToSealing 55 = .ok (.if_icmp .ge 24, 3) := by decide +kernel
theorem d_V_obstacleToSealing_58 : decode b_V_obstacleToSealing 58 = .ok (.aload_n 0, 1) := by decide +kernel
theorem d_V_obstacleToSealing_59 : decode b_V_obstacleToSealing 59 = .ok (.aload_n 0, 1) := by decide +kernel
theorem d_V_obstacleToSealing_60 : decode b_V_obstacleToSealing 60 = .ok (.getfield 21, 3) := by decide +kernel
theorem d_V_obstacleToSealing_63 : decode b_V_obstacleToSealing 63 = .ok (.iload_n 1, 1) := by decide +kernel
theorem d_V_obstacleToSealing_64 : decode b_V_obstacleToSealing 64 = .ok (.aaload, 1) := by decide +kernel
theorem d_V_obstacleToSealing_65 : decode b_V_obstacleToSealing 65 = .ok (.invokevirtual 150, 3) := by decide +kernel
theorem d_V_obstacleToSealing_68 : decode b_V_obstacleToSealing 68 = .ok (.ifCond .eq 5, 3) := by decide +kernel
theorem d_V_obstacleToSealing_71 : decode b_V_obstacleToSealing 71 = .ok (.iconst 4, 1) := by decide +kernel
theorem d_V_obstacleToSealing_72 : decode b_V_obstacleToSealing 72 = .ok (.ireturn, 1) := by decide +kernel
theorem d_V_obstacleToSealing_73 : decode b_V_obstacleToSealing 73 = .ok (.iinc 1 1, 3) := by decide +kernel
theorem d_V_obstacleToSealing_76 : decode b_V_obstacleToSealing 76 = .ok (.goto (-26), 3) := by decide +kernel
theorem d_V_obstacleToSealing_79 : decode b_V_obstacleToSealing 79 = .ok (.iconst 0, 1) := by decide +kernel
theorem d_V_obstacleToSealing_80 : decode b_V_obstacleToSealing 80 = .ok (.ireturn, 1) := by decide +kernel
theorem d_V_seal_0 : decode b_V_seal 0 = .ok (.aload_n 0, 1) := by decide +kernel
theorem d_V_seal_1 : decode b_V_seal 1 = .ok (.invokevirtual 102, 3) := by decide +kernel
theorem d_V_seal_4 : decode b_V_seal 4 = .ok (.istore_n 1, 1) := by decide +kernel
theorem d_V_seal_5 : decode b_V_seal 5 = .ok (.iload_n 1, 1) := by decide +kernel
theorem d_V_seal_6 : decode b_V_seal 6 = .ok (.ifCond .ne 8, 3) := by decide +kernel
theorem d_V_seal_9 : decode b_V_seal 9 = .ok (.aload_n 0, 1) := by decide +kernel
theorem d_V_seal_10 : decode b_V_seal 10 = .ok (.iconst 1, 1) := by decide +kernel
theorem d_V_seal_11 : decode b_V_seal 11 = .ok (.putfield 28, 3) := by decide +kernel
theorem d_V_seal_14 : decode b_V_seal 14 = .ok (.iload_n 1, 1) := by decide +kernel
theorem d_V_seal_15 : decode b_V_seal 15 = .ok (.ireturn, 1) := by decide +kernel
theorem d_Ms_add_0 : decode b_Ms_add 0 = .ok (.aload_n 0, 1) := by decide +kernel
theorem d_Ms_add_1 : decode b_Ms_add 1 = .ok (.getfield 9, 3) := by decide +kernel
theorem d_Ms_add_4 : decode b_Ms_add 4 = .ok (.istore_n 3, 1) := by decide +kernel
theorem d_Ms_add_5 : decode b_Ms_add 5 = .ok (.aload_n 0, 1) := by decide +kernel
theorem d_Ms_add_6 : decode b_Ms_add 6 = .ok (.getfield 15, 3) := by decide +kernel
theorem d_Ms_add_9 : decode b_Ms_add 9 = .ok (.iload_n 3, 1) := by decide +kernel
theorem d_Ms_add_10 : decode b_Ms_add 10 = .ok (.iload_n 1, 1) := by decide +kernel
theorem d_Ms_add_11 : decode b_Ms_add 11 = .ok (.iastore, 1) := by decide +kernel
theorem d_Ms_add_12 : decode b_Ms_add 12 = .ok (.aload_n 0, 1) := by decide +kernel
theorem d_Ms_add_13 : decode b_Ms_add 13 = .ok (.getfield 19, 3) := by decide +kernel
theorem d_Ms_add_16 : decode b_Ms_add 16 = .ok (.iload_n 3, 1) := by decide +kernel
theorem d_Ms_add_17 : decode b_Ms_add 17 = .ok (.iload_n 2, 1) := by decide +kernel
theorem d_Ms_add_18 : decode b_Ms_add 18 = .ok (.iastore, 1) := by decide +kernel
theorem d_Ms_add_19 : decode b_Ms_add 19 = .ok (.aload_n 0, 1) := by decide +kernel
theorem d_Ms_add_20 : decode b_Ms_add 20 = .ok (.getfield 22, 3) := by decide +kernel
theorem d_Ms_add_23 : decode b_Ms_add 23 = .ok (.iload_n 3, 1) := by decide +kernel
theorem d_Ms_add_24 : decode b_Ms_add 24 = .ok (.iconst 1, 1) := by decide +kernel
theorem d_Ms_add_25 : decode b_Ms_add 25 = .ok (.iastore, 1) := by decide +kernel
theorem d_Ms_add_26 : decode b_Ms_add 26 = .ok (.aload_n 0, 1) := by decide +kernel
theorem d_Ms_add_27 : decode b_Ms_add 27 = .ok (.getfield 25, 3) := by decide +kernel
theorem d_Ms_add_30 : decode b_Ms_add 30 = .ok (.iload_n 3, 1) := by decide +kernel
theorem d_Ms_add_31 : decode b_Ms_add 31 = .ok (.iconst (-1), 1) := by decide +kernel
theorem d_Ms_add_32 : decode b_Ms_add 32 = .ok (.iastore, 1) := by decide +kernel
theorem d_Ms_add_33 : decode b_Ms_add 33 = .ok (.aload_n 0, 1) := by decide +kernel
theorem d_Ms_add_34 : decode b_Ms_add 34 = .ok (.dup, 1) := by decide +kernel
theorem d_Ms_add_35 : decode b_Ms_add 35 = .ok (.getfield 9, 3) := by decide +kernel
theorem d_Ms_add_38 : decode b_Ms_add 38 = .ok (.iconst 1, 1) := by decide +kernel
theorem d_Ms_add_39 : decode b_Ms_add 39 = .ok (.iadd, 1) := by decide +kernel
theorem d_Ms_add_40 : decode b_Ms_add 40 = .ok (.putfield 9, 3) := by decide +kernel
theorem d_Ms_add_43 : decode b_Ms_add 43 = .ok (.iload_n 3, 1) := by decide +kernel
theorem d_Ms_add_44 : decode b_Ms_add 44 = .ok (.ireturn, 1) := by decide +kernel
theorem d_Ch_addPending_0 : decode b_Ch_addPending 0 = .ok (.aload_n 0, 1) := by decide +kernel
theorem d_Ch_addPending_1 : decode b_Ch_addPending 1 = .ok (.getfield 15, 3) := by decide +kernel
theorem d_Ch_addPending_4 : decode b_Ch_addPending 4 = .ok (.aload_n 0, 1) := by decide +kernel
theorem d_Ch_addPending_5 : decode b_Ch_addPending 5 = .ok (.getfield 19, 3) := by decide +kernel
theorem d_Ch_addPending_8 : decode b_Ch_addPending 8 = .ok (.iload_n 1, 1) := by decide +kernel
theorem d_Ch_addPending_9 : decode b_Ch_addPending 9 = .ok (.iastore, 1) := by decide +kernel
theorem d_Ch_addPending_10 : decode b_Ch_addPending 10 = .ok (.aload_n 0, 1) := by decide +kernel
theorem d_Ch_addPending_11 : decode b_Ch_addPending 11 = .ok (.dup, 1) := by decide +kernel
theorem d_Ch_addPending_12 : decode b_Ch_addPending 12 = .ok (.getfield 19, 3) := by decide +kernel
theorem d_Ch_addPending_15 : decode b_Ch_addPending 15 = .ok (.iconst 1, 1) := by decide +kernel
theorem d_Ch_addPending_16 : decode b_Ch_addPending 16 = .ok (.iadd, 1) := by decide +kernel
theorem d_Ch_addPending_17 : decode b_Ch_addPending 17 = .ok (.putfield 19, 3) := by decide +kernel
theorem d_Ch_addPending_20 : decode b_Ch_addPending 20 = .ok (.return_, 1) := by decide +kernel
theorem d_V_makeMessage_0 : decode b_V_makeMessage 0 = .ok (.aload_n 0, 1) := by decide +kernel
theorem d_V_makeMessage_1 : decode b_V_makeMessage 1 = .ok (.getfield 35, 3) := by decide +kernel
theorem d_V_makeMessage_4 : decode b_V_makeMessage 4 = .ok (.iload_n 1, 1) := by decide +kernel
theorem d_V_makeMessage_5 : decode b_V_makeMessage 5 = .ok (.iload_n 2, 1) := by decide +kernel
theorem d_V_makeMessage_6 : decode b_V_makeMessage 6 = .ok (.invokevirtual 161, 3) := by decide +kernel
theorem d_V_makeMessage_9 : decode b_V_makeMessage 9 = .ok (.istore_n 3, 1) := by decide +kernel
theorem d_V_makeMessage_10 : decode b_V_makeMessage 10 = .ok (.aload_n 0, 1) := by decide +kernel
theorem d_V_makeMessage_11 : decode b_V_makeMessage 11 = .ok (.getfield 11, 3) := by decide +kernel
theorem d_V_makeMessage_14 : decode b_V_makeMessage 14 = .ok (.iload_n 1, 1) := by decide +kernel
theorem d_V_makeMessage_15 : decode b_V_makeMessage 15 = .ok (.aaload, 1) := by decide +kernel
theorem d_V_makeMessage_16 : decode b_V_makeMessage 16 = .ok (.iload_n 3, 1) := by decide +kernel
theorem d_V_makeMessage_17 : decode b_V_makeMessage 17 = .ok (.invokevirtual 164, 3) := by decide +kernel
theorem d_V_makeMessage_20 : decode b_V_makeMessage 20 = .ok (.iload_n 3, 1) := by decide +kernel
theorem d_V_makeMessage_21 : decode b_V_makeMessage 21 = .ok (.ireturn, 1) := by decide +kernel
theorem d_V_admit_0 : decode b_V_admit 0 = .ok (.aload_n 0, 1) := by decide +kernel
theorem d_V_admit_1 : decode b_V_admit 1 = .ok (.getfield 28, 3) := by decide +kernel
theorem d_V_admit_4 : decode b_V_admit 4 = .ok (.ifCond .eq 12, 3) := by decide +kernel
theorem d_V_admit_7 : decode b_V_admit 7 = .ok (.aload_n 0, 1) := by decide +kernel
theorem d_V_admit_8 : decode b_V_admit 8 = .ok (.iload_n 1, 1) := by decide +kernel
theorem d_V_admit_9 : decode b_V_admit 9 = .ok (.iload_n 3, 1) := by decide +kernel
theorem d_V_admit_10 : decode b_V_admit 10 = .ok (.invokevirtual 82, 3) := by decide +kernel
theorem d_V_admit_13 : decode b_V_admit 13 = .ok (.ifCond .ne 5, 3) := by decide +kernel
theorem d_V_admit_16 : decode b_V_admit 16 = .ok (.iconst (-1), 1) := by decide +kernel
theorem d_V_admit_17 : decode b_V_admit 17 = .ok (.ireturn, 1) := by decide +kernel
theorem d_V_admit_18 : decode b_V_admit 18 = .ok (.aload_n 0, 1) := by decide +kernel
theorem d_V_admit_19 : decode b_V_admit 19 = .ok (.getfield 11, 3) := by decide +kernel
theorem d_V_admit_22 : decode b_V_admit 22 = .ok (.iload_n 1, 1) := by decide +kernel
theorem d_V_admit_23 : decode b_V_admit 23 = .ok (.aaload, 1) := by decide +kernel
theorem d_V_admit_24 : decode b_V_admit 24 = .ok (.getfield 135, 3) := by decide +kernel
theorem d_V_admit_27 : decode b_V_admit 27 = .ok (.bipush 6, 2) := by decide +kernel
theorem d_V_admit_29 : decode b_V_admit 29 = .ok (.if_icmp .ge 16, 3) := by decide +kernel
theorem d_V_admit_32 : decode b_V_admit 32 = .ok (.aload_n 0, 1) := by decide +kernel
theorem d_V_admit_33 : decode b_V_admit 33 = .ok (.getfield 35, 3) := by decide +kernel
theorem d_V_admit_36 : decode b_V_admit 36 = .ok (.getfield 154, 3) := by decide +kernel
theorem d_V_admit_39 : decode b_V_admit 39 = .ok (.sipush 300, 3) := by decide +kernel
theorem d_V_admit_42 : decode b_V_admit 42 = .ok (.if_icmp .lt 5, 3) := by decide +kernel
theorem d_V_admit_45 : decode b_V_admit 45 = .ok (.iconst (-1), 1) := by decide +kernel
theorem d_V_admit_46 : decode b_V_admit 46 = .ok (.ireturn, 1) := by decide +kernel
theorem d_V_admit_47 : decode b_V_admit 47 = .ok (.aload_n 0, 1) := by decide +kernel
theorem d_V_admit_48 : decode b_V_admit 48 = .ok (.iload_n 1, 1) := by decide +kernel
theorem d_V_admit_49 : decode b_V_admit 49 = .ok (.iload_n 2, 1) := by decide +kernel
theorem d_V_admit_50 : decode b_V_admit 50 = .ok (.invokevirtual 157, 3) := by decide +kernel
theorem d_V_admit_53 : decode b_V_admit 53 = .ok (.ireturn, 1) := by decide +kernel
theorem d_V_put_0 : decode b_V_put 0 = .ok (.aload_n 0, 1) := by decide +kernel
theorem d_V_put_1 : decode b_V_put 1 = .ok (.iload_n 1, 1) := by decide +kernel
theorem d_V_put_2 : decode b_V_put 2 = .ok (.iload_n 2, 1) := by decide +kernel
theorem d_V_put_3 : decode b_V_put 3 = .ok (.iconst 0, 1) := by decide +kernel
theorem d_V_put_4 : decode b_V_put 4 = .ok (.invokevirtual 106, 3) := by decide +kernel
theorem d_V_put_7 : decode b_V_put 7 = .ok (.ireturn, 1) := by decide +kernel
theorem d_V_call_0 : decode b_V_call 0 = .ok (.aload_n 0, 1) := by decide +kernel
theorem d_V_call_1 : decode b_V_call 1 = .ok (.iload_n 1, 1) := by decide +kernel
theorem d_V_call_2 : decode b_V_call 2 = .ok (.iload_n 2, 1) := by decide +kernel
theorem d_V_call_3 : decode b_V_call 3 = .ok (.iconst 1, 1) := by decide +kernel
theorem d_V_call_4 : decode b_V_call 4 = .ok (.invokevirtual 106, 3) := by decide +kernel
theorem d_V_call_7 : decode b_V_call 7 = .ok (.ireturn, 1) := by decide +kernel
theorem d_Ms_has_0 : decode b_Ms_has 0 = .ok (.iload_n 1, 1) := by decide +kernel
theorem d_Ms_has_1 : decode b_Ms_has 1 = .ok (.ifCond .lt 15, 3) := by decide +kernel
theorem d_Ms_has_4 : decode b_Ms_has 4 = .ok (.iload_n 1, 1) := by decide +kernel
theorem d_Ms_has_5 : decode b_Ms_has 5 = .ok (.aload_n 0, 1) := by decide +kernel
theorem d_Ms_has_6 : decode b_Ms_has 6 = .ok (.getfield 9, 3) := by decide +kernel
theorem d_Ms_has_9 : decode b_Ms_has 9 = .ok (.if_icmp .ge 7, 3) := by decide +kernel
theorem d_Ms_has_12 : decode b_Ms_has 12 = .ok (.iconst 1, 1) := by decide +kernel
theorem d_Ms_has_13 : decode b_Ms_has 13 = .ok (.goto 4, 3) := by decide +kernel
theorem d_Ms_has_16 : decode b_Ms_has 16 = .ok (.iconst 0, 1) := by decide +kernel
theorem d_Ms_has_17 : decode b_Ms_has 17 = .ok (.ireturn, 1) := by decide +kernel
theorem d_Ch_removePending_0 : decode b_Ch_removePending 0 = .ok (.iconst 0, 1) := by decide +kernel
theorem d_Ch_removePending_1 : decode b_Ch_removePending 1 = .ok (.istore_n 2, 1) := by decide +kernel
theorem d_Ch_removePending_2 : decode b_Ch_removePending 2 = .ok (.iconst 0, 1) := by decide +kernel
theorem d_Ch_removePending_3 : decode b_Ch_removePending 3 = .ok (.istore_n 3, 1) := by decide +kernel
theorem d_Ch_removePending_4 : decode b_Ch_removePending 4 = .ok (.iload_n 3, 1) := by decide +kernel
theorem d_Ch_removePending_5 : decode b_Ch_removePending 5 = .ok (.aload_n 0, 1) := by decide +kernel
theorem d_Ch_removePending_6 : decode b_Ch_removePending 6 = .ok (.getfield 19, 3) := by decide +kernel
theorem d_Ch_removePending_9 : decode b_Ch_removePending 9 = .ok (.if_icmp .ge 34, 3) := by decide +kernel
theorem d_Ch_removePending_12 : decode b_Ch_removePending 12 = .ok (.aload_n 0, 1) := by decide +kernel
theorem d_Ch_removePending_13 : decode b_Ch_removePending 13 = .ok (.getfield 15, 3) := by decide +kernel
theorem d_Ch_removePending_16 : decode b_Ch_removePending 16 = .ok (.iload_n 3, 1) := by decide +kernel
theorem d_Ch_removePending_17 : decode b_Ch_removePending 17 = .ok (.iaload, 1) := by decide +kernel
theorem d_Ch_removePending_18 : decode b_Ch_removePending 18 = .ok (.iload_n 1, 1) := by decide +kernel
theorem d_Ch_removePending_19 : decode b_Ch_removePending 19 = .ok (.if_icmp .eq 18, 3) := by decide +kernel
theorem d_Ch_removePending_22 : decode b_Ch_removePending 22 = .ok (.aload_n 0, 1) := by decide +kernel
theorem d_Ch_removePending_23 : decode b_Ch_removePending 23 = .ok (.getfield 15, 3) := by decide +kernel
theorem d_Ch_removePending_26 : decode b_Ch_removePending 26 = .ok (.iload_n 2, 1) := by decide +kernel
theorem d_Ch_removePending_27 : decode b_Ch_removePending 27 = .ok (.aload_n 0, 1) := by decide +kernel
theorem d_Ch_removePending_28 : decode b_Ch_removePending 28 = .ok (.getfield 15, 3) := by decide +kernel
theorem d_Ch_removePending_31 : decode b_Ch_removePending 31 = .ok (.iload_n 3, 1) := by decide +kernel
theorem d_Ch_removePending_32 : decode b_Ch_removePending 32 = .ok (.iaload, 1) := by decide +kernel
theorem d_Ch_removePending_33 : decode b_Ch_removePending 33 = .ok (.iastore, 1) := by decide +kernel
theorem d_Ch_removePending_34 : decode b_Ch_removePending 34 = .ok (.iinc 2 1, 3) := by decide +kernel
theorem d_Ch_removePending_37 : decode b_Ch_removePending 37 = .ok (.iinc 3 1, 3) := by decide +kernel
theorem d_Ch_removePending_40 : decode b_Ch_removePending 40 = .ok (.goto (-36), 3) := by decide +kernel
theorem d_Ch_removePending_43 : decode b_Ch_removePending 43 = .ok (.aload_n 0, 1) := by decide +kernel
theorem d_Ch_removePending_44 : decode b_Ch_removePending 44 = .ok (.iload_n 2, 1) := by decide +kernel
theorem d_Ch_removePending_45 : decode b_Ch_removePending 45 = .ok (.putfield 19, 3) := by decide +kernel
theorem d_Ch_removePending_48 : decode b_Ch_removePending 48 = .ok (.return_, 1) := by decide +kernel
theorem d_V_withdraw_0 : decode b_V_withdraw 0 = .ok (.aload_n 0, 1) := by decide +kernel
theorem d_V_withdraw_1 : decode b_V_withdraw 1 = .ok (.getfield 35, 3) := by decide +kernel
theorem d_V_withdraw_4 : decode b_V_withdraw 4 = .ok (.iload_n 1, 1) := by decide +kernel
theorem d_V_withdraw_5 : decode b_V_withdraw 5 = .ok (.invokevirtual 110, 3) := by decide +kernel
theorem d_V_withdraw_8 : decode b_V_withdraw 8 = .ok (.ifCond .eq 16, 3) := by decide +kernel
theorem d_V_withdraw_11 : decode b_V_withdraw 11 = .ok (.aload_n 0, 1) := by decide +kernel
theorem d_V_withdraw_12 : decode b_V_withdraw 12 = .ok (.getfield 35, 3) := by decide +kernel
theorem d_V_withdraw_15 : decode b_V_withdraw 15 = .ok (.getfield 113, 3) := by decide +kernel
theorem d_V_withdraw_18 : decode b_V_withdraw 18 = .ok (.iload_n 1, 1) := by decide +kernel
theorem d_V_withdraw_19 : decode b_V_withdraw 19 = .ok (.iaload, 1) := by decide +kernel
theorem d_V_withdraw_20 : decode b_V_withdraw 20 = .ok (.iconst 1, 1) := by decide +kernel
theorem d_V_withdraw_21 : decode b_V_withdraw 21 = .ok (.if_icmp .eq 5, 3) := by decide +kernel
theorem d_V_withdraw_24 : decode b_V_withdraw 24 = .ok (.iconst 0, 1) := by decide +kernel
theorem d_V_withdraw_25 : decode b_V_withdraw 25 = .ok (.ireturn, 1) := by decide +kernel
theorem d_V_withdraw_26 : decode b_V_withdraw 26 = .ok (.aload_n 0, 1) := by decide +kernel
theorem d_V_withdraw_27 : decode b_V_withdraw 27 = .ok (.getfield 11, 3) := by decide +kernel
theorem d_V_withdraw_30 : decode b_V_withdraw 30 = .ok (.aload_n 0, 1) := by decide +kernel
theorem d_V_withdraw_31 : decode b_V_withdraw 31 = .ok (.getfield 35, 3) := by decide +kernel
theorem d_V_withdraw_34 : decode b_V_withdraw 34 = .ok (.getfield 116, 3) := by decide +kernel
theorem d_V_withdraw_37 : decode b_V_withdraw 37 = .ok (.iload_n 1, 1) := by decide +kernel
theorem d_V_withdraw_38 : decode b_V_withdraw 38 = .ok (.iaload, 1) := by decide +kernel
theorem d_V_withdraw_39 : decode b_V_withdraw 39 = .ok (.aaload, 1) := by decide +kernel
theorem d_V_withdraw_40 : decode b_V_withdraw 40 = .ok (.astore_n 2, 1) := by decide +kernel
theorem d_V_withdraw_41 : decode b_V_withdraw 41 = .ok (.aload_n 2, 1) := by decide +kernel
theorem d_V_withdraw_42 : decode b_V_withdraw 42 = .ok (.getfield 55, 3) := by decide +kernel
theorem d_V_withdraw_45 : decode b_V_withdraw 45 = .ok (.ifCond .ne 5, 3) := by decide +kernel
theorem d_V_withdraw_48 : decode b_V_withdraw 48 = .ok (.iconst 0, 1) := by decide +kernel
theorem d_V_withdraw_49 : decode b_V_withdraw 49 = .ok (.ireturn, 1) := by decide +kernel
theorem d_V_withdraw_50 : decode b_V_withdraw 50 = .ok (.aload_n 0, 1) := by decide +kernel
theorem d_V_withdraw_51 : decode b_V_withdraw 51 = .ok (.getfield 35, 3) := by decide +kernel
theorem d_V_withdraw_54 : decode b_V_withdraw 54 = .ok (.getfield 113, 3) := by decide +kernel
theorem d_V_withdraw_57 : decode b_V_withdraw 57 = .ok (.iload_n 1, 1) := by decide +kernel
theorem d_V_withdraw_58 : decode b_V_withdraw 58 = .ok (.iconst 3, 1) := by decide +kernel
theorem d_V_withdraw_59 : decode b_V_withdraw 59 = .ok (.iastore, 1) := by decide +kernel
theorem d_V_withdraw_60 : decode b_V_withdraw 60 = .ok (.aload_n 2, 1) := by decide +kernel
theorem d_V_withdraw_61 : decode b_V_withdraw 61 = .ok (.iload_n 1, 1) := by decide +kernel
theorem d_V_withdraw_62 : decode b_V_withdraw 62 = .ok (.invokevirtual 119, 3) := by decide +kernel
theorem d_V_withdraw_65 : decode b_V_withdraw 65 = .ok (.iconst 1, 1) := by decide +kernel
theorem d_V_withdraw_66 : decode b_V_withdraw 66 = .ok (.ireturn, 1) := by decide +kernel
theorem d_Re_sendCount_0 : decode b_Re_sendCount 0 = .ok (.iconst 0, 1) := by decide +kernel
theorem d_Re_sendCount_1 : decode b_Re_sendCount 1 = .ok (.istore_n 1, 1) := by decide +kernel
theorem d_Re_sendCount_2 : decode b_Re_sendCount 2 = .ok (.iconst 0, 1) := by decide +kernel
theorem d_Re_sendCount_3 : decode b_Re_sendCount 3 = .ok (.istore_n 2, 1) := by decide +kernel
theorem d_Re_sendCount_4 : decode b_Re_sendCount 4 = .ok (.iload_n 2, 1) := by decide +kernel
theorem d_Re_sendCount_5 : decode b_Re_sendCount 5 = .ok (.aload_n 0, 1) := by decide +kernel
theorem d_Re_sendCount_6 : decode b_Re_sendCount 6 = .ok (.getfield 31, 3) := by decide +kernel
theorem d_Re_sendCount_9 : decode b_Re_sendCount 9 = .ok (.if_icmp .ge 21, 3) := by decide +kernel
theorem d_Re_sendCount_12 : decode b_Re_sendCount 12 = .ok (.aload_n 0, 1) := by decide +kernel
theorem d_Re_sendCount_13 : decode b_Re_sendCount 13 = .ok (.getfield 34, 3) := by decide +kernel
theorem d_Re_sendCount_16 : decode b_Re_sendCount 16 = .ok (.iload_n 2, 1) := by decide +kernel
theorem d_Re_sendCount_17 : decode b_Re_sendCount 17 = .ok (.baload, 1) := by decide +kernel
theorem d_Re_sendCount_18 : decode b_Re_sendCount 18 = .ok (.ifCond .eq 6, 3) := by decide +kernel
theorem d_Re_sendCount_21 : decode b_Re_sendCount 21 = .ok (.iinc 1 1, 3) := by decide +kernel
theorem d_Re_sendCount_24 : decode b_Re_sendCount 24 = .ok (.iinc 2 1, 3) := by decide +kernel
theorem d_Re_sendCount_27 : decode b_Re_sendCount 27 = .ok (.goto (-23), 3) := by decide +kernel
theorem d_Re_sendCount_30 : decode b_Re_sendCount 30 = .ok (.iload_n 1, 1) := by decide +kernel
theorem d_Re_sendCount_31 : decode b_Re_sendCount 31 = .ok (.ireturn, 1) := by decide +kernel
theorem d_Re_partsOn_0 : decode b_Re_partsOn 0 = .ok (.iconst 0, 1) := by decide +kernel
theorem d_Re_partsOn_1 : decode b_Re_partsOn 1 = .ok (.istore_n 2, 1) := by decide +kernel
theorem d_Re_partsOn_2 : decode b_Re_partsOn 2 = .ok (.iconst 0, 1) := by decide +kernel
theorem d_Re_partsOn_3 : decode b_Re_partsOn 3 = .ok (.istore_n 3, 1) := by decide +kernel
theorem d_Re_partsOn_4 : decode b_Re_partsOn 4 = .ok (.iload_n 3, 1) := by decide +kernel
theorem d_Re_partsOn_5 : decode b_Re_partsOn 5 = .ok (.aload_n 0, 1) := by decide +kernel
theorem d_Re_partsOn_6 : decode b_Re_partsOn 6 = .ok (.getfield 9, 3) := by decide +kernel
theorem d_Re_partsOn_9 : decode b_Re_partsOn 9 = .ok (.if_icmp .ge 22, 3) := by decide +kernel
theorem d_Re_partsOn_12 : decode b_Re_partsOn 12 = .ok (.aload_n 0, 1) := by decide +kernel
theorem d_Re_partsOn_13 : decode b_Re_partsOn 13 = .ok (.getfield 15, 3) := by decide +kernel
theorem d_Re_partsOn_16 : decode b_Re_partsOn 16 = .ok (.iload_n 3, 1) := by decide +kernel
theorem d_Re_partsOn_17 : decode b_Re_partsOn 17 = .ok (.iaload, 1) := by decide +kernel
theorem d_Re_partsOn_18 : decode b_Re_partsOn 18 = .ok (.iload_n 1, 1) := by decide +kernel
theorem d_Re_partsOn_19 : decode b_Re_partsOn 19 = .ok (.if_icmp .ne 6, 3) := by decide +kernel
theorem d_Re_partsOn_22 : decode b_Re_partsOn 22 = .ok (.iinc 2 1, 3) := by decide +kernel
theorem d_Re_partsOn_25 : decode b_Re_partsOn 25 = .ok (.iinc 3 1, 3) := by decide +kernel
theorem d_Re_partsOn_28 : decode b_Re_partsOn 28 = .ok (.goto (-24), 3) := by decide +kernel
theorem d_Re_partsOn_31 : decode b_Re_partsOn 31 = .ok (.iload_n 2, 1) := by decide +kernel
theorem d_Re_partsOn_32 : decode b_Re_partsOn 32 = .ok (.ireturn, 1) := by decide +kernel
theorem d_Re_sendsTo_0 : decode b_Re_sendsTo 0 = .ok (.iconst 0, 1) := by decide +kernel
theorem d_Re_sendsTo_1 : decode b_Re_sendsTo 1 = .ok (.istore_n 2, 1) := by decide +kernel
theorem d_Re_sendsTo_2 : decode b_Re_sendsTo 2 = .ok (.iconst 0, 1) := by decide +kernel
theorem d_Re_sendsTo_3 : decode b_Re_sendsTo 3 = .ok (.istore_n 3, 1) := by decide +kernel
theorem d_Re_sendsTo_4 : decode b_Re_sendsTo 4 = .ok (.iload_n 3, 1) := by decide +kernel
theorem d_Re_sendsTo_5 : decode b_Re_sendsTo 5 = .ok (.aload_n 0, 1) := by decide +kernel
theorem d_Re_sendsTo_6 : decode b_Re_sendsTo 6 = .ok (.getfield 31, 3) := by decide +kernel
theorem d_Re_sendsTo_9 : decode b_Re_sendsTo 9 = .ok (.if_icmp .ge 31, 3) := by decide +kernel
theorem d_Re_sendsTo_12 : decode b_Re_sendsTo 12 = .ok (.aload_n 0, 1) := by decide +kernel
theorem d_Re_sendsTo_13 : decode b_Re_sendsTo 13 = .ok (.getfield 34, 3) := by decide +kernel
theorem d_Re_sendsTo_16 : decode b_Re_sendsTo 16 = .ok (.iload_n 3, 1) := by decide +kernel
theorem d_Re_sendsTo_17 : decode b_Re_sendsTo 17 = .ok (.baload, 1) := by decide +kernel
theorem d_Re_sendsTo_18 : decode b_Re_sendsTo 18 = .ok (.ifCond .eq 16, 3) := by decide +kernel
theorem d_Re_sendsTo_21 : decode b_Re_sendsTo 21 = .ok (.aload_n 0, 1) := by decide +kernel
theorem d_Re_sendsTo_22 : decode b_Re_sendsTo 22 = .ok (.getfield 38, 3) := by decide +kernel
theorem d_Re_sendsTo_25 : decode b_Re_sendsTo 25 = .ok (.iload_n 3, 1) := by decide +kernel
theorem d_Re_sendsTo_26 : decode b_Re_sendsTo 26 = .ok (.iaload, 1) := by decide +kernel
theorem d_Re_sendsTo_27 : decode b_Re_sendsTo 27 = .ok (.iload_n 1, 1) := by decide +kernel
theorem d_Re_sendsTo_28 : decode b_Re_sendsTo 28 = .ok (.if_icmp .ne 6, 3) := by decide +kernel
theorem d_Re_sendsTo_31 : decode b_Re_sendsTo 31 = .ok (.iinc 2 1, 3) := by decide +kernel
theorem d_Re_sendsTo_34 : decode b_Re_sendsTo 34 = .ok (.iinc 3 1, 3) := by decide +kernel
theorem d_Re_sendsTo_37 : decode b_Re_sendsTo 37 = .ok (.goto (-33), 3) := by decide +kernel
theorem d_Re_sendsTo_40 : decode b_Re_sendsTo 40 = .ok (.iload_n 2, 1) := by decide +kernel
theorem d_Re_sendsTo_41 : decode b_Re_sendsTo 41 = .ok (.ireturn, 1) := by decide +kernel
theorem d_V_hasRoom_0 : decode b_V_hasRoom 0 = .ok (.aload_n 0, 1) := by decide +kernel
theorem d_V_hasRoom_1 : decode b_V_hasRoom 1 = .ok (.getfield 35, 3) := by decide +kernel
theorem d_V_hasRoom_4 : decode b_V_hasRoom 4 = .ok (.getfield 154, 3) := by decide +kernel
theorem d_V_hasRoom_7 : decode b_V_hasRoom 7 = .ok (.aload_n 1, 1) := by decide +kernel
theorem d_V_hasRoom_8 : decode b_V_hasRoom 8 = .ok (.invokevirtual 174, 3) := by decide +kernel
theorem d_V_hasRoom_11 : decode b_V_hasRoom 11 = .ok (.iadd, 1) := by decide +kernel
theorem d_V_hasRoom_12 : decode b_V_hasRoom 12 = .ok (.sipush 300, 3) := by decide +kernel
theorem d_V_hasRoom_15 : decode b_V_hasRoom 15 = .ok (.if_icmp .le 5, 3) := by decide +kernel
theorem d_V_hasRoom_18 : decode b_V_hasRoom 18 = .ok (.iconst 0, 1) := by decide +kernel
theorem d_V_hasRoom_19 : decode b_V_hasRoom 19 = .ok (.ireturn, 1) := by decide +kernel
theorem d_V_hasRoom_20 : decode b_V_hasRoom 20 = .ok (.iconst 0, 1) := by decide +kernel
theorem d_V_hasRoom_21 : decode b_V_hasRoom 21 = .ok (.istore_n 2, 1) := by decide +kernel
theorem d_V_hasRoom_22 : decode b_V_hasRoom 22 = .ok (.iload_n 2, 1) := by decide +kernel
theorem d_V_hasRoom_23 : decode b_V_hasRoom 23 = .ok (.aload_n 0, 1) := by decide +kernel
theorem d_V_hasRoom_24 : decode b_V_hasRoom 24 = .ok (.getfield 15, 3) := by decide +kernel
theorem d_V_hasRoom_27 : decode b_V_hasRoom 27 = .ok (.if_icmp .ge 39, 3) := by decide +kernel
theorem d_V_hasRoom_30 : decode b_V_hasRoom 30 = .ok (.aload_n 0, 1) := by decide +kernel
theorem d_V_hasRoom_31 : decode b_V_hasRoom 31 = .ok (.getfield 11, 3) := by decide +kernel
theorem d_V_hasRoom_34 : decode b_V_hasRoom 34 = .ok (.iload_n 2, 1) := by decide +kernel
theorem d_V_hasRoom_35 : decode b_V_hasRoom 35 = .ok (.aaload, 1) := by decide +kernel
theorem d_V_hasRoom_36 : decode b_V_hasRoom 36 = .ok (.getfield 135, 3) := by decide +kernel
theorem d_V_hasRoom_39 : decode b_V_hasRoom 39 = .ok (.aload_n 1, 1) := by decide +kernel
theorem d_V_hasRoom_40 : decode b_V_hasRoom 40 = .ok (.iload_n 2, 1) := by decide +kernel
theorem d_V_hasRoom_41 : decode b_V_hasRoom 41 = .ok (.invokevirtual 177, 3) := by decide +kernel
theorem d_V_hasRoom_44 : decode b_V_hasRoom 44 = .ok (.isub, 1) := by decide +kernel
theorem d_V_hasRoom_45 : decode b_V_hasRoom 45 = .ok (.aload_n 1, 1) := by decide +kernel
theorem d_V_hasRoom_46 : decode b_V_hasRoom 46 = .ok (.iload_n 2, 1) := by decide +kernel
theorem d_V_hasRoom_47 : decode b_V_hasRoom 47 = .ok (.invokevirtual 181, 3) := by decide +kernel
theorem d_V_hasRoom_50 : decode b_V_hasRoom 50 = .ok (.iadd, 1) := by decide +kernel
theorem d_V_hasRoom_51 : decode b_V_hasRoom 51 = .ok (.istore_n 3, 1) := by decide +kernel
theorem d_V_hasRoom_52 : decode b_V_hasRoom 52 = .ok (.iload_n 3, 1) := by decide +kernel
theorem d_V_hasRoom_53 : decode b_V_hasRoom 53 = .ok (.bipush 6, 2) := by decide +kernel
theorem d_V_hasRoom_55 : decode b_V_hasRoom 55 = .ok (.if_icmp .le 5, 3) := by decide +kernel
theorem d_V_hasRoom_58 : decode b_V_hasRoom 58 = .ok (.iconst 0, 1) := by decide +kernel
theorem d_V_hasRoom_59 : decode b_V_hasRoom 59 = .ok (.ireturn, 1) := by decide +kernel
theorem d_V_hasRoom_60 : decode b_V_hasRoom 60 = .ok (.iinc 2 1, 3) := by decide +kernel
theorem d_V_hasRoom_63 : decode b_V_hasRoom 63 = .ok (.goto (-41), 3) := by decide +kernel
theorem d_V_hasRoom_66 : decode b_V_hasRoom 66 = .ok (.iconst 1, 1) := by decide +kernel
theorem d_V_hasRoom_67 : decode b_V_hasRoom 67 = .ok (.ireturn, 1) := by decide +kernel
theorem d_V_allRise_0 : decode b_V_allRise 0 = .ok (.iconst 1, 1) := by decide +kernel
theorem d_V_allRise_1 : decode b_V_allRise 1 = .ok (.istore_n 2, 1) := by decide +kernel
theorem d_V_allRise_2 : decode b_V_allRise 2 = .ok (.iload_n 2, 1) := by decide +kernel
theorem d_V_allRise_3 : decode b_V_allRise 3 = .ok (.iload_n 1, 1) := by decide +kernel
theorem d_V_allRise_4 : decode b_V_allRise 4 = .ok (.if_icmp .ge 22, 3) := by decide +kernel
theorem d_V_allRise_7 : decode b_V_allRise 7 = .ok (.aload_n 0, 1) := by decide +kernel
theorem d_V_allRise_8 : decode b_V_allRise 8 = .ok (.iload_n 2, 1) := by decide +kernel
theorem d_V_allRise_9 : decode b_V_allRise 9 = .ok (.iconst 1, 1) := by decide +kernel
theorem d_V_allRise_10 : decode b_V_allRise 10 = .ok (.isub, 1) := by decide +kernel
theorem d_V_allRise_11 : decode b_V_allRise 11 = .ok (.iaload, 1) := by decide +kernel
theorem d_V_allRise_12 : decode b_V_allRise 12 = .ok (.aload_n 0, 1) := by decide +kernel
theorem d_V_allRise_13 : decode b_V_allRise 13 = .ok (.iload_n 2, 1) := by decide +kernel
theorem d_V_allRise_14 : decode b_V_allRise 14 = .ok (.iaload, 1) := by decide +kernel
theorem d_V_allRise_15 : decode b_V_allRise 15 = .ok (.if_icmp .lt 5, 3) := by decide +kernel
theorem d_V_allRise_18 : decode b_V_allRise 18 = .ok (.iconst 0, 1) := by decide +kernel
theorem d_V_allRise_19 : decode b_V_allRise 19 = .ok (.ireturn, 1) := by decide +kernel
theorem d_V_allRise_20 : decode b_V_allRise 20 = .ok (.iinc 2 1, 3) := by decide +kernel
theorem d_V_allRise_23 : decode b_V_allRise 23 = .ok (.goto (-21), 3) := by decide +kernel
theorem d_V_allRise_26 : decode b_V_allRise 26 = .ok (.iconst 1, 1) := by decide +kernel
theorem d_V_allRise_27 : decode b_V_allRise 27 = .ok (.ireturn, 1) := by decide +kernel
theorem d_V_allEqual_0 : decode b_V_allEqual 0 = .ok (.iconst 1, 1) := by decide +kernel
theorem d_V_allEqual_1 : decode b_V_allEqual 1 = .ok (.istore_n 2, 1) := by decide +kernel
theorem d_V_allEqual_2 : decode b_V_allEqual 2 = .ok (.iload_n 2, 1) := by decide +kernel
theorem d_V_allEqual_3 : decode b_V_allEqual 3 = .ok (.iload_n 1, 1) := by decide +kernel
theorem d_V_allEqual_4 : decode b_V_allEqual 4 = .ok (.if_icmp .ge 20, 3) := by decide +kernel
theorem d_V_allEqual_7 : decode b_V_allEqual 7 = .ok (.aload_n 0, 1) := by decide +kernel
theorem d_V_allEqual_8 : decode b_V_allEqual 8 = .ok (.iload_n 2, 1) := by decide +kernel
theorem d_V_allEqual_9 : decode b_V_allEqual 9 = .ok (.iaload, 1) := by decide +kernel
theorem d_V_allEqual_10 : decode b_V_allEqual 10 = .ok (.aload_n 0, 1) := by decide +kernel
theorem d_V_allEqual_11 : decode b_V_allEqual 11 = .ok (.iconst 0, 1) := by decide +kernel
theorem d_V_allEqual_12 : decode b_V_allEqual 12 = .ok (.iaload, 1) := by decide +kernel
theorem d_V_allEqual_13 : decode b_V_allEqual 13 = .ok (.if_icmp .eq 5, 3) := by decide +kernel
theorem d_V_allEqual_16 : decode b_V_allEqual 16 = .ok (.iconst 0, 1) := by decide +kernel
theorem d_V_allEqual_17 : decode b_V_allEqual 17 = .ok (.ireturn, 1) := by decide +kernel
theorem d_V_allEqual_18 : decode b_V_allEqual 18 = .ok (.iinc 2 1, 3) := by decide +kernel
theorem d_V_allEqual_21 : decode b_V_allEqual 21 = .ok (.goto (-19), 3) := by decide +kernel
theorem d_V_allEqual_24 : decode b_V_allEqual 24 = .ok (.iconst 1, 1) := by decide +kernel
theorem d_V_allEqual_25 : decode b_V_allEqual 25 = .ok (.ireturn, 1) := by decide +kernel
theorem d_V_allDiffer_0 : decode b_V_allDiffer 0 = .ok (.iconst 1, 1) := by decide +kernel
theorem d_V_allDiffer_1 : decode b_V_allDiffer 1 = .ok (.istore_n 2, 1) := by decide +kernel
theorem d_V_allDiffer_2 : decode b_V_allDiffer 2 = .ok (.iload_n 2, 1) := by decide +kernel
theorem d_V_allDiffer_3 : decode b_V_allDiffer 3 = .ok (.iload_n 1, 1) := by decide +kernel
theorem d_V_allDiffer_4 : decode b_V_allDiffer 4 = .ok (.if_icmp .ge 33, 3) := by decide +kernel
theorem d_V_allDiffer_7 : decode b_V_allDiffer 7 = .ok (.iconst 0, 1) := by decide +kernel
theorem d_V_allDiffer_8 : decode b_V_allDiffer 8 = .ok (.istore_n 3, 1) := by decide +kernel
theorem d_V_allDiffer_9 : decode b_V_allDiffer 9 = .ok (.iload_n 3, 1) := by decide +kernel
theorem d_V_allDiffer_10 : decode b_V_allDiffer 10 = .ok (.iload_n 2, 1) := by decide +kernel
theorem d_V_allDiffer_11 : decode b_V_allDiffer 11 = .ok (.if_icmp .ge 20, 3) := by decide +kernel
theorem d_V_allDiffer_14 : decode b_V_allDiffer 14 = .ok (.aload_n 0, 1) := by decide +kernel
theorem d_V_allDiffer_15 : decode b_V_allDiffer 15 = .ok (.iload_n 2, 1) := by decide +kernel
theorem d_V_allDiffer_16 : decode b_V_allDiffer 16 = .ok (.iaload, 1) := by decide +kernel
theorem d_V_allDiffer_17 : decode b_V_allDiffer 17 = .ok (.aload_n 0, 1) := by decide +kernel
theorem d_V_allDiffer_18 : decode b_V_allDiffer 18 = .ok (.iload_n 3, 1) := by decide +kernel
theorem d_V_allDiffer_19 : decode b_V_allDiffer 19 = .ok (.iaload, 1) := by decide +kernel
theorem d_V_allDiffer_20 : decode b_V_allDiffer 20 = .ok (.if_icmp .ne 5, 3) := by decide +kernel
theorem d_V_allDiffer_23 : decode b_V_allDiffer 23 = .ok (.iconst 0, 1) := by decide +kernel
theorem d_V_allDiffer_24 : decode b_V_allDiffer 24 = .ok (.ireturn, 1) := by decide +kernel
theorem d_V_allDiffer_25 : decode b_V_allDiffer 25 = .ok (.iinc 3 1, 3) := by decide +kernel
theorem d_V_allDiffer_28 : decode b_V_allDiffer 28 = .ok (.goto (-19), 3) := by decide +kernel
theorem d_V_allDiffer_31 : decode b_V_allDiffer 31 = .ok (.iinc 2 1, 3) := by decide +kernel
theorem d_V_allDiffer_34 : decode b_V_allDiffer 34 = .ok (.goto (-32), 3) := by decide +kernel
theorem d_V_allDiffer_37 : decode b_V_allDiffer 37 = .ok (.iconst 1, 1) := by decide +kernel
theorem d_V_allDiffer_38 : decode b_V_allDiffer 38 = .ok (.ireturn, 1) := by decide +kernel
theorem d_V_sum_0 : decode b_V_sum 0 = .ok (.lconst 0, 1) := by decide +kernel
theorem d_V_sum_1 : decode b_V_sum 1 = .ok (.lstore_n 2, 1) := by decide +kernel
theorem d_V_sum_2 : decode b_V_sum 2 = .ok (.iconst 0, 1) := by decide +kernel
theorem d_V_sum_3 : decode b_V_sum 3 = .ok (.istore 4, 2) := by decide +kernel
theorem d_V_sum_5 : decode b_V_sum 5 = .ok (.iload 4, 2) := by decide +kernel
theorem d_V_sum_7 : decode b_V_sum 7 = .ok (.iload_n 1, 1) := by decide +kernel
theorem d_V_sum_8 : decode b_V_sum 8 = .ok (.if_icmp .ge 17, 3) := by decide +kernel
theorem d_V_sum_11 : decode b_V_sum 11 = .ok (.lload_n 2, 1) := by decide +kernel
theorem d_V_sum_12 : decode b_V_sum 12 = .ok (.aload_n 0, 1) := by decide +kernel
theorem d_V_sum_13 : decode b_V_sum 13 = .ok (.iload 4, 2) := by decide +kernel
theorem d_V_sum_15 : decode b_V_sum 15 = .ok (.iaload, 1) := by decide +kernel
theorem d_V_sum_16 : decode b_V_sum 16 = .ok (.i2l, 1) := by decide +kernel
theorem d_V_sum_17 : decode b_V_sum 17 = .ok (.ladd, 1) := by decide +kernel
theorem d_V_sum_18 : decode b_V_sum 18 = .ok (.lstore_n 2, 1) := by decide +kernel
theorem d_V_sum_19 : decode b_V_sum 19 = .ok (.iinc 4 1, 3) := by decide +kernel
theorem d_V_sum_22 : decode b_V_sum 22 = .ok (.goto (-17), 3) := by decide +kernel
theorem d_V_sum_25 : decode b_V_sum 25 = .ok (.lload_n 2, 1) := by decide +kernel
theorem d_V_sum_26 : decode b_V_sum 26 = .ok (.lreturn, 1) := by decide +kernel
theorem d_Re_guardHolds_0 : decode b_Re_guardHolds 0 = .ok (.aload_n 0, 1) := by decide +kernel
theorem d_Re_guardHolds_1 : decode b_Re_guardHolds 1 = .ok (.getfield 25, 3) := by decide +kernel
theorem d_Re_guardHolds_4 : decode b_Re_guardHolds 4 = .ok (.tableswitch 118 1 5 #[36, 45, 54, 63, 86], 36) := by decide +kernel
theorem d_Re_guardHolds_40 : decode b_Re_guardHolds 40 = .ok (.aload_n 1, 1) := by decide +kernel
theorem d_Re_guardHolds_41 : decode b_Re_guardHolds 41 = .ok (.aload_n 0, 1) := by decide +kernel
theorem d_Re_guardHolds_42 : decode b_Re_guardHolds 42 = .ok (.getfield 9, 3) := by decide +kernel
theorem d_Re_guardHolds_45 : decode b_Re_guardHolds 45 = .ok (.invokestatic 58, 3) := by decide +kernel
theorem d_Re_guardHolds_48 : decode b_Re_guardHolds 48 = .ok (.ireturn, 1) := by decide +kernel
theorem d_Re_guardHolds_49 : decode b_Re_guardHolds 49 = .ok (.aload_n 1, 1) := by decide +kernel
theorem d_Re_guardHolds_50 : decode b_Re_guardHolds 50 = .ok (.aload_n 0, 1) := by decide +kernel
theorem d_Re_guardHolds_51 : decode b_Re_guardHolds 51 = .ok (.getfield 9, 3) := by decide +kernel
theorem d_Re_guardHolds_54 : decode b_Re_guardHolds 54 = .ok (.invokestatic 62, 3) := by decide +kernel
theorem d_Re_guardHolds_57 : decode b_Re_guardHolds 57 = .ok (.ireturn, 1) := by decide +kernel
theorem d_Re_guardHolds_58 : decode b_Re_guardHolds 58 = .ok (.aload_n 1, 1) := by decide +kernel
theorem d_Re_guardHolds_59 : decode b_Re_guardHolds 59 = .ok (.aload_n 0, 1) := by decide +kernel
theorem d_Re_guardHolds_60 : decode b_Re_guardHolds 60 = .ok (.getfield 9, 3) := by decide +kernel
theorem d_Re_guardHolds_63 : decode b_Re_guardHolds 63 = .ok (.invokestatic 65, 3) := by decide +kernel
theorem d_Re_guardHolds_66 : decode b_Re_guardHolds 66 = .ok (.ireturn, 1) := by decide +kernel
theorem d_Re_guardHolds_67 : decode b_Re_guardHolds 67 = .ok (.aload_n 1, 1) := by decide +kernel
theorem d_Re_guardHolds_68 : decode b_Re_guardHolds 68 = .ok (.aload_n 0, 1) := by decide +kernel
theorem d_Re_guardHolds_69 : decode b_Re_guardHolds 69 = .ok (.getfield 9, 3) := by decide +kernel
theorem d_Re_guardHolds_72 : decode b_Re_guardHolds 72 = .ok (.invokestatic 68, 3) := by decide +kernel
theorem d_Re_guardHolds_75 : decode b_Re_guardHolds 75 = .ok (.aload_n 0, 1) := by decide +kernel
theorem d_Re_guardHolds_76 : decode b_Re_guardHolds 76 = .ok (.getfield 28, 3) := by decide +kernel
theorem d_Re_guardHolds_79 : decode b_Re_guardHolds 79 = .ok (.i2l, 1) := by decide +kernel
theorem d_Re_guardHolds_80 : decode b_Re_guardHolds 80 = .ok (.lcmp, 1) := by decide +kernel
theorem d_Re_guardHolds_81 : decode b_Re_guardHolds 81 = .ok (.ifCond .gt 7, 3) := by decide +kernel
theorem d_Re_guardHolds_84 : decode b_Re_guardHolds 84 = .ok (.iconst 1, 1) := by decide +kernel
theorem d_Re_guardHolds_85 : decode b_Re_guardHolds 85 = .ok (.goto 4, 3) := by decide +kernel
theorem d_Re_guardHolds_88 : decode b_Re_guardHolds 88 = .ok (.iconst 0, 1) := by decide +kernel
theorem d_Re_guardHolds_89 : decode b_Re_guardHolds 89 = .ok (.ireturn, 1) := by decide +kernel
theorem d_Re_guardHolds_90 : decode b_Re_guardHolds 90 = .ok (.aload_n 0, 1) := by decide +kernel
theorem d_Re_guardHolds_91 : decode b_Re_guardHolds 91 = .ok (.getfield 28, 3) := by decide +kernel
theorem d_Re_guardHolds_94 : decode b_Re_guardHolds 94 = .ok (.ifCond .eq 26, 3) := by decide +kernel
theorem d_Re_guardHolds_97 : decode b_Re_guardHolds 97 = .ok (.aload_n 1, 1) := by decide +kernel
theorem d_Re_guardHolds_98 : decode b_Re_guardHolds 98 = .ok (.aload_n 0, 1) := by decide +kernel
theorem d_Re_guardHolds_99 : decode b_Re_guardHolds 99 = .ok (.getfield 9, 3) := by decide +kernel
theorem d_Re_guardHolds_102 : decode b_Re_guardHolds 102 = .ok (.invokestatic 68, 3) := by decide +kernel
theorem d_Re_guardHolds_105 : decode b_Re_guardHolds 105 = .ok (.aload_n 0, 1) := by decide +kernel
theorem d_Re_guardHolds_106 : decode b_Re_guardHolds 106 = .ok (.getfield 28, 3) := by decide +kernel
theorem d_Re_guardHolds_109 : decode b_Re_guardHolds 109 = .ok (.i2l, 1) := by decide +kernel
theorem d_Re_guardHolds_110 : decode b_Re_guardHolds 110 = .ok (.lrem, 1) := by decide +kernel
theorem d_Re_guardHolds_111 : decode b_Re_guardHolds 111 = .ok (.lconst 0, 1) := by decide +kernel
theorem d_Re_guardHolds_112 : decode b_Re_guardHolds 112 = .ok (.lcmp, 1) := by decide +kernel
theorem d_Re_guardHolds_113 : decode b_Re_guardHolds 113 = .ok (.ifCond .ne 7, 3) := by decide +kernel
theorem d_Re_guardHolds_116 : decode b_Re_guardHolds 116 = .ok (.iconst 1, 1) := by decide +kernel
theorem d_Re_guardHolds_117 : decode b_Re_guardHolds 117 = .ok (.goto 4, 3) := by decide +kernel
theorem d_Re_guardHolds_120 : decode b_Re_guardHolds 120 = .ok (.iconst 0, 1) := by decide +kernel
theorem d_Re_guardHolds_121 : decode b_Re_guardHolds 121 = .ok (.ireturn, 1) := by decide +kernel
theorem d_Re_guardHolds_122 : decode b_Re_guardHolds 122 = .ok (.iconst 1, 1) := by decide +kernel
theorem d_Re_guardHolds_123 : decode b_Re_guardHolds 123 = .ok (.ireturn, 1) := by decide +kernel
theorem d_Re_passesTest_0 : decode b_Re_passesTest 0 = .ok (.aload_n 0, 1) := by decide +kernel
theorem d_Re_passesTest_1 : decode b_Re_passesTest 1 = .ok (.getfield 22, 3) := by decide +kernel
theorem d_Re_passesTest_4 : decode b_Re_passesTest 4 = .ok (.iload_n 1, 1) := by decide +kernel
theorem d_Re_passesTest_5 : decode b_Re_passesTest 5 = .ok (.iaload, 1) := by decide +kernel
theorem d_Re_passesTest_6 : decode b_Re_passesTest 6 = .ok (.istore_n 3, 1) := by decide +kernel
theorem d_Re_passesTest_7 : decode b_Re_passesTest 7 = .ok (.aload_n 0, 1) := by decide +kernel
theorem d_Re_passesTest_8 : decode b_Re_passesTest 8 = .ok (.getfield 19, 3) := by decide +kernel
theorem d_Re_passesTest_11 : decode b_Re_passesTest 11 = .ok (.iload_n 1, 1) := by decide +kernel
theorem d_Re_passesTest_12 : decode b_Re_passesTest 12 = .ok (.iaload, 1) := by decide +kernel
theorem d_Re_passesTest_13 : decode b_Re_passesTest 13 = .ok (.tableswitch 76 1 4 #[31, 42, 53, 64], 31) := by decide +kernel
theorem d_Re_passesTest_44 : decode b_Re_passesTest 44 = .ok (.iload_n 2, 1) := by decide +kernel
theorem d_Re_passesTest_45 : decode b_Re_passesTest 45 = .ok (.iload_n 3, 1) := by decide +kernel
theorem d_Re_passesTest_46 : decode b_Re_passesTest 46 = .ok (.if_icmp .ne 7, 3) := by decide +kernel
theorem d_Re_passesTest_49 : decode b_Re_passesTest 49 = .ok (.iconst 1, 1) := by decide +kernel
theorem d_Re_passesTest_50 : decode b_Re_passesTest 50 = .ok (.goto 4, 3) := by decide +kernel
theorem d_Re_passesTest_53 : decode b_Re_passesTest 53 = .ok (.iconst 0, 1) := by decide +kernel
theorem d_Re_passesTest_54 : decode b_Re_passesTest 54 = .ok (.ireturn, 1) := by decide +kernel
theorem d_Re_passesTest_55 : decode b_Re_passesTest 55 = .ok (.iload_n 2, 1) := by decide +kernel
theorem d_Re_passesTest_56 : decode b_Re_passesTest 56 = .ok (.iload_n 3, 1) := by decide +kernel
theorem d_Re_passesTest_57 : decode b_Re_passesTest 57 = .ok (.if_icmp .ge 7, 3) := by decide +kernel
theorem d_Re_passesTest_60 : decode b_Re_passesTest 60 = .ok (.iconst 1, 1) := by decide +kernel
theorem d_Re_passesTest_61 : decode b_Re_passesTest 61 = .ok (.goto 4, 3) := by decide +kernel
theorem d_Re_passesTest_64 : decode b_Re_passesTest 64 = .ok (.iconst 0, 1) := by decide +kernel
theorem d_Re_passesTest_65 : decode b_Re_passesTest 65 = .ok (.ireturn, 1) := by decide +kernel
theorem d_Re_passesTest_66 : decode b_Re_passesTest 66 = .ok (.iload_n 2, 1) := by decide +kernel
theorem d_Re_passesTest_67 : decode b_Re_passesTest 67 = .ok (.iload_n 3, 1) := by decide +kernel
theorem d_Re_passesTest_68 : decode b_Re_passesTest 68 = .ok (.if_icmp .lt 7, 3) := by decide +kernel
theorem d_Re_passesTest_71 : decode b_Re_passesTest 71 = .ok (.iconst 1, 1) := by decide +kernel
theorem d_Re_passesTest_72 : decode b_Re_passesTest 72 = .ok (.goto 4, 3) := by decide +kernel
theorem d_Re_passesTest_75 : decode b_Re_passesTest 75 = .ok (.iconst 0, 1) := by decide +kernel
theorem d_Re_passesTest_76 : decode b_Re_passesTest 76 = .ok (.ireturn, 1) := by decide +kernel
theorem d_Re_passesTest_77 : decode b_Re_passesTest 77 = .ok (.iload_n 2, 1) := by decide +kernel
theorem d_Re_passesTest_78 : decode b_Re_passesTest 78 = .ok (.iload_n 3, 1) := by decide +kernel
theorem d_Re_passesTest_79 : decode b_Re_passesTest 79 = .ok (.iand, 1) := by decide +kernel
theorem d_Re_passesTest_80 : decode b_Re_passesTest 80 = .ok (.ifCond .eq 7, 3) := by decide +kernel
theorem d_Re_passesTest_83 : decode b_Re_passesTest 83 = .ok (.iconst 1, 1) := by decide +kernel
theorem d_Re_passesTest_84 : decode b_Re_passesTest 84 = .ok (.goto 4, 3) := by decide +kernel
theorem d_Re_passesTest_87 : decode b_Re_passesTest 87 = .ok (.iconst 0, 1) := by decide +kernel
theorem d_Re_passesTest_88 : decode b_Re_passesTest 88 = .ok (.ireturn, 1) := by decide +kernel
theorem d_Re_passesTest_89 : decode b_Re_passesTest 89 = .ok (.iconst 1, 1) := by decide +kernel
theorem d_Re_passesTest_90 : decode b_Re_passesTest 90 = .ok (.ireturn, 1) := by decide +kernel
theorem d_Mt_holdsBefore_0 : decode b_Mt_holdsBefore 0 = .ok (.iconst 0, 1) := by decide +kernel
theorem d_Mt_holdsBefore_1 : decode b_Mt_holdsBefore 1 = .ok (.istore_n 3, 1) := by decide +kernel
theorem d_Mt_holdsBefore_2 : decode b_Mt_holdsBefore 2 = .ok (.iload_n 3, 1) := by decide +kernel
theorem d_Mt_holdsBefore_3 : decode b_Mt_holdsBefore 3 = .ok (.iload_n 1, 1) := by decide +kernel
theorem d_Mt_holdsBefore_4 : decode b_Mt_holdsBefore 4 = .ok (.if_icmp .ge 21, 3) := by decide +kernel
theorem d_Mt_holdsBefore_7 : decode b_Mt_holdsBefore 7 = .ok (.aload_n 0, 1) := by decide +kernel
theorem d_Mt_holdsBefore_8 : decode b_Mt_holdsBefore 8 = .ok (.getfield 9, 3) := by decide +kernel
theorem d_Mt_holdsBefore_11 : decode b_Mt_holdsBefore 11 = .ok (.iload_n 3, 1) := by decide +kernel
theorem d_Mt_holdsBefore_12 : decode b_Mt_holdsBefore 12 = .ok (.iaload, 1) := by decide +kernel
theorem d_Mt_holdsBefore_13 : decode b_Mt_holdsBefore 13 = .ok (.iload_n 2, 1) := by decide +kernel
theorem d_Mt_holdsBefore_14 : decode b_Mt_holdsBefore 14 = .ok (.if_icmp .ne 5, 3) := by decide +kernel
theorem d_Mt_holdsBefore_17 : decode b_Mt_holdsBefore 17 = .ok (.iconst 1, 1) := by decide +kernel
theorem d_Mt_holdsBefore_18 : decode b_Mt_holdsBefore 18 = .ok (.ireturn, 1) := by decide +kernel
theorem d_Mt_holdsBefore_19 : decode b_Mt_holdsBefore 19 = .ok (.iinc 3 1, 3) := by decide +kernel
theorem d_Mt_holdsBefore_22 : decode b_Mt_holdsBefore 22 = .ok (.goto (-20), 3) := by decide +kernel
theorem d_Mt_holdsBefore_25 : decode b_Mt_holdsBefore 25 = .ok (.iconst 0, 1) := by decide +kernel
theorem d_Mt_holdsBefore_26 : decode b_Mt_holdsBefore 26 = .ok (.ireturn, 1) := by decide +kernel
theorem d_V_fillMatch_0 : decode b_V_fillMatch 0 = .ok (.iload 4, 2) := by decide +kernel
theorem d_V_fillMatch_2 : decode b_V_fillMatch 2 = .ok (.iconst 4, 1) := by decide +kernel
theorem d_V_fillMatch_3 : decode b_V_fillMatch 3 = .ok (.if_icmp .ge 12, 3) := by decide +kernel
theorem d_V_fillMatch_6 : decode b_V_fillMatch 6 = .ok (.iload 4, 2) := by decide +kernel
theorem d_V_fillMatch_8 : decode b_V_fillMatch 8 = .ok (.aload_n 1, 1) := by decide +kernel
theorem d_V_fillMatch_9 : decode b_V_fillMatch 9 = .ok (.getfield 69, 3) := by decide +kernel
theorem d_V_fillMatch_12 : decode b_V_fillMatch 12 = .ok (.if_icmp .lt 12, 3) := by decide +kernel
theorem d_V_fillMatch_15 : decode b_V_fillMatch 15 = .ok (.aload_n 1, 1) := by decide +kernel
theorem d_V_fillMatch_16 : decode b_V_fillMatch 16 = .ok (.aload_n 0, 1) := by decide +kernel
theorem d_V_fillMatch_17 : decode b_V_fillMatch 17 = .ok (.getfield 184, 3) := by decide +kernel
theorem d_V_fillMatch_20 : decode b_V_fillMatch 20 = .ok (.invokevirtual 185, 3) := by decide +kernel
theorem d_V_fillMatch_23 : decode b_V_fillMatch 23 = .ok (.ireturn, 1) := by decide +kernel
theorem d_V_fillMatch_24 : decode b_V_fillMatch 24 = .ok (.aload_n 2, 1) := by decide +kernel
theorem d_V_fillMatch_25 : decode b_V_fillMatch 25 = .ok (.aload_n 1, 1) := by decide +kernel
theorem d_V_fillMatch_26 : decode b_V_fillMatch 26 = .ok (.getfield 96, 3) := by decide +kernel
theorem d_V_fillMatch_29 : decode b_V_fillMatch 29 = .ok (.iload 4, 2) := by decide +kernel
theorem d_V_fillMatch_31 : decode b_V_fillMatch 31 = .ok (.iaload, 1) := by decide +kernel
theorem d_V_fillMatch_32 : decode b_V_fillMatch 32 = .ok (.aaload, 1) := by decide +kernel
theorem d_V_fillMatch_33 : decode b_V_fillMatch 33 = .ok (.astore 5, 2) := by decide +kernel
theorem d_V_fillMatch_35 : decode b_V_fillMatch 35 = .ok (.iconst 0, 1) := by decide +kernel
theorem d_V_fillMatch_36 : decode b_V_fillMatch 36 = .ok (.istore 6, 2) := by decide +kernel
theorem d_V_fillMatch_38 : decode b_V_fillMatch 38 = .ok (.iload 6, 2) := by decide +kernel
theorem d_V_fillMatch_40 : decode b_V_fillMatch 40 = .ok (.aload 5, 2) := by decide +kernel
theorem d_V_fillMatch_42 : decode b_V_fillMatch 42 = .ok (.getfield 135, 3) := by decide +kernel
theorem d_V_fillMatch_45 : decode b_V_fillMatch 45 = .ok (.if_icmp .ge 84, 3) := by decide +kernel
theorem d_V_fillMatch_48 : decode b_V_fillMatch 48 = .ok (.aload 5, 2) := by decide +kernel
theorem d_V_fillMatch_50 : decode b_V_fillMatch 50 = .ok (.getfield 138, 3) := by decide +kernel
theorem d_V_fillMatch_53 : decode b_V_fillMatch 53 = .ok (.iload 6, 2) := by decide +kernel
theorem d_V_fillMatch_55 : decode b_V_fillMatch 55 = .ok (.iaload, 1) := by decide +kernel
theorem d_V_fillMatch_56 : decode b_V_fillMatch 56 = .ok (.istore 7, 2) := by decide +kernel
theorem d_V_fillMatch_58 : decode b_V_fillMatch 58 = .ok (.aload_n 3, 1) := by decide +kernel
theorem d_V_fillMatch_59 : decode b_V_fillMatch 59 = .ok (.getfield 141, 3) := by decide +kernel
theorem d_V_fillMatch_62 : decode b_V_fillMatch 62 = .ok (.iload 7, 2) := by decide +kernel
theorem d_V_fillMatch_64 : decode b_V_fillMatch 64 = .ok (.iaload, 1) := by decide +kernel
theorem d_V_fillMatch_65 : decode b_V_fillMatch 65 = .ok (.istore 8, 2) := by decide +kernel
theorem d_V_fillMatch_67 : decode b_V_fillMatch 67 = .ok (.aload_n 1, 1) := by decide +kernel
theorem d_V_fillMatch_68 : decode b_V_fillMatch 68 = .ok (.iload 4, 2) := by decide +kernel
theorem d_V_fillMatch_70 : decode b_V_fillMatch 70 = .ok (.iload 8, 2) := by decide +kernel
theorem d_V_fillMatch_72 : decode b_V_fillMatch 72 = .ok (.invokevirtual 189, 3) := by decide +kernel
theorem d_V_fillMatch_75 : decode b_V_fillMatch 75 = .ok (.ifCond .eq 48, 3) := by decide +kernel
theorem d_V_fillMatch_78 : decode b_V_fillMatch 78 = .ok (.aload_n 0, 1) := by decide +kernel
theorem d_V_fillMatch_79 : decode b_V_fillMatch 79 = .ok (.iload 4, 2) := by decide +kernel
theorem d_V_fillMatch_81 : decode b_V_fillMatch 81 = .ok (.iload 7, 2) := by decide +kernel
theorem d_V_fillMatch_83 : decode b_V_fillMatch 83 = .ok (.invokevirtual 192, 3) := by decide +kernel
theorem d_V_fillMatch_86 : decode b_V_fillMatch 86 = .ok (.ifCond .ne 37, 3) := by decide +kernel
theorem d_V_fillMatch_89 : decode b_V_fillMatch 89 = .ok (.aload_n 0, 1) := by decide +kernel
theorem d_V_fillMatch_90 : decode b_V_fillMatch 90 = .ok (.getfield 132, 3) := by decide +kernel
theorem d_V_fillMatch_93 : decode b_V_fillMatch 93 = .ok (.iload 4, 2) := by decide +kernel
theorem d_V_fillMatch_95 : decode b_V_fillMatch 95 = .ok (.iload 7, 2) := by decide +kernel
theorem d_V_fillMatch_97 : decode b_V_fillMatch 97 = .ok (.iastore, 1) := by decide +kernel
theorem d_V_fillMatch_98 : decode b_V_fillMatch 98 = .ok (.aload_n 0, 1) := by decide +kernel
theorem d_V_fillMatch_99 : decode b_V_fillMatch 99 = .ok (.getfield 184, 3) := by decide +kernel
theorem d_V_fillMatch_102 : decode b_V_fillMatch 102 = .ok (.iload 4, 2) := by decide +kernel
theorem d_V_fillMatch_104 : decode b_V_fillMatch 104 = .ok (.iload 8, 2) := by decide +kernel
theorem d_V_fillMatch_106 : decode b_V_fillMatch 106 = .ok (.iastore, 1) := by decide +kernel
theorem d_V_fillMatch_107 : decode b_V_fillMatch 107 = .ok (.aload_n 0, 1) := by decide +kernel
theorem d_V_fillMatch_108 : decode b_V_fillMatch 108 = .ok (.aload_n 1, 1) := by decide +kernel
theorem d_V_fillMatch_109 : decode b_V_fillMatch 109 = .ok (.aload_n 2, 1) := by decide +kernel
theorem d_V_fillMatch_110 : decode b_V_fillMatch 110 = .ok (.aload_n 3, 1) := by decide +kernel
theorem d_V_fillMatch_111 : decode b_V_fillMatch 111 = .ok (.iload 4, 2) := by decide +kernel
theorem d_V_fillMatch_113 : decode b_V_fillMatch 113 = .ok (.iconst 1, 1) := by decide +kernel
theorem d_V_fillMatch_114 : decode b_V_fillMatch 114 = .ok (.iadd, 1) := by decide +kernel
theorem d_V_fillMatch_115 : decode b_V_fillMatch 115 = .ok (.invokestatic 170, 3) := by decide +kernel
theorem d_V_fillMatch_118 : decode b_V_fillMatch 118 = .ok (.ifCond .eq 5, 3) := by decide +kernel
theorem d_V_fillMatch_121 : decode b_V_fillMatch 121 = .ok (.iconst 1, 1) := by decide +kernel
theorem d_V_fillMatch_122 : decode b_V_fillMatch 122 = .ok (.ireturn, 1) := by decide +kernel
theorem d_V_fillMatch_123 : decode b_V_fillMatch 123 = .ok (.iinc 6 1, 3) := by decide +kernel
theorem d_V_fillMatch_126 : decode b_V_fillMatch 126 = .ok (.goto (-88), 3) := by decide +kernel
theorem d_V_fillMatch_129 : decode b_V_fillMatch 129 = .ok (.iconst 0, 1) := by decide +kernel
theorem d_V_fillMatch_130 : decode b_V_fillMatch 130 = .ok (.ireturn, 1) := by decide +kernel
theorem d_V_findEnabledMatch_0 : decode b_V_findEnabledMatch 0 = .ok (.aload_n 0, 1) := by decide +kernel
theorem d_V_findEnabledMatch_1 : decode b_V_findEnabledMatch 1 = .ok (.getfield 28, 3) := by decide +kernel
theorem d_V_findEnabledMatch_4 : decode b_V_findEnabledMatch 4 = .ok (.ifCond .eq 45, 3) := by decide +kernel
theorem d_V_findEnabledMatch_7 : decode b_V_findEnabledMatch 7 = .ok (.aload_n 0, 1) := by decide +kernel
theorem d_V_findEnabledMatch_8 : decode b_V_findEnabledMatch 8 = .ok (.aload_n 0, 1) := by decide +kernel
theorem d_V_findEnabledMatch_9 : decode b_V_findEnabledMatch 9 = .ok (.getfield 21, 3) := by decide +kernel
theorem d_V_findEnabledMatch_12 : decode b_V_findEnabledMatch 12 = .ok (.iload_n 1, 1) := by decide +kernel
theorem d_V_findEnabledMatch_13 : decode b_V_findEnabledMatch 13 = .ok (.aaload, 1) := by decide +kernel
theorem d_V_findEnabledMatch_14 : decode b_V_findEnabledMatch 14 = .ok (.invokevirtual 167, 3) := by decide +kernel
theorem d_V_findEnabledMatch_17 : decode b_V_findEnabledMatch 17 = .ok (.ifCond .eq 32, 3) := by decide +kernel
theorem d_V_findEnabledMatch_20 : decode b_V_findEnabledMatch 20 = .ok (.aload_n 0, 1) := by decide +kernel
theorem d_V_findEnabledMatch_21 : decode b_V_findEnabledMatch 21 = .ok (.getfield 42, 3) := by decide +kernel
theorem d_V_findEnabledMatch_24 : decode b_V_findEnabledMatch 24 = .ok (.aload_n 0, 1) := by decide +kernel
theorem d_V_findEnabledMatch_25 : decode b_V_findEnabledMatch 25 = .ok (.getfield 21, 3) := by decide +kernel
theorem d_V_findEnabledMatch_28 : decode b_V_findEnabledMatch 28 = .ok (.iload_n 1, 1) := by decide +kernel
theorem d_V_findEnabledMatch_29 : decode b_V_findEnabledMatch 29 = .ok (.aaload, 1) := by decide +kernel
theorem d_V_findEnabledMatch_30 : decode b_V_findEnabledMatch 30 = .ok (.aload_n 0, 1) := by decide +kernel
theorem d_V_findEnabledMatch_31 : decode b_V_findEnabledMatch 31 = .ok (.getfield 11, 3) := by decide +kernel
theorem d_V_findEnabledMatch_34 : decode b_V_findEnabledMatch 34 = .ok (.aload_n 0, 1) := by decide +kernel
theorem d_V_findEnabledMatch_35 : decode b_V_findEnabledMatch 35 = .ok (.getfield 35, 3) := by decide +kernel
theorem d_V_findEnabledMatch_38 : decode b_V_findEnabledMatch 38 = .ok (.iconst 0, 1) := by decide +kernel
theorem d_V_findEnabledMatch_39 : decode b_V_findEnabledMatch 39 = .ok (.invokestatic 170, 3) := by decide +kernel
theorem d_V_findEnabledMatch_42 : decode b_V_findEnabledMatch 42 = .ok (.ifCond .eq 7, 3) := by decide +kernel
theorem d_V_findEnabledMatch_45 : decode b_V_findEnabledMatch 45 = .ok (.iconst 1, 1) := by decide +kernel
theorem d_V_findEnabledMatch_46 : decode b_V_findEnabledMatch 46 = .ok (.goto 4, 3) := by decide +kernel
theorem d_V_findEnabledMatch_49 : decode b_V_findEnabledMatch 49 = .ok (.iconst 0, 1) := by decide +kernel
theorem d_V_findEnabledMatch_50 : decode b_V_findEnabledMatch 50 = .ok (.ireturn, 1) := by decide +kernel
theorem d_V_findNext_0 : decode b_V_findNext 0 = .ok (.aload_n 0, 1) := by decide +kernel
theorem d_V_findNext_1 : decode b_V_findNext 1 = .ok (.getfield 50, 3) := by decide +kernel
theorem d_V_findNext_4 : decode b_V_findNext 4 = .ok (.ifCond .ne 7, 3) := by decide +kernel
theorem d_V_findNext_7 : decode b_V_findNext 7 = .ok (.iconst 0, 1) := by decide +kernel
theorem d_V_findNext_8 : decode b_V_findNext 8 = .ok (.goto 16, 3) := by decide +kernel
theorem d_V_findNext_11 : decode b_V_findNext 11 = .ok (.aload_n 0, 1) := by decide +kernel
theorem d_V_findNext_12 : decode b_V_findNext 12 = .ok (.getfield 46, 3) := by decide +kernel
theorem d_V_findNext_15 : decode b_V_findNext 15 = .ok (.aload_n 0, 1) := by decide +kernel
theorem d_V_findNext_16 : decode b_V_findNext 16 = .ok (.getfield 50, 3) := by decide +kernel
theorem d_V_findNext_19 : decode b_V_findNext 19 = .ok (.iconst 1, 1) := by decide +kernel
theorem d_V_findNext_20 : decode b_V_findNext 20 = .ok (.isub, 1) := by decide +kernel
theorem d_V_findNext_21 : decode b_V_findNext 21 = .ok (.iaload, 1) := by decide +kernel
theorem d_V_findNext_22 : decode b_V_findNext 22 = .ok (.iconst 1, 1) := by decide +kernel
theorem d_V_findNext_23 : decode b_V_findNext 23 = .ok (.iadd, 1) := by decide +kernel
theorem d_V_findNext_24 : decode b_V_findNext 24 = .ok (.istore_n 1, 1) := by decide +kernel
theorem d_V_findNext_25 : decode b_V_findNext 25 = .ok (.iconst 0, 1) := by decide +kernel
theorem d_V_findNext_26 : decode b_V_findNext 26 = .ok (.istore_n 2, 1) := by decide +kernel
theorem d_V_findNext_27 : decode b_V_findNext 27 = .ok (.iload_n 2, 1) := by decide +kernel
theorem d_V_findNext_28 : decode b_V_findNext 28 = .ok (.aload_n 0, 1) := by decide +kernel
theorem d_V_findNext_29 : decode b_V_findNext 29 = .ok (.getfield 25, 3) := by decide +kernel
theorem d_V_findNext_32 : decode b_V_findNext 32 = .ok (.if_icmp .ge 28, 3) := by decide +kernel
theorem d_V_findNext_35 : decode b_V_findNext 35 = .ok (.iload_n 1, 1) := by decide +kernel
theorem d_V_findNext_36 : decode b_V_findNext 36 = .ok (.iload_n 2, 1) := by decide +kernel
theorem d_V_findNext_37 : decode b_V_findNext 37 = .ok (.iadd, 1) := by decide +kernel
theorem d_V_findNext_38 : decode b_V_findNext 38 = .ok (.aload_n 0, 1) := by decide +kernel
theorem d_V_findNext_39 : decode b_V_findNext 39 = .ok (.getfield 25, 3) := by decide +kernel
theorem d_V_findNext_42 : decode b_V_findNext 42 = .ok (.irem, 1) := by decide +kernel
theorem d_V_findNext_43 : decode b_V_findNext 43 = .ok (.istore_n 3, 1) := by decide +kernel
theorem d_V_findNext_44 : decode b_V_findNext 44 = .ok (.aload_n 0, 1) := by decide +kernel
theorem d_V_findNext_45 : decode b_V_findNext 45 = .ok (.iload_n 3, 1) := by decide +kernel
theorem d_V_findNext_46 : decode b_V_findNext 46 = .ok (.invokevirtual 129, 3) := by decide +kernel
theorem d_V_findNext_49 : decode b_V_findNext 49 = .ok (.ifCond .eq 5, 3) := by decide +kernel
theorem d_V_findNext_52 : decode b_V_findNext 52 = .ok (.iload_n 3, 1) := by decide +kernel
theorem d_V_findNext_53 : decode b_V_findNext 53 = .ok (.ireturn, 1) := by decide +kernel
theorem d_V_findNext_54 : decode b_V_findNext 54 = .ok (.iinc 2 1, 3) := by decide +kernel
theorem d_V_findNext_57 : decode b_V_findNext 57 = .ok (.goto (-30), 3) := by decide +kernel
theorem d_V_findNext_60 : decode b_V_findNext 60 = .ok (.iconst (-1), 1) := by decide +kernel
theorem d_V_findNext_61 : decode b_V_findNext 61 = .ok (.ireturn, 1) := by decide +kernel
theorem d_V_consume_0 : decode b_V_consume 0 = .ok (.aload_n 0, 1) := by decide +kernel
theorem d_V_consume_1 : decode b_V_consume 1 = .ok (.getfield 35, 3) := by decide +kernel
theorem d_V_consume_4 : decode b_V_consume 4 = .ok (.getfield 113, 3) := by decide +kernel
theorem d_V_consume_7 : decode b_V_consume 7 = .ok (.iload_n 1, 1) := by decide +kernel
theorem d_V_consume_8 : decode b_V_consume 8 = .ok (.iconst 2, 1) := by decide +kernel
theorem d_V_consume_9 : decode b_V_consume 9 = .ok (.iastore, 1) := by decide +kernel
theorem d_V_consume_10 : decode b_V_consume 10 = .ok (.aload_n 0, 1) := by decide +kernel
theorem d_V_consume_11 : decode b_V_consume 11 = .ok (.getfield 35, 3) := by decide +kernel
theorem d_V_consume_14 : decode b_V_consume 14 = .ok (.getfield 144, 3) := by decide +kernel
theorem d_V_consume_17 : decode b_V_consume 17 = .ok (.iload_n 1, 1) := by decide +kernel
theorem d_V_consume_18 : decode b_V_consume 18 = .ok (.aload_n 0, 1) := by decide +kernel
theorem d_V_consume_19 : decode b_V_consume 19 = .ok (.getfield 50, 3) := by decide +kernel
theorem d_V_consume_22 : decode b_V_consume 22 = .ok (.iastore, 1) := by decide +kernel
theorem d_V_consume_23 : decode b_V_consume 23 = .ok (.aload_n 0, 1) := by decide +kernel
theorem d_V_consume_24 : decode b_V_consume 24 = .ok (.getfield 11, 3) := by decide +kernel
theorem d_V_consume_27 : decode b_V_consume 27 = .ok (.aload_n 0, 1) := by decide +kernel
theorem d_V_consume_28 : decode b_V_consume 28 = .ok (.getfield 35, 3) := by decide +kernel
theorem d_V_consume_31 : decode b_V_consume 31 = .ok (.getfield 116, 3) := by decide +kernel
theorem d_V_consume_34 : decode b_V_consume 34 = .ok (.iload_n 1, 1) := by decide +kernel
theorem d_V_consume_35 : decode b_V_consume 35 = .ok (.iaload, 1) := by decide +kernel
theorem d_V_consume_36 : decode b_V_consume 36 = .ok (.aaload, 1) := by decide +kernel
theorem d_V_consume_37 : decode b_V_consume 37 = .ok (.iload_n 1, 1) := by decide +kernel
theorem d_V_consume_38 : decode b_V_consume 38 = .ok (.invokevirtual 119, 3) := by decide +kernel
theorem d_V_consume_41 : decode b_V_consume 41 = .ok (.return_, 1) := by decide +kernel
theorem d_V_greatest_0 : decode b_V_greatest 0 = .ok (.aload_n 0, 1) := by decide +kernel
theorem d_V_greatest_1 : decode b_V_greatest 1 = .ok (.iconst 0, 1) := by decide +kernel
theorem d_V_greatest_2 : decode b_V_greatest 2 = .ok (.iaload, 1) := by decide +kernel
theorem d_V_greatest_3 : decode b_V_greatest 3 = .ok (.istore_n 2, 1) := by decide +kernel
theorem d_V_greatest_4 : decode b_V_greatest 4 = .ok (.iconst 1, 1) := by decide +kernel
theorem d_V_greatest_5 : decode b_V_greatest 5 = .ok (.istore_n 3, 1) := by decide +kernel
theorem d_V_greatest_6 : decode b_V_greatest 6 = .ok (.iload_n 3, 1) := by decide +kernel
theorem d_V_greatest_7 : decode b_V_greatest 7 = .ok (.iload_n 1, 1) := by decide +kernel
theorem d_V_greatest_8 : decode b_V_greatest 8 = .ok (.if_icmp .ge 17, 3) := by decide +kernel
theorem d_V_greatest_11 : decode b_V_greatest 11 = .ok (.iload_n 2, 1) := by decide +kernel
theorem d_V_greatest_12 : decode b_V_greatest 12 = .ok (.aload_n 0, 1) := by decide +kernel
theorem d_V_greatest_13 : decode b_V_greatest 13 = .ok (.iload_n 3, 1) := by decide +kernel
theorem d_V_greatest_14 : decode b_V_greatest 14 = .ok (.iaload, 1) := by decide +kernel
theorem d_V_greatest_15 : decode b_V_greatest 15 = .ok (.invokestatic 212, 3) := by decide +kernel
theorem d_V_greatest_18 : decode b_V_greatest 18 = .ok (.istore_n 2, 1) := by decide +kernel
theorem d_V_greatest_19 : decode b_V_greatest 19 = .ok (.iinc 3 1, 3) := by decide +kernel
theorem d_V_greatest_22 : decode b_V_greatest 22 = .ok (.goto (-16), 3) := by decide +kernel
theorem d_V_greatest_25 : decode b_V_greatest 25 = .ok (.iload_n 2, 1) := by decide +kernel
theorem d_V_greatest_26 : decode b_V_greatest 26 = .ok (.ireturn, 1) := by decide +kernel
theorem d_Re_evaluate_0 : decode b_Re_evaluate 0 = .ok (.aload_n 0, 1) := by decide +kernel
theorem d_Re_evaluate_1 : decode b_Re_evaluate 1 = .ok (.getfield 47, 3) := by decide +kernel
theorem d_Re_evaluate_4 : decode b_Re_evaluate 4 = .ok (.iload_n 1, 1) := by decide +kernel
theorem d_Re_evaluate_5 : decode b_Re_evaluate 5 = .ok (.iaload, 1) := by decide +kernel
theorem d_Re_evaluate_6 : decode b_Re_evaluate 6 = .ok (.istore_n 3, 1) := by decide +kernel
theorem d_Re_evaluate_7 : decode b_Re_evaluate 7 = .ok (.aload_n 0, 1) := by decide +kernel
theorem d_Re_evaluate_8 : decode b_Re_evaluate 8 = .ok (.getfield 41, 3) := by decide +kernel
theorem d_Re_evaluate_11 : decode b_Re_evaluate 11 = .ok (.iload_n 1, 1) := by decide +kernel
theorem d_Re_evaluate_12 : decode b_Re_evaluate 12 = .ok (.iaload, 1) := by decide +kernel
theorem d_Re_evaluate_13 : decode b_Re_evaluate 13 = .ok (.tableswitch 74 1 4 #[31, 42, 53, 65], 31) := by decide +kernel
theorem d_Re_evaluate_44 : decode b_Re_evaluate 44 = .ok (.aload_n 2, 1) := by decide +kernel
theorem d_Re_evaluate_45 : decode b_Re_evaluate 45 = .ok (.aload_n 0, 1) := by decide +kernel
theorem d_Re_evaluate_46 : decode b_Re_evaluate 46 = .ok (.getfield 44, 3) := by decide +kernel
theorem d_Re_evaluate_49 : decode b_Re_evaluate 49 = .ok (.iload_n 1, 1) := by decide +kernel
theorem d_Re_evaluate_50 : decode b_Re_evaluate 50 = .ok (.iaload, 1) := by decide +kernel
theorem d_Re_evaluate_51 : decode b_Re_evaluate 51 = .ok (.iaload, 1) := by decide +kernel
theorem d_Re_evaluate_52 : decode b_Re_evaluate 52 = .ok (.iload_n 3, 1) := by decide +kernel
theorem d_Re_evaluate_53 : decode b_Re_evaluate 53 = .ok (.iadd, 1) := by decide +kernel
theorem d_Re_evaluate_54 : decode b_Re_evaluate 54 = .ok (.ireturn, 1) := by decide +kernel
theorem d_Re_evaluate_55 : decode b_Re_evaluate 55 = .ok (.aload_n 2, 1) := by decide +kernel
theorem d_Re_evaluate_56 : decode b_Re_evaluate 56 = .ok (.aload_n 0, 1) := by decide +kernel
theorem d_Re_evaluate_57 : decode b_Re_evaluate 57 = .ok (.getfield 44, 3) := by decide +kernel
theorem d_Re_evaluate_60 : decode b_Re_evaluate 60 = .ok (.iload_n 1, 1) := by decide +kernel
theorem d_Re_evaluate_61 : decode b_Re_evaluate 61 = .ok (.iaload, 1) := by decide +kernel
theorem d_Re_evaluate_62 : decode b_Re_evaluate 62 = .ok (.iaload, 1) := by decide +kernel
theorem d_Re_evaluate_63 : decode b_Re_evaluate 63 = .ok (.iload_n 3, 1) := by decide +kernel
theorem d_Re_evaluate_64 : decode b_Re_evaluate 64 = .ok (.imul, 1) := by decide +kernel
theorem d_Re_evaluate_65 : decode b_Re_evaluate 65 = .ok (.ireturn, 1) := by decide +kernel
theorem d_Re_evaluate_66 : decode b_Re_evaluate 66 = .ok (.aload_n 2, 1) := by decide +kernel
theorem d_Re_evaluate_67 : decode b_Re_evaluate 67 = .ok (.aload_n 0, 1) := by decide +kernel
theorem d_Re_evaluate_68 : decode b_Re_evaluate 68 = .ok (.getfield 9, 3) := by decide +kernel
theorem d_Re_evaluate_71 : decode b_Re_evaluate 71 = .ok (.invokestatic 68, 3) := by decide +kernel
theorem d_Re_evaluate_74 : decode b_Re_evaluate 74 = .ok (.l2i, 1) := by decide +kernel
theorem d_Re_evaluate_75 : decode b_Re_evaluate 75 = .ok (.iload_n 3, 1) := by decide +kernel
theorem d_Re_evaluate_76 : decode b_Re_evaluate 76 = .ok (.iadd, 1) := by decide +kernel
theorem d_Re_evaluate_77 : decode b_Re_evaluate 77 = .ok (.ireturn, 1) := by decide +kernel
theorem d_Re_evaluate_78 : decode b_Re_evaluate 78 = .ok (.aload_n 2, 1) := by decide +kernel
theorem d_Re_evaluate_79 : decode b_Re_evaluate 79 = .ok (.aload_n 0, 1) := by decide +kernel
theorem d_Re_evaluate_80 : decode b_Re_evaluate 80 = .ok (.getfield 9, 3) := by decide +kernel
theorem d_Re_evaluate_83 : decode b_Re_evaluate 83 = .ok (.invokestatic 72, 3) := by decide +kernel
theorem d_Re_evaluate_86 : decode b_Re_evaluate 86 = .ok (.ireturn, 1) := by decide +kernel
theorem d_Re_evaluate_87 : decode b_Re_evaluate 87 = .ok (.iload_n 3, 1) := by decide +kernel
theorem d_Re_evaluate_88 : decode b_Re_evaluate 88 = .ok (.ireturn, 1) := by decide +kernel
theorem d_V_fire_0 : decode b_V_fire 0 = .ok (.aload_n 0, 1) := by decide +kernel
theorem d_V_fire_1 : decode b_V_fire 1 = .ok (.getfield 21, 3) := by decide +kernel
theorem d_V_fire_4 : decode b_V_fire 4 = .ok (.iload_n 1, 1) := by decide +kernel
theorem d_V_fire_5 : decode b_V_fire 5 = .ok (.aaload, 1) := by decide +kernel
theorem d_V_fire_6 : decode b_V_fire 6 = .ok (.astore_n 2, 1) := by decide +kernel
theorem d_V_fire_7 : decode b_V_fire 7 = .ok (.iconst 0, 1) := by decide +kernel
theorem d_V_fire_8 : decode b_V_fire 8 = .ok (.istore_n 3, 1) := by decide +kernel
theorem d_V_fire_9 : decode b_V_fire 9 = .ok (.iload_n 3, 1) := by decide +kernel
theorem d_V_fire_10 : decode b_V_fire 10 = .ok (.aload_n 2, 1) := by decide +kernel
theorem d_V_fire_11 : decode b_V_fire 11 = .ok (.getfield 69, 3) := by decide +kernel
theorem d_V_fire_14 : decode b_V_fire 14 = .ok (.if_icmp .ge 22, 3) := by decide +kernel
theorem d_V_fire_17 : decode b_V_fire 17 = .ok (.aload_n 0, 1) := by decide +kernel
theorem d_V_fire_18 : decode b_V_fire 18 = .ok (.aload_n 0, 1) := by decide +kernel
theorem d_V_fire_19 : decode b_V_fire 19 = .ok (.getfield 42, 3) := by decide +kernel
theorem d_V_fire_22 : decode b_V_fire 22 = .ok (.getfield 132, 3) := by decide +kernel
theorem d_V_fire_25 : decode b_V_fire 25 = .ok (.iload_n 3, 1) := by decide +kernel
theorem d_V_fire_26 : decode b_V_fire 26 = .ok (.iaload, 1) := by decide +kernel
theorem d_V_fire_27 : decode b_V_fire 27 = .ok (.invokevirtual 195, 3) := by decide +kernel
theorem d_V_fire_30 : decode b_V_fire 30 = .ok (.iinc 3 1, 3) := by decide +kernel
theorem d_V_fire_33 : decode b_V_fire 33 = .ok (.goto (-24), 3) := by decide +kernel
theorem d_V_fire_36 : decode b_V_fire 36 = .ok (.iconst 0, 1) := by decide +kernel
theorem d_V_fire_37 : decode b_V_fire 37 = .ok (.istore_n 3, 1) := by decide +kernel
theorem d_V_fire_38 : decode b_V_fire 38 = .ok (.iload_n 3, 1) := by decide +kernel
theorem d_V_fire_39 : decode b_V_fire 39 = .ok (.aload_n 2, 1) := by decide +kernel
theorem d_V_fire_40 : decode b_V_fire 40 = .ok (.getfield 198, 3) := by decide +kernel
theorem d_V_fire_43 : decode b_V_fire 43 = .ok (.if_icmp .ge 72, 3) := by decide +kernel
theorem d_V_fire_46 : decode b_V_fire 46 = .ok (.aload_n 2, 1) := by decide +kernel
theorem d_V_fire_47 : decode b_V_fire 47 = .ok (.iload_n 3, 1) := by decide +kernel
theorem d_V_fire_48 : decode b_V_fire 48 = .ok (.aload_n 0, 1) := by decide +kernel
theorem d_V_fire_49 : decode b_V_fire 49 = .ok (.getfield 42, 3) := by decide +kernel
theorem d_V_fire_52 : decode b_V_fire 52 = .ok (.getfield 184, 3) := by decide +kernel
theorem d_V_fire_55 : decode b_V_fire 55 = .ok (.invokevirtual 201, 3) := by decide +kernel
theorem d_V_fire_58 : decode b_V_fire 58 = .ok (.istore 4, 2) := by decide +kernel
theorem d_V_fire_60 : decode b_V_fire 60 = .ok (.aload_n 2, 1) := by decide +kernel
theorem d_V_fire_61 : decode b_V_fire 61 = .ok (.getfield 205, 3) := by decide +kernel
theorem d_V_fire_64 : decode b_V_fire 64 = .ok (.iload_n 3, 1) := by decide +kernel
theorem d_V_fire_65 : decode b_V_fire 65 = .ok (.baload, 1) := by decide +kernel
theorem d_V_fire_66 : decode b_V_fire 66 = .ok (.ifCond .eq 19, 3) := by decide +kernel
theorem d_V_fire_69 : decode b_V_fire 69 = .ok (.aload_n 0, 1) := by decide +kernel
theorem d_V_fire_70 : decode b_V_fire 70 = .ok (.aload_n 2, 1) := by decide +kernel
theorem d_V_fire_71 : decode b_V_fire 71 = .ok (.getfield 209, 3) := by decide +kernel
theorem d_V_fire_74 : decode b_V_fire 74 = .ok (.iload_n 3, 1) := by decide +kernel
theorem d_V_fire_75 : decode b_V_fire 75 = .ok (.iaload, 1) := by decide +kernel
theorem d_V_fire_76 : decode b_V_fire 76 = .ok (.iload 4, 2) := by decide +kernel
theorem d_V_fire_78 : decode b_V_fire 78 = .ok (.invokevirtual 157, 3) := by decide +kernel
theorem d_V_fire_81 : decode b_V_fire 81 = .ok (.pop, 1) := by decide +kernel
theorem d_V_fire_82 : decode b_V_fire 82 = .ok (.goto 27, 3) := by decide +kernel
theorem d_V_fire_85 : decode b_V_fire 85 = .ok (.aload_n 0, 1) := by decide +kernel
theorem d_V_fire_86 : decode b_V_fire 86 = .ok (.getfield 35, 3) := by decide +kernel
theorem d_V_fire_89 : decode b_V_fire 89 = .ok (.getfield 147, 3) := by decide +kernel
theorem d_V_fire_92 : decode b_V_fire 92 = .ok (.aload_n 0, 1) := by decide +kernel
theorem d_V_fire_93 : decode b_V_fire 93 = .ok (.getfield 42, 3) := by decide +kernel
theorem d_V_fire_96 : decode b_V_fire 96 = .ok (.getfield 132, 3) := by decide +kernel
theorem d_V_fire_99 : decode b_V_fire 99 = .ok (.aload_n 2, 1) := by decide +kernel
theorem d_V_fire_100 : decode b_V_fire 100 = .ok (.getfield 209, 3) := by decide +kernel
theorem d_V_fire_103 : decode b_V_fire 103 = .ok (.iload_n 3, 1) := by decide +kernel
theorem d_V_fire_104 : decode b_V_fire 104 = .ok (.iaload, 1) := by decide +kernel
theorem d_V_fire_105 : decode b_V_fire 105 = .ok (.iaload, 1) := by decide +kernel
theorem d_V_fire_106 : decode b_V_fire 106 = .ok (.iload 4, 2) := by decide +kernel
theorem d_V_fire_108 : decode b_V_fire 108 = .ok (.iastore, 1) := by decide +kernel
theorem d_V_fire_109 : decode b_V_fire 109 = .ok (.iinc 3 1, 3) := by decide +kernel
theorem d_V_fire_112 : decode b_V_fire 112 = .ok (.goto (-74), 3) := by decide +kernel
theorem d_V_fire_115 : decode b_V_fire 115 = .ok (.aload_n 0, 1) := by decide +kernel
theorem d_V_fire_116 : decode b_V_fire 116 = .ok (.getfield 46, 3) := by decide +kernel
theorem d_V_fire_119 : decode b_V_fire 119 = .ok (.aload_n 0, 1) := by decide +kernel
theorem d_V_fire_120 : decode b_V_fire 120 = .ok (.getfield 50, 3) := by decide +kernel
theorem d_V_fire_123 : decode b_V_fire 123 = .ok (.iload_n 1, 1) := by decide +kernel
theorem d_V_fire_124 : decode b_V_fire 124 = .ok (.iastore, 1) := by decide +kernel
theorem d_V_fire_125 : decode b_V_fire 125 = .ok (.aload_n 0, 1) := by decide +kernel
theorem d_V_fire_126 : decode b_V_fire 126 = .ok (.dup, 1) := by decide +kernel
theorem d_V_fire_127 : decode b_V_fire 127 = .ok (.getfield 50, 3) := by decide +kernel
theorem d_V_fire_130 : decode b_V_fire 130 = .ok (.iconst 1, 1) := by decide +kernel
theorem d_V_fire_131 : decode b_V_fire 131 = .ok (.iadd, 1) := by decide +kernel
theorem d_V_fire_132 : decode b_V_fire 132 = .ok (.putfield 50, 3) := by decide +kernel
theorem d_V_fire_135 : decode b_V_fire 135 = .ok (.return_, 1) := by decide +kernel
theorem d_V_react_0 : decode b_V_react 0 = .ok (.aload_n 0, 1) := by decide +kernel
theorem d_V_react_1 : decode b_V_react 1 = .ok (.getfield 28, 3) := by decide +kernel
theorem d_V_react_4 : decode b_V_react 4 = .ok (.ifCond .eq 11, 3) := by decide +kernel
theorem d_V_react_7 : decode b_V_react 7 = .ok (.iload_n 1, 1) := by decide +kernel
theorem d_V_react_8 : decode b_V_react 8 = .ok (.iconst 5, 1) := by decide +kernel
theorem d_V_react_9 : decode b_V_react 9 = .ok (.invokestatic 65, 3) := by decide +kernel
theorem d_V_react_12 : decode b_V_react 12 = .ok (.ifCond .ne 5, 3) := by decide +kernel
theorem d_V_react_15 : decode b_V_react 15 = .ok (.iconst (-1), 1) := by decide +kernel
theorem d_V_react_16 : decode b_V_react 16 = .ok (.ireturn, 1) := by decide +kernel
theorem d_V_react_17 : decode b_V_react 17 = .ok (.iconst 0, 1) := by decide +kernel
theorem d_V_react_18 : decode b_V_react 18 = .ok (.istore_n 2, 1) := by decide +kernel
theorem d_V_react_19 : decode b_V_react 19 = .ok (.iload_n 2, 1) := by decide +kernel
theorem d_V_react_20 : decode b_V_react 20 = .ok (.iload_n 1, 1) := by decide +kernel
theorem d_V_react_21 : decode b_V_react 21 = .ok (.if_icmp .ge 26, 3) := by decide +kernel
theorem d_V_react_24 : decode b_V_react 24 = .ok (.aload_n 0, 1) := by decide +kernel
theorem d_V_react_25 : decode b_V_react 25 = .ok (.invokevirtual 123, 3) := by decide +kernel
theorem d_V_react_28 : decode b_V_react 28 = .ok (.istore_n 3, 1) := by decide +kernel
theorem d_V_react_29 : decode b_V_react 29 = .ok (.iload_n 3, 1) := by decide +kernel
theorem d_V_react_30 : decode b_V_react 30 = .ok (.iconst (-1), 1) := by decide +kernel
theorem d_V_react_31 : decode b_V_react 31 = .ok (.if_icmp .ne 5, 3) := by decide +kernel
theorem d_V_react_34 : decode b_V_react 34 = .ok (.iload_n 2, 1) := by decide +kernel
theorem d_V_react_35 : decode b_V_react 35 = .ok (.ireturn, 1) := by decide +kernel
theorem d_V_react_36 : decode b_V_react 36 = .ok (.aload_n 0, 1) := by decide +kernel
theorem d_V_react_37 : decode b_V_react 37 = .ok (.iload_n 3, 1) := by decide +kernel
theorem d_V_react_38 : decode b_V_react 38 = .ok (.invokevirtual 126, 3) := by decide +kernel
theorem d_V_react_41 : decode b_V_react 41 = .ok (.iinc 2 1, 3) := by decide +kernel
theorem d_V_react_44 : decode b_V_react 44 = .ok (.goto (-25), 3) := by decide +kernel
theorem d_V_react_47 : decode b_V_react 47 = .ok (.iload_n 1, 1) := by decide +kernel
theorem d_V_react_48 : decode b_V_react 48 = .ok (.ireturn, 1) := by decide +kernel
theorem d_V_enabled_0 : decode b_V_enabled 0 = .ok (.iconst 0, 1) := by decide +kernel
theorem d_V_enabled_1 : decode b_V_enabled 1 = .ok (.istore_n 1, 1) := by decide +kernel
theorem d_V_enabled_2 : decode b_V_enabled 2 = .ok (.iconst 0, 1) := by decide +kernel
theorem d_V_enabled_3 : decode b_V_enabled 3 = .ok (.istore_n 2, 1) := by decide +kernel
theorem d_V_enabled_4 : decode b_V_enabled 4 = .ok (.iload_n 2, 1) := by decide +kernel
theorem d_V_enabled_5 : decode b_V_enabled 5 = .ok (.aload_n 0, 1) := by decide +kernel
theorem d_V_enabled_6 : decode b_V_enabled 6 = .ok (.getfield 25, 3) := by decide +kernel
theorem d_V_enabled_9 : decode b_V_enabled 9 = .ok (.if_icmp .ge 23, 3) := by decide +kernel
theorem d_V_enabled_12 : decode b_V_enabled 12 = .ok (.aload_n 0, 1) := by decide +kernel
theorem d_V_enabled_13 : decode b_V_enabled 13 = .ok (.iload_n 2, 1) := by decide +kernel
theorem d_V_enabled_14 : decode b_V_enabled 14 = .ok (.invokevirtual 129, 3) := by decide +kernel
theorem d_V_enabled_17 : decode b_V_enabled 17 = .ok (.ifCond .eq 9, 3) := by decide +kernel
theorem d_V_enabled_20 : decode b_V_enabled 20 = .ok (.iload_n 1, 1) := by decide +kernel
theorem d_V_enabled_21 : decode b_V_enabled 21 = .ok (.iconst 1, 1) := by decide +kernel
theorem d_V_enabled_22 : decode b_V_enabled 22 = .ok (.iload_n 2, 1) := by decide +kernel
theorem d_V_enabled_23 : decode b_V_enabled 23 = .ok (.ishl, 1) := by decide +kernel
theorem d_V_enabled_24 : decode b_V_enabled 24 = .ok (.ior, 1) := by decide +kernel
theorem d_V_enabled_25 : decode b_V_enabled 25 = .ok (.istore_n 1, 1) := by decide +kernel
theorem d_V_enabled_26 : decode b_V_enabled 26 = .ok (.iinc 2 1, 3) := by decide +kernel
theorem d_V_enabled_29 : decode b_V_enabled 29 = .ok (.goto (-25), 3) := by decide +kernel
theorem d_V_enabled_32 : decode b_V_enabled 32 = .ok (.iload_n 1, 1) := by decide +kernel
theorem d_V_enabled_33 : decode b_V_enabled 33 = .ok (.ireturn, 1) := by decide +kernel
theorem d_V_next_0 : decode b_V_next 0 = .ok (.aload_n 0, 1) := by decide +kernel
theorem d_V_next_1 : decode b_V_next 1 = .ok (.invokevirtual 123, 3) := by decide +kernel
theorem d_V_next_4 : decode b_V_next 4 = .ok (.ireturn, 1) := by decide +kernel
theorem d_V_taken_0 : decode b_V_taken 0 = .ok (.aload_n 0, 1) := by decide +kernel
theorem d_V_taken_1 : decode b_V_taken 1 = .ok (.invokevirtual 123, 3) := by decide +kernel
theorem d_V_taken_4 : decode b_V_taken 4 = .ok (.istore_n 2, 1) := by decide +kernel
theorem d_V_taken_5 : decode b_V_taken 5 = .ok (.iload_n 2, 1) := by decide +kernel
theorem d_V_taken_6 : decode b_V_taken 6 = .ok (.iconst (-1), 1) := by decide +kernel
theorem d_V_taken_7 : decode b_V_taken 7 = .ok (.if_icmp .eq 16, 3) := by decide +kernel
theorem d_V_taken_10 : decode b_V_taken 10 = .ok (.aload_n 0, 1) := by decide +kernel
theorem d_V_taken_11 : decode b_V_taken 11 = .ok (.getfield 21, 3) := by decide +kernel
theorem d_V_taken_14 : decode b_V_taken 14 = .ok (.iload_n 2, 1) := by decide +kernel
theorem d_V_taken_15 : decode b_V_taken 15 = .ok (.aaload, 1) := by decide +kernel
theorem d_V_taken_16 : decode b_V_taken 16 = .ok (.iload_n 1, 1) := by decide +kernel
theorem d_V_taken_17 : decode b_V_taken 17 = .ok (.invokevirtual 93, 3) := by decide +kernel
theorem d_V_taken_20 : decode b_V_taken 20 = .ok (.ifCond .ne 5, 3) := by decide +kernel
theorem d_V_taken_23 : decode b_V_taken 23 = .ok (.iconst (-1), 1) := by decide +kernel
theorem d_V_taken_24 : decode b_V_taken 24 = .ok (.ireturn, 1) := by decide +kernel
theorem d_V_taken_25 : decode b_V_taken 25 = .ok (.aload_n 0, 1) := by decide +kernel
theorem d_V_taken_26 : decode b_V_taken 26 = .ok (.getfield 42, 3) := by decide +kernel
theorem d_V_taken_29 : decode b_V_taken 29 = .ok (.getfield 132, 3) := by decide +kernel
theorem d_V_taken_32 : decode b_V_taken 32 = .ok (.iload_n 1, 1) := by decide +kernel
theorem d_V_taken_33 : decode b_V_taken 33 = .ok (.iaload, 1) := by decide +kernel
theorem d_V_taken_34 : decode b_V_taken 34 = .ok (.ireturn, 1) := by decide +kernel
theorem d_V_pendingAt_0 : decode b_V_pendingAt 0 = .ok (.aload_n 0, 1) := by decide +kernel
theorem d_V_pendingAt_1 : decode b_V_pendingAt 1 = .ok (.iload_n 1, 1) := by decide +kernel
theorem d_V_pendingAt_2 : decode b_V_pendingAt 2 = .ok (.invokevirtual 62, 3) := by decide +kernel
theorem d_V_pendingAt_5 : decode b_V_pendingAt 5 = .ok (.ifCond .eq 20, 3) := by decide +kernel
theorem d_V_pendingAt_8 : decode b_V_pendingAt 8 = .ok (.iload_n 2, 1) := by decide +kernel
theorem d_V_pendingAt_9 : decode b_V_pendingAt 9 = .ok (.ifCond .lt 16, 3) := by decide +kernel
theorem d_V_pendingAt_12 : decode b_V_pendingAt 12 = .ok (.iload_n 2, 1) := by decide +kernel
theorem d_V_pendingAt_13 : decode b_V_pendingAt 13 = .ok (.aload_n 0, 1) := by decide +kernel
theorem d_V_pendingAt_14 : decode b_V_pendingAt 14 = .ok (.getfield 11, 3) := by decide +kernel
theorem d_V_pendingAt_17 : decode b_V_pendingAt 17 = .ok (.iload_n 1, 1) := by decide +kernel
theorem d_V_pendingAt_18 : decode b_V_pendingAt 18 = .ok (.aaload, 1) := by decide +kernel
theorem d_V_pendingAt_19 : decode b_V_pendingAt 19 = .ok (.getfield 135, 3) := by decide +kernel
theorem d_V_pendingAt_22 : decode b_V_pendingAt 22 = .ok (.if_icmp .lt 5, 3) := by decide +kernel
theorem d_V_pendingAt_25 : decode b_V_pendingAt 25 = .ok (.iconst (-1), 1) := by decide +kernel
theorem d_V_pendingAt_26 : decode b_V_pendingAt 26 = .ok (.ireturn, 1) := by decide +kernel
theorem d_V_pendingAt_27 : decode b_V_pendingAt 27 = .ok (.aload_n 0, 1) := by decide +kernel
theorem d_V_pendingAt_28 : decode b_V_pendingAt 28 = .ok (.getfield 11, 3) := by decide +kernel
theorem d_V_pendingAt_31 : decode b_V_pendingAt 31 = .ok (.iload_n 1, 1) := by decide +kernel
theorem d_V_pendingAt_32 : decode b_V_pendingAt 32 = .ok (.aaload, 1) := by decide +kernel
theorem d_V_pendingAt_33 : decode b_V_pendingAt 33 = .ok (.getfield 138, 3) := by decide +kernel
theorem d_V_pendingAt_36 : decode b_V_pendingAt 36 = .ok (.iload_n 2, 1) := by decide +kernel
theorem d_V_pendingAt_37 : decode b_V_pendingAt 37 = .ok (.iaload, 1) := by decide +kernel
theorem d_V_pendingAt_38 : decode b_V_pendingAt 38 = .ok (.ireturn, 1) := by decide +kernel
theorem d_V_value_0 : decode b_V_value 0 = .ok (.aload_n 0, 1) := by decide +kernel
theorem d_V_value_1 : decode b_V_value 1 = .ok (.getfield 35, 3) := by decide +kernel
theorem d_V_value_4 : decode b_V_value 4 = .ok (.iload_n 1, 1) := by decide +kernel
theorem d_V_value_5 : decode b_V_value 5 = .ok (.invokevirtual 110, 3) := by decide +kernel
theorem d_V_value_8 : decode b_V_value 8 = .ok (.ifCond .eq 15, 3) := by decide +kernel
theorem d_V_value_11 : decode b_V_value 11 = .ok (.aload_n 0, 1) := by decide +kernel
theorem d_V_value_12 : decode b_V_value 12 = .ok (.getfield 35, 3) := by decide +kernel
theorem d_V_value_15 : decode b_V_value 15 = .ok (.getfield 141, 3) := by decide +kernel
theorem d_V_value_18 : decode b_V_value 18 = .ok (.iload_n 1, 1) := by decide +kernel
theorem d_V_value_19 : decode b_V_value 19 = .ok (.iaload, 1) := by decide +kernel
theorem d_V_value_20 : decode b_V_value 20 = .ok (.goto 4, 3) := by decide +kernel
theorem d_V_value_23 : decode b_V_value 23 = .ok (.iconst 0, 1) := by decide +kernel
theorem d_V_value_24 : decode b_V_value 24 = .ok (.ireturn, 1) := by decide +kernel
theorem d_V_state_0 : decode b_V_state 0 = .ok (.aload_n 0, 1) := by decide +kernel
theorem d_V_state_1 : decode b_V_state 1 = .ok (.getfield 35, 3) := by decide +kernel
theorem d_V_state_4 : decode b_V_state 4 = .ok (.iload_n 1, 1) := by decide +kernel
theorem d_V_state_5 : decode b_V_state 5 = .ok (.invokevirtual 110, 3) := by decide +kernel
theorem d_V_state_8 : decode b_V_state 8 = .ok (.ifCond .eq 15, 3) := by decide +kernel
theorem d_V_state_11 : decode b_V_state 11 = .ok (.aload_n 0, 1) := by decide +kernel
theorem d_V_state_12 : decode b_V_state 12 = .ok (.getfield 35, 3) := by decide +kernel
theorem d_V_state_15 : decode b_V_state 15 = .ok (.getfield 113, 3) := by decide +kernel
theorem d_V_state_18 : decode b_V_state 18 = .ok (.iload_n 1, 1) := by decide +kernel
theorem d_V_state_19 : decode b_V_state 19 = .ok (.iaload, 1) := by decide +kernel
theorem d_V_state_20 : decode b_V_state 20 = .ok (.goto 4, 3) := by decide +kernel
theorem d_V_state_23 : decode b_V_state 23 = .ok (.iconst 0, 1) := by decide +kernel
theorem d_V_state_24 : decode b_V_state 24 = .ok (.ireturn, 1) := by decide +kernel
theorem d_V_consumer_0 : decode b_V_consumer 0 = .ok (.aload_n 0, 1) := by decide +kernel
theorem d_V_consumer_1 : decode b_V_consumer 1 = .ok (.getfield 35, 3) := by decide +kernel
theorem d_V_consumer_4 : decode b_V_consumer 4 = .ok (.iload_n 1, 1) := by decide +kernel
theorem d_V_consumer_5 : decode b_V_consumer 5 = .ok (.invokevirtual 110, 3) := by decide +kernel
theorem d_V_consumer_8 : decode b_V_consumer 8 = .ok (.ifCond .eq 15, 3) := by decide +kernel
theorem d_V_consumer_11 : decode b_V_consumer 11 = .ok (.aload_n 0, 1) := by decide +kernel
theorem d_V_consumer_12 : decode b_V_consumer 12 = .ok (.getfield 35, 3) := by decide +kernel
theorem d_V_consumer_15 : decode b_V_consumer 15 = .ok (.getfield 144, 3) := by decide +kernel
theorem d_V_consumer_18 : decode b_V_consumer 18 = .ok (.iload_n 1, 1) := by decide +kernel
theorem d_V_consumer_19 : decode b_V_consumer 19 = .ok (.iaload, 1) := by decide +kernel
theorem d_V_consumer_20 : decode b_V_consumer 20 = .ok (.goto 4, 3) := by decide +kernel
theorem d_V_consumer_23 : decode b_V_consumer 23 = .ok (.iconst (-1), 1) := by decide +kernel
theorem d_V_consumer_24 : decode b_V_consumer 24 = .ok (.ireturn, 1) := by decide +kernel
theorem d_V_answer_0 : decode b_V_answer 0 = .ok (.aload_n 0, 1) := by decide +kernel
theorem d_V_answer_1 : decode b_V_answer 1 = .ok (.getfield 35, 3) := by decide +kernel
theorem d_V_answer_4 : decode b_V_answer 4 = .ok (.iload_n 1, 1) := by decide +kernel
theorem d_V_answer_5 : decode b_V_answer 5 = .ok (.invokevirtual 110, 3) := by decide +kernel
theorem d_V_answer_8 : decode b_V_answer 8 = .ok (.ifCond .eq 15, 3) := by decide +kernel
theorem d_V_answer_11 : decode b_V_answer 11 = .ok (.aload_n 0, 1) := by decide +kernel
theorem d_V_answer_12 : decode b_V_answer 12 = .ok (.getfield 35, 3) := by decide +kernel
theorem d_V_answer_15 : decode b_V_answer 15 = .ok (.getfield 147, 3) := by decide +kernel
theorem d_V_answer_18 : decode b_V_answer 18 = .ok (.iload_n 1, 1) := by decide +kernel
theorem d_V_answer_19 : decode b_V_answer 19 = .ok (.iaload, 1) := by decide +kernel
theorem d_V_answer_20 : decode b_V_answer 20 = .ok (.goto 4, 3) := by decide +kernel
theorem d_V_answer_23 : decode b_V_answer 23 = .ok (.iconst 0, 1) := by decide +kernel
theorem d_V_answer_24 : decode b_V_answer 24 = .ok (.ireturn, 1) := by decide +kernel
theorem d_V_fired_0 : decode b_V_fired 0 = .ok (.iload_n 1, 1) := by decide +kernel
theorem d_V_fired_1 : decode b_V_fired 1 = .ok (.ifCond .lt 20, 3) := by decide +kernel
theorem d_V_fired_4 : decode b_V_fired 4 = .ok (.iload_n 1, 1) := by decide +kernel
theorem d_V_fired_5 : decode b_V_fired 5 = .ok (.aload_n 0, 1) := by decide +kernel
theorem d_V_fired_6 : decode b_V_fired 6 = .ok (.getfield 50, 3) := by decide +kernel
theorem d_V_fired_9 : decode b_V_fired 9 = .ok (.if_icmp .ge 12, 3) := by decide +kernel
theorem d_V_fired_12 : decode b_V_fired 12 = .ok (.aload_n 0, 1) := by decide +kernel
theorem d_V_fired_13 : decode b_V_fired 13 = .ok (.getfield 46, 3) := by decide +kernel
theorem d_V_fired_16 : decode b_V_fired 16 = .ok (.iload_n 1, 1) := by decide +kernel
theorem d_V_fired_17 : decode b_V_fired 17 = .ok (.iaload, 1) := by decide +kernel
theorem d_V_fired_18 : decode b_V_fired 18 = .ok (.goto 4, 3) := by decide +kernel
theorem d_V_fired_21 : decode b_V_fired 21 = .ok (.iconst (-1), 1) := by decide +kernel
theorem d_V_fired_22 : decode b_V_fired 22 = .ok (.ireturn, 1) := by decide +kernel
end
section
theorem d_M_channel_0 : decode b_M_channel 0 = .ok (.aload_n 0, 1) := by decide +kernel
theorem d_M_channel_1 : decode b_M_channel 1 = .ok (.getfield 80, 3) := by decide +kernel
theorem d_M_channel_4 : decode b_M_channel 4 = .ok (.ifCond .ne 12, 3) := by decide +kernel
theorem d_M_channel_7 : decode b_M_channel 7 = .ok (.aload_n 0, 1) := by decide +kernel
theorem d_M_channel_8 : decode b_M_channel 8 = .ok (.getfield 84, 3) := by decide +kernel
theorem d_M_channel_11 : decode b_M_channel 11 = .ok (.bipush 8, 2) := by decide +kernel
theorem d_M_channel_13 : decode b_M_channel 13 = .ok (.if_icmp .lt 5, 3) := by decide +kernel
theorem d_M_channel_16 : decode b_M_channel 16 = .ok (.iconst (-1), 1) := by decide +kernel
theorem d_M_channel_17 : decode b_M_channel 17 = .ok (.ireturn, 1) := by decide +kernel
theorem d_M_channel_18 : decode b_M_channel 18 = .ok (.aload_n 0, 1) := by decide +kernel
theorem d_M_channel_19 : decode b_M_channel 19 = .ok (.getfield 7, 3) := by decide +kernel
theorem d_M_channel_22 : decode b_M_channel 22 = .ok (.aload_n 0, 1) := by decide +kernel
theorem d_M_channel_23 : decode b_M_channel 23 = .ok (.getfield 84, 3) := by decide +kernel
theorem d_M_channel_26 : decode b_M_channel 26 = .ok (.iload_n 1, 1) := by decide +kernel
theorem d_M_channel_27 : decode b_M_channel 27 = .ok (.bastore, 1) := by decide +kernel
theorem d_M_channel_28 : decode b_M_channel 28 = .ok (.aload_n 0, 1) := by decide +kernel
theorem d_M_channel_29 : decode b_M_channel 29 = .ok (.aload_n 0, 1) := by decide +kernel
theorem d_M_channel_30 : decode b_M_channel 30 = .ok (.getfield 84, 3) := by decide +kernel
theorem d_M_channel_33 : decode b_M_channel 33 = .ok (.iconst 1, 1) := by decide +kernel
theorem d_M_channel_34 : decode b_M_channel 34 = .ok (.iadd, 1) := by decide +kernel
theorem d_M_channel_35 : decode b_M_channel 35 = .ok (.putfield 84, 3) := by decide +kernel
theorem d_M_channel_38 : decode b_M_channel 38 = .ok (.aload_n 0, 1) := by decide +kernel
theorem d_M_channel_39 : decode b_M_channel 39 = .ok (.getfield 84, 3) := by decide +kernel
theorem d_M_channel_42 : decode b_M_channel 42 = .ok (.iconst 1, 1) := by decide +kernel
theorem d_M_channel_43 : decode b_M_channel 43 = .ok (.isub, 1) := by decide +kernel
theorem d_M_channel_44 : decode b_M_channel 44 = .ok (.ireturn, 1) := by decide +kernel
theorem d_M_reaction_0 : decode b_M_reaction 0 = .ok (.aload_n 0, 1) := by decide +kernel
theorem d_M_reaction_1 : decode b_M_reaction 1 = .ok (.getfield 80, 3) := by decide +kernel
theorem d_M_reaction_4 : decode b_M_reaction 4 = .ok (.ifCond .ne 12, 3) := by decide +kernel
theorem d_M_reaction_7 : decode b_M_reaction 7 = .ok (.aload_n 0, 1) := by decide +kernel
theorem d_M_reaction_8 : decode b_M_reaction 8 = .ok (.getfield 88, 3) := by decide +kernel
theorem d_M_reaction_11 : decode b_M_reaction 11 = .ok (.bipush 8, 2) := by decide +kernel
theorem d_M_reaction_13 : decode b_M_reaction 13 = .ok (.if_icmp .lt 5, 3) := by decide +kernel
theorem d_M_reaction_16 : decode b_M_reaction 16 = .ok (.iconst (-1), 1) := by decide +kernel
theorem d_M_reaction_17 : decode b_M_reaction 17 = .ok (.ireturn, 1) := by decide +kernel
theorem d_M_reaction_18 : decode b_M_reaction 18 = .ok (.aload_n 0, 1) := by decide +kernel
theorem d_M_reaction_19 : decode b_M_reaction 19 = .ok (.aload_n 0, 1) := by decide +kernel
theorem d_M_reaction_20 : decode b_M_reaction 20 = .ok (.getfield 88, 3) := by decide +kernel
theorem d_M_reaction_23 : decode b_M_reaction 23 = .ok (.iconst 1, 1) := by decide +kernel
theorem d_M_reaction_24 : decode b_M_reaction 24 = .ok (.iadd, 1) := by decide +kernel
theorem d_M_reaction_25 : decode b_M_reaction 25 = .ok (.putfield 88, 3) := by decide +kernel
theorem d_M_reaction_28 : decode b_M_reaction 28 = .ok (.aload_n 0, 1) := by decide +kernel
theorem d_M_reaction_29 : decode b_M_reaction 29 = .ok (.getfield 88, 3) := by decide +kernel
theorem d_M_reaction_32 : decode b_M_reaction 32 = .ok (.iconst 1, 1) := by decide +kernel
theorem d_M_reaction_33 : decode b_M_reaction 33 = .ok (.isub, 1) := by decide +kernel
theorem d_M_reaction_34 : decode b_M_reaction 34 = .ok (.ireturn, 1) := by decide +kernel
theorem d_M_open_0 : decode b_M_open 0 = .ok (.aload_n 0, 1) := by decide +kernel
theorem d_M_open_1 : decode b_M_open 1 = .ok (.getfield 80, 3) := by decide +kernel
theorem d_M_open_4 : decode b_M_open 4 = .ok (.ifCond .ne 19, 3) := by decide +kernel
theorem d_M_open_7 : decode b_M_open 7 = .ok (.iload_n 1, 1) := by decide +kernel
theorem d_M_open_8 : decode b_M_open 8 = .ok (.ifCond .lt 15, 3) := by decide +kernel
theorem d_M_open_11 : decode b_M_open 11 = .ok (.iload_n 1, 1) := by decide +kernel
theorem d_M_open_12 : decode b_M_open 12 = .ok (.aload_n 0, 1) := by decide +kernel
theorem d_M_open_13 : decode b_M_open 13 = .ok (.getfield 88, 3) := by decide +kernel
theorem d_M_open_16 : decode b_M_open 16 = .ok (.if_icmp .ge 7, 3) := by decide +kernel
theorem d_M_open_19 : decode b_M_open 19 = .ok (.iconst 1, 1) := by decide +kernel
theorem d_M_open_20 : decode b_M_open 20 = .ok (.goto 4, 3) := by decide +kernel
theorem d_M_open_23 : decode b_M_open 23 = .ok (.iconst 0, 1) := by decide +kernel
theorem d_M_open_24 : decode b_M_open 24 = .ok (.ireturn, 1) := by decide +kernel
theorem d_M_isChannel_0 : decode b_M_isChannel 0 = .ok (.iload_n 1, 1) := by decide +kernel
theorem d_M_isChannel_1 : decode b_M_isChannel 1 = .ok (.ifCond .lt 15, 3) := by decide +kernel
theorem d_M_isChannel_4 : decode b_M_isChannel 4 = .ok (.iload_n 1, 1) := by decide +kernel
theorem d_M_isChannel_5 : decode b_M_isChannel 5 = .ok (.aload_n 0, 1) := by decide +kernel
theorem d_M_isChannel_6 : decode b_M_isChannel 6 = .ok (.getfield 84, 3) := by decide +kernel
theorem d_M_isChannel_9 : decode b_M_isChannel 9 = .ok (.if_icmp .ge 7, 3) := by decide +kernel
theorem d_M_isChannel_12 : decode b_M_isChannel 12 = .ok (.iconst 1, 1) := by decide +kernel
theorem d_M_isChannel_13 : decode b_M_isChannel 13 = .ok (.goto 4, 3) := by decide +kernel
theorem d_M_isChannel_16 : decode b_M_isChannel 16 = .ok (.iconst 0, 1) := by decide +kernel
theorem d_M_isChannel_17 : decode b_M_isChannel 17 = .ok (.ireturn, 1) := by decide +kernel
theorem d_M_hasPart_0 : decode b_M_hasPart 0 = .ok (.iload_n 2, 1) := by decide +kernel
theorem d_M_hasPart_1 : decode b_M_hasPart 1 = .ok (.ifCond .lt 17, 3) := by decide +kernel
theorem d_M_hasPart_4 : decode b_M_hasPart 4 = .ok (.iload_n 2, 1) := by decide +kernel
theorem d_M_hasPart_5 : decode b_M_hasPart 5 = .ok (.aload_n 0, 1) := by decide +kernel
theorem d_M_hasPart_6 : decode b_M_hasPart 6 = .ok (.getfield 13, 3) := by decide +kernel
theorem d_M_hasPart_9 : decode b_M_hasPart 9 = .ok (.iload_n 1, 1) := by decide +kernel
theorem d_M_hasPart_10 : decode b_M_hasPart 10 = .ok (.iaload, 1) := by decide +kernel
theorem d_M_hasPart_11 : decode b_M_hasPart 11 = .ok (.if_icmp .ge 7, 3) := by decide +kernel
theorem d_M_hasPart_14 : decode b_M_hasPart 14 = .ok (.iconst 1, 1) := by decide +kernel
theorem d_M_hasPart_15 : decode b_M_hasPart 15 = .ok (.goto 4, 3) := by decide +kernel
theorem d_M_hasPart_18 : decode b_M_hasPart 18 = .ok (.iconst 0, 1) := by decide +kernel
theorem d_M_hasPart_19 : decode b_M_hasPart 19 = .ok (.ireturn, 1) := by decide +kernel
theorem d_M_part_0 : decode b_M_part 0 = .ok (.aload_n 0, 1) := by decide +kernel
theorem d_M_part_1 : decode b_M_part 1 = .ok (.iload_n 1, 1) := by decide +kernel
theorem d_M_part_2 : decode b_M_part 2 = .ok (.invokevirtual 91, 3) := by decide +kernel
theorem d_M_part_5 : decode b_M_part 5 = .ok (.ifCond .eq 30, 3) := by decide +kernel
theorem d_M_part_8 : decode b_M_part 8 = .ok (.aload_n 0, 1) := by decide +kernel
theorem d_M_part_9 : decode b_M_part 9 = .ok (.iload_n 2, 1) := by decide +kernel
theorem d_M_part_10 : decode b_M_part 10 = .ok (.invokevirtual 95, 3) := by decide +kernel
theorem d_M_part_13 : decode b_M_part 13 = .ok (.ifCond .eq 22, 3) := by decide +kernel
theorem d_M_part_16 : decode b_M_part 16 = .ok (.iload_n 3, 1) := by decide +kernel
theorem d_M_part_17 : decode b_M_part 17 = .ok (.ifCond .lt 18, 3) := by decide +kernel
theorem d_M_part_20 : decode b_M_part 20 = .ok (.iload_n 3, 1) := by decide +kernel
theorem d_M_part_21 : decode b_M_part 21 = .ok (.iconst 4, 1) := by decide +kernel
theorem d_M_part_22 : decode b_M_part 22 = .ok (.if_icmp .gt 13, 3) := by decide +kernel
theorem d_M_part_25 : decode b_M_part 25 = .ok (.aload_n 0, 1) := by decide +kernel
theorem d_M_part_26 : decode b_M_part 26 = .ok (.getfield 13, 3) := by decide +kernel
theorem d_M_part_29 : decode b_M_part 29 = .ok (.iload_n 1, 1) := by decide +kernel
theorem d_M_part_30 : decode b_M_part 30 = .ok (.iaload, 1) := by decide +kernel
theorem d_M_part_31 : decode b_M_part 31 = .ok (.iconst 4, 1) := by decide +kernel
theorem d_M_part_32 : decode b_M_part 32 = .ok (.if_icmp .lt 5, 3) := by decide +kernel
theorem d_M_part_35 : decode b_M_part 35 = .ok (.iconst (-1), 1) := by decide +kernel
theorem d_M_part_36 : decode b_M_part 36 = .ok (.ireturn, 1) := by decide +kernel
theorem d_M_part_37 : decode b_M_part 37 = .ok (.iconst 4, 1) := by decide +kernel
theorem d_M_part_38 : decode b_M_part 38 = .ok (.iload_n 1, 1) := by decide +kernel
theorem d_M_part_39 : decode b_M_part 39 = .ok (.imul, 1) := by decide +kernel
theorem d_M_part_40 : decode b_M_part 40 = .ok (.aload_n 0, 1) := by decide +kernel
theorem d_M_part_41 : decode b_M_part 41 = .ok (.getfield 13, 3) := by decide +kernel
theorem d_M_part_44 : decode b_M_part 44 = .ok (.iload_n 1, 1) := by decide +kernel
theorem d_M_part_45 : decode b_M_part 45 = .ok (.iaload, 1) := by decide +kernel
theorem d_M_part_46 : decode b_M_part 46 = .ok (.iadd, 1) := by decide +kernel
theorem d_M_part_47 : decode b_M_part 47 = .ok (.istore 5, 2) := by decide +kernel
theorem d_M_part_49 : decode b_M_part 49 = .ok (.aload_n 0, 1) := by decide +kernel
theorem d_M_part_50 : decode b_M_part 50 = .ok (.getfield 17, 3) := by decide +kernel
theorem d_M_part_53 : decode b_M_part 53 = .ok (.iload 5, 2) := by decide +kernel
theorem d_M_part_55 : decode b_M_part 55 = .ok (.iload_n 2, 1) := by decide +kernel
theorem d_M_part_56 : decode b_M_part 56 = .ok (.iastore, 1) := by decide +kernel
theorem d_M_part_57 : decode b_M_part 57 = .ok (.aload_n 0, 1) := by decide +kernel
theorem d_M_part_58 : decode b_M_part 58 = .ok (.getfield 20, 3) := by decide +kernel
theorem d_M_part_61 : decode b_M_part 61 = .ok (.iload 5, 2) := by decide +kernel
theorem d_M_part_63 : decode b_M_part 63 = .ok (.iload_n 3, 1) := by decide +kernel
theorem d_M_part_64 : decode b_M_part 64 = .ok (.iastore, 1) := by decide +kernel
theorem d_M_part_65 : decode b_M_part 65 = .ok (.aload_n 0, 1) := by decide +kernel
theorem d_M_part_66 : decode b_M_part 66 = .ok (.getfield 23, 3) := by decide +kernel
theorem d_M_part_69 : decode b_M_part 69 = .ok (.iload 5, 2) := by decide +kernel
theorem d_M_part_71 : decode b_M_part 71 = .ok (.iload 4, 2) := by decide +kernel
theorem d_M_part_73 : decode b_M_part 73 = .ok (.iastore, 1) := by decide +kernel
theorem d_M_part_74 : decode b_M_part 74 = .ok (.aload_n 0, 1) := by decide +kernel
theorem d_M_part_75 : decode b_M_part 75 = .ok (.getfield 13, 3) := by decide +kernel
theorem d_M_part_78 : decode b_M_part 78 = .ok (.iload_n 1, 1) := by decide +kernel
theorem d_M_part_79 : decode b_M_part 79 = .ok (.aload_n 0, 1) := by decide +kernel
theorem d_M_part_80 : decode b_M_part 80 = .ok (.getfield 13, 3) := by decide +kernel
theorem d_M_part_83 : decode b_M_part 83 = .ok (.iload_n 1, 1) := by decide +kernel
theorem d_M_part_84 : decode b_M_part 84 = .ok (.iaload, 1) := by decide +kernel
theorem d_M_part_85 : decode b_M_part 85 = .ok (.iconst 1, 1) := by decide +kernel
theorem d_M_part_86 : decode b_M_part 86 = .ok (.iadd, 1) := by decide +kernel
theorem d_M_part_87 : decode b_M_part 87 = .ok (.iastore, 1) := by decide +kernel
theorem d_M_part_88 : decode b_M_part 88 = .ok (.aload_n 0, 1) := by decide +kernel
theorem d_M_part_89 : decode b_M_part 89 = .ok (.getfield 13, 3) := by decide +kernel
theorem d_M_part_92 : decode b_M_part 92 = .ok (.iload_n 1, 1) := by decide +kernel
theorem d_M_part_93 : decode b_M_part 93 = .ok (.iaload, 1) := by decide +kernel
theorem d_M_part_94 : decode b_M_part 94 = .ok (.iconst 1, 1) := by decide +kernel
theorem d_M_part_95 : decode b_M_part 95 = .ok (.isub, 1) := by decide +kernel
theorem d_M_part_96 : decode b_M_part 96 = .ok (.ireturn, 1) := by decide +kernel
theorem d_M_guard_0 : decode b_M_guard 0 = .ok (.aload_n 0, 1) := by decide +kernel
theorem d_M_guard_1 : decode b_M_guard 1 = .ok (.iload_n 1, 1) := by decide +kernel
theorem d_M_guard_2 : decode b_M_guard 2 = .ok (.invokevirtual 91, 3) := by decide +kernel
theorem d_M_guard_5 : decode b_M_guard 5 = .ok (.ifCond .eq 12, 3) := by decide +kernel
theorem d_M_guard_8 : decode b_M_guard 8 = .ok (.iload_n 2, 1) := by decide +kernel
theorem d_M_guard_9 : decode b_M_guard 9 = .ok (.ifCond .lt 8, 3) := by decide +kernel
theorem d_M_guard_12 : decode b_M_guard 12 = .ok (.iload_n 2, 1) := by decide +kernel
theorem d_M_guard_13 : decode b_M_guard 13 = .ok (.iconst 5, 1) := by decide +kernel
theorem d_M_guard_14 : decode b_M_guard 14 = .ok (.if_icmp .le 5, 3) := by decide +kernel
theorem d_M_guard_17 : decode b_M_guard 17 = .ok (.iconst 0, 1) := by decide +kernel
theorem d_M_guard_18 : decode b_M_guard 18 = .ok (.ireturn, 1) := by decide +kernel
theorem d_M_guard_19 : decode b_M_guard 19 = .ok (.aload_n 0, 1) := by decide +kernel
theorem d_M_guard_20 : decode b_M_guard 20 = .ok (.getfield 26, 3) := by decide +kernel
theorem d_M_guard_23 : decode b_M_guard 23 = .ok (.iload_n 1, 1) := by decide +kernel
theorem d_M_guard_24 : decode b_M_guard 24 = .ok (.iload_n 2, 1) := by decide +kernel
theorem d_M_guard_25 : decode b_M_guard 25 = .ok (.iastore, 1) := by decide +kernel
theorem d_M_guard_26 : decode b_M_guard 26 = .ok (.aload_n 0, 1) := by decide +kernel
theorem d_M_guard_27 : decode b_M_guard 27 = .ok (.getfield 29, 3) := by decide +kernel
theorem d_M_guard_30 : decode b_M_guard 30 = .ok (.iload_n 1, 1) := by decide +kernel
theorem d_M_guard_31 : decode b_M_guard 31 = .ok (.iload_n 3, 1) := by decide +kernel
theorem d_M_guard_32 : decode b_M_guard 32 = .ok (.iastore, 1) := by decide +kernel
theorem d_M_guard_33 : decode b_M_guard 33 = .ok (.iconst 1, 1) := by decide +kernel
theorem d_M_guard_34 : decode b_M_guard 34 = .ok (.ireturn, 1) := by decide +kernel
theorem d_M_expression_0 : decode b_M_expression 0 = .ok (.iload_n 2, 1) := by decide +kernel
theorem d_M_expression_1 : decode b_M_expression 1 = .ok (.ifCond .lt 31, 3) := by decide +kernel
theorem d_M_expression_4 : decode b_M_expression 4 = .ok (.iload_n 2, 1) := by decide +kernel
theorem d_M_expression_5 : decode b_M_expression 5 = .ok (.iconst 4, 1) := by decide +kernel
theorem d_M_expression_6 : decode b_M_expression 6 = .ok (.if_icmp .gt 26, 3) := by decide +kernel
theorem d_M_expression_9 : decode b_M_expression 9 = .ok (.iload_n 2, 1) := by decide +kernel
theorem d_M_expression_10 : decode b_M_expression 10 = .ok (.iconst 1, 1) := by decide +kernel
theorem d_M_expression_11 : decode b_M_expression 11 = .ok (.if_icmp .eq 8, 3) := by decide +kernel
theorem d_M_expression_14 : decode b_M_expression 14 = .ok (.iload_n 2, 1) := by decide +kernel
theorem d_M_expression_15 : decode b_M_expression 15 = .ok (.iconst 2, 1) := by decide +kernel
theorem d_M_expression_16 : decode b_M_expression 16 = .ok (.if_icmp .ne 12, 3) := by decide +kernel
theorem d_M_expression_19 : decode b_M_expression 19 = .ok (.aload_n 0, 1) := by decide +kernel
theorem d_M_expression_20 : decode b_M_expression 20 = .ok (.iload_n 1, 1) := by decide +kernel
theorem d_M_expression_21 : decode b_M_expression 21 = .ok (.iload_n 3, 1) := by decide +kernel
theorem d_M_expression_22 : decode b_M_expression 22 = .ok (.invokevirtual 98, 3) := by decide +kernel
theorem d_M_expression_25 : decode b_M_expression 25 = .ok (.ifCond .eq 7, 3) := by decide +kernel
theorem d_M_expression_28 : decode b_M_expression 28 = .ok (.iconst 1, 1) := by decide +kernel
theorem d_M_expression_29 : decode b_M_expression 29 = .ok (.goto 4, 3) := by decide +kernel
theorem d_M_expression_32 : decode b_M_expression 32 = .ok (.iconst 0, 1) := by decide +kernel
theorem d_M_expression_33 : decode b_M_expression 33 = .ok (.ireturn, 1) := by decide +kernel
theorem d_M_act_0 : decode b_M_act 0 = .ok (.iconst 4, 1) := by decide +kernel
theorem d_M_act_1 : decode b_M_act 1 = .ok (.iload_n 1, 1) := by decide +kernel
theorem d_M_act_2 : decode b_M_act 2 = .ok (.imul, 1) := by decide +kernel
theorem d_M_act_3 : decode b_M_act 3 = .ok (.aload_n 0, 1) := by decide +kernel
theorem d_M_act_4 : decode b_M_act 4 = .ok (.getfield 32, 3) := by decide +kernel
theorem d_M_act_7 : decode b_M_act 7 = .ok (.iload_n 1, 1) := by decide +kernel
theorem d_M_act_8 : decode b_M_act 8 = .ok (.iaload, 1) := by decide +kernel
theorem d_M_act_9 : decode b_M_act 9 = .ok (.iadd, 1) := by decide +kernel
theorem d_M_act_10 : decode b_M_act 10 = .ok (.istore 6, 2) := by decide +kernel
theorem d_M_act_12 : decode b_M_act 12 = .ok (.aload_n 0, 1) := by decide +kernel
theorem d_M_act_13 : decode b_M_act 13 = .ok (.getfield 35, 3) := by decide +kernel
theorem d_M_act_16 : decode b_M_act 16 = .ok (.iload 6, 2) := by decide +kernel
theorem d_M_act_18 : decode b_M_act 18 = .ok (.iload_n 2, 1) := by decide +kernel
theorem d_M_act_19 : decode b_M_act 19 = .ok (.iastore, 1) := by decide +kernel
theorem d_M_act_20 : decode b_M_act 20 = .ok (.aload_n 0, 1) := by decide +kernel
theorem d_M_act_21 : decode b_M_act 21 = .ok (.getfield 38, 3) := by decide +kernel
theorem d_M_act_24 : decode b_M_act 24 = .ok (.iload 6, 2) := by decide +kernel
theorem d_M_act_26 : decode b_M_act 26 = .ok (.iload_n 3, 1) := by decide +kernel
theorem d_M_act_27 : decode b_M_act 27 = .ok (.iastore, 1) := by decide +kernel
theorem d_M_act_28 : decode b_M_act 28 = .ok (.aload_n 0, 1) := by decide +kernel
theorem d_M_act_29 : decode b_M_act 29 = .ok (.getfield 41, 3) := by decide +kernel
theorem d_M_act_32 : decode b_M_act 32 = .ok (.iload 6, 2) := by decide +kernel
theorem d_M_act_34 : decode b_M_act 34 = .ok (.iload 4, 2) := by decide +kernel
theorem d_M_act_36 : decode b_M_act 36 = .ok (.iastore, 1) := by decide +kernel
theorem d_M_act_37 : decode b_M_act 37 = .ok (.aload_n 0, 1) := by decide +kernel
theorem d_M_act_38 : decode b_M_act 38 = .ok (.getfield 44, 3) := by decide +kernel
theorem d_M_act_41 : decode b_M_act 41 = .ok (.iload 6, 2) := by decide +kernel
theorem d_M_act_43 : decode b_M_act 43 = .ok (.iload 5, 2) := by decide +kernel
theorem d_M_act_45 : decode b_M_act 45 = .ok (.iastore, 1) := by decide +kernel
theorem d_M_act_46 : decode b_M_act 46 = .ok (.aload_n 0, 1) := by decide +kernel
theorem d_M_act_47 : decode b_M_act 47 = .ok (.getfield 32, 3) := by decide +kernel
theorem d_M_act_50 : decode b_M_act 50 = .ok (.iload_n 1, 1) := by decide +kernel
theorem d_M_act_51 : decode b_M_act 51 = .ok (.aload_n 0, 1) := by decide +kernel
theorem d_M_act_52 : decode b_M_act 52 = .ok (.getfield 32, 3) := by decide +kernel
theorem d_M_act_55 : decode b_M_act 55 = .ok (.iload_n 1, 1) := by decide +kernel
theorem d_M_act_56 : decode b_M_act 56 = .ok (.iaload, 1) := by decide +kernel
theorem d_M_act_57 : decode b_M_act 57 = .ok (.iconst 1, 1) := by decide +kernel
theorem d_M_act_58 : decode b_M_act 58 = .ok (.iadd, 1) := by decide +kernel
theorem d_M_act_59 : decode b_M_act 59 = .ok (.iastore, 1) := by decide +kernel
theorem d_M_act_60 : decode b_M_act 60 = .ok (.return_, 1) := by decide +kernel
theorem d_M_emit_0 : decode b_M_emit 0 = .ok (.aload_n 0, 1) := by decide +kernel
theorem d_M_emit_1 : decode b_M_emit 1 = .ok (.iload_n 1, 1) := by decide +kernel
theorem d_M_emit_2 : decode b_M_emit 2 = .ok (.invokevirtual 91, 3) := by decide +kernel
theorem d_M_emit_5 : decode b_M_emit 5 = .ok (.ifCond .eq 41, 3) := by decide +kernel
theorem d_M_emit_8 : decode b_M_emit 8 = .ok (.aload_n 0, 1) := by decide +kernel
theorem d_M_emit_9 : decode b_M_emit 9 = .ok (.iload_n 2, 1) := by decide +kernel
theorem d_M_emit_10 : decode b_M_emit 10 = .ok (.invokevirtual 95, 3) := by decide +kernel
theorem d_M_emit_13 : decode b_M_emit 13 = .ok (.ifCond .eq 33, 3) := by decide +kernel
theorem d_M_emit_16 : decode b_M_emit 16 = .ok (.aload_n 0, 1) := by decide +kernel
theorem d_M_emit_17 : decode b_M_emit 17 = .ok (.getfield 7, 3) := by decide +kernel
theorem d_M_emit_20 : decode b_M_emit 20 = .ok (.iload_n 2, 1) := by decide +kernel
theorem d_M_emit_21 : decode b_M_emit 21 = .ok (.baload, 1) := by decide +kernel
theorem d_M_emit_22 : decode b_M_emit 22 = .ok (.ifCond .ne 24, 3) := by decide +kernel
theorem d_M_emit_25 : decode b_M_emit 25 = .ok (.aload_n 0, 1) := by decide +kernel
theorem d_M_emit_26 : decode b_M_emit 26 = .ok (.iload_n 1, 1) := by decide +kernel
theorem d_M_emit_27 : decode b_M_emit 27 = .ok (.iload_n 3, 1) := by decide +kernel
theorem d_M_emit_28 : decode b_M_emit 28 = .ok (.iload 4, 2) := by decide +kernel
theorem d_M_emit_30 : decode b_M_emit 30 = .ok (.invokevirtual 102, 3) := by decide +kernel
theorem d_M_emit_33 : decode b_M_emit 33 = .ok (.ifCond .eq 13, 3) := by decide +kernel
theorem d_M_emit_36 : decode b_M_emit 36 = .ok (.aload_n 0, 1) := by decide +kernel
theorem d_M_emit_37 : decode b_M_emit 37 = .ok (.getfield 32, 3) := by decide +kernel
theorem d_M_emit_40 : decode b_M_emit 40 = .ok (.iload_n 1, 1) := by decide +kernel
theorem d_M_emit_41 : decode b_M_emit 41 = .ok (.iaload, 1) := by decide +kernel
theorem d_M_emit_42 : decode b_M_emit 42 = .ok (.iconst 4, 1) := by decide +kernel
theorem d_M_emit_43 : decode b_M_emit 43 = .ok (.if_icmp .lt 5, 3) := by decide +kernel
theorem d_M_emit_46 : decode b_M_emit 46 = .ok (.iconst 0, 1) := by decide +kernel
theorem d_M_emit_47 : decode b_M_emit 47 = .ok (.ireturn, 1) := by decide +kernel
theorem d_M_emit_48 : decode b_M_emit 48 = .ok (.aload_n 0, 1) := by decide +kernel
theorem d_M_emit_49 : decode b_M_emit 49 = .ok (.getfield 47, 3) := by decide +kernel
theorem d_M_emit_52 : decode b_M_emit 52 = .ok (.iconst 4, 1) := by decide +kernel
theorem d_M_emit_53 : decode b_M_emit 53 = .ok (.iload_n 1, 1) := by decide +kernel
theorem d_M_emit_54 : decode b_M_emit 54 = .ok (.imul, 1) := by decide +kernel
theorem d_M_emit_55 : decode b_M_emit 55 = .ok (.aload_n 0, 1) := by decide +kernel
theorem d_M_emit_56 : decode b_M_emit 56 = .ok (.getfield 32, 3) := by decide +kernel
theorem d_M_emit_59 : decode b_M_emit 59 = .ok (.iload_n 1, 1) := by decide +kernel
theorem d_M_emit_60 : decode b_M_emit 60 = .ok (.iaload, 1) := by decide +kernel
theorem d_M_emit_61 : decode b_M_emit 61 = .ok (.iadd, 1) := by decide +kernel
theorem d_M_emit_62 : decode b_M_emit 62 = .ok (.iload 5, 2) := by decide +kernel
theorem d_M_emit_64 : decode b_M_emit 64 = .ok (.iastore, 1) := by decide +kernel
theorem d_M_emit_65 : decode b_M_emit 65 = .ok (.aload_n 0, 1) := by decide +kernel
theorem d_M_emit_66 : decode b_M_emit 66 = .ok (.iload_n 1, 1) := by decide +kernel
theorem d_M_emit_67 : decode b_M_emit 67 = .ok (.iload_n 2, 1) := by decide +kernel
theorem d_M_emit_68 : decode b_M_emit 68 = .ok (.iconst (-1), 1) := by decide +kernel
theorem d_M_emit_69 : decode b_M_emit 69 = .ok (.iload_n 3, 1) := by decide +kernel
theorem d_M_emit_70 : decode b_M_emit 70 = .ok (.iload 4, 2) := by decide +kernel
theorem d_M_emit_72 : decode b_M_emit 72 = .ok (.invokevirtual 106, 3) := by decide +kernel
theorem d_M_emit_75 : decode b_M_emit 75 = .ok (.iconst 1, 1) := by decide +kernel
theorem d_M_emit_76 : decode b_M_emit 76 = .ok (.ireturn, 1) := by decide +kernel
theorem d_M_answersPart_0 : decode b_M_answersPart 0 = .ok (.iconst 0, 1) := by decide +kernel
theorem d_M_answersPart_1 : decode b_M_answersPart 1 = .ok (.istore_n 3, 1) := by decide +kernel
theorem d_M_answersPart_2 : decode b_M_answersPart 2 = .ok (.iconst 0, 1) := by decide +kernel
theorem d_M_answersPart_3 : decode b_M_answersPart 3 = .ok (.istore 4, 2) := by decide +kernel
theorem d_M_answersPart_5 : decode b_M_answersPart 5 = .ok (.iload 4, 2) := by decide +kernel
theorem d_M_answersPart_7 : decode b_M_answersPart 7 = .ok (.aload_n 0, 1) := by decide +kernel
theorem d_M_answersPart_8 : decode b_M_answersPart 8 = .ok (.getfield 32, 3) := by decide +kernel
theorem d_M_answersPart_11 : decode b_M_answersPart 11 = .ok (.iload_n 1, 1) := by decide +kernel
theorem d_M_answersPart_12 : decode b_M_answersPart 12 = .ok (.iaload, 1) := by decide +kernel
theorem d_M_answersPart_13 : decode b_M_answersPart 13 = .ok (.if_icmp .ge 48, 3) := by decide +kernel
theorem d_M_answersPart_16 : decode b_M_answersPart 16 = .ok (.iload_n 3, 1) := by decide +kernel
theorem d_M_answersPart_17 : decode b_M_answersPart 17 = .ok (.ifCond .ne 32, 3) := by decide +kernel
theorem d_M_answersPart_20 : decode b_M_answersPart 20 = .ok (.aload_n 0, 1) := by decide +kernel
theorem d_M_answersPart_21 : decode b_M_answersPart 21 = .ok (.getfield 35, 3) := by decide +kernel
theorem d_M_answersPart_24 : decode b_M_answersPart 24 = .ok (.iconst 4, 1) := by decide +kernel
theorem d_M_answersPart_25 : decode b_M_answersPart 25 = .ok (.iload_n 1, 1) := by decide +kernel
theorem d_M_answersPart_26 : decode b_M_answersPart 26 = .ok (.imul, 1) := by decide +kernel
theorem d_M_answersPart_27 : decode b_M_answersPart 27 = .ok (.iload 4, 2) := by decide +kernel
theorem d_M_answersPart_29 : decode b_M_answersPart 29 = .ok (.iadd, 1) := by decide +kernel
theorem d_M_answersPart_30 : decode b_M_answersPart 30 = .ok (.iaload, 1) := by decide +kernel
theorem d_M_answersPart_31 : decode b_M_answersPart 31 = .ok (.ifCond .ge 22, 3) := by decide +kernel
theorem d_M_answersPart_34 : decode b_M_answersPart 34 = .ok (.aload_n 0, 1) := by decide +kernel
theorem d_M_answersPart_35 : decode b_M_answersPart 35 = .ok (.getfield 38, 3) := by decide +kernel
theorem d_M_answersPart_38 : decode b_M_answersPart 38 = .ok (.iconst 4, 1) := by decide +kernel
theorem d_M_answersPart_39 : decode b_M_answersPart 39 = .ok (.iload_n 1, 1) := by decide +kernel
theorem d_M_answersPart_40 : decode b_M_answersPart 40 = .ok (.imul, 1) := by decide +kernel
theorem d_M_answersPart_41 : decode b_M_answersPart 41 = .ok (.iload 4, 2) := by decide +kernel
theorem d_M_answersPart_43 : decode b_M_answersPart 43 = .ok (.iadd, 1) := by decide +kernel
theorem d_M_answersPart_44 : decode b_M_answersPart 44 = .ok (.iaload, 1) := by decide +kernel
theorem d_M_answersPart_45 : decode b_M_answersPart 45 = .ok (.iload_n 2, 1) := by decide +kernel
theorem d_M_answersPart_46 : decode b_M_answersPart 46 = .ok (.if_icmp .ne 7, 3) := by decide +kernel
theorem d_M_answersPart_49 : decode b_M_answersPart 49 = .ok (.iconst 1, 1) := by decide +kernel
theorem d_M_answersPart_50 : decode b_M_answersPart 50 = .ok (.goto 4, 3) := by decide +kernel
theorem d_M_answersPart_53 : decode b_M_answersPart 53 = .ok (.iconst 0, 1) := by decide +kernel
theorem d_M_answersPart_54 : decode b_M_answersPart 54 = .ok (.istore_n 3, 1) := by decide +kernel
theorem d_M_answersPart_55 : decode b_M_answersPart 55 = .ok (.iinc 4 1, 3) := by decide +kernel
theorem d_M_answersPart_58 : decode b_M_answersPart 58 = .ok (.goto (-53), 3) := by decide +kernel
theorem d_M_answersPart_61 : decode b_M_answersPart 61 = .ok (.iload_n 3, 1) := by decide +kernel
theorem d_M_answersPart_62 : decode b_M_answersPart 62 = .ok (.ireturn, 1) := by decide +kernel
theorem d_M_reply_0 : decode b_M_reply 0 = .ok (.aload_n 0, 1) := by decide +kernel
theorem d_M_reply_1 : decode b_M_reply 1 = .ok (.iload_n 1, 1) := by decide +kernel
theorem d_M_reply_2 : decode b_M_reply 2 = .ok (.invokevirtual 91, 3) := by decide +kernel
theorem d_M_reply_5 : decode b_M_reply 5 = .ok (.ifCond .eq 30, 3) := by decide +kernel
theorem d_M_reply_8 : decode b_M_reply 8 = .ok (.aload_n 0, 1) := by decide +kernel
theorem d_M_reply_9 : decode b_M_reply 9 = .ok (.iload_n 1, 1) := by decide +kernel
theorem d_M_reply_10 : decode b_M_reply 10 = .ok (.iload_n 2, 1) := by decide +kernel
theorem d_M_reply_11 : decode b_M_reply 11 = .ok (.invokevirtual 98, 3) := by decide +kernel
theorem d_M_reply_14 : decode b_M_reply 14 = .ok (.ifCond .eq 21, 3) := by decide +kernel
theorem d_M_reply_17 : decode b_M_reply 17 = .ok (.aload_n 0, 1) := by decide +kernel
theorem d_M_reply_18 : decode b_M_reply 18 = .ok (.getfield 7, 3) := by decide +kernel
theorem d_M_reply_21 : decode b_M_reply 21 = .ok (.aload_n 0, 1) := by decide +kernel
theorem d_M_reply_22 : decode b_M_reply 22 = .ok (.getfield 17, 3) := by decide +kernel
theorem d_M_reply_25 : decode b_M_reply 25 = .ok (.iconst 4, 1) := by decide +kernel
theorem d_M_reply_26 : decode b_M_reply 26 = .ok (.iload_n 1, 1) := by decide +kernel
theorem d_M_reply_27 : decode b_M_reply 27 = .ok (.imul, 1) := by decide +kernel
theorem d_M_reply_28 : decode b_M_reply 28 = .ok (.iload_n 2, 1) := by decide +kernel
theorem d_M_reply_29 : decode b_M_reply 29 = .ok (.iadd, 1) := by decide +kernel
theorem d_M_reply_30 : decode b_M_reply 30 = .ok (.iaload, 1) := by decide +kernel
theorem d_M_reply_31 : decode b_M_reply 31 = .ok (.baload, 1) := by decide +kernel
theorem d_M_reply_32 : decode b_M_reply 32 = .ok (.ifCond .ne 5, 3) := by decide +kernel
theorem d_M_reply_35 : decode b_M_reply 35 = .ok (.iconst 0, 1) := by decide +kernel
theorem d_M_reply_36 : decode b_M_reply 36 = .ok (.ireturn, 1) := by decide +kernel
theorem d_M_reply_37 : decode b_M_reply 37 = .ok (.aload_n 0, 1) := by decide +kernel
theorem d_M_reply_38 : decode b_M_reply 38 = .ok (.iload_n 1, 1) := by decide +kernel
theorem d_M_reply_39 : decode b_M_reply 39 = .ok (.iload_n 2, 1) := by decide +kernel
theorem d_M_reply_40 : decode b_M_reply 40 = .ok (.invokevirtual 110, 3) := by decide +kernel
theorem d_M_reply_43 : decode b_M_reply 43 = .ok (.ifCond .ne 24, 3) := by decide +kernel
theorem d_M_reply_46 : decode b_M_reply 46 = .ok (.aload_n 0, 1) := by decide +kernel
theorem d_M_reply_47 : decode b_M_reply 47 = .ok (.iload_n 1, 1) := by decide +kernel
theorem d_M_reply_48 : decode b_M_reply 48 = .ok (.iload_n 3, 1) := by decide +kernel
theorem d_M_reply_49 : decode b_M_reply 49 = .ok (.iload 4, 2) := by decide +kernel
theorem d_M_reply_51 : decode b_M_reply 51 = .ok (.invokevirtual 102, 3) := by decide +kernel
theorem d_M_reply_54 : decode b_M_reply 54 = .ok (.ifCond .eq 13, 3) := by decide +kernel
theorem d_M_reply_57 : decode b_M_reply 57 = .ok (.aload_n 0, 1) := by decide +kernel
theorem d_M_reply_58 : decode b_M_reply 58 = .ok (.getfield 32, 3) := by decide +kernel
theorem d_M_reply_61 : decode b_M_reply 61 = .ok (.iload_n 1, 1) := by decide +kernel
theorem d_M_reply_62 : decode b_M_reply 62 = .ok (.iaload, 1) := by decide +kernel
theorem d_M_reply_63 : decode b_M_reply 63 = .ok (.iconst 4, 1) := by decide +kernel
theorem d_M_reply_64 : decode b_M_reply 64 = .ok (.if_icmp .lt 5, 3) := by decide +kernel
theorem d_M_reply_67 : decode b_M_reply 67 = .ok (.iconst 0, 1) := by decide +kernel
theorem d_M_reply_68 : decode b_M_reply 68 = .ok (.ireturn, 1) := by decide +kernel
theorem d_M_reply_69 : decode b_M_reply 69 = .ok (.aload_n 0, 1) := by decide +kernel
theorem d_M_reply_70 : decode b_M_reply 70 = .ok (.getfield 47, 3) := by decide +kernel
theorem d_M_reply_73 : decode b_M_reply 73 = .ok (.iconst 4, 1) := by decide +kernel
theorem d_M_reply_74 : decode b_M_reply 74 = .ok (.iload_n 1, 1) := by decide +kernel
theorem d_M_reply_75 : decode b_M_reply 75 = .ok (.imul, 1) := by decide +kernel
theorem d_M_reply_76 : decode b_M_reply 76 = .ok (.aload_n 0, 1) := by decide +kernel
theorem d_M_reply_77 : decode b_M_reply 77 = .ok (.getfield 32, 3) := by decide +kernel
theorem d_M_reply_80 : decode b_M_reply 80 = .ok (.iload_n 1, 1) := by decide +kernel
theorem d_M_reply_81 : decode b_M_reply 81 = .ok (.iaload, 1) := by decide +kernel
theorem d_M_reply_82 : decode b_M_reply 82 = .ok (.iadd, 1) := by decide +kernel
theorem d_M_reply_83 : decode b_M_reply 83 = .ok (.iload 5, 2) := by decide +kernel
theorem d_M_reply_85 : decode b_M_reply 85 = .ok (.iastore, 1) := by decide +kernel
theorem d_M_reply_86 : decode b_M_reply 86 = .ok (.aload_n 0, 1) := by decide +kernel
theorem d_M_reply_87 : decode b_M_reply 87 = .ok (.iload_n 1, 1) := by decide +kernel
theorem d_M_reply_88 : decode b_M_reply 88 = .ok (.iconst (-1), 1) := by decide +kernel
theorem d_M_reply_89 : decode b_M_reply 89 = .ok (.iload_n 2, 1) := by decide +kernel
theorem d_M_reply_90 : decode b_M_reply 90 = .ok (.iload_n 3, 1) := by decide +kernel
theorem d_M_reply_91 : decode b_M_reply 91 = .ok (.iload 4, 2) := by decide +kernel
theorem d_M_reply_93 : decode b_M_reply 93 = .ok (.invokevirtual 106, 3) := by decide +kernel
theorem d_M_reply_96 : decode b_M_reply 96 = .ok (.iconst 1, 1) := by decide +kernel
theorem d_M_reply_97 : decode b_M_reply 97 = .ok (.ireturn, 1) := by decide +kernel
theorem d_M_seal_0 : decode b_M_seal 0 = .ok (.aload_n 0, 1) := by decide +kernel
theorem d_M_seal_1 : decode b_M_seal 1 = .ok (.getfield 80, 3) := by decide +kernel
theorem d_M_seal_4 : decode b_M_seal 4 = .ok (.ifCond .eq 5, 3) := by decide +kernel
theorem d_M_seal_7 : decode b_M_seal 7 = .ok (.iconst 1, 1) := by decide +kernel
theorem d_M_seal_8 : decode b_M_seal 8 = .ok (.ireturn, 1) := by decide +kernel
theorem d_M_seal_9 : decode b_M_seal 9 = .ok (.aload_n 0, 1) := by decide +kernel
theorem d_M_seal_10 : decode b_M_seal 10 = .ok (.getfield 88, 3) := by decide +kernel
theorem d_M_seal_13 : decode b_M_seal 13 = .ok (.ifCond .ne 5, 3) := by decide +kernel
theorem d_M_seal_16 : decode b_M_seal 16 = .ok (.iconst 2, 1) := by decide +kernel
theorem d_M_seal_17 : decode b_M_seal 17 = .ok (.ireturn, 1) := by decide +kernel
theorem d_M_seal_18 : decode b_M_seal 18 = .ok (.iconst 0, 1) := by decide +kernel
theorem d_M_seal_19 : decode b_M_seal 19 = .ok (.istore_n 1, 1) := by decide +kernel
theorem d_M_seal_20 : decode b_M_seal 20 = .ok (.iconst 0, 1) := by decide +kernel
theorem d_M_seal_21 : decode b_M_seal 21 = .ok (.istore_n 2, 1) := by decide +kernel
theorem d_M_seal_22 : decode b_M_seal 22 = .ok (.iconst 0, 1) := by decide +kernel
theorem d_M_seal_23 : decode b_M_seal 23 = .ok (.istore_n 3, 1) := by decide +kernel
theorem d_M_seal_24 : decode b_M_seal 24 = .ok (.iload_n 3, 1) := by decide +kernel
theorem d_M_seal_25 : decode b_M_seal 25 = .ok (.aload_n 0, 1) := by decide +kernel
theorem d_M_seal_26 : decode b_M_seal 26 = .ok (.getfield 88, 3) := by decide +kernel
theorem d_M_seal_29 : decode b_M_seal 29 = .ok (.if_icmp .ge 87, 3) := by decide +kernel
theorem d_M_seal_32 : decode b_M_seal 32 = .ok (.iload_n 1, 1) := by decide +kernel
theorem d_M_seal_33 : decode b_M_seal 33 = .ok (.ifCond .ne 12, 3) := by decide +kernel
theorem d_M_seal_36 : decode b_M_seal 36 = .ok (.aload_n 0, 1) := by decide +kernel
theorem d_M_seal_37 : decode b_M_seal 37 = .ok (.getfield 13, 3) := by decide +kernel
theorem d_M_seal_40 : decode b_M_seal 40 = .ok (.iload_n 3, 1) := by decide +kernel
theorem d_M_seal_41 : decode b_M_seal 41 = .ok (.iaload, 1) := by decide +kernel
theorem d_M_seal_42 : decode b_M_seal 42 = .ok (.ifCond .ne 7, 3) := by decide +kernel
theorem d_M_seal_45 : decode b_M_seal 45 = .ok (.iconst 1, 1) := by decide +kernel
theorem d_M_seal_46 : decode b_M_seal 46 = .ok (.goto 4, 3) := by decide +kernel
theorem d_M_seal_49 : decode b_M_seal 49 = .ok (.iconst 0, 1) := by decide +kernel
theorem d_M_seal_50 : decode b_M_seal 50 = .ok (.istore_n 1, 1) := by decide +kernel
theorem d_M_seal_51 : decode b_M_seal 51 = .ok (.iconst 0, 1) := by decide +kernel
theorem d_M_seal_52 : decode b_M_seal 52 = .ok (.istore 4, 2) := by decide +kernel
theorem d_M_seal_54 : decode b_M_seal 54 = .ok (.iload 4, 2) := by decide +kernel
theorem d_M_seal_56 : decode b_M_seal 56 = .ok (.aload_n 0, 1) := by decide +kernel
theorem d_M_seal_57 : decode b_M_seal 57 = .ok (.getfield 13, 3) := by decide +kernel
theorem d_M_seal_60 : decode b_M_seal 60 = .ok (.iload_n 3, 1) := by decide +kernel
theorem d_M_seal_61 : decode b_M_seal 61 = .ok (.iaload, 1) := by decide +kernel
theorem d_M_seal_62 : decode b_M_seal 62 = .ok (.if_icmp .ge 48, 3) := by decide +kernel
theorem d_M_seal_65 : decode b_M_seal 65 = .ok (.iload_n 2, 1) := by decide +kernel
theorem d_M_seal_66 : decode b_M_seal 66 = .ok (.ifCond .ne 32, 3) := by decide +kernel
theorem d_M_seal_69 : decode b_M_seal 69 = .ok (.aload_n 0, 1) := by decide +kernel
theorem d_M_seal_70 : decode b_M_seal 70 = .ok (.getfield 7, 3) := by decide +kernel
theorem d_M_seal_73 : decode b_M_seal 73 = .ok (.aload_n 0, 1) := by decide +kernel
theorem d_M_seal_74 : decode b_M_seal 74 = .ok (.getfield 17, 3) := by decide +kernel
theorem d_M_seal_77 : decode b_M_seal 77 = .ok (.iconst 4, 1) := by decide +kernel
theorem d_M_seal_78 : decode b_M_seal 78 = .ok (.iload_n 3, 1) := by decide +kernel
theorem d_M_seal_79 : decode b_M_seal 79 = .ok (.imul, 1) := by decide +kernel
theorem d_M_seal_80 : decode b_M_seal 80 = .ok (.iload 4, 2) := by decide +kernel
theorem d_M_seal_82 : decode b_M_seal 82 = .ok (.iadd, 1) := by decide +kernel
theorem d_M_seal_83 : decode b_M_seal 83 = .ok (.iaload, 1) := by decide +kernel
theorem d_M_seal_84 : decode b_M_seal 84 = .ok (.baload, 1) := by decide +kernel
theorem d_M_seal_85 : decode b_M_seal 85 = .ok (.ifCond .eq 17, 3) := by decide +kernel
theorem d_M_seal_88 : decode b_M_seal 88 = .ok (.aload_n 0, 1) := by decide +kernel
theorem d_M_seal_89 : decode b_M_seal 89 = .ok (.iload_n 3, 1) := by decide +kernel
theorem d_M_seal_90 : decode b_M_seal 90 = .ok (.iload 4, 2) := by decide +kernel
theorem d_M_seal_92 : decode b_M_seal 92 = .ok (.invokevirtual 110, 3) := by decide +kernel
theorem d_M_seal_95 : decode b_M_seal 95 = .ok (.ifCond .ne 7, 3) := by decide +kernel
theorem d_M_seal_98 : decode b_M_seal 98 = .ok (.iconst 1, 1) := by decide +kernel
theorem d_M_seal_99 : decode b_M_seal 99 = .ok (.goto 4, 3) := by decide +kernel
theorem d_M_seal_102 : decode b_M_seal 102 = .ok (.iconst 0, 1) := by decide +kernel
theorem d_M_seal_103 : decode b_M_seal 103 = .ok (.istore_n 2, 1) := by decide +kernel
theorem d_M_seal_104 : decode b_M_seal 104 = .ok (.iinc 4 1, 3) := by decide +kernel
theorem d_M_seal_107 : decode b_M_seal 107 = .ok (.goto (-53), 3) := by decide +kernel
theorem d_M_seal_110 : decode b_M_seal 110 = .ok (.iinc 3 1, 3) := by decide +kernel
theorem d_M_seal_113 : decode b_M_seal 113 = .ok (.goto (-89), 3) := by decide +kernel
theorem d_M_seal_116 : decode b_M_seal 116 = .ok (.iload_n 1, 1) := by decide +kernel
theorem d_M_seal_117 : decode b_M_seal 117 = .ok (.ifCond .eq 5, 3) := by decide +kernel
theorem d_M_seal_120 : decode b_M_seal 120 = .ok (.iconst 3, 1) := by decide +kernel
theorem d_M_seal_121 : decode b_M_seal 121 = .ok (.ireturn, 1) := by decide +kernel
theorem d_M_seal_122 : decode b_M_seal 122 = .ok (.aload_n 0, 1) := by decide +kernel
theorem d_M_seal_123 : decode b_M_seal 123 = .ok (.iload_n 2, 1) := by decide +kernel
theorem d_M_seal_124 : decode b_M_seal 124 = .ok (.ifCond .ne 7, 3) := by decide +kernel
theorem d_M_seal_127 : decode b_M_seal 127 = .ok (.iconst 1, 1) := by decide +kernel
theorem d_M_seal_128 : decode b_M_seal 128 = .ok (.goto 4, 3) := by decide +kernel
theorem d_M_seal_131 : decode b_M_seal 131 = .ok (.iconst 0, 1) := by decide +kernel
theorem d_M_seal_132 : decode b_M_seal 132 = .ok (.putfield 80, 3) := by decide +kernel
theorem d_M_seal_135 : decode b_M_seal 135 = .ok (.iload_n 2, 1) := by decide +kernel
theorem d_M_seal_136 : decode b_M_seal 136 = .ok (.ifCond .eq 7, 3) := by decide +kernel
theorem d_M_seal_139 : decode b_M_seal 139 = .ok (.iconst 4, 1) := by decide +kernel
theorem d_M_seal_140 : decode b_M_seal 140 = .ok (.goto 4, 3) := by decide +kernel
theorem d_M_seal_143 : decode b_M_seal 143 = .ok (.iconst 0, 1) := by decide +kernel
theorem d_M_seal_144 : decode b_M_seal 144 = .ok (.ireturn, 1) := by decide +kernel
theorem d_M_make_0 : decode b_M_make 0 = .ok (.aload_n 0, 1) := by decide +kernel
theorem d_M_make_1 : decode b_M_make 1 = .ok (.getfield 50, 3) := by decide +kernel
theorem d_M_make_4 : decode b_M_make 4 = .ok (.aload_n 0, 1) := by decide +kernel
theorem d_M_make_5 : decode b_M_make 5 = .ok (.getfield 113, 3) := by decide +kernel
theorem d_M_make_8 : decode b_M_make 8 = .ok (.iload_n 1, 1) := by decide +kernel
theorem d_M_make_9 : decode b_M_make 9 = .ok (.iastore, 1) := by decide +kernel
theorem d_M_make_10 : decode b_M_make 10 = .ok (.aload_n 0, 1) := by decide +kernel
theorem d_M_make_11 : decode b_M_make 11 = .ok (.getfield 53, 3) := by decide +kernel
theorem d_M_make_14 : decode b_M_make 14 = .ok (.aload_n 0, 1) := by decide +kernel
theorem d_M_make_15 : decode b_M_make 15 = .ok (.getfield 113, 3) := by decide +kernel
theorem d_M_make_18 : decode b_M_make 18 = .ok (.iload_n 2, 1) := by decide +kernel
theorem d_M_make_19 : decode b_M_make 19 = .ok (.iastore, 1) := by decide +kernel
theorem d_M_make_20 : decode b_M_make 20 = .ok (.aload_n 0, 1) := by decide +kernel
theorem d_M_make_21 : decode b_M_make 21 = .ok (.getfield 56, 3) := by decide +kernel
theorem d_M_make_24 : decode b_M_make 24 = .ok (.aload_n 0, 1) := by decide +kernel
theorem d_M_make_25 : decode b_M_make 25 = .ok (.getfield 113, 3) := by decide +kernel
theorem d_M_make_28 : decode b_M_make 28 = .ok (.iconst 1, 1) := by decide +kernel
theorem d_M_make_29 : decode b_M_make 29 = .ok (.iastore, 1) := by decide +kernel
theorem d_M_make_30 : decode b_M_make 30 = .ok (.aload_n 0, 1) := by decide +kernel
theorem d_M_make_31 : decode b_M_make 31 = .ok (.getfield 59, 3) := by decide +kernel
theorem d_M_make_34 : decode b_M_make 34 = .ok (.aload_n 0, 1) := by decide +kernel
theorem d_M_make_35 : decode b_M_make 35 = .ok (.getfield 113, 3) := by decide +kernel
theorem d_M_make_38 : decode b_M_make 38 = .ok (.iconst (-1), 1) := by decide +kernel
theorem d_M_make_39 : decode b_M_make 39 = .ok (.iastore, 1) := by decide +kernel
theorem d_M_make_40 : decode b_M_make 40 = .ok (.aload_n 0, 1) := by decide +kernel
theorem d_M_make_41 : decode b_M_make 41 = .ok (.aload_n 0, 1) := by decide +kernel
theorem d_M_make_42 : decode b_M_make 42 = .ok (.getfield 113, 3) := by decide +kernel
theorem d_M_make_45 : decode b_M_make 45 = .ok (.iconst 1, 1) := by decide +kernel
theorem d_M_make_46 : decode b_M_make 46 = .ok (.iadd, 1) := by decide +kernel
theorem d_M_make_47 : decode b_M_make 47 = .ok (.putfield 113, 3) := by decide +kernel
theorem d_M_make_50 : decode b_M_make 50 = .ok (.aload_n 0, 1) := by decide +kernel
theorem d_M_make_51 : decode b_M_make 51 = .ok (.getfield 113, 3) := by decide +kernel
theorem d_M_make_54 : decode b_M_make 54 = .ok (.iconst 1, 1) := by decide +kernel
theorem d_M_make_55 : decode b_M_make 55 = .ok (.isub, 1) := by decide +kernel
theorem d_M_make_56 : decode b_M_make 56 = .ok (.ireturn, 1) := by decide +kernel
theorem d_M_gather_0 : decode b_M_gather 0 = .ok (.iconst 0, 1) := by decide +kernel
theorem d_M_gather_1 : decode b_M_gather 1 = .ok (.istore_n 1, 1) := by decide +kernel
theorem d_M_gather_2 : decode b_M_gather 2 = .ok (.iload_n 1, 1) := by decide +kernel
theorem d_M_gather_3 : decode b_M_gather 3 = .ok (.bipush 8, 2) := by decide +kernel
theorem d_M_gather_5 : decode b_M_gather 5 = .ok (.if_icmp .ge 16, 3) := by decide +kernel
theorem d_M_gather_8 : decode b_M_gather 8 = .ok (.aload_n 0, 1) := by decide +kernel
theorem d_M_gather_9 : decode b_M_gather 9 = .ok (.getfield 71, 3) := by decide +kernel
theorem d_M_gather_12 : decode b_M_gather 12 = .ok (.iload_n 1, 1) := by decide +kernel
theorem d_M_gather_13 : decode b_M_gather 13 = .ok (.iconst 0, 1) := by decide +kernel
theorem d_M_gather_14 : decode b_M_gather 14 = .ok (.iastore, 1) := by decide +kernel
theorem d_M_gather_15 : decode b_M_gather 15 = .ok (.iinc 1 1, 3) := by decide +kernel
theorem d_M_gather_18 : decode b_M_gather 18 = .ok (.goto (-16), 3) := by decide +kernel
theorem d_M_gather_21 : decode b_M_gather 21 = .ok (.iconst 0, 1) := by decide +kernel
theorem d_M_gather_22 : decode b_M_gather 22 = .ok (.istore_n 1, 1) := by decide +kernel
theorem d_M_gather_23 : decode b_M_gather 23 = .ok (.iload_n 1, 1) := by decide +kernel
theorem d_M_gather_24 : decode b_M_gather 24 = .ok (.aload_n 0, 1) := by decide +kernel
theorem d_M_gather_25 : decode b_M_gather 25 = .ok (.getfield 113, 3) := by decide +kernel
theorem d_M_gather_28 : decode b_M_gather 28 = .ok (.if_icmp .ge 57, 3) := by decide +kernel
theorem d_M_gather_31 : decode b_M_gather 31 = .ok (.aload_n 0, 1) := by decide +kernel
theorem d_M_gather_32 : decode b_M_gather 32 = .ok (.getfield 50, 3) := by decide +kernel
theorem d_M_gather_35 : decode b_M_gather 35 = .ok (.iload_n 1, 1) := by decide +kernel
theorem d_M_gather_36 : decode b_M_gather 36 = .ok (.iaload, 1) := by decide +kernel
theorem d_M_gather_37 : decode b_M_gather 37 = .ok (.istore_n 2, 1) := by decide +kernel
theorem d_M_gather_38 : decode b_M_gather 38 = .ok (.aload_n 0, 1) := by decide +kernel
theorem d_M_gather_39 : decode b_M_gather 39 = .ok (.getfield 56, 3) := by decide +kernel
theorem d_M_gather_42 : decode b_M_gather 42 = .ok (.iload_n 1, 1) := by decide +kernel
theorem d_M_gather_43 : decode b_M_gather 43 = .ok (.iaload, 1) := by decide +kernel
theorem d_M_gather_44 : decode b_M_gather 44 = .ok (.iconst 1, 1) := by decide +kernel
theorem d_M_gather_45 : decode b_M_gather 45 = .ok (.if_icmp .ne 34, 3) := by decide +kernel
theorem d_M_gather_48 : decode b_M_gather 48 = .ok (.aload_n 0, 1) := by decide +kernel
theorem d_M_gather_49 : decode b_M_gather 49 = .ok (.getfield 68, 3) := by decide +kernel
theorem d_M_gather_52 : decode b_M_gather 52 = .ok (.bipush 6, 2) := by decide +kernel
theorem d_M_gather_54 : decode b_M_gather 54 = .ok (.iload_n 2, 1) := by decide +kernel
theorem d_M_gather_55 : decode b_M_gather 55 = .ok (.imul, 1) := by decide +kernel
theorem d_M_gather_56 : decode b_M_gather 56 = .ok (.aload_n 0, 1) := by decide +kernel
theorem d_M_gather_57 : decode b_M_gather 57 = .ok (.getfield 71, 3) := by decide +kernel
theorem d_M_gather_60 : decode b_M_gather 60 = .ok (.iload_n 2, 1) := by decide +kernel
theorem d_M_gather_61 : decode b_M_gather 61 = .ok (.iaload, 1) := by decide +kernel
theorem d_M_gather_62 : decode b_M_gather 62 = .ok (.iadd, 1) := by decide +kernel
theorem d_M_gather_63 : decode b_M_gather 63 = .ok (.iload_n 1, 1) := by decide +kernel
theorem d_M_gather_64 : decode b_M_gather 64 = .ok (.iastore, 1) := by decide +kernel
theorem d_M_gather_65 : decode b_M_gather 65 = .ok (.aload_n 0, 1) := by decide +kernel
theorem d_M_gather_66 : decode b_M_gather 66 = .ok (.getfield 71, 3) := by decide +kernel
theorem d_M_gather_69 : decode b_M_gather 69 = .ok (.iload_n 2, 1) := by decide +kernel
theorem d_M_gather_70 : decode b_M_gather 70 = .ok (.aload_n 0, 1) := by decide +kernel
theorem d_M_gather_71 : decode b_M_gather 71 = .ok (.getfield 71, 3) := by decide +kernel
theorem d_M_gather_74 : decode b_M_gather 74 = .ok (.iload_n 2, 1) := by decide +kernel
theorem d_M_gather_75 : decode b_M_gather 75 = .ok (.iaload, 1) := by decide +kernel
theorem d_M_gather_76 : decode b_M_gather 76 = .ok (.iconst 1, 1) := by decide +kernel
theorem d_M_gather_77 : decode b_M_gather 77 = .ok (.iadd, 1) := by decide +kernel
theorem d_M_gather_78 : decode b_M_gather 78 = .ok (.iastore, 1) := by decide +kernel
theorem d_M_gather_79 : decode b_M_gather 79 = .ok (.iinc 1 1, 3) := by decide +kernel
theorem d_M_gather_82 : decode b_M_gather 82 = .ok (.goto (-59), 3) := by decide +kernel
theorem d_M_gather_85 : decode b_M_gather 85 = .ok (.return_, 1) := by decide +kernel
theorem d_M_enter_0 : decode b_M_enter 0 = .ok (.aload_n 0, 1) := by decide +kernel
theorem d_M_enter_1 : decode b_M_enter 1 = .ok (.invokevirtual 116, 3) := by decide +kernel
theorem d_M_enter_4 : decode b_M_enter 4 = .ok (.aload_n 0, 1) := by decide +kernel
theorem d_M_enter_5 : decode b_M_enter 5 = .ok (.getfield 80, 3) := by decide +kernel
theorem d_M_enter_8 : decode b_M_enter 8 = .ok (.ifCond .eq 42, 3) := by decide +kernel
theorem d_M_enter_11 : decode b_M_enter 11 = .ok (.aload_n 0, 1) := by decide +kernel
theorem d_M_enter_12 : decode b_M_enter 12 = .ok (.iload_n 1, 1) := by decide +kernel
theorem d_M_enter_13 : decode b_M_enter 13 = .ok (.invokevirtual 95, 3) := by decide +kernel
theorem d_M_enter_16 : decode b_M_enter 16 = .ok (.ifCond .eq 34, 3) := by decide +kernel
theorem d_M_enter_19 : decode b_M_enter 19 = .ok (.aload_n 0, 1) := by decide +kernel
theorem d_M_enter_20 : decode b_M_enter 20 = .ok (.getfield 7, 3) := by decide +kernel
theorem d_M_enter_23 : decode b_M_enter 23 = .ok (.iload_n 1, 1) := by decide +kernel
theorem d_M_enter_24 : decode b_M_enter 24 = .ok (.baload, 1) := by decide +kernel
theorem d_M_enter_25 : decode b_M_enter 25 = .ok (.iload_n 3, 1) := by decide +kernel
theorem d_M_enter_26 : decode b_M_enter 26 = .ok (.if_icmp .ne 24, 3) := by decide +kernel
theorem d_M_enter_29 : decode b_M_enter 29 = .ok (.aload_n 0, 1) := by decide +kernel
theorem d_M_enter_30 : decode b_M_enter 30 = .ok (.getfield 71, 3) := by decide +kernel
theorem d_M_enter_33 : decode b_M_enter 33 = .ok (.iload_n 1, 1) := by decide +kernel
theorem d_M_enter_34 : decode b_M_enter 34 = .ok (.iaload, 1) := by decide +kernel
theorem d_M_enter_35 : decode b_M_enter 35 = .ok (.bipush 6, 2) := by decide +kernel
theorem d_M_enter_37 : decode b_M_enter 37 = .ok (.if_icmp .ge 13, 3) := by decide +kernel
theorem d_M_enter_40 : decode b_M_enter 40 = .ok (.aload_n 0, 1) := by decide +kernel
theorem d_M_enter_41 : decode b_M_enter 41 = .ok (.getfield 113, 3) := by decide +kernel
theorem d_M_enter_44 : decode b_M_enter 44 = .ok (.sipush 300, 3) := by decide +kernel
theorem d_M_enter_47 : decode b_M_enter 47 = .ok (.if_icmp .lt 5, 3) := by decide +kernel
theorem d_M_enter_50 : decode b_M_enter 50 = .ok (.iconst (-1), 1) := by decide +kernel
theorem d_M_enter_51 : decode b_M_enter 51 = .ok (.ireturn, 1) := by decide +kernel
theorem d_M_enter_52 : decode b_M_enter 52 = .ok (.aload_n 0, 1) := by decide +kernel
theorem d_M_enter_53 : decode b_M_enter 53 = .ok (.iload_n 1, 1) := by decide +kernel
theorem d_M_enter_54 : decode b_M_enter 54 = .ok (.iload_n 2, 1) := by decide +kernel
theorem d_M_enter_55 : decode b_M_enter 55 = .ok (.invokevirtual 119, 3) := by decide +kernel
theorem d_M_enter_58 : decode b_M_enter 58 = .ok (.ireturn, 1) := by decide +kernel
theorem d_M_put_0 : decode b_M_put 0 = .ok (.aload_n 0, 1) := by decide +kernel
theorem d_M_put_1 : decode b_M_put 1 = .ok (.iload_n 1, 1) := by decide +kernel
theorem d_M_put_2 : decode b_M_put 2 = .ok (.iload_n 2, 1) := by decide +kernel
theorem d_M_put_3 : decode b_M_put 3 = .ok (.iconst 0, 1) := by decide +kernel
theorem d_M_put_4 : decode b_M_put 4 = .ok (.invokevirtual 123, 3) := by decide +kernel
theorem d_M_put_7 : decode b_M_put 7 = .ok (.ireturn, 1) := by decide +kernel
theorem d_M_call_0 : decode b_M_call 0 = .ok (.aload_n 0, 1) := by decide +kernel
theorem d_M_call_1 : decode b_M_call 1 = .ok (.iload_n 1, 1) := by decide +kernel
theorem d_M_call_2 : decode b_M_call 2 = .ok (.iload_n 2, 1) := by decide +kernel
theorem d_M_call_3 : decode b_M_call 3 = .ok (.iconst 1, 1) := by decide +kernel
theorem d_M_call_4 : decode b_M_call 4 = .ok (.invokevirtual 123, 3) := by decide +kernel
theorem d_M_call_7 : decode b_M_call 7 = .ok (.ireturn, 1) := by decide +kernel
theorem d_M_isMessage_0 : decode b_M_isMessage 0 = .ok (.iload_n 1, 1) := by decide +kernel
theorem d_M_isMessage_1 : decode b_M_isMessage 1 = .ok (.ifCond .lt 15, 3) := by decide +kernel
theorem d_M_isMessage_4 : decode b_M_isMessage 4 = .ok (.iload_n 1, 1) := by decide +kernel
theorem d_M_isMessage_5 : decode b_M_isMessage 5 = .ok (.aload_n 0, 1) := by decide +kernel
theorem d_M_isMessage_6 : decode b_M_isMessage 6 = .ok (.getfield 113, 3) := by decide +kernel
theorem d_M_isMessage_9 : decode b_M_isMessage 9 = .ok (.if_icmp .ge 7, 3) := by decide +kernel
theorem d_M_isMessage_12 : decode b_M_isMessage 12 = .ok (.iconst 1, 1) := by decide +kernel
theorem d_M_isMessage_13 : decode b_M_isMessage 13 = .ok (.goto 4, 3) := by decide +kernel
theorem d_M_isMessage_16 : decode b_M_isMessage 16 = .ok (.iconst 0, 1) := by decide +kernel
theorem d_M_isMessage_17 : decode b_M_isMessage 17 = .ok (.ireturn, 1) := by decide +kernel
theorem d_M_withdraw_0 : decode b_M_withdraw 0 = .ok (.aload_n 0, 1) := by decide +kernel
theorem d_M_withdraw_1 : decode b_M_withdraw 1 = .ok (.iload_n 1, 1) := by decide +kernel
theorem d_M_withdraw_2 : decode b_M_withdraw 2 = .ok (.invokevirtual 127, 3) := by decide +kernel
theorem d_M_withdraw_5 : decode b_M_withdraw 5 = .ok (.ifCond .eq 27, 3) := by decide +kernel
theorem d_M_withdraw_8 : decode b_M_withdraw 8 = .ok (.aload_n 0, 1) := by decide +kernel
theorem d_M_withdraw_9 : decode b_M_withdraw 9 = .ok (.getfield 7, 3) := by decide +kernel
theorem d_M_withdraw_12 : decode b_M_withdraw 12 = .ok (.aload_n 0, 1) := by decide +kernel
theorem d_M_withdraw_13 : decode b_M_withdraw 13 = .ok (.getfield 50, 3) := by decide +kernel
theorem d_M_withdraw_16 : decode b_M_withdraw 16 = .ok (.iload_n 1, 1) := by decide +kernel
theorem d_M_withdraw_17 : decode b_M_withdraw 17 = .ok (.iaload, 1) := by decide +kernel
theorem d_M_withdraw_18 : decode b_M_withdraw 18 = .ok (.baload, 1) := by decide +kernel
theorem d_M_withdraw_19 : decode b_M_withdraw 19 = .ok (.ifCond .eq 13, 3) := by decide +kernel
theorem d_M_withdraw_22 : decode b_M_withdraw 22 = .ok (.aload_n 0, 1) := by decide +kernel
theorem d_M_withdraw_23 : decode b_M_withdraw 23 = .ok (.getfield 56, 3) := by decide +kernel
theorem d_M_withdraw_26 : decode b_M_withdraw 26 = .ok (.iload_n 1, 1) := by decide +kernel
theorem d_M_withdraw_27 : decode b_M_withdraw 27 = .ok (.iaload, 1) := by decide +kernel
theorem d_M_withdraw_28 : decode b_M_withdraw 28 = .ok (.iconst 1, 1) := by decide +kernel
theorem d_M_withdraw_29 : decode b_M_withdraw 29 = .ok (.if_icmp .eq 5, 3) := by decide +kernel
theorem d_M_withdraw_32 : decode b_M_withdraw 32 = .ok (.iconst 0, 1) := by decide +kernel
theorem d_M_withdraw_33 : decode b_M_withdraw 33 = .ok (.ireturn, 1) := by decide +kernel
theorem d_M_withdraw_34 : decode b_M_withdraw 34 = .ok (.aload_n 0, 1) := by decide +kernel
theorem d_M_withdraw_35 : decode b_M_withdraw 35 = .ok (.getfield 56, 3) := by decide +kernel
theorem d_M_withdraw_38 : decode b_M_withdraw 38 = .ok (.iload_n 1, 1) := by decide +kernel
theorem d_M_withdraw_39 : decode b_M_withdraw 39 = .ok (.iconst 3, 1) := by decide +kernel
theorem d_M_withdraw_40 : decode b_M_withdraw 40 = .ok (.iastore, 1) := by decide +kernel
theorem d_M_withdraw_41 : decode b_M_withdraw 41 = .ok (.iconst 1, 1) := by decide +kernel
theorem d_M_withdraw_42 : decode b_M_withdraw 42 = .ok (.ireturn, 1) := by decide +kernel
theorem d_M_passes_0 : decode b_M_passes 0 = .ok (.aload_n 0, 1) := by decide +kernel
theorem d_M_passes_1 : decode b_M_passes 1 = .ok (.getfield 23, 3) := by decide +kernel
theorem d_M_passes_4 : decode b_M_passes 4 = .ok (.iload_n 1, 1) := by decide +kernel
theorem d_M_passes_5 : decode b_M_passes 5 = .ok (.iaload, 1) := by decide +kernel
theorem d_M_passes_6 : decode b_M_passes 6 = .ok (.istore_n 3, 1) := by decide +kernel
theorem d_M_passes_7 : decode b_M_passes 7 = .ok (.aload_n 0, 1) := by decide +kernel
theorem d_M_passes_8 : decode b_M_passes 8 = .ok (.getfield 20, 3) := by decide +kernel
theorem d_M_passes_11 : decode b_M_passes 11 = .ok (.iload_n 1, 1) := by decide +kernel
theorem d_M_passes_12 : decode b_M_passes 12 = .ok (.iaload, 1) := by decide +kernel
theorem d_M_passes_13 : decode b_M_passes 13 = .ok (.istore 4, 2) := by decide +kernel
theorem d_M_passes_15 : decode b_M_passes 15 = .ok (.iload 4, 2) := by decide +kernel
theorem d_M_passes_17 : decode b_M_passes 17 = .ok (.ifCond .eq 48, 3) := by decide +kernel
theorem d_M_passes_20 : decode b_M_passes 20 = .ok (.iload 4, 2) := by decide +kernel
theorem d_M_passes_22 : decode b_M_passes 22 = .ok (.iconst 1, 1) := by decide +kernel
theorem d_M_passes_23 : decode b_M_passes 23 = .ok (.if_icmp .ne 8, 3) := by decide +kernel
theorem d_M_passes_26 : decode b_M_passes 26 = .ok (.iload_n 2, 1) := by decide +kernel
theorem d_M_passes_27 : decode b_M_passes 27 = .ok (.iload_n 3, 1) := by decide +kernel
theorem d_M_passes_28 : decode b_M_passes 28 = .ok (.if_icmp .eq 37, 3) := by decide +kernel
theorem d_M_passes_31 : decode b_M_passes 31 = .ok (.iload 4, 2) := by decide +kernel
theorem d_M_passes_33 : decode b_M_passes 33 = .ok (.iconst 2, 1) := by decide +kernel
theorem d_M_passes_34 : decode b_M_passes 34 = .ok (.if_icmp .ne 8, 3) := by decide +kernel
theorem d_M_passes_37 : decode b_M_passes 37 = .ok (.iload_n 2, 1) := by decide +kernel
theorem d_M_passes_38 : decode b_M_passes 38 = .ok (.iload_n 3, 1) := by decide +kernel
theorem d_M_passes_39 : decode b_M_passes 39 = .ok (.if_icmp .lt 26, 3) := by decide +kernel
theorem d_M_passes_42 : decode b_M_passes 42 = .ok (.iload 4, 2) := by decide +kernel
theorem d_M_passes_44 : decode b_M_passes 44 = .ok (.iconst 3, 1) := by decide +kernel
theorem d_M_passes_45 : decode b_M_passes 45 = .ok (.if_icmp .ne 8, 3) := by decide +kernel
theorem d_M_passes_48 : decode b_M_passes 48 = .ok (.iload_n 2, 1) := by decide +kernel
theorem d_M_passes_49 : decode b_M_passes 49 = .ok (.iload_n 3, 1) := by decide +kernel
theorem d_M_passes_50 : decode b_M_passes 50 = .ok (.if_icmp .ge 15, 3) := by decide +kernel
theorem d_M_passes_53 : decode b_M_passes 53 = .ok (.iload 4, 2) := by decide +kernel
theorem d_M_passes_55 : decode b_M_passes 55 = .ok (.iconst 4, 1) := by decide +kernel
theorem d_M_passes_56 : decode b_M_passes 56 = .ok (.if_icmp .ne 13, 3) := by decide +kernel
theorem d_M_passes_59 : decode b_M_passes 59 = .ok (.iload_n 2, 1) := by decide +kernel
theorem d_M_passes_60 : decode b_M_passes 60 = .ok (.iload_n 3, 1) := by decide +kernel
theorem d_M_passes_61 : decode b_M_passes 61 = .ok (.iand, 1) := by decide +kernel
theorem d_M_passes_62 : decode b_M_passes 62 = .ok (.ifCond .eq 7, 3) := by decide +kernel
theorem d_M_passes_65 : decode b_M_passes 65 = .ok (.iconst 1, 1) := by decide +kernel
theorem d_M_passes_66 : decode b_M_passes 66 = .ok (.goto 4, 3) := by decide +kernel
theorem d_M_passes_69 : decode b_M_passes 69 = .ok (.iconst 0, 1) := by decide +kernel
theorem d_M_passes_70 : decode b_M_passes 70 = .ok (.ireturn, 1) := by decide +kernel
theorem d_M_guarded_0 : decode b_M_guarded 0 = .ok (.aload_n 0, 1) := by decide +kernel
theorem d_M_guarded_1 : decode b_M_guarded 1 = .ok (.getfield 26, 3) := by decide +kernel
theorem d_M_guarded_4 : decode b_M_guarded 4 = .ok (.iload_n 1, 1) := by decide +kernel
theorem d_M_guarded_5 : decode b_M_guarded 5 = .ok (.iaload, 1) := by decide +kernel
theorem d_M_guarded_6 : decode b_M_guarded 6 = .ok (.istore_n 2, 1) := by decide +kernel
theorem d_M_guarded_7 : decode b_M_guarded 7 = .ok (.aload_n 0, 1) := by decide +kernel
theorem d_M_guarded_8 : decode b_M_guarded 8 = .ok (.getfield 29, 3) := by decide +kernel
theorem d_M_guarded_11 : decode b_M_guarded 11 = .ok (.iload_n 1, 1) := by decide +kernel
theorem d_M_guarded_12 : decode b_M_guarded 12 = .ok (.iaload, 1) := by decide +kernel
theorem d_M_guarded_13 : decode b_M_guarded 13 = .ok (.istore_n 3, 1) := by decide +kernel
theorem d_M_guarded_14 : decode b_M_guarded 14 = .ok (.lconst 0, 1) := by decide +kernel
theorem d_M_guarded_15 : decode b_M_guarded 15 = .ok (.lstore 4, 2) := by decide +kernel
theorem d_M_guarded_17 : decode b_M_guarded 17 = .ok (.iconst 1, 1) := by decide +kernel
theorem d_M_guarded_18 : decode b_M_guarded 18 = .ok (.istore 6, 2) := by decide +kernel
theorem d_M_guarded_20 : decode b_M_guarded 20 = .ok (.iconst 1, 1) := by decide +kernel
theorem d_M_guarded_21 : decode b_M_guarded 21 = .ok (.istore 7, 2) := by decide +kernel
theorem d_M_guarded_23 : decode b_M_guarded 23 = .ok (.iconst 1, 1) := by decide +kernel
theorem d_M_guarded_24 : decode b_M_guarded 24 = .ok (.istore 8, 2) := by decide +kernel
theorem d_M_guarded_26 : decode b_M_guarded 26 = .ok (.iconst 0, 1) := by decide +kernel
theorem d_M_guarded_27 : decode b_M_guarded 27 = .ok (.istore 9, 2) := by decide +kernel
theorem d_M_guarded_29 : decode b_M_guarded 29 = .ok (.iload 9, 2) := by decide +kernel
theorem d_M_guarded_31 : decode b_M_guarded 31 = .ok (.aload_n 0, 1) := by decide +kernel
theorem d_M_guarded_32 : decode b_M_guarded 32 = .ok (.getfield 13, 3) := by decide +kernel
theorem d_M_guarded_35 : decode b_M_guarded 35 = .ok (.iload_n 1, 1) := by decide +kernel
theorem d_M_guarded_36 : decode b_M_guarded 36 = .ok (.iaload, 1) := by decide +kernel
theorem d_M_guarded_37 : decode b_M_guarded 37 = .ok (.if_icmp .ge 134, 3) := by decide +kernel
theorem d_M_guarded_40 : decode b_M_guarded 40 = .ok (.lload 4, 2) := by decide +kernel
theorem d_M_guarded_42 : decode b_M_guarded 42 = .ok (.aload_n 0, 1) := by decide +kernel
theorem d_M_guarded_43 : decode b_M_guarded 43 = .ok (.getfield 77, 3) := by decide +kernel
theorem d_M_guarded_46 : decode b_M_guarded 46 = .ok (.iload 9, 2) := by decide +kernel
theorem d_M_guarded_48 : decode b_M_guarded 48 = .ok (.iaload, 1) := by decide +kernel
theorem d_M_guarded_49 : decode b_M_guarded 49 = .ok (.i2l, 1) := by decide +kernel
theorem d_M_guarded_50 : decode b_M_guarded 50 = .ok (.ladd, 1) := by decide +kernel
theorem d_M_guarded_51 : decode b_M_guarded 51 = .ok (.lstore 4, 2) := by decide +kernel
theorem d_M_guarded_53 : decode b_M_guarded 53 = .ok (.iconst 0, 1) := by decide +kernel
theorem d_M_guarded_54 : decode b_M_guarded 54 = .ok (.istore 10, 2) := by decide +kernel
theorem d_M_guarded_56 : decode b_M_guarded 56 = .ok (.iload 10, 2) := by decide +kernel
theorem d_M_guarded_58 : decode b_M_guarded 58 = .ok (.iload 9, 2) := by decide +kernel
theorem d_M_guarded_60 : decode b_M_guarded 60 = .ok (.if_icmp .ge 105, 3) := by decide +kernel
theorem d_M_guarded_63 : decode b_M_guarded 63 = .ok (.iload 6, 2) := by decide +kernel
theorem d_M_guarded_65 : decode b_M_guarded 65 = .ok (.ifCond .eq 33, 3) := by decide +kernel
theorem d_M_guarded_68 : decode b_M_guarded 68 = .ok (.iload 10, 2) := by decide +kernel
theorem d_M_guarded_70 : decode b_M_guarded 70 = .ok (.iload 9, 2) := by decide +kernel
theorem d_M_guarded_72 : decode b_M_guarded 72 = .ok (.iconst 1, 1) := by decide +kernel
theorem d_M_guarded_73 : decode b_M_guarded 73 = .ok (.isub, 1) := by decide +kernel
theorem d_M_guarded_74 : decode b_M_guarded 74 = .ok (.if_icmp .lt 20, 3) := by decide +kernel
theorem d_M_guarded_77 : decode b_M_guarded 77 = .ok (.aload_n 0, 1) := by decide +kernel
theorem d_M_guarded_78 : decode b_M_guarded 78 = .ok (.getfield 77, 3) := by decide +kernel
theorem d_M_guarded_81 : decode b_M_guarded 81 = .ok (.iload 10, 2) := by decide +kernel
theorem d_M_guarded_83 : decode b_M_guarded 83 = .ok (.iaload, 1) := by decide +kernel
theorem d_M_guarded_84 : decode b_M_guarded 84 = .ok (.aload_n 0, 1) := by decide +kernel
theorem d_M_guarded_85 : decode b_M_guarded 85 = .ok (.getfield 77, 3) := by decide +kernel
theorem d_M_guarded_88 : decode b_M_guarded 88 = .ok (.iload 9, 2) := by decide +kernel
theorem d_M_guarded_90 : decode b_M_guarded 90 = .ok (.iaload, 1) := by decide +kernel
theorem d_M_guarded_91 : decode b_M_guarded 91 = .ok (.if_icmp .ge 7, 3) := by decide +kernel
theorem d_M_guarded_94 : decode b_M_guarded 94 = .ok (.iconst 1, 1) := by decide +kernel
theorem d_M_guarded_95 : decode b_M_guarded 95 = .ok (.goto 4, 3) := by decide +kernel
theorem d_M_guarded_98 : decode b_M_guarded 98 = .ok (.iconst 0, 1) := by decide +kernel
theorem d_M_guarded_99 : decode b_M_guarded 99 = .ok (.istore 6, 2) := by decide +kernel
theorem d_M_guarded_101 : decode b_M_guarded 101 = .ok (.iload 7, 2) := by decide +kernel
theorem d_M_guarded_103 : decode b_M_guarded 103 = .ok (.ifCond .eq 24, 3) := by decide +kernel
theorem d_M_guarded_106 : decode b_M_guarded 106 = .ok (.aload_n 0, 1) := by decide +kernel
theorem d_M_guarded_107 : decode b_M_guarded 107 = .ok (.getfield 77, 3) := by decide +kernel
theorem d_M_guarded_110 : decode b_M_guarded 110 = .ok (.iload 10, 2) := by decide +kernel
theorem d_M_guarded_112 : decode b_M_guarded 112 = .ok (.iaload, 1) := by decide +kernel
theorem d_M_guarded_113 : decode b_M_guarded 113 = .ok (.aload_n 0, 1) := by decide +kernel
theorem d_M_guarded_114 : decode b_M_guarded 114 = .ok (.getfield 77, 3) := by decide +kernel
theorem d_M_guarded_117 : decode b_M_guarded 117 = .ok (.iload 9, 2) := by decide +kernel
theorem d_M_guarded_119 : decode b_M_guarded 119 = .ok (.iaload, 1) := by decide +kernel
theorem d_M_guarded_120 : decode b_M_guarded 120 = .ok (.if_icmp .ne 7, 3) := by decide +kernel
theorem d_M_guarded_123 : decode b_M_guarded 123 = .ok (.iconst 1, 1) := by decide +kernel
theorem d_M_guarded_124 : decode b_M_guarded 124 = .ok (.goto 4, 3) := by decide +kernel
theorem d_M_guarded_127 : decode b_M_guarded 127 = .ok (.iconst 0, 1) := by decide +kernel
theorem d_M_guarded_128 : decode b_M_guarded 128 = .ok (.istore 7, 2) := by decide +kernel
theorem d_M_guarded_130 : decode b_M_guarded 130 = .ok (.iload 8, 2) := by decide +kernel
theorem d_M_guarded_132 : decode b_M_guarded 132 = .ok (.ifCond .eq 24, 3) := by decide +kernel
theorem d_M_guarded_135 : decode b_M_guarded 135 = .ok (.aload_n 0, 1) := by decide +kernel
theorem d_M_guarded_136 : decode b_M_guarded 136 = .ok (.getfield 77, 3) := by decide +kernel
theorem d_M_guarded_139 : decode b_M_guarded 139 = .ok (.iload 10, 2) := by decide +kernel
theorem d_M_guarded_141 : decode b_M_guarded 141 = .ok (.iaload, 1) := by decide +kernel
theorem d_M_guarded_142 : decode b_M_guarded 142 = .ok (.aload_n 0, 1) := by decide +kernel
theorem d_M_guarded_143 : decode b_M_guarded 143 = .ok (.getfield 77, 3) := by decide +kernel
theorem d_M_guarded_146 : decode b_M_guarded 146 = .ok (.iload 9, 2) := by decide +kernel
theorem d_M_guarded_148 : decode b_M_guarded 148 = .ok (.iaload, 1) := by decide +kernel
theorem d_M_guarded_149 : decode b_M_guarded 149 = .ok (.if_icmp .eq 7, 3) := by decide +kernel
theorem d_M_guarded_152 : decode b_M_guarded 152 = .ok (.iconst 1, 1) := by decide +kernel
theorem d_M_guarded_153 : decode b_M_guarded 153 = .ok (.goto 4, 3) := by decide +kernel
theorem d_M_guarded_156 : decode b_M_guarded 156 = .ok (.iconst 0, 1) := by decide +kernel
theorem d_M_guarded_157 : decode b_M_guarded 157 = .ok (.istore 8, 2) := by decide +kernel
theorem d_M_guarded_159 : decode b_M_guarded 159 = .ok (.iinc 10 1, 3) := by decide +kernel
theorem d_M_guarded_162 : decode b_M_guarded 162 = .ok (.goto (-106), 3) := by decide +kernel
theorem d_M_guarded_165 : decode b_M_guarded 165 = .ok (.iinc 9 1, 3) := by decide +kernel
theorem d_M_guarded_168 : decode b_M_guarded 168 = .ok (.goto (-139), 3) := by decide +kernel
theorem d_M_guarded_171 : decode b_M_guarded 171 = .ok (.iload_n 2, 1) := by decide +kernel
theorem d_M_guarded_172 : decode b_M_guarded 172 = .ok (.ifCond .eq 65, 3) := by decide +kernel
theorem d_M_guarded_175 : decode b_M_guarded 175 = .ok (.iload_n 2, 1) := by decide +kernel
theorem d_M_guarded_176 : decode b_M_guarded 176 = .ok (.iconst 1, 1) := by decide +kernel
theorem d_M_guarded_177 : decode b_M_guarded 177 = .ok (.if_icmp .ne 8, 3) := by decide +kernel
theorem d_M_guarded_180 : decode b_M_guarded 180 = .ok (.iload 6, 2) := by decide +kernel
theorem d_M_guarded_182 : decode b_M_guarded 182 = .ok (.ifCond .ne 55, 3) := by decide +kernel
theorem d_M_guarded_185 : decode b_M_guarded 185 = .ok (.iload_n 2, 1) := by decide +kernel
theorem d_M_guarded_186 : decode b_M_guarded 186 = .ok (.iconst 2, 1) := by decide +kernel
theorem d_M_guarded_187 : decode b_M_guarded 187 = .ok (.if_icmp .ne 8, 3) := by decide +kernel
theorem d_M_guarded_190 : decode b_M_guarded 190 = .ok (.iload 7, 2) := by decide +kernel
theorem d_M_guarded_192 : decode b_M_guarded 192 = .ok (.ifCond .ne 45, 3) := by decide +kernel
theorem d_M_guarded_195 : decode b_M_guarded 195 = .ok (.iload_n 2, 1) := by decide +kernel
theorem d_M_guarded_196 : decode b_M_guarded 196 = .ok (.iconst 3, 1) := by decide +kernel
theorem d_M_guarded_197 : decode b_M_guarded 197 = .ok (.if_icmp .ne 8, 3) := by decide +kernel
theorem d_M_guarded_200 : decode b_M_guarded 200 = .ok (.iload 8, 2) := by decide +kernel
theorem d_M_guarded_202 : decode b_M_guarded 202 = .ok (.ifCond .ne 35, 3) := by decide +kernel
theorem d_M_guarded_205 : decode b_M_guarded 205 = .ok (.iload_n 2, 1) := by decide +kernel
theorem d_M_guarded_206 : decode b_M_guarded 206 = .ok (.iconst 4, 1) := by decide +kernel
theorem d_M_guarded_207 : decode b_M_guarded 207 = .ok (.if_icmp .ne 11, 3) := by decide +kernel
theorem d_M_guarded_210 : decode b_M_guarded 210 = .ok (.lload 4, 2) := by decide +kernel
theorem d_M_guarded_212 : decode b_M_guarded 212 = .ok (.iload_n 3, 1) := by decide +kernel
theorem d_M_guarded_213 : decode b_M_guarded 213 = .ok (.i2l, 1) := by decide +kernel
theorem d_M_guarded_214 : decode b_M_guarded 214 = .ok (.lcmp, 1) := by decide +kernel
theorem d_M_guarded_215 : decode b_M_guarded 215 = .ok (.ifCond .le 22, 3) := by decide +kernel
theorem d_M_guarded_218 : decode b_M_guarded 218 = .ok (.iload_n 2, 1) := by decide +kernel
theorem d_M_guarded_219 : decode b_M_guarded 219 = .ok (.iconst 5, 1) := by decide +kernel
theorem d_M_guarded_220 : decode b_M_guarded 220 = .ok (.if_icmp .ne 21, 3) := by decide +kernel
theorem d_M_guarded_223 : decode b_M_guarded 223 = .ok (.iload_n 3, 1) := by decide +kernel
theorem d_M_guarded_224 : decode b_M_guarded 224 = .ok (.ifCond .eq 17, 3) := by decide +kernel
theorem d_M_guarded_227 : decode b_M_guarded 227 = .ok (.lload 4, 2) := by decide +kernel
theorem d_M_guarded_229 : decode b_M_guarded 229 = .ok (.iload_n 3, 1) := by decide +kernel
theorem d_M_guarded_230 : decode b_M_guarded 230 = .ok (.i2l, 1) := by decide +kernel
theorem d_M_guarded_231 : decode b_M_guarded 231 = .ok (.lrem, 1) := by decide +kernel
theorem d_M_guarded_232 : decode b_M_guarded 232 = .ok (.lconst 0, 1) := by decide +kernel
theorem d_M_guarded_233 : decode b_M_guarded 233 = .ok (.lcmp, 1) := by decide +kernel
theorem d_M_guarded_234 : decode b_M_guarded 234 = .ok (.ifCond .ne 7, 3) := by decide +kernel
theorem d_M_guarded_237 : decode b_M_guarded 237 = .ok (.iconst 1, 1) := by decide +kernel
theorem d_M_guarded_238 : decode b_M_guarded 238 = .ok (.goto 4, 3) := by decide +kernel
theorem d_M_guarded_241 : decode b_M_guarded 241 = .ok (.iconst 0, 1) := by decide +kernel
theorem d_M_guarded_242 : decode b_M_guarded 242 = .ok (.ireturn, 1) := by decide +kernel
theorem d_M_chosen_0 : decode b_M_chosen 0 = .ok (.aload_n 0, 1) := by decide +kernel
theorem d_M_chosen_1 : decode b_M_chosen 1 = .ok (.getfield 68, 3) := by decide +kernel
theorem d_M_chosen_4 : decode b_M_chosen 4 = .ok (.bipush 6, 2) := by decide +kernel
theorem d_M_chosen_6 : decode b_M_chosen 6 = .ok (.aload_n 0, 1) := by decide +kernel
theorem d_M_chosen_7 : decode b_M_chosen 7 = .ok (.getfield 17, 3) := by decide +kernel
theorem d_M_chosen_10 : decode b_M_chosen 10 = .ok (.iconst 4, 1) := by decide +kernel
theorem d_M_chosen_11 : decode b_M_chosen 11 = .ok (.iload_n 1, 1) := by decide +kernel
theorem d_M_chosen_12 : decode b_M_chosen 12 = .ok (.imul, 1) := by decide +kernel
theorem d_M_chosen_13 : decode b_M_chosen 13 = .ok (.iload_n 2, 1) := by decide +kernel
theorem d_M_chosen_14 : decode b_M_chosen 14 = .ok (.iadd, 1) := by decide +kernel
theorem d_M_chosen_15 : decode b_M_chosen 15 = .ok (.iaload, 1) := by decide +kernel
theorem d_M_chosen_16 : decode b_M_chosen 16 = .ok (.imul, 1) := by decide +kernel
theorem d_M_chosen_17 : decode b_M_chosen 17 = .ok (.aload_n 0, 1) := by decide +kernel
theorem d_M_chosen_18 : decode b_M_chosen 18 = .ok (.getfield 74, 3) := by decide +kernel
theorem d_M_chosen_21 : decode b_M_chosen 21 = .ok (.iload_n 2, 1) := by decide +kernel
theorem d_M_chosen_22 : decode b_M_chosen 22 = .ok (.iaload, 1) := by decide +kernel
theorem d_M_chosen_23 : decode b_M_chosen 23 = .ok (.iadd, 1) := by decide +kernel
theorem d_M_chosen_24 : decode b_M_chosen 24 = .ok (.iaload, 1) := by decide +kernel
theorem d_M_chosen_25 : decode b_M_chosen 25 = .ok (.ireturn, 1) := by decide +kernel
theorem d_M_matches_0 : decode b_M_matches 0 = .ok (.iconst 1, 1) := by decide +kernel
theorem d_M_matches_1 : decode b_M_matches 1 = .ok (.istore_n 2, 1) := by decide +kernel
theorem d_M_matches_2 : decode b_M_matches 2 = .ok (.iconst 0, 1) := by decide +kernel
theorem d_M_matches_3 : decode b_M_matches 3 = .ok (.istore_n 3, 1) := by decide +kernel
theorem d_M_matches_4 : decode b_M_matches 4 = .ok (.iload_n 3, 1) := by decide +kernel
theorem d_M_matches_5 : decode b_M_matches 5 = .ok (.aload_n 0, 1) := by decide +kernel
theorem d_M_matches_6 : decode b_M_matches 6 = .ok (.getfield 13, 3) := by decide +kernel
theorem d_M_matches_9 : decode b_M_matches 9 = .ok (.iload_n 1, 1) := by decide +kernel
theorem d_M_matches_10 : decode b_M_matches 10 = .ok (.iaload, 1) := by decide +kernel
theorem d_M_matches_11 : decode b_M_matches 11 = .ok (.if_icmp .ge 96, 3) := by decide +kernel
theorem d_M_matches_14 : decode b_M_matches 14 = .ok (.aload_n 0, 1) := by decide +kernel
theorem d_M_matches_15 : decode b_M_matches 15 = .ok (.iload_n 1, 1) := by decide +kernel
theorem d_M_matches_16 : decode b_M_matches 16 = .ok (.iload_n 3, 1) := by decide +kernel
theorem d_M_matches_17 : decode b_M_matches 17 = .ok (.invokevirtual 130, 3) := by decide +kernel
theorem d_M_matches_20 : decode b_M_matches 20 = .ok (.istore 4, 2) := by decide +kernel
theorem d_M_matches_22 : decode b_M_matches 22 = .ok (.aload_n 0, 1) := by decide +kernel
theorem d_M_matches_23 : decode b_M_matches 23 = .ok (.getfield 77, 3) := by decide +kernel
theorem d_M_matches_26 : decode b_M_matches 26 = .ok (.iload_n 3, 1) := by decide +kernel
theorem d_M_matches_27 : decode b_M_matches 27 = .ok (.aload_n 0, 1) := by decide +kernel
theorem d_M_matches_28 : decode b_M_matches 28 = .ok (.getfield 53, 3) := by decide +kernel
theorem d_M_matches_31 : decode b_M_matches 31 = .ok (.iload 4, 2) := by decide +kernel
theorem d_M_matches_33 : decode b_M_matches 33 = .ok (.iaload, 1) := by decide +kernel
theorem d_M_matches_34 : decode b_M_matches 34 = .ok (.iastore, 1) := by decide +kernel
theorem d_M_matches_35 : decode b_M_matches 35 = .ok (.iload_n 2, 1) := by decide +kernel
theorem d_M_matches_36 : decode b_M_matches 36 = .ok (.ifCond .eq 26, 3) := by decide +kernel
theorem d_M_matches_39 : decode b_M_matches 39 = .ok (.aload_n 0, 1) := by decide +kernel
theorem d_M_matches_40 : decode b_M_matches 40 = .ok (.iconst 4, 1) := by decide +kernel
theorem d_M_matches_41 : decode b_M_matches 41 = .ok (.iload_n 1, 1) := by decide +kernel
theorem d_M_matches_42 : decode b_M_matches 42 = .ok (.imul, 1) := by decide +kernel
theorem d_M_matches_43 : decode b_M_matches 43 = .ok (.iload_n 3, 1) := by decide +kernel
theorem d_M_matches_44 : decode b_M_matches 44 = .ok (.iadd, 1) := by decide +kernel
theorem d_M_matches_45 : decode b_M_matches 45 = .ok (.aload_n 0, 1) := by decide +kernel
theorem d_M_matches_46 : decode b_M_matches 46 = .ok (.getfield 53, 3) := by decide +kernel
theorem d_M_matches_49 : decode b_M_matches 49 = .ok (.iload 4, 2) := by decide +kernel
theorem d_M_matches_51 : decode b_M_matches 51 = .ok (.iaload, 1) := by decide +kernel
theorem d_M_matches_52 : decode b_M_matches 52 = .ok (.invokevirtual 133, 3) := by decide +kernel
theorem d_M_matches_55 : decode b_M_matches 55 = .ok (.ifCond .eq 7, 3) := by decide +kernel
theorem d_M_matches_58 : decode b_M_matches 58 = .ok (.iconst 1, 1) := by decide +kernel
theorem d_M_matches_59 : decode b_M_matches 59 = .ok (.goto 4, 3) := by decide +kernel
theorem d_M_matches_62 : decode b_M_matches 62 = .ok (.iconst 0, 1) := by decide +kernel
theorem d_M_matches_63 : decode b_M_matches 63 = .ok (.istore_n 2, 1) := by decide +kernel
theorem d_M_matches_64 : decode b_M_matches 64 = .ok (.iconst 0, 1) := by decide +kernel
theorem d_M_matches_65 : decode b_M_matches 65 = .ok (.istore 5, 2) := by decide +kernel
theorem d_M_matches_67 : decode b_M_matches 67 = .ok (.iload 5, 2) := by decide +kernel
theorem d_M_matches_69 : decode b_M_matches 69 = .ok (.iload_n 3, 1) := by decide +kernel
theorem d_M_matches_70 : decode b_M_matches 70 = .ok (.if_icmp .ge 31, 3) := by decide +kernel
theorem d_M_matches_73 : decode b_M_matches 73 = .ok (.iload_n 2, 1) := by decide +kernel
theorem d_M_matches_74 : decode b_M_matches 74 = .ok (.ifCond .eq 19, 3) := by decide +kernel
theorem d_M_matches_77 : decode b_M_matches 77 = .ok (.aload_n 0, 1) := by decide +kernel
theorem d_M_matches_78 : decode b_M_matches 78 = .ok (.iload_n 1, 1) := by decide +kernel
theorem d_M_matches_79 : decode b_M_matches 79 = .ok (.iload 5, 2) := by decide +kernel
theorem d_M_matches_81 : decode b_M_matches 81 = .ok (.invokevirtual 130, 3) := by decide +kernel
theorem d_M_matches_84 : decode b_M_matches 84 = .ok (.iload 4, 2) := by decide +kernel
theorem d_M_matches_86 : decode b_M_matches 86 = .ok (.if_icmp .eq 7, 3) := by decide +kernel
theorem d_M_matches_89 : decode b_M_matches 89 = .ok (.iconst 1, 1) := by decide +kernel
theorem d_M_matches_90 : decode b_M_matches 90 = .ok (.goto 4, 3) := by decide +kernel
theorem d_M_matches_93 : decode b_M_matches 93 = .ok (.iconst 0, 1) := by decide +kernel
theorem d_M_matches_94 : decode b_M_matches 94 = .ok (.istore_n 2, 1) := by decide +kernel
theorem d_M_matches_95 : decode b_M_matches 95 = .ok (.iinc 5 1, 3) := by decide +kernel
theorem d_M_matches_98 : decode b_M_matches 98 = .ok (.goto (-31), 3) := by decide +kernel
theorem d_M_matches_101 : decode b_M_matches 101 = .ok (.iinc 3 1, 3) := by decide +kernel
theorem d_M_matches_104 : decode b_M_matches 104 = .ok (.goto (-100), 3) := by decide +kernel
theorem d_M_matches_107 : decode b_M_matches 107 = .ok (.iload_n 2, 1) := by decide +kernel
theorem d_M_matches_108 : decode b_M_matches 108 = .ok (.ifCond .eq 15, 3) := by decide +kernel
theorem d_M_matches_111 : decode b_M_matches 111 = .ok (.aload_n 0, 1) := by decide +kernel
theorem d_M_matches_112 : decode b_M_matches 112 = .ok (.iload_n 1, 1) := by decide +kernel
theorem d_M_matches_113 : decode b_M_matches 113 = .ok (.invokevirtual 136, 3) := by decide +kernel
theorem d_M_matches_116 : decode b_M_matches 116 = .ok (.ifCond .eq 7, 3) := by decide +kernel
theorem d_M_matches_119 : decode b_M_matches 119 = .ok (.iconst 1, 1) := by decide +kernel
theorem d_M_matches_120 : decode b_M_matches 120 = .ok (.goto 4, 3) := by decide +kernel
theorem d_M_matches_123 : decode b_M_matches 123 = .ok (.iconst 0, 1) := by decide +kernel
theorem d_M_matches_124 : decode b_M_matches 124 = .ok (.ireturn, 1) := by decide +kernel
theorem d_M_find_0 : decode b_M_find 0 = .ok (.iconst 1, 1) := by decide +kernel
theorem d_M_find_1 : decode b_M_find 1 = .ok (.istore_n 2, 1) := by decide +kernel
theorem d_M_find_2 : decode b_M_find 2 = .ok (.iconst 0, 1) := by decide +kernel
theorem d_M_find_3 : decode b_M_find 3 = .ok (.istore_n 3, 1) := by decide +kernel
theorem d_M_find_4 : decode b_M_find 4 = .ok (.iload_n 3, 1) := by decide +kernel
theorem d_M_find_5 : decode b_M_find 5 = .ok (.aload_n 0, 1) := by decide +kernel
theorem d_M_find_6 : decode b_M_find 6 = .ok (.getfield 13, 3) := by decide +kernel
theorem d_M_find_9 : decode b_M_find 9 = .ok (.iload_n 1, 1) := by decide +kernel
theorem d_M_find_10 : decode b_M_find 10 = .ok (.iaload, 1) := by decide +kernel
theorem d_M_find_11 : decode b_M_find 11 = .ok (.if_icmp .ge 27, 3) := by decide +kernel
theorem d_M_find_14 : decode b_M_find 14 = .ok (.iload_n 2, 1) := by decide +kernel
theorem d_M_find_15 : decode b_M_find 15 = .ok (.aload_n 0, 1) := by decide +kernel
theorem d_M_find_16 : decode b_M_find 16 = .ok (.getfield 71, 3) := by decide +kernel
theorem d_M_find_19 : decode b_M_find 19 = .ok (.aload_n 0, 1) := by decide +kernel
theorem d_M_find_20 : decode b_M_find 20 = .ok (.getfield 17, 3) := by decide +kernel
theorem d_M_find_23 : decode b_M_find 23 = .ok (.iconst 4, 1) := by decide +kernel
theorem d_M_find_24 : decode b_M_find 24 = .ok (.iload_n 1, 1) := by decide +kernel
theorem d_M_find_25 : decode b_M_find 25 = .ok (.imul, 1) := by decide +kernel
theorem d_M_find_26 : decode b_M_find 26 = .ok (.iload_n 3, 1) := by decide +kernel
theorem d_M_find_27 : decode b_M_find 27 = .ok (.iadd, 1) := by decide +kernel
theorem d_M_find_28 : decode b_M_find 28 = .ok (.iaload, 1) := by decide +kernel
theorem d_M_find_29 : decode b_M_find 29 = .ok (.iaload, 1) := by decide +kernel
theorem d_M_find_30 : decode b_M_find 30 = .ok (.imul, 1) := by decide +kernel
theorem d_M_find_31 : decode b_M_find 31 = .ok (.istore_n 2, 1) := by decide +kernel
theorem d_M_find_32 : decode b_M_find 32 = .ok (.iinc 3 1, 3) := by decide +kernel
theorem d_M_find_35 : decode b_M_find 35 = .ok (.goto (-31), 3) := by decide +kernel
theorem d_M_find_38 : decode b_M_find 38 = .ok (.iconst 0, 1) := by decide +kernel
theorem d_M_find_39 : decode b_M_find 39 = .ok (.istore_n 3, 1) := by decide +kernel
theorem d_M_find_40 : decode b_M_find 40 = .ok (.iload_n 3, 1) := by decide +kernel
theorem d_M_find_41 : decode b_M_find 41 = .ok (.iload_n 2, 1) := by decide +kernel
theorem d_M_find_42 : decode b_M_find 42 = .ok (.if_icmp .ge 80, 3) := by decide +kernel
theorem d_M_find_45 : decode b_M_find 45 = .ok (.iload_n 3, 1) := by decide +kernel
theorem d_M_find_46 : decode b_M_find 46 = .ok (.istore 4, 2) := by decide +kernel
theorem d_M_find_48 : decode b_M_find 48 = .ok (.aload_n 0, 1) := by decide +kernel
theorem d_M_find_49 : decode b_M_find 49 = .ok (.getfield 13, 3) := by decide +kernel
theorem d_M_find_52 : decode b_M_find 52 = .ok (.iload_n 1, 1) := by decide +kernel
theorem d_M_find_53 : decode b_M_find 53 = .ok (.iaload, 1) := by decide +kernel
theorem d_M_find_54 : decode b_M_find 54 = .ok (.iconst 1, 1) := by decide +kernel
theorem d_M_find_55 : decode b_M_find 55 = .ok (.isub, 1) := by decide +kernel
theorem d_M_find_56 : decode b_M_find 56 = .ok (.istore 5, 2) := by decide +kernel
theorem d_M_find_58 : decode b_M_find 58 = .ok (.iload 5, 2) := by decide +kernel
theorem d_M_find_60 : decode b_M_find 60 = .ok (.ifCond .lt 46, 3) := by decide +kernel
theorem d_M_find_63 : decode b_M_find 63 = .ok (.aload_n 0, 1) := by decide +kernel
theorem d_M_find_64 : decode b_M_find 64 = .ok (.getfield 71, 3) := by decide +kernel
theorem d_M_find_67 : decode b_M_find 67 = .ok (.aload_n 0, 1) := by decide +kernel
theorem d_M_find_68 : decode b_M_find 68 = .ok (.getfield 17, 3) := by decide +kernel
theorem d_M_find_71 : decode b_M_find 71 = .ok (.iconst 4, 1) := by decide +kernel
theorem d_M_find_72 : decode b_M_find 72 = .ok (.iload_n 1, 1) := by decide +kernel
theorem d_M_find_73 : decode b_M_find 73 = .ok (.imul, 1) := by decide +kernel
theorem d_M_find_74 : decode b_M_find 74 = .ok (.iload 5, 2) := by decide +kernel
theorem d_M_find_76 : decode b_M_find 76 = .ok (.iadd, 1) := by decide +kernel
theorem d_M_find_77 : decode b_M_find 77 = .ok (.iaload, 1) := by decide +kernel
theorem d_M_find_78 : decode b_M_find 78 = .ok (.iaload, 1) := by decide +kernel
theorem d_M_find_79 : decode b_M_find 79 = .ok (.istore 6, 2) := by decide +kernel
theorem d_M_find_81 : decode b_M_find 81 = .ok (.aload_n 0, 1) := by decide +kernel
theorem d_M_find_82 : decode b_M_find 82 = .ok (.getfield 74, 3) := by decide +kernel
theorem d_M_find_85 : decode b_M_find 85 = .ok (.iload 5, 2) := by decide +kernel
theorem d_M_find_87 : decode b_M_find 87 = .ok (.iload 4, 2) := by decide +kernel
theorem d_M_find_89 : decode b_M_find 89 = .ok (.iload 6, 2) := by decide +kernel
theorem d_M_find_91 : decode b_M_find 91 = .ok (.irem, 1) := by decide +kernel
theorem d_M_find_92 : decode b_M_find 92 = .ok (.iastore, 1) := by decide +kernel
theorem d_M_find_93 : decode b_M_find 93 = .ok (.iload 4, 2) := by decide +kernel
theorem d_M_find_95 : decode b_M_find 95 = .ok (.iload 6, 2) := by decide +kernel
theorem d_M_find_97 : decode b_M_find 97 = .ok (.idiv, 1) := by decide +kernel
theorem d_M_find_98 : decode b_M_find 98 = .ok (.istore 4, 2) := by decide +kernel
theorem d_M_find_100 : decode b_M_find 100 = .ok (.iinc 5 (-1), 3) := by decide +kernel
theorem d_M_find_103 : decode b_M_find 103 = .ok (.goto (-45), 3) := by decide +kernel
theorem d_M_find_106 : decode b_M_find 106 = .ok (.aload_n 0, 1) := by decide +kernel
theorem d_M_find_107 : decode b_M_find 107 = .ok (.iload_n 1, 1) := by decide +kernel
theorem d_M_find_108 : decode b_M_find 108 = .ok (.invokevirtual 139, 3) := by decide +kernel
theorem d_M_find_111 : decode b_M_find 111 = .ok (.ifCond .eq 5, 3) := by decide +kernel
theorem d_M_find_114 : decode b_M_find 114 = .ok (.iconst 1, 1) := by decide +kernel
theorem d_M_find_115 : decode b_M_find 115 = .ok (.ireturn, 1) := by decide +kernel
theorem d_M_find_116 : decode b_M_find 116 = .ok (.iinc 3 1, 3) := by decide +kernel
theorem d_M_find_119 : decode b_M_find 119 = .ok (.goto (-79), 3) := by decide +kernel
theorem d_M_find_122 : decode b_M_find 122 = .ok (.iconst 0, 1) := by decide +kernel
theorem d_M_find_123 : decode b_M_find 123 = .ok (.ireturn, 1) := by decide +kernel
theorem d_M_room_0 : decode b_M_room 0 = .ok (.iconst 0, 1) := by decide +kernel
theorem d_M_room_1 : decode b_M_room 1 = .ok (.istore_n 2, 1) := by decide +kernel
theorem d_M_room_2 : decode b_M_room 2 = .ok (.iconst 1, 1) := by decide +kernel
theorem d_M_room_3 : decode b_M_room 3 = .ok (.istore_n 3, 1) := by decide +kernel
theorem d_M_room_4 : decode b_M_room 4 = .ok (.iconst 0, 1) := by decide +kernel
theorem d_M_room_5 : decode b_M_room 5 = .ok (.istore 4, 2) := by decide +kernel
theorem d_M_room_7 : decode b_M_room 7 = .ok (.iload 4, 2) := by decide +kernel
theorem d_M_room_9 : decode b_M_room 9 = .ok (.aload_n 0, 1) := by decide +kernel
theorem d_M_room_10 : decode b_M_room 10 = .ok (.getfield 84, 3) := by decide +kernel
theorem d_M_room_13 : decode b_M_room 13 = .ok (.if_icmp .ge 151, 3) := by decide +kernel
theorem d_M_room_16 : decode b_M_room 16 = .ok (.aload_n 0, 1) := by decide +kernel
theorem d_M_room_17 : decode b_M_room 17 = .ok (.getfield 71, 3) := by decide +kernel
theorem d_M_room_20 : decode b_M_room 20 = .ok (.iload 4, 2) := by decide +kernel
theorem d_M_room_22 : decode b_M_room 22 = .ok (.iaload, 1) := by decide +kernel
theorem d_M_room_23 : decode b_M_room 23 = .ok (.istore 5, 2) := by decide +kernel
theorem d_M_room_25 : decode b_M_room 25 = .ok (.iconst 0, 1) := by decide +kernel
theorem d_M_room_26 : decode b_M_room 26 = .ok (.istore 6, 2) := by decide +kernel
theorem d_M_room_28 : decode b_M_room 28 = .ok (.iload 6, 2) := by decide +kernel
theorem d_M_room_30 : decode b_M_room 30 = .ok (.iconst 4, 1) := by decide +kernel
theorem d_M_room_31 : decode b_M_room 31 = .ok (.if_icmp .ge 110, 3) := by decide +kernel
theorem d_M_room_34 : decode b_M_room 34 = .ok (.iload 6, 2) := by decide +kernel
theorem d_M_room_36 : decode b_M_room 36 = .ok (.aload_n 0, 1) := by decide +kernel
theorem d_M_room_37 : decode b_M_room 37 = .ok (.getfield 13, 3) := by decide +kernel
theorem d_M_room_40 : decode b_M_room 40 = .ok (.iload_n 1, 1) := by decide +kernel
theorem d_M_room_41 : decode b_M_room 41 = .ok (.iaload, 1) := by decide +kernel
theorem d_M_room_42 : decode b_M_room 42 = .ok (.if_icmp .ge 26, 3) := by decide +kernel
theorem d_M_room_45 : decode b_M_room 45 = .ok (.aload_n 0, 1) := by decide +kernel
theorem d_M_room_46 : decode b_M_room 46 = .ok (.getfield 17, 3) := by decide +kernel
theorem d_M_room_49 : decode b_M_room 49 = .ok (.iconst 4, 1) := by decide +kernel
theorem d_M_room_50 : decode b_M_room 50 = .ok (.iload_n 1, 1) := by decide +kernel
theorem d_M_room_51 : decode b_M_room 51 = .ok (.imul, 1) := by decide +kernel
theorem d_M_room_52 : decode b_M_room 52 = .ok (.iload 6, 2) := by decide +kernel
theorem d_M_room_54 : decode b_M_room 54 = .ok (.iadd, 1) := by decide +kernel
theorem d_M_room_55 : decode b_M_room 55 = .ok (.iaload, 1) := by decide +kernel
theorem d_M_room_56 : decode b_M_room 56 = .ok (.iload 4, 2) := by decide +kernel
theorem d_M_room_58 : decode b_M_room 58 = .ok (.if_icmp .ne 10, 3) := by decide +kernel
theorem d_M_room_61 : decode b_M_room 61 = .ok (.iload 5, 2) := by decide +kernel
theorem d_M_room_63 : decode b_M_room 63 = .ok (.iconst 1, 1) := by decide +kernel
theorem d_M_room_64 : decode b_M_room 64 = .ok (.isub, 1) := by decide +kernel
theorem d_M_room_65 : decode b_M_room 65 = .ok (.goto 5, 3) := by decide +kernel
theorem d_M_room_68 : decode b_M_room 68 = .ok (.iload 5, 2) := by decide +kernel
theorem d_M_room_70 : decode b_M_room 70 = .ok (.istore 5, 2) := by decide +kernel
theorem d_M_room_72 : decode b_M_room 72 = .ok (.iload 6, 2) := by decide +kernel
theorem d_M_room_74 : decode b_M_room 74 = .ok (.aload_n 0, 1) := by decide +kernel
theorem d_M_room_75 : decode b_M_room 75 = .ok (.getfield 32, 3) := by decide +kernel
theorem d_M_room_78 : decode b_M_room 78 = .ok (.iload_n 1, 1) := by decide +kernel
theorem d_M_room_79 : decode b_M_room 79 = .ok (.iaload, 1) := by decide +kernel
theorem d_M_room_80 : decode b_M_room 80 = .ok (.if_icmp .ge 23, 3) := by decide +kernel
theorem d_M_room_83 : decode b_M_room 83 = .ok (.aload_n 0, 1) := by decide +kernel
theorem d_M_room_84 : decode b_M_room 84 = .ok (.getfield 35, 3) := by decide +kernel
theorem d_M_room_87 : decode b_M_room 87 = .ok (.iconst 4, 1) := by decide +kernel
theorem d_M_room_88 : decode b_M_room 88 = .ok (.iload_n 1, 1) := by decide +kernel
theorem d_M_room_89 : decode b_M_room 89 = .ok (.imul, 1) := by decide +kernel
theorem d_M_room_90 : decode b_M_room 90 = .ok (.iload 6, 2) := by decide +kernel
theorem d_M_room_92 : decode b_M_room 92 = .ok (.iadd, 1) := by decide +kernel
theorem d_M_room_93 : decode b_M_room 93 = .ok (.iaload, 1) := by decide +kernel
theorem d_M_room_94 : decode b_M_room 94 = .ok (.iload 4, 2) := by decide +kernel
theorem d_M_room_96 : decode b_M_room 96 = .ok (.if_icmp .ne 7, 3) := by decide +kernel
theorem d_M_room_99 : decode b_M_room 99 = .ok (.iconst 1, 1) := by decide +kernel
theorem d_M_room_100 : decode b_M_room 100 = .ok (.goto 4, 3) := by decide +kernel
theorem d_M_room_103 : decode b_M_room 103 = .ok (.iconst 0, 1) := by decide +kernel
theorem d_M_room_104 : decode b_M_room 104 = .ok (.istore 7, 2) := by decide +kernel
theorem d_M_room_106 : decode b_M_room 106 = .ok (.iload 7, 2) := by decide +kernel
theorem d_M_room_108 : decode b_M_room 108 = .ok (.ifCond .eq 10, 3) := by decide +kernel
theorem d_M_room_111 : decode b_M_room 111 = .ok (.iload 5, 2) := by decide +kernel
theorem d_M_room_113 : decode b_M_room 113 = .ok (.iconst 1, 1) := by decide +kernel
theorem d_M_room_114 : decode b_M_room 114 = .ok (.iadd, 1) := by decide +kernel
theorem d_M_room_115 : decode b_M_room 115 = .ok (.goto 5, 3) := by decide +kernel
theorem d_M_room_118 : decode b_M_room 118 = .ok (.iload 5, 2) := by decide +kernel
theorem d_M_room_120 : decode b_M_room 120 = .ok (.istore 5, 2) := by decide +kernel
theorem d_M_room_122 : decode b_M_room 122 = .ok (.iload 7, 2) := by decide +kernel
theorem d_M_room_124 : decode b_M_room 124 = .ok (.ifCond .eq 9, 3) := by decide +kernel
theorem d_M_room_127 : decode b_M_room 127 = .ok (.iload_n 2, 1) := by decide +kernel
theorem d_M_room_128 : decode b_M_room 128 = .ok (.iconst 1, 1) := by decide +kernel
theorem d_M_room_129 : decode b_M_room 129 = .ok (.iadd, 1) := by decide +kernel
theorem d_M_room_130 : decode b_M_room 130 = .ok (.goto 4, 3) := by decide +kernel
theorem d_M_room_133 : decode b_M_room 133 = .ok (.iload_n 2, 1) := by decide +kernel
theorem d_M_room_134 : decode b_M_room 134 = .ok (.istore_n 2, 1) := by decide +kernel
theorem d_M_room_135 : decode b_M_room 135 = .ok (.iinc 6 1, 3) := by decide +kernel
theorem d_M_room_138 : decode b_M_room 138 = .ok (.goto (-110), 3) := by decide +kernel
theorem d_M_room_141 : decode b_M_room 141 = .ok (.iload_n 3, 1) := by decide +kernel
theorem d_M_room_142 : decode b_M_room 142 = .ok (.ifCond .eq 14, 3) := by decide +kernel
theorem d_M_room_145 : decode b_M_room 145 = .ok (.iload 5, 2) := by decide +kernel
theorem d_M_room_147 : decode b_M_room 147 = .ok (.bipush 6, 2) := by decide +kernel
theorem d_M_room_149 : decode b_M_room 149 = .ok (.if_icmp .gt 7, 3) := by decide +kernel
theorem d_M_room_152 : decode b_M_room 152 = .ok (.iconst 1, 1) := by decide +kernel
theorem d_M_room_153 : decode b_M_room 153 = .ok (.goto 4, 3) := by decide +kernel
theorem d_M_room_156 : decode b_M_room 156 = .ok (.iconst 0, 1) := by decide +kernel
theorem d_M_room_157 : decode b_M_room 157 = .ok (.istore_n 3, 1) := by decide +kernel
theorem d_M_room_158 : decode b_M_room 158 = .ok (.iinc 4 1, 3) := by decide +kernel
theorem d_M_room_161 : decode b_M_room 161 = .ok (.goto (-154), 3) := by decide +kernel
theorem d_M_room_164 : decode b_M_room 164 = .ok (.iload_n 3, 1) := by decide +kernel
theorem d_M_room_165 : decode b_M_room 165 = .ok (.ifCond .eq 19, 3) := by decide +kernel
theorem d_M_room_168 : decode b_M_room 168 = .ok (.aload_n 0, 1) := by decide +kernel
theorem d_M_room_169 : decode b_M_room 169 = .ok (.getfield 113, 3) := by decide +kernel
theorem d_M_room_172 : decode b_M_room 172 = .ok (.iload_n 2, 1) := by decide +kernel
theorem d_M_room_173 : decode b_M_room 173 = .ok (.iadd, 1) := by decide +kernel
theorem d_M_room_174 : decode b_M_room 174 = .ok (.sipush 300, 3) := by decide +kernel
theorem d_M_room_177 : decode b_M_room 177 = .ok (.if_icmp .gt 7, 3) := by decide +kernel
theorem d_M_room_180 : decode b_M_room 180 = .ok (.iconst 1, 1) := by decide +kernel
theorem d_M_room_181 : decode b_M_room 181 = .ok (.goto 4, 3) := by decide +kernel
theorem d_M_room_184 : decode b_M_room 184 = .ok (.iconst 0, 1) := by decide +kernel
theorem d_M_room_185 : decode b_M_room 185 = .ok (.ireturn, 1) := by decide +kernel
theorem d_M_enabled_0 : decode b_M_enabled 0 = .ok (.aload_n 0, 1) := by decide +kernel
theorem d_M_enabled_1 : decode b_M_enabled 1 = .ok (.invokevirtual 116, 3) := by decide +kernel
theorem d_M_enabled_4 : decode b_M_enabled 4 = .ok (.iconst 0, 1) := by decide +kernel
theorem d_M_enabled_5 : decode b_M_enabled 5 = .ok (.istore_n 1, 1) := by decide +kernel
theorem d_M_enabled_6 : decode b_M_enabled 6 = .ok (.iconst 0, 1) := by decide +kernel
theorem d_M_enabled_7 : decode b_M_enabled 7 = .ok (.istore_n 2, 1) := by decide +kernel
theorem d_M_enabled_8 : decode b_M_enabled 8 = .ok (.iload_n 2, 1) := by decide +kernel
theorem d_M_enabled_9 : decode b_M_enabled 9 = .ok (.aload_n 0, 1) := by decide +kernel
theorem d_M_enabled_10 : decode b_M_enabled 10 = .ok (.getfield 88, 3) := by decide +kernel
theorem d_M_enabled_13 : decode b_M_enabled 13 = .ok (.if_icmp .ge 42, 3) := by decide +kernel
theorem d_M_enabled_16 : decode b_M_enabled 16 = .ok (.aload_n 0, 1) := by decide +kernel
theorem d_M_enabled_17 : decode b_M_enabled 17 = .ok (.getfield 80, 3) := by decide +kernel
theorem d_M_enabled_20 : decode b_M_enabled 20 = .ok (.ifCond .eq 35, 3) := by decide +kernel
theorem d_M_enabled_23 : decode b_M_enabled 23 = .ok (.aload_n 0, 1) := by decide +kernel
theorem d_M_enabled_24 : decode b_M_enabled 24 = .ok (.iload_n 2, 1) := by decide +kernel
theorem d_M_enabled_25 : decode b_M_enabled 25 = .ok (.invokevirtual 142, 3) := by decide +kernel
theorem d_M_enabled_28 : decode b_M_enabled 28 = .ok (.ifCond .eq 19, 3) := by decide +kernel
theorem d_M_enabled_31 : decode b_M_enabled 31 = .ok (.aload_n 0, 1) := by decide +kernel
theorem d_M_enabled_32 : decode b_M_enabled 32 = .ok (.iload_n 2, 1) := by decide +kernel
theorem d_M_enabled_33 : decode b_M_enabled 33 = .ok (.invokevirtual 145, 3) := by decide +kernel
theorem d_M_enabled_36 : decode b_M_enabled 36 = .ok (.ifCond .eq 11, 3) := by decide +kernel
theorem d_M_enabled_39 : decode b_M_enabled 39 = .ok (.iload_n 1, 1) := by decide +kernel
theorem d_M_enabled_40 : decode b_M_enabled 40 = .ok (.iconst 1, 1) := by decide +kernel
theorem d_M_enabled_41 : decode b_M_enabled 41 = .ok (.iload_n 2, 1) := by decide +kernel
theorem d_M_enabled_42 : decode b_M_enabled 42 = .ok (.ishl, 1) := by decide +kernel
theorem d_M_enabled_43 : decode b_M_enabled 43 = .ok (.iadd, 1) := by decide +kernel
theorem d_M_enabled_44 : decode b_M_enabled 44 = .ok (.goto 4, 3) := by decide +kernel
theorem d_M_enabled_47 : decode b_M_enabled 47 = .ok (.iload_n 1, 1) := by decide +kernel
theorem d_M_enabled_48 : decode b_M_enabled 48 = .ok (.istore_n 1, 1) := by decide +kernel
theorem d_M_enabled_49 : decode b_M_enabled 49 = .ok (.iinc 2 1, 3) := by decide +kernel
theorem d_M_enabled_52 : decode b_M_enabled 52 = .ok (.goto (-44), 3) := by decide +kernel
theorem d_M_enabled_55 : decode b_M_enabled 55 = .ok (.iload_n 1, 1) := by decide +kernel
theorem d_M_enabled_56 : decode b_M_enabled 56 = .ok (.ireturn, 1) := by decide +kernel
theorem d_M_next_0 : decode b_M_next 0 = .ok (.aload_n 0, 1) := by decide +kernel
theorem d_M_next_1 : decode b_M_next 1 = .ok (.invokevirtual 148, 3) := by decide +kernel
theorem d_M_next_4 : decode b_M_next 4 = .ok (.istore_n 1, 1) := by decide +kernel
theorem d_M_next_5 : decode b_M_next 5 = .ok (.aload_n 0, 1) := by decide +kernel
theorem d_M_next_6 : decode b_M_next 6 = .ok (.getfield 152, 3) := by decide +kernel
theorem d_M_next_9 : decode b_M_next 9 = .ok (.ifCond .ne 7, 3) := by decide +kernel
theorem d_M_next_12 : decode b_M_next 12 = .ok (.iconst 0, 1) := by decide +kernel
theorem d_M_next_13 : decode b_M_next 13 = .ok (.goto 16, 3) := by decide +kernel
theorem d_M_next_16 : decode b_M_next 16 = .ok (.aload_n 0, 1) := by decide +kernel
theorem d_M_next_17 : decode b_M_next 17 = .ok (.getfield 65, 3) := by decide +kernel
theorem d_M_next_20 : decode b_M_next 20 = .ok (.aload_n 0, 1) := by decide +kernel
theorem d_M_next_21 : decode b_M_next 21 = .ok (.getfield 152, 3) := by decide +kernel
theorem d_M_next_24 : decode b_M_next 24 = .ok (.iconst 1, 1) := by decide +kernel
theorem d_M_next_25 : decode b_M_next 25 = .ok (.isub, 1) := by decide +kernel
theorem d_M_next_26 : decode b_M_next 26 = .ok (.iaload, 1) := by decide +kernel
theorem d_M_next_27 : decode b_M_next 27 = .ok (.iconst 1, 1) := by decide +kernel
theorem d_M_next_28 : decode b_M_next 28 = .ok (.iadd, 1) := by decide +kernel
theorem d_M_next_29 : decode b_M_next 29 = .ok (.istore_n 2, 1) := by decide +kernel
theorem d_M_next_30 : decode b_M_next 30 = .ok (.iconst 0, 1) := by decide +kernel
theorem d_M_next_31 : decode b_M_next 31 = .ok (.istore_n 3, 1) := by decide +kernel
theorem d_M_next_32 : decode b_M_next 32 = .ok (.iload_n 3, 1) := by decide +kernel
theorem d_M_next_33 : decode b_M_next 33 = .ok (.aload_n 0, 1) := by decide +kernel
theorem d_M_next_34 : decode b_M_next 34 = .ok (.getfield 88, 3) := by decide +kernel
theorem d_M_next_37 : decode b_M_next 37 = .ok (.if_icmp .ge 32, 3) := by decide +kernel
theorem d_M_next_40 : decode b_M_next 40 = .ok (.iload_n 2, 1) := by decide +kernel
theorem d_M_next_41 : decode b_M_next 41 = .ok (.iload_n 3, 1) := by decide +kernel
theorem d_M_next_42 : decode b_M_next 42 = .ok (.iadd, 1) := by decide +kernel
theorem d_M_next_43 : decode b_M_next 43 = .ok (.aload_n 0, 1) := by decide +kernel
theorem d_M_next_44 : decode b_M_next 44 = .ok (.getfield 88, 3) := by decide +kernel
theorem d_M_next_47 : decode b_M_next 47 = .ok (.irem, 1) := by decide +kernel
theorem d_M_next_48 : decode b_M_next 48 = .ok (.istore 4, 2) := by decide +kernel
theorem d_M_next_50 : decode b_M_next 50 = .ok (.iload_n 1, 1) := by decide +kernel
theorem d_M_next_51 : decode b_M_next 51 = .ok (.iload 4, 2) := by decide +kernel
theorem d_M_next_53 : decode b_M_next 53 = .ok (.ishr, 1) := by decide +kernel
theorem d_M_next_54 : decode b_M_next 54 = .ok (.iconst 1, 1) := by decide +kernel
theorem d_M_next_55 : decode b_M_next 55 = .ok (.iand, 1) := by decide +kernel
theorem d_M_next_56 : decode b_M_next 56 = .ok (.iconst 1, 1) := by decide +kernel
theorem d_M_next_57 : decode b_M_next 57 = .ok (.if_icmp .ne 6, 3) := by decide +kernel
theorem d_M_next_60 : decode b_M_next 60 = .ok (.iload 4, 2) := by decide +kernel
theorem d_M_next_62 : decode b_M_next 62 = .ok (.ireturn, 1) := by decide +kernel
theorem d_M_next_63 : decode b_M_next 63 = .ok (.iinc 3 1, 3) := by decide +kernel
theorem d_M_next_66 : decode b_M_next 66 = .ok (.goto (-34), 3) := by decide +kernel
theorem d_M_next_69 : decode b_M_next 69 = .ok (.iconst (-1), 1) := by decide +kernel
theorem d_M_next_70 : decode b_M_next 70 = .ok (.ireturn, 1) := by decide +kernel
theorem d_M_taken_0 : decode b_M_taken 0 = .ok (.aload_n 0, 1) := by decide +kernel
theorem d_M_taken_1 : decode b_M_taken 1 = .ok (.invokevirtual 155, 3) := by decide +kernel
theorem d_M_taken_4 : decode b_M_taken 4 = .ok (.istore_n 2, 1) := by decide +kernel
theorem d_M_taken_5 : decode b_M_taken 5 = .ok (.iload_n 2, 1) := by decide +kernel
theorem d_M_taken_6 : decode b_M_taken 6 = .ok (.ifCond .lt 12, 3) := by decide +kernel
theorem d_M_taken_9 : decode b_M_taken 9 = .ok (.aload_n 0, 1) := by decide +kernel
theorem d_M_taken_10 : decode b_M_taken 10 = .ok (.iload_n 2, 1) := by decide +kernel
theorem d_M_taken_11 : decode b_M_taken 11 = .ok (.iload_n 1, 1) := by decide +kernel
theorem d_M_taken_12 : decode b_M_taken 12 = .ok (.invokevirtual 98, 3) := by decide +kernel
theorem d_M_taken_15 : decode b_M_taken 15 = .ok (.ifCond .ne 5, 3) := by decide +kernel
theorem d_M_taken_18 : decode b_M_taken 18 = .ok (.iconst (-1), 1) := by decide +kernel
theorem d_M_taken_19 : decode b_M_taken 19 = .ok (.ireturn, 1) := by decide +kernel
theorem d_M_taken_20 : decode b_M_taken 20 = .ok (.aload_n 0, 1) := by decide +kernel
theorem d_M_taken_21 : decode b_M_taken 21 = .ok (.iload_n 2, 1) := by decide +kernel
theorem d_M_taken_22 : decode b_M_taken 22 = .ok (.invokevirtual 145, 3) := by decide +kernel
theorem d_M_taken_25 : decode b_M_taken 25 = .ok (.pop, 1) := by decide +kernel
theorem d_M_taken_26 : decode b_M_taken 26 = .ok (.aload_n 0, 1) := by decide +kernel
theorem d_M_taken_27 : decode b_M_taken 27 = .ok (.iload_n 2, 1) := by decide +kernel
theorem d_M_taken_28 : decode b_M_taken 28 = .ok (.iload_n 1, 1) := by decide +kernel
theorem d_M_taken_29 : decode b_M_taken 29 = .ok (.invokevirtual 130, 3) := by decide +kernel
theorem d_M_taken_32 : decode b_M_taken 32 = .ok (.ireturn, 1) := by decide +kernel
theorem d_M_result_0 : decode b_M_result 0 = .ok (.aload_n 0, 1) := by decide +kernel
theorem d_M_result_1 : decode b_M_result 1 = .ok (.getfield 47, 3) := by decide +kernel
theorem d_M_result_4 : decode b_M_result 4 = .ok (.iload_n 2, 1) := by decide +kernel
theorem d_M_result_5 : decode b_M_result 5 = .ok (.iaload, 1) := by decide +kernel
theorem d_M_result_6 : decode b_M_result 6 = .ok (.istore_n 3, 1) := by decide +kernel
theorem d_M_result_7 : decode b_M_result 7 = .ok (.iconst 0, 1) := by decide +kernel
theorem d_M_result_8 : decode b_M_result 8 = .ok (.istore 4, 2) := by decide +kernel
theorem d_M_result_10 : decode b_M_result 10 = .ok (.aload_n 0, 1) := by decide +kernel
theorem d_M_result_11 : decode b_M_result 11 = .ok (.getfield 77, 3) := by decide +kernel
theorem d_M_result_14 : decode b_M_result 14 = .ok (.iconst 0, 1) := by decide +kernel
theorem d_M_result_15 : decode b_M_result 15 = .ok (.iaload, 1) := by decide +kernel
theorem d_M_result_16 : decode b_M_result 16 = .ok (.istore 5, 2) := by decide +kernel
theorem d_M_result_18 : decode b_M_result 18 = .ok (.iconst 0, 1) := by decide +kernel
theorem d_M_result_19 : decode b_M_result 19 = .ok (.istore 6, 2) := by decide +kernel
theorem d_M_result_21 : decode b_M_result 21 = .ok (.iload 6, 2) := by decide +kernel
theorem d_M_result_23 : decode b_M_result 23 = .ok (.aload_n 0, 1) := by decide +kernel
theorem d_M_result_24 : decode b_M_result 24 = .ok (.getfield 13, 3) := by decide +kernel
theorem d_M_result_27 : decode b_M_result 27 = .ok (.iload_n 1, 1) := by decide +kernel
theorem d_M_result_28 : decode b_M_result 28 = .ok (.iaload, 1) := by decide +kernel
theorem d_M_result_29 : decode b_M_result 29 = .ok (.if_icmp .ge 47, 3) := by decide +kernel
theorem d_M_result_32 : decode b_M_result 32 = .ok (.iload 4, 2) := by decide +kernel
theorem d_M_result_34 : decode b_M_result 34 = .ok (.aload_n 0, 1) := by decide +kernel
theorem d_M_result_35 : decode b_M_result 35 = .ok (.getfield 77, 3) := by decide +kernel
theorem d_M_result_38 : decode b_M_result 38 = .ok (.iload 6, 2) := by decide +kernel
theorem d_M_result_40 : decode b_M_result 40 = .ok (.iaload, 1) := by decide +kernel
theorem d_M_result_41 : decode b_M_result 41 = .ok (.iadd, 1) := by decide +kernel
theorem d_M_result_42 : decode b_M_result 42 = .ok (.istore 4, 2) := by decide +kernel
theorem d_M_result_44 : decode b_M_result 44 = .ok (.aload_n 0, 1) := by decide +kernel
theorem d_M_result_45 : decode b_M_result 45 = .ok (.getfield 77, 3) := by decide +kernel
theorem d_M_result_48 : decode b_M_result 48 = .ok (.iload 6, 2) := by decide +kernel
theorem d_M_result_50 : decode b_M_result 50 = .ok (.iaload, 1) := by decide +kernel
theorem d_M_result_51 : decode b_M_result 51 = .ok (.iload 5, 2) := by decide +kernel
theorem d_M_result_53 : decode b_M_result 53 = .ok (.if_icmp .le 13, 3) := by decide +kernel
theorem d_M_result_56 : decode b_M_result 56 = .ok (.aload_n 0, 1) := by decide +kernel
theorem d_M_result_57 : decode b_M_result 57 = .ok (.getfield 77, 3) := by decide +kernel
theorem d_M_result_60 : decode b_M_result 60 = .ok (.iload 6, 2) := by decide +kernel
theorem d_M_result_62 : decode b_M_result 62 = .ok (.iaload, 1) := by decide +kernel
theorem d_M_result_63 : decode b_M_result 63 = .ok (.goto 5, 3) := by decide +kernel
theorem d_M_result_66 : decode b_M_result 66 = .ok (.iload 5, 2) := by decide +kernel
theorem d_M_result_68 : decode b_M_result 68 = .ok (.istore 5, 2) := by decide +kernel
theorem d_M_result_70 : decode b_M_result 70 = .ok (.iinc 6 1, 3) := by decide +kernel
theorem d_M_result_73 : decode b_M_result 73 = .ok (.goto (-52), 3) := by decide +kernel
theorem d_M_result_76 : decode b_M_result 76 = .ok (.aload_n 0, 1) := by decide +kernel
theorem d_M_result_77 : decode b_M_result 77 = .ok (.getfield 41, 3) := by decide +kernel
theorem d_M_result_80 : decode b_M_result 80 = .ok (.iload_n 2, 1) := by decide +kernel
theorem d_M_result_81 : decode b_M_result 81 = .ok (.iaload, 1) := by decide +kernel
theorem d_M_result_82 : decode b_M_result 82 = .ok (.iconst 1, 1) := by decide +kernel
theorem d_M_result_83 : decode b_M_result 83 = .ok (.if_icmp .ne 17, 3) := by decide +kernel
theorem d_M_result_86 : decode b_M_result 86 = .ok (.aload_n 0, 1) := by decide +kernel
theorem d_M_result_87 : decode b_M_result 87 = .ok (.getfield 77, 3) := by decide +kernel
theorem d_M_result_90 : decode b_M_result 90 = .ok (.aload_n 0, 1) := by decide +kernel
theorem d_M_result_91 : decode b_M_result 91 = .ok (.getfield 44, 3) := by decide +kernel
theorem d_M_result_94 : decode b_M_result 94 = .ok (.iload_n 2, 1) := by decide +kernel
theorem d_M_result_95 : decode b_M_result 95 = .ok (.iaload, 1) := by decide +kernel
theorem d_M_result_96 : decode b_M_result 96 = .ok (.iaload, 1) := by decide +kernel
theorem d_M_result_97 : decode b_M_result 97 = .ok (.iload_n 3, 1) := by decide +kernel
theorem d_M_result_98 : decode b_M_result 98 = .ok (.iadd, 1) := by decide +kernel
theorem d_M_result_99 : decode b_M_result 99 = .ok (.ireturn, 1) := by decide +kernel
theorem d_M_result_100 : decode b_M_result 100 = .ok (.aload_n 0, 1) := by decide +kernel
theorem d_M_result_101 : decode b_M_result 101 = .ok (.getfield 41, 3) := by decide +kernel
theorem d_M_result_104 : decode b_M_result 104 = .ok (.iload_n 2, 1) := by decide +kernel
theorem d_M_result_105 : decode b_M_result 105 = .ok (.iaload, 1) := by decide +kernel
theorem d_M_result_106 : decode b_M_result 106 = .ok (.iconst 2, 1) := by decide +kernel
theorem d_M_result_107 : decode b_M_result 107 = .ok (.if_icmp .ne 17, 3) := by decide +kernel
theorem d_M_result_110 : decode b_M_result 110 = .ok (.aload_n 0, 1) := by decide +kernel
theorem d_M_result_111 : decode b_M_result 111 = .ok (.getfield 77, 3) := by decide +kernel
theorem d_M_result_114 : decode b_M_result 114 = .ok (.aload_n 0, 1) := by decide +kernel
theorem d_M_result_115 : decode b_M_result 115 = .ok (.getfield 44, 3) := by decide +kernel
theorem d_M_result_118 : decode b_M_result 118 = .ok (.iload_n 2, 1) := by decide +kernel
theorem d_M_result_119 : decode b_M_result 119 = .ok (.iaload, 1) := by decide +kernel
theorem d_M_result_120 : decode b_M_result 120 = .ok (.iaload, 1) := by decide +kernel
theorem d_M_result_121 : decode b_M_result 121 = .ok (.iload_n 3, 1) := by decide +kernel
theorem d_M_result_122 : decode b_M_result 122 = .ok (.imul, 1) := by decide +kernel
theorem d_M_result_123 : decode b_M_result 123 = .ok (.ireturn, 1) := by decide +kernel
theorem d_M_result_124 : decode b_M_result 124 = .ok (.aload_n 0, 1) := by decide +kernel
theorem d_M_result_125 : decode b_M_result 125 = .ok (.getfield 41, 3) := by decide +kernel
theorem d_M_result_128 : decode b_M_result 128 = .ok (.iload_n 2, 1) := by decide +kernel
theorem d_M_result_129 : decode b_M_result 129 = .ok (.iaload, 1) := by decide +kernel
theorem d_M_result_130 : decode b_M_result 130 = .ok (.ifCond .ne 7, 3) := by decide +kernel
theorem d_M_result_133 : decode b_M_result 133 = .ok (.iload_n 3, 1) := by decide +kernel
theorem d_M_result_134 : decode b_M_result 134 = .ok (.goto 22, 3) := by decide +kernel
theorem d_M_result_137 : decode b_M_result 137 = .ok (.aload_n 0, 1) := by decide +kernel
theorem d_M_result_138 : decode b_M_result 138 = .ok (.getfield 41, 3) := by decide +kernel
theorem d_M_result_141 : decode b_M_result 141 = .ok (.iload_n 2, 1) := by decide +kernel
theorem d_M_result_142 : decode b_M_result 142 = .ok (.iaload, 1) := by decide +kernel
theorem d_M_result_143 : decode b_M_result 143 = .ok (.iconst 3, 1) := by decide +kernel
theorem d_M_result_144 : decode b_M_result 144 = .ok (.if_icmp .ne 10, 3) := by decide +kernel
theorem d_M_result_147 : decode b_M_result 147 = .ok (.iload 4, 2) := by decide +kernel
theorem d_M_result_149 : decode b_M_result 149 = .ok (.iload_n 3, 1) := by decide +kernel
theorem d_M_result_150 : decode b_M_result 150 = .ok (.iadd, 1) := by decide +kernel
theorem d_M_result_151 : decode b_M_result 151 = .ok (.goto 5, 3) := by decide +kernel
theorem d_M_result_154 : decode b_M_result 154 = .ok (.iload 5, 2) := by decide +kernel
theorem d_M_result_156 : decode b_M_result 156 = .ok (.ireturn, 1) := by decide +kernel
theorem d_M_fire_0 : decode b_M_fire 0 = .ok (.aload_n 0, 1) := by decide +kernel
theorem d_M_fire_1 : decode b_M_fire 1 = .ok (.iload_n 1, 1) := by decide +kernel
theorem d_M_fire_2 : decode b_M_fire 2 = .ok (.invokevirtual 145, 3) := by decide +kernel
theorem d_M_fire_5 : decode b_M_fire 5 = .ok (.pop, 1) := by decide +kernel
theorem d_M_fire_6 : decode b_M_fire 6 = .ok (.iconst 0, 1) := by decide +kernel
theorem d_M_fire_7 : decode b_M_fire 7 = .ok (.istore_n 2, 1) := by decide +kernel
theorem d_M_fire_8 : decode b_M_fire 8 = .ok (.iload_n 2, 1) := by decide +kernel
theorem d_M_fire_9 : decode b_M_fire 9 = .ok (.aload_n 0, 1) := by decide +kernel
theorem d_M_fire_10 : decode b_M_fire 10 = .ok (.getfield 13, 3) := by decide +kernel
theorem d_M_fire_13 : decode b_M_fire 13 = .ok (.iload_n 1, 1) := by decide +kernel
theorem d_M_fire_14 : decode b_M_fire 14 = .ok (.iaload, 1) := by decide +kernel
theorem d_M_fire_15 : decode b_M_fire 15 = .ok (.if_icmp .ge 33, 3) := by decide +kernel
theorem d_M_fire_18 : decode b_M_fire 18 = .ok (.aload_n 0, 1) := by decide +kernel
theorem d_M_fire_19 : decode b_M_fire 19 = .ok (.iload_n 1, 1) := by decide +kernel
theorem d_M_fire_20 : decode b_M_fire 20 = .ok (.iload_n 2, 1) := by decide +kernel
theorem d_M_fire_21 : decode b_M_fire 21 = .ok (.invokevirtual 130, 3) := by decide +kernel
theorem d_M_fire_24 : decode b_M_fire 24 = .ok (.istore_n 3, 1) := by decide +kernel
theorem d_M_fire_25 : decode b_M_fire 25 = .ok (.aload_n 0, 1) := by decide +kernel
theorem d_M_fire_26 : decode b_M_fire 26 = .ok (.getfield 56, 3) := by decide +kernel
theorem d_M_fire_29 : decode b_M_fire 29 = .ok (.iload_n 3, 1) := by decide +kernel
theorem d_M_fire_30 : decode b_M_fire 30 = .ok (.iconst 2, 1) := by decide +kernel
theorem d_M_fire_31 : decode b_M_fire 31 = .ok (.iastore, 1) := by decide +kernel
theorem d_M_fire_32 : decode b_M_fire 32 = .ok (.aload_n 0, 1) := by decide +kernel
theorem d_M_fire_33 : decode b_M_fire 33 = .ok (.getfield 59, 3) := by decide +kernel
theorem d_M_fire_36 : decode b_M_fire 36 = .ok (.iload_n 3, 1) := by decide +kernel
theorem d_M_fire_37 : decode b_M_fire 37 = .ok (.aload_n 0, 1) := by decide +kernel
theorem d_M_fire_38 : decode b_M_fire 38 = .ok (.getfield 152, 3) := by decide +kernel
theorem d_M_fire_41 : decode b_M_fire 41 = .ok (.iastore, 1) := by decide +kernel
theorem d_M_fire_42 : decode b_M_fire 42 = .ok (.iinc 2 1, 3) := by decide +kernel
theorem d_M_fire_45 : decode b_M_fire 45 = .ok (.goto (-37), 3) := by decide +kernel
theorem d_M_fire_48 : decode b_M_fire 48 = .ok (.iconst 0, 1) := by decide +kernel
theorem d_M_fire_49 : decode b_M_fire 49 = .ok (.istore_n 2, 1) := by decide +kernel
theorem d_M_fire_50 : decode b_M_fire 50 = .ok (.iload_n 2, 1) := by decide +kernel
theorem d_M_fire_51 : decode b_M_fire 51 = .ok (.aload_n 0, 1) := by decide +kernel
theorem d_M_fire_52 : decode b_M_fire 52 = .ok (.getfield 32, 3) := by decide +kernel
theorem d_M_fire_55 : decode b_M_fire 55 = .ok (.iload_n 1, 1) := by decide +kernel
theorem d_M_fire_56 : decode b_M_fire 56 = .ok (.iaload, 1) := by decide +kernel
theorem d_M_fire_57 : decode b_M_fire 57 = .ok (.if_icmp .ge 66, 3) := by decide +kernel
theorem d_M_fire_60 : decode b_M_fire 60 = .ok (.iconst 4, 1) := by decide +kernel
theorem d_M_fire_61 : decode b_M_fire 61 = .ok (.iload_n 1, 1) := by decide +kernel
theorem d_M_fire_62 : decode b_M_fire 62 = .ok (.imul, 1) := by decide +kernel
theorem d_M_fire_63 : decode b_M_fire 63 = .ok (.iload_n 2, 1) := by decide +kernel
theorem d_M_fire_64 : decode b_M_fire 64 = .ok (.iadd, 1) := by decide +kernel
theorem d_M_fire_65 : decode b_M_fire 65 = .ok (.istore_n 3, 1) := by decide +kernel
theorem d_M_fire_66 : decode b_M_fire 66 = .ok (.aload_n 0, 1) := by decide +kernel
theorem d_M_fire_67 : decode b_M_fire 67 = .ok (.iload_n 1, 1) := by decide +kernel
theorem d_M_fire_68 : decode b_M_fire 68 = .ok (.iload_n 3, 1) := by decide +kernel
theorem d_M_fire_69 : decode b_M_fire 69 = .ok (.invokevirtual 158, 3) := by decide +kernel
theorem d_M_fire_72 : decode b_M_fire 72 = .ok (.istore 4, 2) := by decide +kernel
theorem d_M_fire_74 : decode b_M_fire 74 = .ok (.aload_n 0, 1) := by decide +kernel
theorem d_M_fire_75 : decode b_M_fire 75 = .ok (.getfield 35, 3) := by decide +kernel
theorem d_M_fire_78 : decode b_M_fire 78 = .ok (.iload_n 3, 1) := by decide +kernel
theorem d_M_fire_79 : decode b_M_fire 79 = .ok (.iaload, 1) := by decide +kernel
theorem d_M_fire_80 : decode b_M_fire 80 = .ok (.ifCond .lt 19, 3) := by decide +kernel
theorem d_M_fire_83 : decode b_M_fire 83 = .ok (.aload_n 0, 1) := by decide +kernel
theorem d_M_fire_84 : decode b_M_fire 84 = .ok (.aload_n 0, 1) := by decide +kernel
theorem d_M_fire_85 : decode b_M_fire 85 = .ok (.getfield 35, 3) := by decide +kernel
theorem d_M_fire_88 : decode b_M_fire 88 = .ok (.iload_n 3, 1) := by decide +kernel
theorem d_M_fire_89 : decode b_M_fire 89 = .ok (.iaload, 1) := by decide +kernel
theorem d_M_fire_90 : decode b_M_fire 90 = .ok (.iload 4, 2) := by decide +kernel
theorem d_M_fire_92 : decode b_M_fire 92 = .ok (.invokevirtual 119, 3) := by decide +kernel
theorem d_M_fire_95 : decode b_M_fire 95 = .ok (.pop, 1) := by decide +kernel
theorem d_M_fire_96 : decode b_M_fire 96 = .ok (.goto 21, 3) := by decide +kernel
theorem d_M_fire_99 : decode b_M_fire 99 = .ok (.aload_n 0, 1) := by decide +kernel
theorem d_M_fire_100 : decode b_M_fire 100 = .ok (.getfield 62, 3) := by decide +kernel
theorem d_M_fire_103 : decode b_M_fire 103 = .ok (.aload_n 0, 1) := by decide +kernel
theorem d_M_fire_104 : decode b_M_fire 104 = .ok (.iload_n 1, 1) := by decide +kernel
theorem d_M_fire_105 : decode b_M_fire 105 = .ok (.aload_n 0, 1) := by decide +kernel
theorem d_M_fire_106 : decode b_M_fire 106 = .ok (.getfield 38, 3) := by decide +kernel
theorem d_M_fire_109 : decode b_M_fire 109 = .ok (.iload_n 3, 1) := by decide +kernel
theorem d_M_fire_110 : decode b_M_fire 110 = .ok (.iaload, 1) := by decide +kernel
theorem d_M_fire_111 : decode b_M_fire 111 = .ok (.invokevirtual 130, 3) := by decide +kernel
theorem d_M_fire_114 : decode b_M_fire 114 = .ok (.iload 4, 2) := by decide +kernel
theorem d_M_fire_116 : decode b_M_fire 116 = .ok (.iastore, 1) := by decide +kernel
theorem d_M_fire_117 : decode b_M_fire 117 = .ok (.iinc 2 1, 3) := by decide +kernel
theorem d_M_fire_120 : decode b_M_fire 120 = .ok (.goto (-70), 3) := by decide +kernel
theorem d_M_fire_123 : decode b_M_fire 123 = .ok (.aload_n 0, 1) := by decide +kernel
theorem d_M_fire_124 : decode b_M_fire 124 = .ok (.getfield 65, 3) := by decide +kernel
theorem d_M_fire_127 : decode b_M_fire 127 = .ok (.aload_n 0, 1) := by decide +kernel
theorem d_M_fire_128 : decode b_M_fire 128 = .ok (.getfield 152, 3) := by decide +kernel
theorem d_M_fire_131 : decode b_M_fire 131 = .ok (.iload_n 1, 1) := by decide +kernel
theorem d_M_fire_132 : decode b_M_fire 132 = .ok (.iastore, 1) := by decide +kernel
theorem d_M_fire_133 : decode b_M_fire 133 = .ok (.aload_n 0, 1) := by decide +kernel
theorem d_M_fire_134 : decode b_M_fire 134 = .ok (.aload_n 0, 1) := by decide +kernel
theorem d_M_fire_135 : decode b_M_fire 135 = .ok (.getfield 152, 3) := by decide +kernel
theorem d_M_fire_138 : decode b_M_fire 138 = .ok (.iconst 1, 1) := by decide +kernel
theorem d_M_fire_139 : decode b_M_fire 139 = .ok (.iadd, 1) := by decide +kernel
theorem d_M_fire_140 : decode b_M_fire 140 = .ok (.putfield 152, 3) := by decide +kernel
theorem d_M_fire_143 : decode b_M_fire 143 = .ok (.return_, 1) := by decide +kernel
theorem d_M_react_0 : decode b_M_react 0 = .ok (.aload_n 0, 1) := by decide +kernel
theorem d_M_react_1 : decode b_M_react 1 = .ok (.getfield 80, 3) := by decide +kernel
theorem d_M_react_4 : decode b_M_react 4 = .ok (.ifCond .eq 12, 3) := by decide +kernel
theorem d_M_react_7 : decode b_M_react 7 = .ok (.iload_n 1, 1) := by decide +kernel
theorem d_M_react_8 : decode b_M_react 8 = .ok (.ifCond .lt 8, 3) := by decide +kernel
theorem d_M_react_11 : decode b_M_react 11 = .ok (.iload_n 1, 1) := by decide +kernel
theorem d_M_react_12 : decode b_M_react 12 = .ok (.iconst 5, 1) := by decide +kernel
theorem d_M_react_13 : decode b_M_react 13 = .ok (.if_icmp .le 5, 3) := by decide +kernel
theorem d_M_react_16 : decode b_M_react 16 = .ok (.iconst (-1), 1) := by decide +kernel
theorem d_M_react_17 : decode b_M_react 17 = .ok (.ireturn, 1) := by decide +kernel
theorem d_M_react_18 : decode b_M_react 18 = .ok (.iconst 0, 1) := by decide +kernel
theorem d_M_react_19 : decode b_M_react 19 = .ok (.istore_n 2, 1) := by decide +kernel
theorem d_M_react_20 : decode b_M_react 20 = .ok (.iload_n 2, 1) := by decide +kernel
theorem d_M_react_21 : decode b_M_react 21 = .ok (.iload_n 1, 1) := by decide +kernel
theorem d_M_react_22 : decode b_M_react 22 = .ok (.if_icmp .ge 25, 3) := by decide +kernel
theorem d_M_react_25 : decode b_M_react 25 = .ok (.aload_n 0, 1) := by decide +kernel
theorem d_M_react_26 : decode b_M_react 26 = .ok (.invokevirtual 155, 3) := by decide +kernel
theorem d_M_react_29 : decode b_M_react 29 = .ok (.istore_n 3, 1) := by decide +kernel
theorem d_M_react_30 : decode b_M_react 30 = .ok (.iload_n 3, 1) := by decide +kernel
theorem d_M_react_31 : decode b_M_react 31 = .ok (.ifCond .ge 5, 3) := by decide +kernel
theorem d_M_react_34 : decode b_M_react 34 = .ok (.iload_n 2, 1) := by decide +kernel
theorem d_M_react_35 : decode b_M_react 35 = .ok (.ireturn, 1) := by decide +kernel
theorem d_M_react_36 : decode b_M_react 36 = .ok (.aload_n 0, 1) := by decide +kernel
theorem d_M_react_37 : decode b_M_react 37 = .ok (.iload_n 3, 1) := by decide +kernel
theorem d_M_react_38 : decode b_M_react 38 = .ok (.invokevirtual 161, 3) := by decide +kernel
theorem d_M_react_41 : decode b_M_react 41 = .ok (.iinc 2 1, 3) := by decide +kernel
theorem d_M_react_44 : decode b_M_react 44 = .ok (.goto (-24), 3) := by decide +kernel
theorem d_M_react_47 : decode b_M_react 47 = .ok (.iload_n 1, 1) := by decide +kernel
theorem d_M_react_48 : decode b_M_react 48 = .ok (.ireturn, 1) := by decide +kernel
theorem d_M_pendingAt_0 : decode b_M_pendingAt 0 = .ok (.aload_n 0, 1) := by decide +kernel
theorem d_M_pendingAt_1 : decode b_M_pendingAt 1 = .ok (.invokevirtual 116, 3) := by decide +kernel
theorem d_M_pendingAt_4 : decode b_M_pendingAt 4 = .ok (.aload_n 0, 1) := by decide +kernel
theorem d_M_pendingAt_5 : decode b_M_pendingAt 5 = .ok (.iload_n 1, 1) := by decide +kernel
theorem d_M_pendingAt_6 : decode b_M_pendingAt 6 = .ok (.invokevirtual 95, 3) := by decide +kernel
theorem d_M_pendingAt_9 : decode b_M_pendingAt 9 = .ok (.ifCond .eq 31, 3) := by decide +kernel
theorem d_M_pendingAt_12 : decode b_M_pendingAt 12 = .ok (.iload_n 2, 1) := by decide +kernel
theorem d_M_pendingAt_13 : decode b_M_pendingAt 13 = .ok (.ifCond .lt 27, 3) := by decide +kernel
theorem d_M_pendingAt_16 : decode b_M_pendingAt 16 = .ok (.iload_n 2, 1) := by decide +kernel
theorem d_M_pendingAt_17 : decode b_M_pendingAt 17 = .ok (.aload_n 0, 1) := by decide +kernel
theorem d_M_pendingAt_18 : decode b_M_pendingAt 18 = .ok (.getfield 71, 3) := by decide +kernel
theorem d_M_pendingAt_21 : decode b_M_pendingAt 21 = .ok (.iload_n 1, 1) := by decide +kernel
theorem d_M_pendingAt_22 : decode b_M_pendingAt 22 = .ok (.iaload, 1) := by decide +kernel
theorem d_M_pendingAt_23 : decode b_M_pendingAt 23 = .ok (.if_icmp .ge 17, 3) := by decide +kernel
theorem d_M_pendingAt_26 : decode b_M_pendingAt 26 = .ok (.aload_n 0, 1) := by decide +kernel
theorem d_M_pendingAt_27 : decode b_M_pendingAt 27 = .ok (.getfield 68, 3) := by decide +kernel
theorem d_M_pendingAt_30 : decode b_M_pendingAt 30 = .ok (.bipush 6, 2) := by decide +kernel
theorem d_M_pendingAt_32 : decode b_M_pendingAt 32 = .ok (.iload_n 1, 1) := by decide +kernel
theorem d_M_pendingAt_33 : decode b_M_pendingAt 33 = .ok (.imul, 1) := by decide +kernel
theorem d_M_pendingAt_34 : decode b_M_pendingAt 34 = .ok (.iload_n 2, 1) := by decide +kernel
theorem d_M_pendingAt_35 : decode b_M_pendingAt 35 = .ok (.iadd, 1) := by decide +kernel
theorem d_M_pendingAt_36 : decode b_M_pendingAt 36 = .ok (.iaload, 1) := by decide +kernel
theorem d_M_pendingAt_37 : decode b_M_pendingAt 37 = .ok (.goto 4, 3) := by decide +kernel
theorem d_M_pendingAt_40 : decode b_M_pendingAt 40 = .ok (.iconst (-1), 1) := by decide +kernel
theorem d_M_pendingAt_41 : decode b_M_pendingAt 41 = .ok (.ireturn, 1) := by decide +kernel
theorem d_M_value_0 : decode b_M_value 0 = .ok (.aload_n 0, 1) := by decide +kernel
theorem d_M_value_1 : decode b_M_value 1 = .ok (.iload_n 1, 1) := by decide +kernel
theorem d_M_value_2 : decode b_M_value 2 = .ok (.invokevirtual 127, 3) := by decide +kernel
theorem d_M_value_5 : decode b_M_value 5 = .ok (.ifCond .eq 12, 3) := by decide +kernel
theorem d_M_value_8 : decode b_M_value 8 = .ok (.aload_n 0, 1) := by decide +kernel
theorem d_M_value_9 : decode b_M_value 9 = .ok (.getfield 53, 3) := by decide +kernel
theorem d_M_value_12 : decode b_M_value 12 = .ok (.iload_n 1, 1) := by decide +kernel
theorem d_M_value_13 : decode b_M_value 13 = .ok (.iaload, 1) := by decide +kernel
theorem d_M_value_14 : decode b_M_value 14 = .ok (.goto 4, 3) := by decide +kernel
theorem d_M_value_17 : decode b_M_value 17 = .ok (.iconst 0, 1) := by decide +kernel
theorem d_M_value_18 : decode b_M_value 18 = .ok (.ireturn, 1) := by decide +kernel
theorem d_M_state_0 : decode b_M_state 0 = .ok (.aload_n 0, 1) := by decide +kernel
theorem d_M_state_1 : decode b_M_state 1 = .ok (.iload_n 1, 1) := by decide +kernel
theorem d_M_state_2 : decode b_M_state 2 = .ok (.invokevirtual 127, 3) := by decide +kernel
theorem d_M_state_5 : decode b_M_state 5 = .ok (.ifCond .eq 12, 3) := by decide +kernel
theorem d_M_state_8 : decode b_M_state 8 = .ok (.aload_n 0, 1) := by decide +kernel
theorem d_M_state_9 : decode b_M_state 9 = .ok (.getfield 56, 3) := by decide +kernel
theorem d_M_state_12 : decode b_M_state 12 = .ok (.iload_n 1, 1) := by decide +kernel
theorem d_M_state_13 : decode b_M_state 13 = .ok (.iaload, 1) := by decide +kernel
theorem d_M_state_14 : decode b_M_state 14 = .ok (.goto 4, 3) := by decide +kernel
theorem d_M_state_17 : decode b_M_state 17 = .ok (.iconst 0, 1) := by decide +kernel
theorem d_M_state_18 : decode b_M_state 18 = .ok (.ireturn, 1) := by decide +kernel
theorem d_M_consumer_0 : decode b_M_consumer 0 = .ok (.aload_n 0, 1) := by decide +kernel
theorem d_M_consumer_1 : decode b_M_consumer 1 = .ok (.iload_n 1, 1) := by decide +kernel
theorem d_M_consumer_2 : decode b_M_consumer 2 = .ok (.invokevirtual 127, 3) := by decide +kernel
theorem d_M_consumer_5 : decode b_M_consumer 5 = .ok (.ifCond .eq 12, 3) := by decide +kernel
theorem d_M_consumer_8 : decode b_M_consumer 8 = .ok (.aload_n 0, 1) := by decide +kernel
theorem d_M_consumer_9 : decode b_M_consumer 9 = .ok (.getfield 59, 3) := by decide +kernel
theorem d_M_consumer_12 : decode b_M_consumer 12 = .ok (.iload_n 1, 1) := by decide +kernel
theorem d_M_consumer_13 : decode b_M_consumer 13 = .ok (.iaload, 1) := by decide +kernel
theorem d_M_consumer_14 : decode b_M_consumer 14 = .ok (.goto 4, 3) := by decide +kernel
theorem d_M_consumer_17 : decode b_M_consumer 17 = .ok (.iconst (-1), 1) := by decide +kernel
theorem d_M_consumer_18 : decode b_M_consumer 18 = .ok (.ireturn, 1) := by decide +kernel
theorem d_M_answer_0 : decode b_M_answer 0 = .ok (.aload_n 0, 1) := by decide +kernel
theorem d_M_answer_1 : decode b_M_answer 1 = .ok (.iload_n 1, 1) := by decide +kernel
theorem d_M_answer_2 : decode b_M_answer 2 = .ok (.invokevirtual 127, 3) := by decide +kernel
theorem d_M_answer_5 : decode b_M_answer 5 = .ok (.ifCond .eq 12, 3) := by decide +kernel
theorem d_M_answer_8 : decode b_M_answer 8 = .ok (.aload_n 0, 1) := by decide +kernel
theorem d_M_answer_9 : decode b_M_answer 9 = .ok (.getfield 62, 3) := by decide +kernel
theorem d_M_answer_12 : decode b_M_answer 12 = .ok (.iload_n 1, 1) := by decide +kernel
theorem d_M_answer_13 : decode b_M_answer 13 = .ok (.iaload, 1) := by decide +kernel
theorem d_M_answer_14 : decode b_M_answer 14 = .ok (.goto 4, 3) := by decide +kernel
theorem d_M_answer_17 : decode b_M_answer 17 = .ok (.iconst 0, 1) := by decide +kernel
theorem d_M_answer_18 : decode b_M_answer 18 = .ok (.ireturn, 1) := by decide +kernel
theorem d_M_fired_0 : decode b_M_fired 0 = .ok (.iload_n 1, 1) := by decide +kernel
theorem d_M_fired_1 : decode b_M_fired 1 = .ok (.ifCond .lt 20, 3) := by decide +kernel
theorem d_M_fired_4 : decode b_M_fired 4 = .ok (.iload_n 1, 1) := by decide +kernel
theorem d_M_fired_5 : decode b_M_fired 5 = .ok (.aload_n 0, 1) := by decide +kernel
theorem d_M_fired_6 : decode b_M_fired 6 = .ok (.getfield 152, 3) := by decide +kernel
theorem d_M_fired_9 : decode b_M_fired 9 = .ok (.if_icmp .ge 12, 3) := by decide +kernel
theorem d_M_fired_12 : decode b_M_fired 12 = .ok (.aload_n 0, 1) := by decide +kernel
theorem d_M_fired_13 : decode b_M_fired 13 = .ok (.getfield 65, 3) := by decide +kernel
theorem d_M_fired_16 : decode b_M_fired 16 = .ok (.iload_n 1, 1) := by decide +kernel
theorem d_M_fired_17 : decode b_M_fired 17 = .ok (.iaload, 1) := by decide +kernel
theorem d_M_fired_18 : decode b_M_fired 18 = .ok (.goto 4, 3) := by decide +kernel
theorem d_M_fired_21 : decode b_M_fired 21 = .ok (.iconst (-1), 1) := by decide +kernel
theorem d_M_fired_22 : decode b_M_fired 22 = .ok (.ireturn, 1) := by decide +kernel
end
section
def bp_V_channel_0 (Q : Int32 → RS → Prop) (h : RS) (x1 : Int32) : Prop :=
  (¬ (h 0 4) = 0 → Q (-1 : Int32) h) ∧
  ((h 0 4) = 0 → ((h 0 1) < (8 : Int32) → ∃ k1 : Nat, k1 < 8 ∧ (h 0 1) = nI k1 ∧ isB x1 ∧ ∀ h2 : RS, h2 = up2 h (13 + k1) 0 x1 → ∀ h3 : RS, h3 = up2 h2 0 1 ((h2 0 1) + (1 : Int32)) → Q ((h3 0 1) - (1 : Int32)) h3) ∧
  (¬ (h 0 1) < (8 : Int32) → Q (-1 : Int32) h))
def wp_V_channel (h : RS) (x1 : Int32) (Q : Int32 → RS → Prop) : Prop := bp_V_channel_0 Q h x1
def bp_V_reaction_0 (Q : Int32 → RS → Prop) (h : RS) : Prop :=
  (¬ (h 0 4) = 0 → Q (-1 : Int32) h) ∧
  ((h 0 4) = 0 → ((h 0 3) < (8 : Int32) → ∀ h1 : RS, h1 = up2 h 0 3 ((h 0 3) + (1 : Int32)) → Q ((h1 0 3) - (1 : Int32)) h1) ∧
  (¬ (h 0 3) < (8 : Int32) → Q (-1 : Int32) h))
def wp_V_reaction (h : RS) (Q : Int32 → RS → Prop) : Prop := bp_V_reaction_0 Q h
def bp_V_mayBuild_0 (Q : Int32 → RS → Prop) (h : RS) (x1 : Int32) : Prop :=
  (¬ (h 0 4) = 0 → isB (0 : Int32) ∧ Q (0 : Int32) h) ∧
  ((h 0 4) = 0 → (x1 < 0 → isB (0 : Int32) ∧ Q (0 : Int32) h) ∧
  (¬ x1 < 0 → ((h 0 3) ≤ x1 → isB (0 : Int32) ∧ Q (0 : Int32) h) ∧
  (¬ (h 0 3) ≤ x1 → isB (1 : Int32) ∧ Q (1 : Int32) h)))
def wp_V_mayBuild (h : RS) (x1 : Int32) (Q : Int32 → RS → Prop) : Prop := bp_V_mayBuild_0 Q h x1
def bp_V_isChannel_0 (Q : Int32 → RS → Prop) (h : RS) (x1 : Int32) : Prop :=
  (x1 < 0 → isB (0 : Int32) ∧ Q (0 : Int32) h) ∧
  (¬ x1 < 0 → ((h 0 1) ≤ x1 → isB (0 : Int32) ∧ Q (0 : Int32) h) ∧
  (¬ (h 0 1) ≤ x1 → isB (1 : Int32) ∧ Q (1 : Int32) h))
def wp_V_isChannel (h : RS) (x1 : Int32) (Q : Int32 → RS → Prop) : Prop := bp_V_isChannel_0 Q h x1
def bp_V_isWithin_0 (Q : Int32 → RS → Prop) (h : RS) (x0 : Int32) (x1 : Int32) : Prop :=
  (x0 < 0 → isB (0 : Int32) ∧ Q (0 : Int32) h) ∧
  (¬ x0 < 0 → (x1 < x0 → isB (0 : Int32) ∧ Q (0 : Int32) h) ∧
  (¬ x1 < x0 → isB (1 : Int32) ∧ Q (1 : Int32) h))
def wp_V_isWithin (h : RS) (x0 : Int32) (x1 : Int32) (Q : Int32 → RS → Prop) : Prop := bp_V_isWithin_0 Q h x0 x1
def bp_Re_addPart_0 (Q : Int32 → RS → Prop) (h : RS) (i0 : Nat) (x1 : Int32) (x2 : Int32) (x3 : Int32) : Prop :=
  ∃ k1 : Nat, k1 < 4 ∧ (h (29 + i0) 0) = nI k1 ∧ ∀ h2 : RS, h2 = up2 h (37 + i0) k1 x1 → ∃ k3 : Nat, k3 < 4 ∧ (h (29 + i0) 0) = nI k3 ∧ ∀ h4 : RS, h4 = up2 h2 (45 + i0) k3 x2 → ∃ k5 : Nat, k5 < 4 ∧ (h (29 + i0) 0) = nI k5 ∧ ∀ h6 : RS, h6 = up2 h4 (53 + i0) k5 x3 → ∀ h7 : RS, h7 = up2 h6 (29 + i0) 0 ((h6 (29 + i0) 0) + (1 : Int32)) → Q (h (29 + i0) 0) h7
def wp_Re_addPart (h : RS) (i0 : Nat) (x1 : Int32) (x2 : Int32) (x3 : Int32) (Q : Int32 → RS → Prop) : Prop := bp_Re_addPart_0 Q h i0 x1 x2 x3
def bp_V_part_0 (Q : Int32 → RS → Prop) (h : RS) (x1 : Int32) (x2 : Int32) (x3 : Int32) (x4 : Int32) : Prop :=
  wp_V_mayBuild h x1 (fun r1 h2 => (r1 = 0 → Q (-1 : Int32) h2) ∧
  (¬ r1 = 0 → wp_V_isChannel h2 x2 (fun r3 h4 => (r3 = 0 → Q (-1 : Int32) h4) ∧
  (¬ r3 = 0 → wp_V_isWithin h4 x3 (4 : Int32) (fun r5 h6 => (¬ r5 = 0 → ∃ k7 : Nat, k7 < 8 ∧ x1 = nI k7 ∧ ((h6 (29 + k7) 0) < (4 : Int32) → ∃ k8 : Nat, k8 < 8 ∧ x1 = nI k8 ∧ wp_Re_addPart h6 k8 x2 x3 x4 (fun r9 h10 => Q r9 h10)) ∧
  (¬ (h6 (29 + k7) 0) < (4 : Int32) → Q (-1 : Int32) h6)) ∧
  (r5 = 0 → Q (-1 : Int32) h6))))))
def wp_V_part (h : RS) (x1 : Int32) (x2 : Int32) (x3 : Int32) (x4 : Int32) (Q : Int32 → RS → Prop) : Prop := bp_V_part_0 Q h x1 x2 x3 x4
def bp_V_guard_0 (Q : Int32 → RS → Prop) (h : RS) (x1 : Int32) (x2 : Int32) (x3 : Int32) : Prop :=
  wp_V_mayBuild h x1 (fun r1 h2 => (r1 = 0 → isB (0 : Int32) ∧ Q (0 : Int32) h2) ∧
  (¬ r1 = 0 → wp_V_isWithin h2 x2 (5 : Int32) (fun r3 h4 => (¬ r3 = 0 → ∃ k5 : Nat, k5 < 8 ∧ x1 = nI k5 ∧ ∀ h6 : RS, h6 = up2 h4 (29 + k5) 4 x2 → ∃ k7 : Nat, k7 < 8 ∧ x1 = nI k7 ∧ ∀ h8 : RS, h8 = up2 h6 (29 + k7) 5 x3 → isB (1 : Int32) ∧ Q (1 : Int32) h8) ∧
  (r3 = 0 → isB (0 : Int32) ∧ Q (0 : Int32) h4))))
def wp_V_guard (h : RS) (x1 : Int32) (x2 : Int32) (x3 : Int32) (Q : Int32 → RS → Prop) : Prop := bp_V_guard_0 Q h x1 x2 x3
def bp_V_isChannelOf_0 (Q : Int32 → RS → Prop) (h : RS) (x1 : Int32) (x2 : Int32) : Prop :=
  wp_V_isChannel h x1 (fun r1 h2 => (r1 = 0 → isB (0 : Int32) ∧ Q (0 : Int32) h2) ∧
  (¬ r1 = 0 → ∃ k3 : Nat, k3 < 8 ∧ x1 = nI k3 ∧ (¬ (h2 (13 + k3) 0) = x2 → isB (0 : Int32) ∧ Q (0 : Int32) h2) ∧
  ((h2 (13 + k3) 0) = x2 → isB (1 : Int32) ∧ Q (1 : Int32) h2)))
def wp_V_isChannelOf (h : RS) (x1 : Int32) (x2 : Int32) (Q : Int32 → RS → Prop) : Prop := bp_V_isChannelOf_0 Q h x1 x2
def bp_Re_hasPart_0 (Q : Int32 → RS → Prop) (h : RS) (i0 : Nat) (x1 : Int32) : Prop :=
  (x1 < 0 → isB (0 : Int32) ∧ Q (0 : Int32) h) ∧
  (¬ x1 < 0 → ((h (29 + i0) 0) ≤ x1 → isB (0 : Int32) ∧ Q (0 : Int32) h) ∧
  (¬ (h (29 + i0) 0) ≤ x1 → isB (1 : Int32) ∧ Q (1 : Int32) h))
def wp_Re_hasPart (h : RS) (i0 : Nat) (x1 : Int32) (Q : Int32 → RS → Prop) : Prop := bp_Re_hasPart_0 Q h i0 x1
def bp_Re_mayAddAction_33 (Q : Int32 → RS → Prop) (h : RS) (i0 : Nat) (x2 : Int32) (y0 : Int32) : Prop :=
  (y0 = 0 → isB (1 : Int32) ∧ Q (1 : Int32) h) ∧
  (¬ y0 = 0 → wp_Re_hasPart h i0 x2 (fun r1 h2 => (r1 = 0 → isB (0 : Int32) ∧ Q (0 : Int32) h2) ∧
  (¬ r1 = 0 → isB (1 : Int32) ∧ Q (1 : Int32) h2)))
def bp_Re_mayAddAction_28 (Q : Int32 → RS → Prop) (h : RS) (i0 : Nat) (x2 : Int32) : Prop :=
  bp_Re_mayAddAction_33 Q h i0 x2 (1 : Int32)
def bp_Re_mayAddAction_0 (Q : Int32 → RS → Prop) (h : RS) (i0 : Nat) (x1 : Int32) (x2 : Int32) : Prop :=
  wp_V_isWithin h x1 (4 : Int32) (fun r3 h4 => (r3 = 0 → isB (0 : Int32) ∧ Q (0 : Int32) h4) ∧
  (¬ r3 = 0 → ((h4 (29 + i0) 6) < (4 : Int32) → (x1 = (1 : Int32) → bp_Re_mayAddAction_28 Q h4 i0 x2) ∧
  (¬ x1 = (1 : Int32) → (¬ x1 = (2 : Int32) → bp_Re_mayAddAction_33 Q h4 i0 x2 (0 : Int32)) ∧
  (x1 = (2 : Int32) → bp_Re_mayAddAction_28 Q h4 i0 x2))) ∧
  (¬ (h4 (29 + i0) 6) < (4 : Int32) → isB (0 : Int32) ∧ Q (0 : Int32) h4)))
def wp_Re_mayAddAction (h : RS) (i0 : Nat) (x1 : Int32) (x2 : Int32) (Q : Int32 → RS → Prop) : Prop := bp_Re_mayAddAction_0 Q h i0 x1 x2
def bp_Re_addAction_0 (Q : RS → Prop) (h : RS) (i0 : Nat) (x1 : Int32) (x2 : Int32) (x3 : Int32) (x4 : Int32) (x5 : Int32) : Prop :=
  ∃ k1 : Nat, k1 < 4 ∧ (h (29 + i0) 6) = nI k1 ∧ isB x1 ∧ ∀ h2 : RS, h2 = up2 h (61 + i0) k1 x1 → ∃ k3 : Nat, k3 < 4 ∧ (h (29 + i0) 6) = nI k3 ∧ ∀ h4 : RS, h4 = up2 h2 (69 + i0) k3 x2 → ∃ k5 : Nat, k5 < 4 ∧ (h (29 + i0) 6) = nI k5 ∧ ∀ h6 : RS, h6 = up2 h4 (77 + i0) k5 x3 → ∃ k7 : Nat, k7 < 4 ∧ (h (29 + i0) 6) = nI k7 ∧ ∀ h8 : RS, h8 = up2 h6 (85 + i0) k7 x4 → ∃ k9 : Nat, k9 < 4 ∧ (h (29 + i0) 6) = nI k9 ∧ ∀ h10 : RS, h10 = up2 h8 (93 + i0) k9 x5 → ∀ h11 : RS, h11 = up2 h10 (29 + i0) 6 ((h10 (29 + i0) 6) + (1 : Int32)) → Q h11
def wp_Re_addAction (h : RS) (i0 : Nat) (x1 : Int32) (x2 : Int32) (x3 : Int32) (x4 : Int32) (x5 : Int32) (Q : RS → Prop) : Prop := bp_Re_addAction_0 Q h i0 x1 x2 x3 x4 x5
def bp_V_emit_0 (Q : Int32 → RS → Prop) (h : RS) (x1 : Int32) (x2 : Int32) (x3 : Int32) (x4 : Int32) (x5 : Int32) : Prop :=
  wp_V_mayBuild h x1 (fun r1 h2 => (r1 = 0 → isB (0 : Int32) ∧ Q (0 : Int32) h2) ∧
  (¬ r1 = 0 → wp_V_isChannelOf h2 x2 (0 : Int32) (fun r3 h4 => (¬ r3 = 0 → ∃ k5 : Nat, k5 < 8 ∧ x1 = nI k5 ∧ wp_Re_mayAddAction h4 k5 x3 x4 (fun r6 h7 => (¬ r6 = 0 → ∃ k8 : Nat, k8 < 8 ∧ x1 = nI k8 ∧ wp_Re_addAction h7 k8 (1 : Int32) x2 x3 x4 x5 (fun h9 => isB (1 : Int32) ∧ Q (1 : Int32) h9)) ∧
  (r6 = 0 → isB (0 : Int32) ∧ Q (0 : Int32) h7))) ∧
  (r3 = 0 → isB (0 : Int32) ∧ Q (0 : Int32) h4))))
def wp_V_emit (h : RS) (x1 : Int32) (x2 : Int32) (x3 : Int32) (x4 : Int32) (x5 : Int32) (Q : Int32 → RS → Prop) : Prop := bp_V_emit_0 Q h x1 x2 x3 x4 x5
def bp_Re_hasReplyTo_2 (K2 : RS → Nat → Int32 → Int32 → Prop) (Q : Int32 → RS → Prop) (h : RS) (i0 : Nat) (x1 : Int32) (x2 : Int32) : Prop :=
  ((h (29 + i0) 6) ≤ x2 → isB (0 : Int32) ∧ Q (0 : Int32) h) ∧
  (¬ (h (29 + i0) 6) ≤ x2 → ∃ k1 : Nat, k1 < 4 ∧ x2 = nI k1 ∧ (¬ (h (61 + i0) k1) = 0 → K2 h i0 x1 (x2 + 1)) ∧
  ((h (61 + i0) k1) = 0 → ∃ k2 : Nat, k2 < 4 ∧ x2 = nI k2 ∧ (¬ (h (69 + i0) k2) = x1 → K2 h i0 x1 (x2 + 1)) ∧
  ((h (69 + i0) k2) = x1 → isB (1 : Int32) ∧ Q (1 : Int32) h)))
def wp_Re_hasReplyTo_2 (Q : Int32 → RS → Prop) : Nat → RS → Nat → Int32 → Int32 → Prop
  | 0 => fun _ _ _ _ => False
  | n + 1 => bp_Re_hasReplyTo_2 (wp_Re_hasReplyTo_2 Q n) Q
def bp_Re_hasReplyTo_0 (Q : Int32 → RS → Prop) (h : RS) (i0 : Nat) (x1 : Int32) : Prop :=
  ∃ n3 : Nat, wp_Re_hasReplyTo_2 Q n3 h i0 x1 (0 : Int32)
def wp_Re_hasReplyTo (h : RS) (i0 : Nat) (x1 : Int32) (Q : Int32 → RS → Prop) : Prop := bp_Re_hasReplyTo_0 Q h i0 x1
def bp_V_reply_0 (Q : Int32 → RS → Prop) (h : RS) (x1 : Int32) (x2 : Int32) (x3 : Int32) (x4 : Int32) (x5 : Int32) : Prop :=
  wp_V_mayBuild h x1 (fun r1 h2 => (r1 = 0 → isB (0 : Int32) ∧ Q (0 : Int32) h2) ∧
  (¬ r1 = 0 → ∃ k3 : Nat, k3 < 8 ∧ x1 = nI k3 ∧ wp_Re_hasPart h2 k3 x2 (fun r4 h5 => (¬ r4 = 0 → ∃ k6 : Nat, k6 < 8 ∧ x1 = nI k6 ∧ ∃ k7 : Nat, k7 < 4 ∧ x2 = nI k7 ∧ ∃ k8 : Nat, k8 < 8 ∧ (h5 (37 + k6) k7) = nI k8 ∧ ((h5 (13 + k8) 0) = 0 → isB (0 : Int32) ∧ Q (0 : Int32) h5) ∧
  (¬ (h5 (13 + k8) 0) = 0 → wp_Re_hasReplyTo h5 k6 x2 (fun r9 h10 => (r9 = 0 → wp_Re_mayAddAction h10 k6 x3 x4 (fun r11 h12 => (¬ r11 = 0 → wp_Re_addAction h12 k6 (0 : Int32) x2 x3 x4 x5 (fun h13 => isB (1 : Int32) ∧ Q (1 : Int32) h13)) ∧
  (r11 = 0 → isB (0 : Int32) ∧ Q (0 : Int32) h12))) ∧
  (¬ r9 = 0 → isB (0 : Int32) ∧ Q (0 : Int32) h10)))) ∧
  (r4 = 0 → isB (0 : Int32) ∧ Q (0 : Int32) h5))))
def wp_V_reply (h : RS) (x1 : Int32) (x2 : Int32) (x3 : Int32) (x4 : Int32) (x5 : Int32) (Q : Int32 → RS → Prop) : Prop := bp_V_reply_0 Q h x1 x2 x3 x4 x5
def bp_V_leavesCallUnanswered_2 (K2 : RS → Nat → Int32 → Prop) (Q : Int32 → RS → Prop) (h : RS) (i1 : Nat) (x2 : Int32) : Prop :=
  ((h (29 + i1) 0) ≤ x2 → isB (0 : Int32) ∧ Q (0 : Int32) h) ∧
  (¬ (h (29 + i1) 0) ≤ x2 → ∃ k1 : Nat, k1 < 4 ∧ x2 = nI k1 ∧ ∃ k2 : Nat, k2 < 8 ∧ (h (37 + i1) k1) = nI k2 ∧ ((h (13 + k2) 0) = 0 → K2 h i1 (x2 + 1)) ∧
  (¬ (h (13 + k2) 0) = 0 → wp_Re_hasReplyTo h i1 x2 (fun r3 h4 => (¬ r3 = 0 → K2 h4 i1 (x2 + 1)) ∧
  (r3 = 0 → isB (1 : Int32) ∧ Q (1 : Int32) h4))))
def wp_V_leavesCallUnanswered_2 (Q : Int32 → RS → Prop) : Nat → RS → Nat → Int32 → Prop
  | 0 => fun _ _ _ => False
  | n + 1 => bp_V_leavesCallUnanswered_2 (wp_V_leavesCallUnanswered_2 Q n) Q
def bp_V_leavesCallUnanswered_0 (Q : Int32 → RS → Prop) (h : RS) (i1 : Nat) : Prop :=
  ∃ n5 : Nat, wp_V_leavesCallUnanswered_2 Q n5 h i1 (0 : Int32)
def wp_V_leavesCallUnanswered (h : RS) (i1 : Nat) (Q : Int32 → RS → Prop) : Prop := bp_V_leavesCallUnanswered_0 Q h i1
def bp_V_obstacleToSealing_50 (K50 : RS → Int32 → Prop) (Q : Int32 → RS → Prop) (h : RS) (x1 : Int32) : Prop :=
  ((h 0 3) ≤ x1 → Q (0 : Int32) h) ∧
  (¬ (h 0 3) ≤ x1 → ∃ k1 : Nat, k1 < 8 ∧ x1 = nI k1 ∧ wp_V_leavesCallUnanswered h k1 (fun r2 h3 => (r2 = 0 → K50 h3 (x1 + 1)) ∧
  (¬ r2 = 0 → Q (4 : Int32) h3)))
def wp_V_obstacleToSealing_50 (Q : Int32 → RS → Prop) : Nat → RS → Int32 → Prop
  | 0 => fun _ _ => False
  | n + 1 => bp_V_obstacleToSealing_50 (wp_V_obstacleToSealing_50 Q n) Q
def bp_V_obstacleToSealing_20 (K20 : RS → Int32 → Prop) (Q : Int32 → RS → Prop) (h : RS) (x1 : Int32) : Prop :=
  ((h 0 3) ≤ x1 → ∃ n4 : Nat, wp_V_obstacleToSealing_50 Q n4 h (0 : Int32)) ∧
  (¬ (h 0 3) ≤ x1 → ∃ k5 : Nat, k5 < 8 ∧ x1 = nI k5 ∧ (¬ (h (29 + k5) 0) = 0 → K20 h (x1 + 1)) ∧
  ((h (29 + k5) 0) = 0 → Q (3 : Int32) h))
def wp_V_obstacleToSealing_20 (Q : Int32 → RS → Prop) : Nat → RS → Int32 → Prop
  | 0 => fun _ _ => False
  | n + 1 => bp_V_obstacleToSealing_20 (wp_V_obstacleToSealing_20 Q n) Q
def bp_V_obstacleToSealing_0 (Q : Int32 → RS → Prop) (h : RS) : Prop :=
  ((h 0 4) = 0 → (¬ (h 0 3) = 0 → ∃ n6 : Nat, wp_V_obstacleToSealing_20 Q n6 h (0 : Int32)) ∧
  ((h 0 3) = 0 → Q (2 : Int32) h)) ∧
  (¬ (h 0 4) = 0 → Q (1 : Int32) h)
def wp_V_obstacleToSealing (h : RS) (Q : Int32 → RS → Prop) : Prop := bp_V_obstacleToSealing_0 Q h
def bp_V_seal_0 (Q : Int32 → RS → Prop) (h : RS) : Prop :=
  wp_V_obstacleToSealing h (fun r1 h2 => (¬ r1 = 0 → Q r1 h2) ∧
  (r1 = 0 → isB (1 : Int32) ∧ ∀ h3 : RS, h3 = up2 h2 0 4 (1 : Int32) → Q r1 h3))
def wp_V_seal (h : RS) (Q : Int32 → RS → Prop) : Prop := bp_V_seal_0 Q h
def bp_Ms_add_0 (Q : Int32 → RS → Prop) (h : RS) (x1 : Int32) (x2 : Int32) : Prop :=
  ∃ k1 : Nat, k1 < 300 ∧ (h 3 0) = nI k1 ∧ ∀ h2 : RS, h2 = up2 h 6 k1 x1 → ∃ k3 : Nat, k3 < 300 ∧ (h 3 0) = nI k3 ∧ ∀ h4 : RS, h4 = up2 h2 7 k3 x2 → ∃ k5 : Nat, k5 < 300 ∧ (h 3 0) = nI k5 ∧ ∀ h6 : RS, h6 = up2 h4 8 k5 (1 : Int32) → ∃ k7 : Nat, k7 < 300 ∧ (h 3 0) = nI k7 ∧ ∀ h8 : RS, h8 = up2 h6 9 k7 (-1 : Int32) → ∀ h9 : RS, h9 = up2 h8 3 0 ((h8 3 0) + (1 : Int32)) → Q (h 3 0) h9
def wp_Ms_add (h : RS) (x1 : Int32) (x2 : Int32) (Q : Int32 → RS → Prop) : Prop := bp_Ms_add_0 Q h x1 x2
def bp_Ch_addPending_0 (Q : RS → Prop) (h : RS) (i0 : Nat) (x1 : Int32) : Prop :=
  ∃ k1 : Nat, k1 < 6 ∧ (h (13 + i0) 2) = nI k1 ∧ ∀ h2 : RS, h2 = up2 h (21 + i0) k1 x1 → ∀ h3 : RS, h3 = up2 h2 (13 + i0) 2 ((h2 (13 + i0) 2) + (1 : Int32)) → Q h3
def wp_Ch_addPending (h : RS) (i0 : Nat) (x1 : Int32) (Q : RS → Prop) : Prop := bp_Ch_addPending_0 Q h i0 x1
def bp_V_makeMessage_0 (Q : Int32 → RS → Prop) (h : RS) (x1 : Int32) (x2 : Int32) : Prop :=
  wp_Ms_add h x1 x2 (fun r1 h2 => ∃ k3 : Nat, k3 < 8 ∧ x1 = nI k3 ∧ wp_Ch_addPending h2 k3 r1 (fun h4 => Q r1 h4))
def wp_V_makeMessage (h : RS) (x1 : Int32) (x2 : Int32) (Q : Int32 → RS → Prop) : Prop := bp_V_makeMessage_0 Q h x1 x2
def bp_V_admit_0 (Q : Int32 → RS → Prop) (h : RS) (x1 : Int32) (x2 : Int32) (x3 : Int32) : Prop :=
  ((h 0 4) = 0 → Q (-1 : Int32) h) ∧
  (¬ (h 0 4) = 0 → wp_V_isChannelOf h x1 x3 (fun r1 h2 => (¬ r1 = 0 → ∃ k3 : Nat, k3 < 8 ∧ x1 = nI k3 ∧ ((6 : Int32) ≤ (h2 (13 + k3) 2) → Q (-1 : Int32) h2) ∧
  (¬ (6 : Int32) ≤ (h2 (13 + k3) 2) → ((h2 3 0) < (300 : Int32) → wp_V_makeMessage h2 x1 x2 (fun r4 h5 => Q r4 h5)) ∧
  (¬ (h2 3 0) < (300 : Int32) → Q (-1 : Int32) h2))) ∧
  (r1 = 0 → Q (-1 : Int32) h2)))
def wp_V_admit (h : RS) (x1 : Int32) (x2 : Int32) (x3 : Int32) (Q : Int32 → RS → Prop) : Prop := bp_V_admit_0 Q h x1 x2 x3
def bp_V_put_0 (Q : Int32 → RS → Prop) (h : RS) (x1 : Int32) (x2 : Int32) : Prop :=
  wp_V_admit h x1 x2 (0 : Int32) (fun r1 h2 => Q r1 h2)
def wp_V_put (h : RS) (x1 : Int32) (x2 : Int32) (Q : Int32 → RS → Prop) : Prop := bp_V_put_0 Q h x1 x2
def bp_V_call_0 (Q : Int32 → RS → Prop) (h : RS) (x1 : Int32) (x2 : Int32) : Prop :=
  wp_V_admit h x1 x2 (1 : Int32) (fun r1 h2 => Q r1 h2)
def wp_V_call (h : RS) (x1 : Int32) (x2 : Int32) (Q : Int32 → RS → Prop) : Prop := bp_V_call_0 Q h x1 x2
def bp_Ms_has_0 (Q : Int32 → RS → Prop) (h : RS) (x1 : Int32) : Prop :=
  (x1 < 0 → isB (0 : Int32) ∧ Q (0 : Int32) h) ∧
  (¬ x1 < 0 → ((h 3 0) ≤ x1 → isB (0 : Int32) ∧ Q (0 : Int32) h) ∧
  (¬ (h 3 0) ≤ x1 → isB (1 : Int32) ∧ Q (1 : Int32) h))
def wp_Ms_has (h : RS) (x1 : Int32) (Q : Int32 → RS → Prop) : Prop := bp_Ms_has_0 Q h x1
def bp_Ch_removePending_4 (K4 : RS → Nat → Int32 → Int32 → Int32 → Prop) (Q : RS → Prop) (h : RS) (i0 : Nat) (x1 : Int32) (x2 : Int32) (x3 : Int32) : Prop :=
  ((h (13 + i0) 2) ≤ x3 → ∀ h1 : RS, h1 = up2 h (13 + i0) 2 x2 → Q h1) ∧
  (¬ (h (13 + i0) 2) ≤ x3 → ∃ k2 : Nat, k2 < 6 ∧ x3 = nI k2 ∧ ((h (21 + i0) k2) = x1 → K4 h i0 x1 x2 (x3 + 1)) ∧
  (¬ (h (21 + i0) k2) = x1 → ∃ k3 : Nat, k3 < 6 ∧ x3 = nI k3 ∧ ∃ k4 : Nat, k4 < 6 ∧ x2 = nI k4 ∧ ∀ h5 : RS, h5 = up2 h (21 + i0) k4 (h (21 + i0) k3) → K4 h5 i0 x1 (x2 + 1) (x3 + 1)))
def wp_Ch_removePending_4 (Q : RS → Prop) : Nat → RS → Nat → Int32 → Int32 → Int32 → Prop
  | 0 => fun _ _ _ _ _ => False
  | n + 1 => bp_Ch_removePending_4 (wp_Ch_removePending_4 Q n) Q
def bp_Ch_removePending_0 (Q : RS → Prop) (h : RS) (i0 : Nat) (x1 : Int32) : Prop :=
  ∃ n6 : Nat, wp_Ch_removePending_4 Q n6 h i0 x1 (0 : Int32) (0 : Int32)
def wp_Ch_removePending (h : RS) (i0 : Nat) (x1 : Int32) (Q : RS → Prop) : Prop := bp_Ch_removePending_0 Q h i0 x1
def bp_V_withdraw_0 (Q : Int32 → RS → Prop) (h : RS) (x1 : Int32) : Prop :=
  wp_Ms_has h x1 (fun r1 h2 => (r1 = 0 → isB (0 : Int32) ∧ Q (0 : Int32) h2) ∧
  (¬ r1 = 0 → ∃ k3 : Nat, k3 < 300 ∧ x1 = nI k3 ∧ ((h2 8 k3) = (1 : Int32) → ∃ k4 : Nat, k4 < 300 ∧ x1 = nI k4 ∧ ∃ k5 : Nat, k5 < 8 ∧ (h2 6 k4) = nI k5 ∧ (¬ (h2 (13 + k5) 0) = 0 → ∃ k6 : Nat, k6 < 300 ∧ x1 = nI k6 ∧ ∀ h7 : RS, h7 = up2 h2 8 k6 (3 : Int32) → wp_Ch_removePending h7 k5 x1 (fun h8 => isB (1 : Int32) ∧ Q (1 : Int32) h8)) ∧
  ((h2 (13 + k5) 0) = 0 → isB (0 : Int32) ∧ Q (0 : Int32) h2)) ∧
  (¬ (h2 8 k3) = (1 : Int32) → isB (0 : Int32) ∧ Q (0 : Int32) h2)))
def wp_V_withdraw (h : RS) (x1 : Int32) (Q : Int32 → RS → Prop) : Prop := bp_V_withdraw_0 Q h x1
def bp_Re_sendCount_4 (K4 : RS → Nat → Int32 → Int32 → Prop) (Q : Int32 → RS → Prop) (h : RS) (i0 : Nat) (x1 : Int32) (x2 : Int32) : Prop :=
  ((h (29 + i0) 6) ≤ x2 → Q x1 h) ∧
  (¬ (h (29 + i0) 6) ≤ x2 → ∃ k1 : Nat, k1 < 4 ∧ x2 = nI k1 ∧ ((h (61 + i0) k1) = 0 → K4 h i0 x1 (x2 + 1)) ∧
  (¬ (h (61 + i0) k1) = 0 → K4 h i0 (x1 + 1) (x2 + 1)))
def wp_Re_sendCount_4 (Q : Int32 → RS → Prop) : Nat → RS → Nat → Int32 → Int32 → Prop
  | 0 => fun _ _ _ _ => False
  | n + 1 => bp_Re_sendCount_4 (wp_Re_sendCount_4 Q n) Q
def bp_Re_sendCount_0 (Q : Int32 → RS → Prop) (h : RS) (i0 : Nat) : Prop :=
  ∃ n2 : Nat, wp_Re_sendCount_4 Q n2 h i0 (0 : Int32) (0 : Int32)
def wp_Re_sendCount (h : RS) (i0 : Nat) (Q : Int32 → RS → Prop) : Prop := bp_Re_sendCount_0 Q h i0
def bp_Re_partsOn_4 (K4 : RS → Nat → Int32 → Int32 → Int32 → Prop) (Q : Int32 → RS → Prop) (h : RS) (i0 : Nat) (x1 : Int32) (x2 : Int32) (x3 : Int32) : Prop :=
  ((h (29 + i0) 0) ≤ x3 → Q x2 h) ∧
  (¬ (h (29 + i0) 0) ≤ x3 → ∃ k1 : Nat, k1 < 4 ∧ x3 = nI k1 ∧ (¬ (h (37 + i0) k1) = x1 → K4 h i0 x1 x2 (x3 + 1)) ∧
  ((h (37 + i0) k1) = x1 → K4 h i0 x1 (x2 + 1) (x3 + 1)))
def wp_Re_partsOn_4 (Q : Int32 → RS → Prop) : Nat → RS → Nat → Int32 → Int32 → Int32 → Prop
  | 0 => fun _ _ _ _ _ => False
  | n + 1 => bp_Re_partsOn_4 (wp_Re_partsOn_4 Q n) Q
def bp_Re_partsOn_0 (Q : Int32 → RS → Prop) (h : RS) (i0 : Nat) (x1 : Int32) : Prop :=
  ∃ n2 : Nat, wp_Re_partsOn_4 Q n2 h i0 x1 (0 : Int32) (0 : Int32)
def wp_Re_partsOn (h : RS) (i0 : Nat) (x1 : Int32) (Q : Int32 → RS → Prop) : Prop := bp_Re_partsOn_0 Q h i0 x1
def bp_Re_sendsTo_4 (K4 : RS → Nat → Int32 → Int32 → Int32 → Prop) (Q : Int32 → RS → Prop) (h : RS) (i0 : Nat) (x1 : Int32) (x2 : Int32) (x3 : Int32) : Prop :=
  ((h (29 + i0) 6) ≤ x3 → Q x2 h) ∧
  (¬ (h (29 + i0) 6) ≤ x3 → ∃ k1 : Nat, k1 < 4 ∧ x3 = nI k1 ∧ ((h (61 + i0) k1) = 0 → K4 h i0 x1 x2 (x3 + 1)) ∧
  (¬ (h (61 + i0) k1) = 0 → ∃ k2 : Nat, k2 < 4 ∧ x3 = nI k2 ∧ (¬ (h (69 + i0) k2) = x1 → K4 h i0 x1 x2 (x3 + 1)) ∧
  ((h (69 + i0) k2) = x1 → K4 h i0 x1 (x2 + 1) (x3 + 1))))
def wp_Re_sendsTo_4 (Q : Int32 → RS → Prop) : Nat → RS → Nat → Int32 → Int32 → Int32 → Prop
  | 0 => fun _ _ _ _ _ => False
  | n + 1 => bp_Re_sendsTo_4 (wp_Re_sendsTo_4 Q n) Q
def bp_Re_sendsTo_0 (Q : Int32 → RS → Prop) (h : RS) (i0 : Nat) (x1 : Int32) : Prop :=
  ∃ n3 : Nat, wp_Re_sendsTo_4 Q n3 h i0 x1 (0 : Int32) (0 : Int32)
def wp_Re_sendsTo (h : RS) (i0 : Nat) (x1 : Int32) (Q : Int32 → RS → Prop) : Prop := bp_Re_sendsTo_0 Q h i0 x1
def bp_V_hasRoom_22 (K22 : RS → Nat → Int32 → Prop) (Q : Int32 → RS → Prop) (h : RS) (i1 : Nat) (x2 : Int32) : Prop :=
  ((h 0 1) ≤ x2 → isB (1 : Int32) ∧ Q (1 : Int32) h) ∧
  (¬ (h 0 1) ≤ x2 → ∃ k1 : Nat, k1 < 8 ∧ x2 = nI k1 ∧ wp_Re_partsOn h i1 x2 (fun r2 h3 => wp_Re_sendsTo h3 i1 x2 (fun r4 h5 => ((((h (13 + k1) 2) - r2) + r4) ≤ (6 : Int32) → K22 h5 i1 (x2 + 1)) ∧
  (¬ (((h (13 + k1) 2) - r2) + r4) ≤ (6 : Int32) → isB (0 : Int32) ∧ Q (0 : Int32) h5))))
def wp_V_hasRoom_22 (Q : Int32 → RS → Prop) : Nat → RS → Nat → Int32 → Prop
  | 0 => fun _ _ _ => False
  | n + 1 => bp_V_hasRoom_22 (wp_V_hasRoom_22 Q n) Q
def bp_V_hasRoom_0 (Q : Int32 → RS → Prop) (h : RS) (i1 : Nat) : Prop :=
  wp_Re_sendCount h i1 (fun r6 h7 => (((h 3 0) + r6) ≤ (300 : Int32) → ∃ n8 : Nat, wp_V_hasRoom_22 Q n8 h7 i1 (0 : Int32)) ∧
  (¬ ((h 3 0) + r6) ≤ (300 : Int32) → isB (0 : Int32) ∧ Q (0 : Int32) h7))
def wp_V_hasRoom (h : RS) (i1 : Nat) (Q : Int32 → RS → Prop) : Prop := bp_V_hasRoom_0 Q h i1
def bp_V_allRise_2 (K2 : RS → Int32 → Int32 → Prop) (Q : Int32 → RS → Prop) (h : RS) (x1 : Int32) (x2 : Int32) : Prop :=
  (x1 ≤ x2 → isB (1 : Int32) ∧ Q (1 : Int32) h) ∧
  (¬ x1 ≤ x2 → ∃ k1 : Nat, k1 < 4 ∧ (x2 - (1 : Int32)) = nI k1 ∧ ∃ k2 : Nat, k2 < 4 ∧ x2 = nI k2 ∧ ((h 12 k1) < (h 12 k2) → K2 h x1 (x2 + 1)) ∧
  (¬ (h 12 k1) < (h 12 k2) → isB (0 : Int32) ∧ Q (0 : Int32) h))
def wp_V_allRise_2 (Q : Int32 → RS → Prop) : Nat → RS → Int32 → Int32 → Prop
  | 0 => fun _ _ _ => False
  | n + 1 => bp_V_allRise_2 (wp_V_allRise_2 Q n) Q
def bp_V_allRise_0 (Q : Int32 → RS → Prop) (h : RS) (x1 : Int32) : Prop :=
  ∃ n3 : Nat, wp_V_allRise_2 Q n3 h x1 (1 : Int32)
def wp_V_allRise (h : RS) (x1 : Int32) (Q : Int32 → RS → Prop) : Prop := bp_V_allRise_0 Q h x1
def bp_V_allEqual_2 (K2 : RS → Int32 → Int32 → Prop) (Q : Int32 → RS → Prop) (h : RS) (x1 : Int32) (x2 : Int32) : Prop :=
  (x1 ≤ x2 → isB (1 : Int32) ∧ Q (1 : Int32) h) ∧
  (¬ x1 ≤ x2 → ∃ k1 : Nat, k1 < 4 ∧ x2 = nI k1 ∧ ∃ k2 : Nat, k2 < 4 ∧ (0 : Int32) = nI k2 ∧ ((h 12 k1) = (h 12 k2) → K2 h x1 (x2 + 1)) ∧
  (¬ (h 12 k1) = (h 12 k2) → isB (0 : Int32) ∧ Q (0 : Int32) h))
def wp_V_allEqual_2 (Q : Int32 → RS → Prop) : Nat → RS → Int32 → Int32 → Prop
  | 0 => fun _ _ _ => False
  | n + 1 => bp_V_allEqual_2 (wp_V_allEqual_2 Q n) Q
def bp_V_allEqual_0 (Q : Int32 → RS → Prop) (h : RS) (x1 : Int32) : Prop :=
  ∃ n3 : Nat, wp_V_allEqual_2 Q n3 h x1 (1 : Int32)
def wp_V_allEqual (h : RS) (x1 : Int32) (Q : Int32 → RS → Prop) : Prop := bp_V_allEqual_0 Q h x1
def bp_V_allDiffer_9 (K2 : RS → Int32 → Int32 → Prop) (K9 : RS → Int32 → Int32 → Int32 → Prop) (Q : Int32 → RS → Prop) (h : RS) (x1 : Int32) (x2 : Int32) (x3 : Int32) : Prop :=
  (x2 ≤ x3 → K2 h x1 (x2 + 1)) ∧
  (¬ x2 ≤ x3 → ∃ k1 : Nat, k1 < 4 ∧ x2 = nI k1 ∧ ∃ k2 : Nat, k2 < 4 ∧ x3 = nI k2 ∧ (¬ (h 12 k1) = (h 12 k2) → K9 h x1 x2 (x3 + 1)) ∧
  ((h 12 k1) = (h 12 k2) → isB (0 : Int32) ∧ Q (0 : Int32) h))
def wp_V_allDiffer_9 (K2 : RS → Int32 → Int32 → Prop) (Q : Int32 → RS → Prop) : Nat → RS → Int32 → Int32 → Int32 → Prop
  | 0 => fun _ _ _ _ => False
  | n + 1 => bp_V_allDiffer_9 K2 (wp_V_allDiffer_9 K2 Q n) Q
def bp_V_allDiffer_2 (K2 : RS → Int32 → Int32 → Prop) (Q : Int32 → RS → Prop) (h : RS) (x1 : Int32) (x2 : Int32) : Prop :=
  (x1 ≤ x2 → isB (1 : Int32) ∧ Q (1 : Int32) h) ∧
  (¬ x1 ≤ x2 → ∃ n3 : Nat, wp_V_allDiffer_9 K2 Q n3 h x1 x2 (0 : Int32))
def wp_V_allDiffer_2 (Q : Int32 → RS → Prop) : Nat → RS → Int32 → Int32 → Prop
  | 0 => fun _ _ _ => False
  | n + 1 => bp_V_allDiffer_2 (wp_V_allDiffer_2 Q n) Q
def bp_V_allDiffer_0 (Q : Int32 → RS → Prop) (h : RS) (x1 : Int32) : Prop :=
  ∃ n4 : Nat, wp_V_allDiffer_2 Q n4 h x1 (1 : Int32)
def wp_V_allDiffer (h : RS) (x1 : Int32) (Q : Int32 → RS → Prop) : Prop := bp_V_allDiffer_0 Q h x1
def bp_V_sum_5 (K5 : RS → Int32 → Int64 → Int32 → Prop) (Q : Int64 → RS → Prop) (h : RS) (x1 : Int32) (x2 : Int64) (x4 : Int32) : Prop :=
  (x1 ≤ x4 → Q x2 h) ∧
  (¬ x1 ≤ x4 → ∃ k1 : Nat, k1 < 4 ∧ x4 = nI k1 ∧ K5 h x1 (x2 + (Int32.toInt64 (h 12 k1))) (x4 + 1))
def wp_V_sum_5 (Q : Int64 → RS → Prop) : Nat → RS → Int32 → Int64 → Int32 → Prop
  | 0 => fun _ _ _ _ => False
  | n + 1 => bp_V_sum_5 (wp_V_sum_5 Q n) Q
def bp_V_sum_0 (Q : Int64 → RS → Prop) (h : RS) (x1 : Int32) : Prop :=
  ∃ n2 : Nat, wp_V_sum_5 Q n2 h x1 (0 : Int64) (0 : Int32)
def wp_V_sum (h : RS) (x1 : Int32) (Q : Int64 → RS → Prop) : Prop := bp_V_sum_0 Q h x1
def bp_Re_guardHolds_0 (Q : Int32 → RS → Prop) (h : RS) (i0 : Nat) : Prop :=
  ((h (29 + i0) 4) = 1 → (wp_V_allRise h (h (29 + i0) 0) (fun r1 h2 => isB r1 ∧ Q r1 h2))) ∧
  ((h (29 + i0) 4) = 2 → (wp_V_allEqual h (h (29 + i0) 0) (fun r3 h4 => isB r3 ∧ Q r3 h4))) ∧
  ((h (29 + i0) 4) = 3 → (wp_V_allDiffer h (h (29 + i0) 0) (fun r5 h6 => isB r5 ∧ Q r5 h6))) ∧
  ((h (29 + i0) 4) = 4 → (wp_V_sum h (h (29 + i0) 0) (fun r7 h8 => (0 < (lg_cmp r7 (Int32.toInt64 (h8 (29 + i0) 5))) → isB (0 : Int32) ∧ Q (0 : Int32) h8) ∧
  (¬ 0 < (lg_cmp r7 (Int32.toInt64 (h8 (29 + i0) 5))) → isB (1 : Int32) ∧ Q (1 : Int32) h8)))) ∧
  ((h (29 + i0) 4) = 5 → (((h (29 + i0) 5) = 0 → isB (0 : Int32) ∧ Q (0 : Int32) h) ∧
  (¬ (h (29 + i0) 5) = 0 → wp_V_sum h (h (29 + i0) 0) (fun r9 h10 => ¬ (Int32.toInt64 (h10 (29 + i0) 5)) = 0 ∧ (¬ (lg_cmp (r9 - r9 / (Int32.toInt64 (h10 (29 + i0) 5)) * (Int32.toInt64 (h10 (29 + i0) 5))) (0 : Int64)) = 0 → isB (0 : Int32) ∧ Q (0 : Int32) h10) ∧
  ((lg_cmp (r9 - r9 / (Int32.toInt64 (h10 (29 + i0) 5)) * (Int32.toInt64 (h10 (29 + i0) 5))) (0 : Int64)) = 0 → isB (1 : Int32) ∧ Q (1 : Int32) h10))))) ∧
  (¬ (h (29 + i0) 4) = 1 → ¬ (h (29 + i0) 4) = 2 → ¬ (h (29 + i0) 4) = 3 → ¬ (h (29 + i0) 4) = 4 → ¬ (h (29 + i0) 4) = 5 → (isB (1 : Int32) ∧ Q (1 : Int32) h))
def wp_Re_guardHolds (h : RS) (i0 : Nat) (Q : Int32 → RS → Prop) : Prop := bp_Re_guardHolds_0 Q h i0
def bp_Re_passesTest_0 (Q : Int32 → RS → Prop) (h : RS) (i0 : Nat) (x1 : Int32) (x2 : Int32) : Prop :=
  ∃ k1 : Nat, k1 < 4 ∧ x1 = nI k1 ∧ ∃ k2 : Nat, k2 < 4 ∧ x1 = nI k2 ∧ ((h (45 + i0) k2) = 1 → ((¬ x2 = (h (53 + i0) k1) → isB (0 : Int32) ∧ Q (0 : Int32) h) ∧
  (x2 = (h (53 + i0) k1) → isB (1 : Int32) ∧ Q (1 : Int32) h))) ∧
  ((h (45 + i0) k2) = 2 → (((h (53 + i0) k1) ≤ x2 → isB (0 : Int32) ∧ Q (0 : Int32) h) ∧
  (¬ (h (53 + i0) k1) ≤ x2 → isB (1 : Int32) ∧ Q (1 : Int32) h))) ∧
  ((h (45 + i0) k2) = 3 → ((x2 < (h (53 + i0) k1) → isB (0 : Int32) ∧ Q (0 : Int32) h) ∧
  (¬ x2 < (h (53 + i0) k1) → isB (1 : Int32) ∧ Q (1 : Int32) h))) ∧
  ((h (45 + i0) k2) = 4 → (((x2 &&& (h (53 + i0) k1)) = 0 → isB (0 : Int32) ∧ Q (0 : Int32) h) ∧
  (¬ (x2 &&& (h (53 + i0) k1)) = 0 → isB (1 : Int32) ∧ Q (1 : Int32) h))) ∧
  (¬ (h (45 + i0) k2) = 1 → ¬ (h (45 + i0) k2) = 2 → ¬ (h (45 + i0) k2) = 3 → ¬ (h (45 + i0) k2) = 4 → (isB (1 : Int32) ∧ Q (1 : Int32) h))
def wp_Re_passesTest (h : RS) (i0 : Nat) (x1 : Int32) (x2 : Int32) (Q : Int32 → RS → Prop) : Prop := bp_Re_passesTest_0 Q h i0 x1 x2
def bp_Mt_holdsBefore_2 (K2 : RS → Int32 → Int32 → Int32 → Prop) (Q : Int32 → RS → Prop) (h : RS) (x1 : Int32) (x2 : Int32) (x3 : Int32) : Prop :=
  (x1 ≤ x3 → isB (0 : Int32) ∧ Q (0 : Int32) h) ∧
  (¬ x1 ≤ x3 → ∃ k1 : Nat, k1 < 4 ∧ x3 = nI k1 ∧ (¬ (h 11 k1) = x2 → K2 h x1 x2 (x3 + 1)) ∧
  ((h 11 k1) = x2 → isB (1 : Int32) ∧ Q (1 : Int32) h))
def wp_Mt_holdsBefore_2 (Q : Int32 → RS → Prop) : Nat → RS → Int32 → Int32 → Int32 → Prop
  | 0 => fun _ _ _ _ => False
  | n + 1 => bp_Mt_holdsBefore_2 (wp_Mt_holdsBefore_2 Q n) Q
def bp_Mt_holdsBefore_0 (Q : Int32 → RS → Prop) (h : RS) (x1 : Int32) (x2 : Int32) : Prop :=
  ∃ n2 : Nat, wp_Mt_holdsBefore_2 Q n2 h x1 x2 (0 : Int32)
def wp_Mt_holdsBefore (h : RS) (x1 : Int32) (x2 : Int32) (Q : Int32 → RS → Prop) : Prop := bp_Mt_holdsBefore_0 Q h x1 x2
def bp_V_fillMatch_38 (Rc : RS → Nat → Int32 → (Int32 → RS → Prop) → Prop) (K38 : RS → Nat → Int32 → Nat → Int32 → Prop) (Q : Int32 → RS → Prop) (h : RS) (i1 : Nat) (x4 : Int32) (i5 : Nat) (x6 : Int32) : Prop :=
  ((h (13 + i5) 2) ≤ x6 → isB (0 : Int32) ∧ Q (0 : Int32) h) ∧
  (¬ (h (13 + i5) 2) ≤ x6 → ∃ k1 : Nat, k1 < 6 ∧ x6 = nI k1 ∧ ∃ k2 : Nat, k2 < 300 ∧ (h (21 + i5) k1) = nI k2 ∧ wp_Re_passesTest h i1 x4 (h 7 k2) (fun r3 h4 => (r3 = 0 → K38 h4 i1 x4 i5 (x6 + 1)) ∧
  (¬ r3 = 0 → wp_Mt_holdsBefore h4 x4 (h (21 + i5) k1) (fun r5 h6 => (¬ r5 = 0 → K38 h6 i1 x4 i5 (x6 + 1)) ∧
  (r5 = 0 → ∃ k7 : Nat, k7 < 4 ∧ x4 = nI k7 ∧ ∀ h8 : RS, h8 = up2 h6 11 k7 (h (21 + i5) k1) → ∃ k9 : Nat, k9 < 4 ∧ x4 = nI k9 ∧ ∀ h10 : RS, h10 = up2 h8 12 k9 (h 7 k2) → Rc h10 i1 (x4 + (1 : Int32)) (fun r11 h12 => (r11 = 0 → K38 h12 i1 x4 i5 (x6 + 1)) ∧
  (¬ r11 = 0 → isB (1 : Int32) ∧ Q (1 : Int32) h12)))))))
def wp_V_fillMatch_38 (Rc : RS → Nat → Int32 → (Int32 → RS → Prop) → Prop) (Q : Int32 → RS → Prop) : Nat → RS → Nat → Int32 → Nat → Int32 → Prop
  | 0 => fun _ _ _ _ _ => False
  | n + 1 => bp_V_fillMatch_38 Rc (wp_V_fillMatch_38 Rc Q n) Q
def bp_V_fillMatch_15 (Rc : RS → Nat → Int32 → (Int32 → RS → Prop) → Prop) (Q : Int32 → RS → Prop) (h : RS) (i1 : Nat) : Prop :=
  wp_Re_guardHolds h i1 (fun r13 h14 => isB r13 ∧ Q r13 h14)
def bp_V_fillMatch_0 (Rc : RS → Nat → Int32 → (Int32 → RS → Prop) → Prop) (Q : Int32 → RS → Prop) (h : RS) (i1 : Nat) (x4 : Int32) : Prop :=
  ((4 : Int32) ≤ x4 → bp_V_fillMatch_15 Rc Q h i1) ∧
  (¬ (4 : Int32) ≤ x4 → (x4 < (h (29 + i1) 0) → ∃ k15 : Nat, k15 < 4 ∧ x4 = nI k15 ∧ ∃ k16 : Nat, k16 < 8 ∧ (h (37 + i1) k15) = nI k16 ∧ ∃ n17 : Nat, wp_V_fillMatch_38 Rc Q n17 h i1 x4 k16 (0 : Int32)) ∧
  (¬ x4 < (h (29 + i1) 0) → bp_V_fillMatch_15 Rc Q h i1))
def wp_V_fillMatch : Nat → RS → Nat → Int32 → (Int32 → RS → Prop) → Prop
  | 0 => fun _ _ _ _ => False
  | dd + 1 => fun h i1 x4 Q => bp_V_fillMatch_0 (wp_V_fillMatch dd) Q h i1 x4
def bp_V_findEnabledMatch_0 (Q : Int32 → RS → Prop) (h : RS) (x1 : Int32) : Prop :=
  ((h 0 4) = 0 → isB (0 : Int32) ∧ Q (0 : Int32) h) ∧
  (¬ (h 0 4) = 0 → ∃ k1 : Nat, k1 < 8 ∧ x1 = nI k1 ∧ wp_V_hasRoom h k1 (fun r2 h3 => (r2 = 0 → isB (0 : Int32) ∧ Q (0 : Int32) h3) ∧
  (¬ r2 = 0 → ∃ k4 : Nat, k4 < 8 ∧ x1 = nI k4 ∧ ∃ d7 : Nat, d7 ≤ 5 ∧ wp_V_fillMatch d7 h3 k4 (0 : Int32) (fun r5 h6 => (r5 = 0 → isB (0 : Int32) ∧ Q (0 : Int32) h6) ∧
  (¬ r5 = 0 → isB (1 : Int32) ∧ Q (1 : Int32) h6)))))
def wp_V_findEnabledMatch (h : RS) (x1 : Int32) (Q : Int32 → RS → Prop) : Prop := bp_V_findEnabledMatch_0 Q h x1
def bp_V_findNext_27 (K27 : RS → Int32 → Int32 → Prop) (Q : Int32 → RS → Prop) (h : RS) (x1 : Int32) (x2 : Int32) : Prop :=
  ((h 0 3) ≤ x2 → Q (-1 : Int32) h) ∧
  (¬ (h 0 3) ≤ x2 → ¬ (h 0 3) = 0 ∧ wp_V_findEnabledMatch h ((x1 + x2) - (x1 + x2) / (h 0 3) * (h 0 3)) (fun r1 h2 => (r1 = 0 → K27 h2 x1 (x2 + 1)) ∧
  (¬ r1 = 0 → Q ((x1 + x2) - (x1 + x2) / (h 0 3) * (h 0 3)) h2)))
def wp_V_findNext_27 (Q : Int32 → RS → Prop) : Nat → RS → Int32 → Int32 → Prop
  | 0 => fun _ _ _ => False
  | n + 1 => bp_V_findNext_27 (wp_V_findNext_27 Q n) Q
def bp_V_findNext_24 (Q : Int32 → RS → Prop) (h : RS) (y0 : Int32) : Prop :=
  ∃ n3 : Nat, wp_V_findNext_27 Q n3 h y0 (0 : Int32)
def bp_V_findNext_0 (Q : Int32 → RS → Prop) (h : RS) : Prop :=
  (¬ (h 0 8) = 0 → ∃ k4 : Nat, k4 < 300 ∧ ((h 0 8) - (1 : Int32)) = nI k4 ∧ bp_V_findNext_24 Q h ((h 5 k4) + (1 : Int32))) ∧
  ((h 0 8) = 0 → bp_V_findNext_24 Q h (0 : Int32))
def wp_V_findNext (h : RS) (Q : Int32 → RS → Prop) : Prop := bp_V_findNext_0 Q h
def bp_V_consume_0 (Q : RS → Prop) (h : RS) (x1 : Int32) : Prop :=
  ∃ k1 : Nat, k1 < 300 ∧ x1 = nI k1 ∧ ∀ h2 : RS, h2 = up2 h 8 k1 (2 : Int32) → ∃ k3 : Nat, k3 < 300 ∧ x1 = nI k3 ∧ ∀ h4 : RS, h4 = up2 h2 9 k3 (h2 0 8) → ∃ k5 : Nat, k5 < 300 ∧ x1 = nI k5 ∧ ∃ k6 : Nat, k6 < 8 ∧ (h4 6 k5) = nI k6 ∧ wp_Ch_removePending h4 k6 x1 (fun h7 => Q h7)
def wp_V_consume (h : RS) (x1 : Int32) (Q : RS → Prop) : Prop := bp_V_consume_0 Q h x1
def bp_V_greatest_6 (K6 : RS → Int32 → Int32 → Int32 → Prop) (Q : Int32 → RS → Prop) (h : RS) (x1 : Int32) (x2 : Int32) (x3 : Int32) : Prop :=
  (x1 ≤ x3 → Q x2 h) ∧
  (¬ x1 ≤ x3 → ∃ k1 : Nat, k1 < 4 ∧ x3 = nI k1 ∧ K6 h x1 (if x2 < (h 12 k1) then (h 12 k1) else x2) (x3 + 1))
def wp_V_greatest_6 (Q : Int32 → RS → Prop) : Nat → RS → Int32 → Int32 → Int32 → Prop
  | 0 => fun _ _ _ _ => False
  | n + 1 => bp_V_greatest_6 (wp_V_greatest_6 Q n) Q
def bp_V_greatest_0 (Q : Int32 → RS → Prop) (h : RS) (x1 : Int32) : Prop :=
  ∃ k2 : Nat, k2 < 4 ∧ (0 : Int32) = nI k2 ∧ ∃ n3 : Nat, wp_V_greatest_6 Q n3 h x1 (h 12 k2) (1 : Int32)
def wp_V_greatest (h : RS) (x1 : Int32) (Q : Int32 → RS → Prop) : Prop := bp_V_greatest_0 Q h x1
def bp_Re_evaluate_0 (Q : Int32 → RS → Prop) (h : RS) (i0 : Nat) (x1 : Int32) : Prop :=
  ∃ k1 : Nat, k1 < 4 ∧ x1 = nI k1 ∧ ∃ k2 : Nat, k2 < 4 ∧ x1 = nI k2 ∧ ((h (77 + i0) k2) = 1 → (∃ k3 : Nat, k3 < 4 ∧ x1 = nI k3 ∧ ∃ k4 : Nat, k4 < 4 ∧ (h (85 + i0) k3) = nI k4 ∧ Q ((h 12 k4) + (h (93 + i0) k1)) h)) ∧
  ((h (77 + i0) k2) = 2 → (∃ k5 : Nat, k5 < 4 ∧ x1 = nI k5 ∧ ∃ k6 : Nat, k6 < 4 ∧ (h (85 + i0) k5) = nI k6 ∧ Q ((h 12 k6) * (h (93 + i0) k1)) h)) ∧
  ((h (77 + i0) k2) = 3 → (wp_V_sum h (h (29 + i0) 0) (fun r7 h8 => Q ((Int64.toInt32 r7) + (h (93 + i0) k1)) h8))) ∧
  ((h (77 + i0) k2) = 4 → (wp_V_greatest h (h (29 + i0) 0) (fun r9 h10 => Q r9 h10))) ∧
  (¬ (h (77 + i0) k2) = 1 → ¬ (h (77 + i0) k2) = 2 → ¬ (h (77 + i0) k2) = 3 → ¬ (h (77 + i0) k2) = 4 → (Q (h (93 + i0) k1) h))
def wp_Re_evaluate (h : RS) (i0 : Nat) (x1 : Int32) (Q : Int32 → RS → Prop) : Prop := bp_Re_evaluate_0 Q h i0 x1
def bp_V_fire_38 (K38 : RS → Int32 → Nat → Int32 → Prop) (Q : RS → Prop) (h : RS) (x1 : Int32) (i2 : Nat) (x3 : Int32) : Prop :=
  ((h (29 + i2) 6) ≤ x3 → ∃ k1 : Nat, k1 < 300 ∧ (h 0 8) = nI k1 ∧ ∀ h2 : RS, h2 = up2 h 5 k1 x1 → ∀ h3 : RS, h3 = up2 h2 0 8 ((h2 0 8) + (1 : Int32)) → Q h3) ∧
  (¬ (h (29 + i2) 6) ≤ x3 → wp_Re_evaluate h i2 x3 (fun r4 h5 => ∃ k6 : Nat, k6 < 4 ∧ x3 = nI k6 ∧ ((h5 (61 + i2) k6) = 0 → ∃ k7 : Nat, k7 < 4 ∧ x3 = nI k7 ∧ ∃ k8 : Nat, k8 < 4 ∧ (h5 (69 + i2) k7) = nI k8 ∧ ∃ k9 : Nat, k9 < 300 ∧ (h5 11 k8) = nI k9 ∧ ∀ h10 : RS, h10 = up2 h5 10 k9 r4 → K38 h10 x1 i2 (x3 + 1)) ∧
  (¬ (h5 (61 + i2) k6) = 0 → ∃ k11 : Nat, k11 < 4 ∧ x3 = nI k11 ∧ wp_V_makeMessage h5 (h5 (69 + i2) k11) r4 (fun r12 h13 => K38 h13 x1 i2 (x3 + 1)))))
def wp_V_fire_38 (Q : RS → Prop) : Nat → RS → Int32 → Nat → Int32 → Prop
  | 0 => fun _ _ _ _ => False
  | n + 1 => bp_V_fire_38 (wp_V_fire_38 Q n) Q
def bp_V_fire_9 (K9 : RS → Int32 → Nat → Int32 → Prop) (Q : RS → Prop) (h : RS) (x1 : Int32) (i2 : Nat) (x3 : Int32) : Prop :=
  ((h (29 + i2) 0) ≤ x3 → ∃ n14 : Nat, wp_V_fire_38 Q n14 h x1 i2 (0 : Int32)) ∧
  (¬ (h (29 + i2) 0) ≤ x3 → ∃ k15 : Nat, k15 < 4 ∧ x3 = nI k15 ∧ wp_V_consume h (h 11 k15) (fun h16 => K9 h16 x1 i2 (x3 + 1)))
def wp_V_fire_9 (Q : RS → Prop) : Nat → RS → Int32 → Nat → Int32 → Prop
  | 0 => fun _ _ _ _ => False
  | n + 1 => bp_V_fire_9 (wp_V_fire_9 Q n) Q
def bp_V_fire_0 (Q : RS → Prop) (h : RS) (x1 : Int32) : Prop :=
  ∃ k17 : Nat, k17 < 8 ∧ x1 = nI k17 ∧ ∃ n18 : Nat, wp_V_fire_9 Q n18 h x1 k17 (0 : Int32)
def wp_V_fire (h : RS) (x1 : Int32) (Q : RS → Prop) : Prop := bp_V_fire_0 Q h x1
def bp_V_react_19 (K19 : RS → Int32 → Int32 → Prop) (Q : Int32 → RS → Prop) (h : RS) (x1 : Int32) (x2 : Int32) : Prop :=
  (x1 ≤ x2 → Q x1 h) ∧
  (¬ x1 ≤ x2 → wp_V_findNext h (fun r1 h2 => (¬ r1 = (-1 : Int32) → wp_V_fire h2 r1 (fun h3 => K19 h3 x1 (x2 + 1))) ∧
  (r1 = (-1 : Int32) → Q x2 h2)))
def wp_V_react_19 (Q : Int32 → RS → Prop) : Nat → RS → Int32 → Int32 → Prop
  | 0 => fun _ _ _ => False
  | n + 1 => bp_V_react_19 (wp_V_react_19 Q n) Q
def bp_V_react_0 (Q : Int32 → RS → Prop) (h : RS) (x1 : Int32) : Prop :=
  ((h 0 4) = 0 → Q (-1 : Int32) h) ∧
  (¬ (h 0 4) = 0 → wp_V_isWithin h x1 (5 : Int32) (fun r4 h5 => (¬ r4 = 0 → ∃ n6 : Nat, wp_V_react_19 Q n6 h5 x1 (0 : Int32)) ∧
  (r4 = 0 → Q (-1 : Int32) h5)))
def wp_V_react (h : RS) (x1 : Int32) (Q : Int32 → RS → Prop) : Prop := bp_V_react_0 Q h x1
def bp_V_enabled_4 (K4 : RS → Int32 → Int32 → Prop) (Q : Int32 → RS → Prop) (h : RS) (x1 : Int32) (x2 : Int32) : Prop :=
  ((h 0 3) ≤ x2 → Q x1 h) ∧
  (¬ (h 0 3) ≤ x2 → wp_V_findEnabledMatch h x2 (fun r1 h2 => (r1 = 0 → K4 h2 x1 (x2 + 1)) ∧
  (¬ r1 = 0 → K4 h2 (x1 ||| ((1 : Int32) <<< (x2 &&& 31))) (x2 + 1))))
def wp_V_enabled_4 (Q : Int32 → RS → Prop) : Nat → RS → Int32 → Int32 → Prop
  | 0 => fun _ _ _ => False
  | n + 1 => bp_V_enabled_4 (wp_V_enabled_4 Q n) Q
def bp_V_enabled_0 (Q : Int32 → RS → Prop) (h : RS) : Prop :=
  ∃ n3 : Nat, wp_V_enabled_4 Q n3 h (0 : Int32) (0 : Int32)
def wp_V_enabled (h : RS) (Q : Int32 → RS → Prop) : Prop := bp_V_enabled_0 Q h
def bp_V_next_0 (Q : Int32 → RS → Prop) (h : RS) : Prop :=
  wp_V_findNext h (fun r1 h2 => Q r1 h2)
def wp_V_next (h : RS) (Q : Int32 → RS → Prop) : Prop := bp_V_next_0 Q h
def bp_V_taken_0 (Q : Int32 → RS → Prop) (h : RS) (x1 : Int32) : Prop :=
  wp_V_findNext h (fun r1 h2 => (r1 = (-1 : Int32) → Q (-1 : Int32) h2) ∧
  (¬ r1 = (-1 : Int32) → ∃ k3 : Nat, k3 < 8 ∧ r1 = nI k3 ∧ wp_Re_hasPart h2 k3 x1 (fun r4 h5 => (¬ r4 = 0 → ∃ k6 : Nat, k6 < 4 ∧ x1 = nI k6 ∧ Q (h5 11 k6) h5) ∧
  (r4 = 0 → Q (-1 : Int32) h5))))
def wp_V_taken (h : RS) (x1 : Int32) (Q : Int32 → RS → Prop) : Prop := bp_V_taken_0 Q h x1
def bp_V_pendingAt_0 (Q : Int32 → RS → Prop) (h : RS) (x1 : Int32) (x2 : Int32) : Prop :=
  wp_V_isChannel h x1 (fun r1 h2 => (r1 = 0 → Q (-1 : Int32) h2) ∧
  (¬ r1 = 0 → (x2 < 0 → Q (-1 : Int32) h2) ∧
  (¬ x2 < 0 → ∃ k3 : Nat, k3 < 8 ∧ x1 = nI k3 ∧ (x2 < (h2 (13 + k3) 2) → ∃ k4 : Nat, k4 < 8 ∧ x1 = nI k4 ∧ ∃ k5 : Nat, k5 < 6 ∧ x2 = nI k5 ∧ Q (h2 (21 + k4) k5) h2) ∧
  (¬ x2 < (h2 (13 + k3) 2) → Q (-1 : Int32) h2))))
def wp_V_pendingAt (h : RS) (x1 : Int32) (x2 : Int32) (Q : Int32 → RS → Prop) : Prop := bp_V_pendingAt_0 Q h x1 x2
def bp_V_value_0 (Q : Int32 → RS → Prop) (h : RS) (x1 : Int32) : Prop :=
  wp_Ms_has h x1 (fun r1 h2 => (r1 = 0 → Q (0 : Int32) h2) ∧
  (¬ r1 = 0 → ∃ k3 : Nat, k3 < 300 ∧ x1 = nI k3 ∧ Q (h2 7 k3) h2))
def wp_V_value (h : RS) (x1 : Int32) (Q : Int32 → RS → Prop) : Prop := bp_V_value_0 Q h x1
def bp_V_state_0 (Q : Int32 → RS → Prop) (h : RS) (x1 : Int32) : Prop :=
  wp_Ms_has h x1 (fun r1 h2 => (r1 = 0 → Q (0 : Int32) h2) ∧
  (¬ r1 = 0 → ∃ k3 : Nat, k3 < 300 ∧ x1 = nI k3 ∧ Q (h2 8 k3) h2))
def wp_V_state (h : RS) (x1 : Int32) (Q : Int32 → RS → Prop) : Prop := bp_V_state_0 Q h x1
def bp_V_consumer_0 (Q : Int32 → RS → Prop) (h : RS) (x1 : Int32) : Prop :=
  wp_Ms_has h x1 (fun r1 h2 => (r1 = 0 → Q (-1 : Int32) h2) ∧
  (¬ r1 = 0 → ∃ k3 : Nat, k3 < 300 ∧ x1 = nI k3 ∧ Q (h2 9 k3) h2))
def wp_V_consumer (h : RS) (x1 : Int32) (Q : Int32 → RS → Prop) : Prop := bp_V_consumer_0 Q h x1
def bp_V_answer_0 (Q : Int32 → RS → Prop) (h : RS) (x1 : Int32) : Prop :=
  wp_Ms_has h x1 (fun r1 h2 => (r1 = 0 → Q (0 : Int32) h2) ∧
  (¬ r1 = 0 → ∃ k3 : Nat, k3 < 300 ∧ x1 = nI k3 ∧ Q (h2 10 k3) h2))
def wp_V_answer (h : RS) (x1 : Int32) (Q : Int32 → RS → Prop) : Prop := bp_V_answer_0 Q h x1
def bp_V_fired_0 (Q : Int32 → RS → Prop) (h : RS) (x1 : Int32) : Prop :=
  (x1 < 0 → Q (-1 : Int32) h) ∧
  (¬ x1 < 0 → ((h 0 8) ≤ x1 → Q (-1 : Int32) h) ∧
  (¬ (h 0 8) ≤ x1 → ∃ k1 : Nat, k1 < 300 ∧ x1 = nI k1 ∧ Q (h 5 k1) h))
def wp_V_fired (h : RS) (x1 : Int32) (Q : Int32 → RS → Prop) : Prop := bp_V_fired_0 Q h x1
def bp_M_channel_0 (Q : Int32 → RS → Prop) (h : RS) (x1 : Int32) : Prop :=
  (¬ (h 0 15) = 0 → Q (-1 : Int32) h) ∧
  ((h 0 15) = 0 → ((h 0 0) < (8 : Int32) → ∃ k1 : Nat, k1 < 8 ∧ (h 0 0) = nI k1 ∧ isB x1 ∧ ∀ h2 : RS, h2 = up2 h 1 k1 x1 → ∀ h3 : RS, h3 = up2 h2 0 0 ((h2 0 0) + (1 : Int32)) → Q ((h3 0 0) - (1 : Int32)) h3) ∧
  (¬ (h 0 0) < (8 : Int32) → Q (-1 : Int32) h))
def wp_M_channel (h : RS) (x1 : Int32) (Q : Int32 → RS → Prop) : Prop := bp_M_channel_0 Q h x1
def bp_M_reaction_0 (Q : Int32 → RS → Prop) (h : RS) : Prop :=
  (¬ (h 0 15) = 0 → Q (-1 : Int32) h) ∧
  ((h 0 15) = 0 → ((h 0 2) < (8 : Int32) → ∀ h1 : RS, h1 = up2 h 0 2 ((h 0 2) + (1 : Int32)) → Q ((h1 0 2) - (1 : Int32)) h1) ∧
  (¬ (h 0 2) < (8 : Int32) → Q (-1 : Int32) h))
def wp_M_reaction (h : RS) (Q : Int32 → RS → Prop) : Prop := bp_M_reaction_0 Q h
def bp_M_open_0 (Q : Int32 → RS → Prop) (h : RS) (x1 : Int32) : Prop :=
  (¬ (h 0 15) = 0 → isB (0 : Int32) ∧ Q (0 : Int32) h) ∧
  ((h 0 15) = 0 → (x1 < 0 → isB (0 : Int32) ∧ Q (0 : Int32) h) ∧
  (¬ x1 < 0 → ((h 0 2) ≤ x1 → isB (0 : Int32) ∧ Q (0 : Int32) h) ∧
  (¬ (h 0 2) ≤ x1 → isB (1 : Int32) ∧ Q (1 : Int32) h)))
def wp_M_open (h : RS) (x1 : Int32) (Q : Int32 → RS → Prop) : Prop := bp_M_open_0 Q h x1
def bp_M_isChannel_0 (Q : Int32 → RS → Prop) (h : RS) (x1 : Int32) : Prop :=
  (x1 < 0 → isB (0 : Int32) ∧ Q (0 : Int32) h) ∧
  (¬ x1 < 0 → ((h 0 0) ≤ x1 → isB (0 : Int32) ∧ Q (0 : Int32) h) ∧
  (¬ (h 0 0) ≤ x1 → isB (1 : Int32) ∧ Q (1 : Int32) h))
def wp_M_isChannel (h : RS) (x1 : Int32) (Q : Int32 → RS → Prop) : Prop := bp_M_isChannel_0 Q h x1
def bp_M_hasPart_0 (Q : Int32 → RS → Prop) (h : RS) (x1 : Int32) (x2 : Int32) : Prop :=
  (x2 < 0 → isB (0 : Int32) ∧ Q (0 : Int32) h) ∧
  (¬ x2 < 0 → ∃ k1 : Nat, k1 < 8 ∧ x1 = nI k1 ∧ ((h 2 k1) ≤ x2 → isB (0 : Int32) ∧ Q (0 : Int32) h) ∧
  (¬ (h 2 k1) ≤ x2 → isB (1 : Int32) ∧ Q (1 : Int32) h))
def wp_M_hasPart (h : RS) (x1 : Int32) (x2 : Int32) (Q : Int32 → RS → Prop) : Prop := bp_M_hasPart_0 Q h x1 x2
def bp_M_part_0 (Q : Int32 → RS → Prop) (h : RS) (x1 : Int32) (x2 : Int32) (x3 : Int32) (x4 : Int32) : Prop :=
  wp_M_open h x1 (fun r1 h2 => (r1 = 0 → Q (-1 : Int32) h2) ∧
  (¬ r1 = 0 → wp_M_isChannel h2 x2 (fun r3 h4 => (r3 = 0 → Q (-1 : Int32) h4) ∧
  (¬ r3 = 0 → (x3 < 0 → Q (-1 : Int32) h4) ∧
  (¬ x3 < 0 → ((4 : Int32) < x3 → Q (-1 : Int32) h4) ∧
  (¬ (4 : Int32) < x3 → ∃ k5 : Nat, k5 < 8 ∧ x1 = nI k5 ∧ ((h4 2 k5) < (4 : Int32) → ∃ k6 : Nat, k6 < 8 ∧ x1 = nI k6 ∧ ∃ k7 : Nat, k7 < 32 ∧ (((4 : Int32) * x1) + (h4 2 k6)) = nI k7 ∧ ∀ h8 : RS, h8 = up2 h4 3 k7 x2 → ∃ k9 : Nat, k9 < 32 ∧ (((4 : Int32) * x1) + (h4 2 k6)) = nI k9 ∧ ∀ h10 : RS, h10 = up2 h8 4 k9 x3 → ∃ k11 : Nat, k11 < 32 ∧ (((4 : Int32) * x1) + (h4 2 k6)) = nI k11 ∧ ∀ h12 : RS, h12 = up2 h10 5 k11 x4 → ∃ k13 : Nat, k13 < 8 ∧ x1 = nI k13 ∧ ∃ k14 : Nat, k14 < 8 ∧ x1 = nI k14 ∧ ∀ h15 : RS, h15 = up2 h12 2 k14 ((h12 2 k13) + (1 : Int32)) → ∃ k16 : Nat, k16 < 8 ∧ x1 = nI k16 ∧ Q ((h15 2 k16) - (1 : Int32)) h15) ∧
  (¬ (h4 2 k5) < (4 : Int32) → Q (-1 : Int32) h4)))))))
def wp_M_part (h : RS) (x1 : Int32) (x2 : Int32) (x3 : Int32) (x4 : Int32) (Q : Int32 → RS → Prop) : Prop := bp_M_part_0 Q h x1 x2 x3 x4
def bp_M_guard_0 (Q : Int32 → RS → Prop) (h : RS) (x1 : Int32) (x2 : Int32) (x3 : Int32) : Prop :=
  wp_M_open h x1 (fun r1 h2 => (r1 = 0 → isB (0 : Int32) ∧ Q (0 : Int32) h2) ∧
  (¬ r1 = 0 → (x2 < 0 → isB (0 : Int32) ∧ Q (0 : Int32) h2) ∧
  (¬ x2 < 0 → (x2 ≤ (5 : Int32) → ∃ k3 : Nat, k3 < 8 ∧ x1 = nI k3 ∧ ∀ h4 : RS, h4 = up2 h2 6 k3 x2 → ∃ k5 : Nat, k5 < 8 ∧ x1 = nI k5 ∧ ∀ h6 : RS, h6 = up2 h4 7 k5 x3 → isB (1 : Int32) ∧ Q (1 : Int32) h6) ∧
  (¬ x2 ≤ (5 : Int32) → isB (0 : Int32) ∧ Q (0 : Int32) h2))))
def wp_M_guard (h : RS) (x1 : Int32) (x2 : Int32) (x3 : Int32) (Q : Int32 → RS → Prop) : Prop := bp_M_guard_0 Q h x1 x2 x3
def bp_M_expression_19 (Q : Int32 → RS → Prop) (h : RS) (x1 : Int32) (x3 : Int32) : Prop :=
  wp_M_hasPart h x1 x3 (fun r1 h2 => (r1 = 0 → isB (0 : Int32) ∧ Q (0 : Int32) h2) ∧
  (¬ r1 = 0 → isB (1 : Int32) ∧ Q (1 : Int32) h2))
def bp_M_expression_0 (Q : Int32 → RS → Prop) (h : RS) (x1 : Int32) (x2 : Int32) (x3 : Int32) : Prop :=
  (x2 < 0 → isB (0 : Int32) ∧ Q (0 : Int32) h) ∧
  (¬ x2 < 0 → ((4 : Int32) < x2 → isB (0 : Int32) ∧ Q (0 : Int32) h) ∧
  (¬ (4 : Int32) < x2 → (x2 = (1 : Int32) → bp_M_expression_19 Q h x1 x3) ∧
  (¬ x2 = (1 : Int32) → (¬ x2 = (2 : Int32) → isB (1 : Int32) ∧ Q (1 : Int32) h) ∧
  (x2 = (2 : Int32) → bp_M_expression_19 Q h x1 x3))))
def wp_M_expression (h : RS) (x1 : Int32) (x2 : Int32) (x3 : Int32) (Q : Int32 → RS → Prop) : Prop := bp_M_expression_0 Q h x1 x2 x3
def bp_M_act_0 (Q : RS → Prop) (h : RS) (x1 : Int32) (x2 : Int32) (x3 : Int32) (x4 : Int32) (x5 : Int32) : Prop :=
  ∃ k1 : Nat, k1 < 8 ∧ x1 = nI k1 ∧ ∃ k2 : Nat, k2 < 32 ∧ (((4 : Int32) * x1) + (h 8 k1)) = nI k2 ∧ ∀ h3 : RS, h3 = up2 h 9 k2 x2 → ∃ k4 : Nat, k4 < 32 ∧ (((4 : Int32) * x1) + (h 8 k1)) = nI k4 ∧ ∀ h5 : RS, h5 = up2 h3 10 k4 x3 → ∃ k6 : Nat, k6 < 32 ∧ (((4 : Int32) * x1) + (h 8 k1)) = nI k6 ∧ ∀ h7 : RS, h7 = up2 h5 11 k6 x4 → ∃ k8 : Nat, k8 < 32 ∧ (((4 : Int32) * x1) + (h 8 k1)) = nI k8 ∧ ∀ h9 : RS, h9 = up2 h7 12 k8 x5 → ∃ k10 : Nat, k10 < 8 ∧ x1 = nI k10 ∧ ∃ k11 : Nat, k11 < 8 ∧ x1 = nI k11 ∧ ∀ h12 : RS, h12 = up2 h9 8 k11 ((h9 8 k10) + (1 : Int32)) → Q h12
def wp_M_act (h : RS) (x1 : Int32) (x2 : Int32) (x3 : Int32) (x4 : Int32) (x5 : Int32) (Q : RS → Prop) : Prop := bp_M_act_0 Q h x1 x2 x3 x4 x5
def bp_M_emit_0 (Q : Int32 → RS → Prop) (h : RS) (x1 : Int32) (x2 : Int32) (x3 : Int32) (x4 : Int32) (x5 : Int32) : Prop :=
  wp_M_open h x1 (fun r1 h2 => (r1 = 0 → isB (0 : Int32) ∧ Q (0 : Int32) h2) ∧
  (¬ r1 = 0 → wp_M_isChannel h2 x2 (fun r3 h4 => (r3 = 0 → isB (0 : Int32) ∧ Q (0 : Int32) h4) ∧
  (¬ r3 = 0 → ∃ k5 : Nat, k5 < 8 ∧ x2 = nI k5 ∧ (¬ (h4 1 k5) = 0 → isB (0 : Int32) ∧ Q (0 : Int32) h4) ∧
  ((h4 1 k5) = 0 → wp_M_expression h4 x1 x3 x4 (fun r6 h7 => (r6 = 0 → isB (0 : Int32) ∧ Q (0 : Int32) h7) ∧
  (¬ r6 = 0 → ∃ k8 : Nat, k8 < 8 ∧ x1 = nI k8 ∧ ((h7 8 k8) < (4 : Int32) → ∃ k9 : Nat, k9 < 8 ∧ x1 = nI k9 ∧ ∃ k10 : Nat, k10 < 32 ∧ (((4 : Int32) * x1) + (h7 8 k9)) = nI k10 ∧ ∀ h11 : RS, h11 = up2 h7 13 k10 x5 → wp_M_act h11 x1 x2 (-1 : Int32) x3 x4 (fun h12 => isB (1 : Int32) ∧ Q (1 : Int32) h12)) ∧
  (¬ (h7 8 k8) < (4 : Int32) → isB (0 : Int32) ∧ Q (0 : Int32) h7))))))))
def wp_M_emit (h : RS) (x1 : Int32) (x2 : Int32) (x3 : Int32) (x4 : Int32) (x5 : Int32) (Q : Int32 → RS → Prop) : Prop := bp_M_emit_0 Q h x1 x2 x3 x4 x5
def bp_M_answersPart_53 (K5 : RS → Int32 → Int32 → Int32 → Int32 → Prop) (Q : Int32 → RS → Prop) (h : RS) (x1 : Int32) (x2 : Int32) (x4 : Int32) : Prop :=
  K5 h x1 x2 (0 : Int32) (x4 + 1)
def bp_M_answersPart_49 (K5 : RS → Int32 → Int32 → Int32 → Int32 → Prop) (Q : Int32 → RS → Prop) (h : RS) (x1 : Int32) (x2 : Int32) (x4 : Int32) : Prop :=
  K5 h x1 x2 (1 : Int32) (x4 + 1)
def bp_M_answersPart_5 (K5 : RS → Int32 → Int32 → Int32 → Int32 → Prop) (Q : Int32 → RS → Prop) (h : RS) (x1 : Int32) (x2 : Int32) (x3 : Int32) (x4 : Int32) : Prop :=
  ∃ k1 : Nat, k1 < 8 ∧ x1 = nI k1 ∧ ((h 8 k1) ≤ x4 → isB x3 ∧ Q x3 h) ∧
  (¬ (h 8 k1) ≤ x4 → (¬ x3 = 0 → bp_M_answersPart_49 K5 Q h x1 x2 x4) ∧
  (x3 = 0 → ∃ k2 : Nat, k2 < 32 ∧ (((4 : Int32) * x1) + x4) = nI k2 ∧ (0 ≤ (h 9 k2) → bp_M_answersPart_53 K5 Q h x1 x2 x4) ∧
  (¬ 0 ≤ (h 9 k2) → ∃ k3 : Nat, k3 < 32 ∧ (((4 : Int32) * x1) + x4) = nI k3 ∧ (¬ (h 10 k3) = x2 → bp_M_answersPart_53 K5 Q h x1 x2 x4) ∧
  ((h 10 k3) = x2 → bp_M_answersPart_49 K5 Q h x1 x2 x4))))
def wp_M_answersPart_5 (Q : Int32 → RS → Prop) : Nat → RS → Int32 → Int32 → Int32 → Int32 → Prop
  | 0 => fun _ _ _ _ _ => False
  | n + 1 => bp_M_answersPart_5 (wp_M_answersPart_5 Q n) Q
def bp_M_answersPart_0 (Q : Int32 → RS → Prop) (h : RS) (x1 : Int32) (x2 : Int32) : Prop :=
  ∃ n4 : Nat, wp_M_answersPart_5 Q n4 h x1 x2 (0 : Int32) (0 : Int32)
def wp_M_answersPart (h : RS) (x1 : Int32) (x2 : Int32) (Q : Int32 → RS → Prop) : Prop := bp_M_answersPart_0 Q h x1 x2
def bp_M_reply_0 (Q : Int32 → RS → Prop) (h : RS) (x1 : Int32) (x2 : Int32) (x3 : Int32) (x4 : Int32) (x5 : Int32) : Prop :=
  wp_M_open h x1 (fun r1 h2 => (r1 = 0 → isB (0 : Int32) ∧ Q (0 : Int32) h2) ∧
  (¬ r1 = 0 → wp_M_hasPart h2 x1 x2 (fun r3 h4 => (r3 = 0 → isB (0 : Int32) ∧ Q (0 : Int32) h4) ∧
  (¬ r3 = 0 → ∃ k5 : Nat, k5 < 32 ∧ (((4 : Int32) * x1) + x2) = nI k5 ∧ ∃ k6 : Nat, k6 < 8 ∧ (h4 3 k5) = nI k6 ∧ (¬ (h4 1 k6) = 0 → wp_M_answersPart h4 x1 x2 (fun r7 h8 => (¬ r7 = 0 → isB (0 : Int32) ∧ Q (0 : Int32) h8) ∧
  (r7 = 0 → wp_M_expression h8 x1 x3 x4 (fun r9 h10 => (r9 = 0 → isB (0 : Int32) ∧ Q (0 : Int32) h10) ∧
  (¬ r9 = 0 → ∃ k11 : Nat, k11 < 8 ∧ x1 = nI k11 ∧ ((h10 8 k11) < (4 : Int32) → ∃ k12 : Nat, k12 < 8 ∧ x1 = nI k12 ∧ ∃ k13 : Nat, k13 < 32 ∧ (((4 : Int32) * x1) + (h10 8 k12)) = nI k13 ∧ ∀ h14 : RS, h14 = up2 h10 13 k13 x5 → wp_M_act h14 x1 (-1 : Int32) x2 x3 x4 (fun h15 => isB (1 : Int32) ∧ Q (1 : Int32) h15)) ∧
  (¬ (h10 8 k11) < (4 : Int32) → isB (0 : Int32) ∧ Q (0 : Int32) h10)))))) ∧
  ((h4 1 k6) = 0 → isB (0 : Int32) ∧ Q (0 : Int32) h4)))))
def wp_M_reply (h : RS) (x1 : Int32) (x2 : Int32) (x3 : Int32) (x4 : Int32) (x5 : Int32) (Q : Int32 → RS → Prop) : Prop := bp_M_reply_0 Q h x1 x2 x3 x4 x5
def bp_M_seal_132 (Q : Int32 → RS → Prop) (h : RS) (x2 : Int32) (y1 : Int32) : Prop :=
  isB y1 ∧ ∀ h1 : RS, h1 = up2 h 0 15 y1 → (x2 = 0 → Q (0 : Int32) h1) ∧
  (¬ x2 = 0 → Q (4 : Int32) h1)
def bp_M_seal_102 (K24 : RS → Int32 → Int32 → Int32 → Prop) (K54 : RS → Int32 → Int32 → Int32 → Int32 → Prop) (Q : Int32 → RS → Prop) (h : RS) (x1 : Int32) (x3 : Int32) (x4 : Int32) : Prop :=
  K54 h x1 (0 : Int32) x3 (x4 + 1)
def bp_M_seal_98 (K24 : RS → Int32 → Int32 → Int32 → Prop) (K54 : RS → Int32 → Int32 → Int32 → Int32 → Prop) (Q : Int32 → RS → Prop) (h : RS) (x1 : Int32) (x3 : Int32) (x4 : Int32) : Prop :=
  K54 h x1 (1 : Int32) x3 (x4 + 1)
def bp_M_seal_54 (K24 : RS → Int32 → Int32 → Int32 → Prop) (K54 : RS → Int32 → Int32 → Int32 → Int32 → Prop) (Q : Int32 → RS → Prop) (h : RS) (x1 : Int32) (x2 : Int32) (x3 : Int32) (x4 : Int32) : Prop :=
  ∃ k2 : Nat, k2 < 8 ∧ x3 = nI k2 ∧ ((h 2 k2) ≤ x4 → K24 h x1 x2 (x3 + 1)) ∧
  (¬ (h 2 k2) ≤ x4 → (¬ x2 = 0 → bp_M_seal_98 K24 K54 Q h x1 x3 x4) ∧
  (x2 = 0 → ∃ k3 : Nat, k3 < 32 ∧ (((4 : Int32) * x3) + x4) = nI k3 ∧ ∃ k4 : Nat, k4 < 8 ∧ (h 3 k3) = nI k4 ∧ ((h 1 k4) = 0 → bp_M_seal_102 K24 K54 Q h x1 x3 x4) ∧
  (¬ (h 1 k4) = 0 → wp_M_answersPart h x3 x4 (fun r5 h6 => (¬ r5 = 0 → bp_M_seal_102 K24 K54 Q h6 x1 x3 x4) ∧
  (r5 = 0 → bp_M_seal_98 K24 K54 Q h6 x1 x3 x4)))))
def wp_M_seal_54 (K24 : RS → Int32 → Int32 → Int32 → Prop) (Q : Int32 → RS → Prop) : Nat → RS → Int32 → Int32 → Int32 → Int32 → Prop
  | 0 => fun _ _ _ _ _ => False
  | n + 1 => bp_M_seal_54 K24 (wp_M_seal_54 K24 Q n) Q
def bp_M_seal_50 (K24 : RS → Int32 → Int32 → Int32 → Prop) (Q : Int32 → RS → Prop) (h : RS) (x2 : Int32) (x3 : Int32) (y0 : Int32) : Prop :=
  ∃ n7 : Nat, wp_M_seal_54 K24 Q n7 h y0 x2 x3 (0 : Int32)
def bp_M_seal_45 (K24 : RS → Int32 → Int32 → Int32 → Prop) (Q : Int32 → RS → Prop) (h : RS) (x2 : Int32) (x3 : Int32) : Prop :=
  bp_M_seal_50 K24 Q h x2 x3 (1 : Int32)
def bp_M_seal_24 (K24 : RS → Int32 → Int32 → Int32 → Prop) (Q : Int32 → RS → Prop) (h : RS) (x1 : Int32) (x2 : Int32) (x3 : Int32) : Prop :=
  ((h 0 2) ≤ x3 → (x1 = 0 → (¬ x2 = 0 → bp_M_seal_132 Q h x2 (0 : Int32)) ∧
  (x2 = 0 → bp_M_seal_132 Q h x2 (1 : Int32))) ∧
  (¬ x1 = 0 → Q (3 : Int32) h)) ∧
  (¬ (h 0 2) ≤ x3 → (¬ x1 = 0 → bp_M_seal_45 K24 Q h x2 x3) ∧
  (x1 = 0 → ∃ k8 : Nat, k8 < 8 ∧ x3 = nI k8 ∧ (¬ (h 2 k8) = 0 → bp_M_seal_50 K24 Q h x2 x3 (0 : Int32)) ∧
  ((h 2 k8) = 0 → bp_M_seal_45 K24 Q h x2 x3)))
def wp_M_seal_24 (Q : Int32 → RS → Prop) : Nat → RS → Int32 → Int32 → Int32 → Prop
  | 0 => fun _ _ _ _ => False
  | n + 1 => bp_M_seal_24 (wp_M_seal_24 Q n) Q
def bp_M_seal_0 (Q : Int32 → RS → Prop) (h : RS) : Prop :=
  ((h 0 15) = 0 → (¬ (h 0 2) = 0 → ∃ n9 : Nat, wp_M_seal_24 Q n9 h (0 : Int32) (0 : Int32) (0 : Int32)) ∧
  ((h 0 2) = 0 → Q (2 : Int32) h)) ∧
  (¬ (h 0 15) = 0 → Q (1 : Int32) h)
def wp_M_seal (h : RS) (Q : Int32 → RS → Prop) : Prop := bp_M_seal_0 Q h
def bp_M_make_0 (Q : Int32 → RS → Prop) (h : RS) (x1 : Int32) (x2 : Int32) : Prop :=
  ∃ k1 : Nat, k1 < 300 ∧ (h 0 16) = nI k1 ∧ ∀ h2 : RS, h2 = up2 h 14 k1 x1 → ∃ k3 : Nat, k3 < 300 ∧ (h2 0 16) = nI k3 ∧ ∀ h4 : RS, h4 = up2 h2 15 k3 x2 → ∃ k5 : Nat, k5 < 300 ∧ (h4 0 16) = nI k5 ∧ ∀ h6 : RS, h6 = up2 h4 16 k5 (1 : Int32) → ∃ k7 : Nat, k7 < 300 ∧ (h6 0 16) = nI k7 ∧ ∀ h8 : RS, h8 = up2 h6 17 k7 (-1 : Int32) → ∀ h9 : RS, h9 = up2 h8 0 16 ((h8 0 16) + (1 : Int32)) → Q ((h9 0 16) - (1 : Int32)) h9
def wp_M_make (h : RS) (x1 : Int32) (x2 : Int32) (Q : Int32 → RS → Prop) : Prop := bp_M_make_0 Q h x1 x2
def bp_M_gather_23 (K23 : RS → Int32 → Prop) (Q : RS → Prop) (h : RS) (x1 : Int32) : Prop :=
  ((h 0 16) ≤ x1 → Q h) ∧
  (¬ (h 0 16) ≤ x1 → ∃ k1 : Nat, k1 < 300 ∧ x1 = nI k1 ∧ ∃ k2 : Nat, k2 < 300 ∧ x1 = nI k2 ∧ (¬ (h 16 k2) = (1 : Int32) → K23 h (x1 + 1)) ∧
  ((h 16 k2) = (1 : Int32) → ∃ k3 : Nat, k3 < 8 ∧ (h 14 k1) = nI k3 ∧ ∃ k4 : Nat, k4 < 48 ∧ (((6 : Int32) * (h 14 k1)) + (h 21 k3)) = nI k4 ∧ ∀ h5 : RS, h5 = up2 h 20 k4 x1 → ∃ k6 : Nat, k6 < 8 ∧ (h 14 k1) = nI k6 ∧ ∃ k7 : Nat, k7 < 8 ∧ (h 14 k1) = nI k7 ∧ ∀ h8 : RS, h8 = up2 h5 21 k7 ((h5 21 k6) + (1 : Int32)) → K23 h8 (x1 + 1)))
def wp_M_gather_23 (Q : RS → Prop) : Nat → RS → Int32 → Prop
  | 0 => fun _ _ => False
  | n + 1 => bp_M_gather_23 (wp_M_gather_23 Q n) Q
def bp_M_gather_2 (K2 : RS → Int32 → Prop) (Q : RS → Prop) (h : RS) (x1 : Int32) : Prop :=
  ((8 : Int32) ≤ x1 → ∃ n9 : Nat, wp_M_gather_23 Q n9 h (0 : Int32)) ∧
  (¬ (8 : Int32) ≤ x1 → ∃ k10 : Nat, k10 < 8 ∧ x1 = nI k10 ∧ ∀ h11 : RS, h11 = up2 h 21 k10 (0 : Int32) → K2 h11 (x1 + 1))
def wp_M_gather_2 (Q : RS → Prop) : Nat → RS → Int32 → Prop
  | 0 => fun _ _ => False
  | n + 1 => bp_M_gather_2 (wp_M_gather_2 Q n) Q
def bp_M_gather_0 (Q : RS → Prop) (h : RS) : Prop :=
  ∃ n12 : Nat, wp_M_gather_2 Q n12 h (0 : Int32)
def wp_M_gather (h : RS) (Q : RS → Prop) : Prop := bp_M_gather_0 Q h
def bp_M_enter_0 (Q : Int32 → RS → Prop) (h : RS) (x1 : Int32) (x2 : Int32) (x3 : Int32) : Prop :=
  wp_M_gather h (fun h1 => ((h1 0 15) = 0 → Q (-1 : Int32) h1) ∧
  (¬ (h1 0 15) = 0 → wp_M_isChannel h1 x1 (fun r2 h3 => (r2 = 0 → Q (-1 : Int32) h3) ∧
  (¬ r2 = 0 → ∃ k4 : Nat, k4 < 8 ∧ x1 = nI k4 ∧ (¬ (h3 1 k4) = x3 → Q (-1 : Int32) h3) ∧
  ((h3 1 k4) = x3 → ∃ k5 : Nat, k5 < 8 ∧ x1 = nI k5 ∧ ((6 : Int32) ≤ (h3 21 k5) → Q (-1 : Int32) h3) ∧
  (¬ (6 : Int32) ≤ (h3 21 k5) → ((h3 0 16) < (300 : Int32) → wp_M_make h3 x1 x2 (fun r6 h7 => Q r6 h7)) ∧
  (¬ (h3 0 16) < (300 : Int32) → Q (-1 : Int32) h3)))))))
def wp_M_enter (h : RS) (x1 : Int32) (x2 : Int32) (x3 : Int32) (Q : Int32 → RS → Prop) : Prop := bp_M_enter_0 Q h x1 x2 x3
def bp_M_put_0 (Q : Int32 → RS → Prop) (h : RS) (x1 : Int32) (x2 : Int32) : Prop :=
  wp_M_enter h x1 x2 (0 : Int32) (fun r1 h2 => Q r1 h2)
def wp_M_put (h : RS) (x1 : Int32) (x2 : Int32) (Q : Int32 → RS → Prop) : Prop := bp_M_put_0 Q h x1 x2
def bp_M_call_0 (Q : Int32 → RS → Prop) (h : RS) (x1 : Int32) (x2 : Int32) : Prop :=
  wp_M_enter h x1 x2 (1 : Int32) (fun r1 h2 => Q r1 h2)
def wp_M_call (h : RS) (x1 : Int32) (x2 : Int32) (Q : Int32 → RS → Prop) : Prop := bp_M_call_0 Q h x1 x2
def bp_M_isMessage_0 (Q : Int32 → RS → Prop) (h : RS) (x1 : Int32) : Prop :=
  (x1 < 0 → isB (0 : Int32) ∧ Q (0 : Int32) h) ∧
  (¬ x1 < 0 → ((h 0 16) ≤ x1 → isB (0 : Int32) ∧ Q (0 : Int32) h) ∧
  (¬ (h 0 16) ≤ x1 → isB (1 : Int32) ∧ Q (1 : Int32) h))
def wp_M_isMessage (h : RS) (x1 : Int32) (Q : Int32 → RS → Prop) : Prop := bp_M_isMessage_0 Q h x1
def bp_M_withdraw_0 (Q : Int32 → RS → Prop) (h : RS) (x1 : Int32) : Prop :=
  wp_M_isMessage h x1 (fun r1 h2 => (r1 = 0 → isB (0 : Int32) ∧ Q (0 : Int32) h2) ∧
  (¬ r1 = 0 → ∃ k3 : Nat, k3 < 300 ∧ x1 = nI k3 ∧ ∃ k4 : Nat, k4 < 8 ∧ (h2 14 k3) = nI k4 ∧ ((h2 1 k4) = 0 → isB (0 : Int32) ∧ Q (0 : Int32) h2) ∧
  (¬ (h2 1 k4) = 0 → ∃ k5 : Nat, k5 < 300 ∧ x1 = nI k5 ∧ ((h2 16 k5) = (1 : Int32) → ∃ k6 : Nat, k6 < 300 ∧ x1 = nI k6 ∧ ∀ h7 : RS, h7 = up2 h2 16 k6 (3 : Int32) → isB (1 : Int32) ∧ Q (1 : Int32) h7) ∧
  (¬ (h2 16 k5) = (1 : Int32) → isB (0 : Int32) ∧ Q (0 : Int32) h2))))
def wp_M_withdraw (h : RS) (x1 : Int32) (Q : Int32 → RS → Prop) : Prop := bp_M_withdraw_0 Q h x1
def bp_M_passes_53 (Q : Int32 → RS → Prop) (h : RS) (x2 : Int32) (x3 : Int32) (x4 : Int32) : Prop :=
  (¬ x4 = (4 : Int32) → isB (0 : Int32) ∧ Q (0 : Int32) h) ∧
  (x4 = (4 : Int32) → ((x2 &&& x3) = 0 → isB (0 : Int32) ∧ Q (0 : Int32) h) ∧
  (¬ (x2 &&& x3) = 0 → isB (1 : Int32) ∧ Q (1 : Int32) h))
def bp_M_passes_42 (Q : Int32 → RS → Prop) (h : RS) (x2 : Int32) (x3 : Int32) (x4 : Int32) : Prop :=
  (¬ x4 = (3 : Int32) → bp_M_passes_53 Q h x2 x3 x4) ∧
  (x4 = (3 : Int32) → (x3 ≤ x2 → isB (1 : Int32) ∧ Q (1 : Int32) h) ∧
  (¬ x3 ≤ x2 → bp_M_passes_53 Q h x2 x3 x4))
def bp_M_passes_31 (Q : Int32 → RS → Prop) (h : RS) (x2 : Int32) (x3 : Int32) (x4 : Int32) : Prop :=
  (¬ x4 = (2 : Int32) → bp_M_passes_42 Q h x2 x3 x4) ∧
  (x4 = (2 : Int32) → (x2 < x3 → isB (1 : Int32) ∧ Q (1 : Int32) h) ∧
  (¬ x2 < x3 → bp_M_passes_42 Q h x2 x3 x4))
def bp_M_passes_0 (Q : Int32 → RS → Prop) (h : RS) (x1 : Int32) (x2 : Int32) : Prop :=
  ∃ k1 : Nat, k1 < 32 ∧ x1 = nI k1 ∧ ∃ k2 : Nat, k2 < 32 ∧ x1 = nI k2 ∧ ((h 4 k2) = 0 → isB (1 : Int32) ∧ Q (1 : Int32) h) ∧
  (¬ (h 4 k2) = 0 → (¬ (h 4 k2) = (1 : Int32) → bp_M_passes_31 Q h x2 (h 5 k1) (h 4 k2)) ∧
  ((h 4 k2) = (1 : Int32) → (x2 = (h 5 k1) → isB (1 : Int32) ∧ Q (1 : Int32) h) ∧
  (¬ x2 = (h 5 k1) → bp_M_passes_31 Q h x2 (h 5 k1) (h 4 k2))))
def wp_M_passes (h : RS) (x1 : Int32) (x2 : Int32) (Q : Int32 → RS → Prop) : Prop := bp_M_passes_0 Q h x1 x2
def bp_M_guarded_218 (Q : Int32 → RS → Prop) (h : RS) (x2 : Int32) (x3 : Int32) (x4 : Int64) : Prop :=
  (¬ x2 = (5 : Int32) → isB (0 : Int32) ∧ Q (0 : Int32) h) ∧
  (x2 = (5 : Int32) → (x3 = 0 → isB (0 : Int32) ∧ Q (0 : Int32) h) ∧
  (¬ x3 = 0 → ¬ (Int32.toInt64 x3) = 0 ∧ (¬ (lg_cmp (x4 - x4 / (Int32.toInt64 x3) * (Int32.toInt64 x3)) (0 : Int64)) = 0 → isB (0 : Int32) ∧ Q (0 : Int32) h) ∧
  ((lg_cmp (x4 - x4 / (Int32.toInt64 x3) * (Int32.toInt64 x3)) (0 : Int64)) = 0 → isB (1 : Int32) ∧ Q (1 : Int32) h)))
def bp_M_guarded_205 (Q : Int32 → RS → Prop) (h : RS) (x2 : Int32) (x3 : Int32) (x4 : Int64) : Prop :=
  (¬ x2 = (4 : Int32) → bp_M_guarded_218 Q h x2 x3 x4) ∧
  (x2 = (4 : Int32) → ((lg_cmp x4 (Int32.toInt64 x3)) ≤ 0 → isB (1 : Int32) ∧ Q (1 : Int32) h) ∧
  (¬ (lg_cmp x4 (Int32.toInt64 x3)) ≤ 0 → bp_M_guarded_218 Q h x2 x3 x4))
def bp_M_guarded_195 (Q : Int32 → RS → Prop) (h : RS) (x2 : Int32) (x3 : Int32) (x4 : Int64) (x8 : Int32) : Prop :=
  (¬ x2 = (3 : Int32) → bp_M_guarded_205 Q h x2 x3 x4) ∧
  (x2 = (3 : Int32) → (¬ x8 = 0 → isB (1 : Int32) ∧ Q (1 : Int32) h) ∧
  (x8 = 0 → bp_M_guarded_205 Q h x2 x3 x4))
def bp_M_guarded_185 (Q : Int32 → RS → Prop) (h : RS) (x2 : Int32) (x3 : Int32) (x4 : Int64) (x7 : Int32) (x8 : Int32) : Prop :=
  (¬ x2 = (2 : Int32) → bp_M_guarded_195 Q h x2 x3 x4 x8) ∧
  (x2 = (2 : Int32) → (¬ x7 = 0 → isB (1 : Int32) ∧ Q (1 : Int32) h) ∧
  (x7 = 0 → bp_M_guarded_195 Q h x2 x3 x4 x8))
def bp_M_guarded_156 (K29 : RS → Int32 → Int32 → Int32 → Int64 → Int32 → Int32 → Int32 → Int32 → Prop) (K56 : RS → Int32 → Int32 → Int32 → Int64 → Int32 → Int32 → Int32 → Int32 → Int32 → Prop) (Q : Int32 → RS → Prop) (h : RS) (x1 : Int32) (x2 : Int32) (x3 : Int32) (x4 : Int64) (x6 : Int32) (x7 : Int32) (x9 : Int32) (x10 : Int32) : Prop :=
  K56 h x1 x2 x3 x4 x6 x7 (0 : Int32) x9 (x10 + 1)
def bp_M_guarded_128 (K29 : RS → Int32 → Int32 → Int32 → Int64 → Int32 → Int32 → Int32 → Int32 → Prop) (K56 : RS → Int32 → Int32 → Int32 → Int64 → Int32 → Int32 → Int32 → Int32 → Int32 → Prop) (Q : Int32 → RS → Prop) (h : RS) (x1 : Int32) (x2 : Int32) (x3 : Int32) (x4 : Int64) (x6 : Int32) (x8 : Int32) (x9 : Int32) (x10 : Int32) (y0 : Int32) : Prop :=
  (x8 = 0 → bp_M_guarded_156 K29 K56 Q h x1 x2 x3 x4 x6 y0 x9 x10) ∧
  (¬ x8 = 0 → ∃ k1 : Nat, k1 < 4 ∧ x10 = nI k1 ∧ ∃ k2 : Nat, k2 < 4 ∧ x9 = nI k2 ∧ ((h 23 k1) = (h 23 k2) → bp_M_guarded_156 K29 K56 Q h x1 x2 x3 x4 x6 y0 x9 x10) ∧
  (¬ (h 23 k1) = (h 23 k2) → K56 h x1 x2 x3 x4 x6 y0 (1 : Int32) x9 (x10 + 1)))
def bp_M_guarded_127 (K29 : RS → Int32 → Int32 → Int32 → Int64 → Int32 → Int32 → Int32 → Int32 → Prop) (K56 : RS → Int32 → Int32 → Int32 → Int64 → Int32 → Int32 → Int32 → Int32 → Int32 → Prop) (Q : Int32 → RS → Prop) (h : RS) (x1 : Int32) (x2 : Int32) (x3 : Int32) (x4 : Int64) (x6 : Int32) (x8 : Int32) (x9 : Int32) (x10 : Int32) : Prop :=
  bp_M_guarded_128 K29 K56 Q h x1 x2 x3 x4 x6 x8 x9 x10 (0 : Int32)
def bp_M_guarded_99 (K29 : RS → Int32 → Int32 → Int32 → Int64 → Int32 → Int32 → Int32 → Int32 → Prop) (K56 : RS → Int32 → Int32 → Int32 → Int64 → Int32 → Int32 → Int32 → Int32 → Int32 → Prop) (Q : Int32 → RS → Prop) (h : RS) (x1 : Int32) (x2 : Int32) (x3 : Int32) (x4 : Int64) (x7 : Int32) (x8 : Int32) (x9 : Int32) (x10 : Int32) (y0 : Int32) : Prop :=
  (x7 = 0 → bp_M_guarded_127 K29 K56 Q h x1 x2 x3 x4 y0 x8 x9 x10) ∧
  (¬ x7 = 0 → ∃ k3 : Nat, k3 < 4 ∧ x10 = nI k3 ∧ ∃ k4 : Nat, k4 < 4 ∧ x9 = nI k4 ∧ (¬ (h 23 k3) = (h 23 k4) → bp_M_guarded_127 K29 K56 Q h x1 x2 x3 x4 y0 x8 x9 x10) ∧
  ((h 23 k3) = (h 23 k4) → bp_M_guarded_128 K29 K56 Q h x1 x2 x3 x4 y0 x8 x9 x10 (1 : Int32)))
def bp_M_guarded_98 (K29 : RS → Int32 → Int32 → Int32 → Int64 → Int32 → Int32 → Int32 → Int32 → Prop) (K56 : RS → Int32 → Int32 → Int32 → Int64 → Int32 → Int32 → Int32 → Int32 → Int32 → Prop) (Q : Int32 → RS → Prop) (h : RS) (x1 : Int32) (x2 : Int32) (x3 : Int32) (x4 : Int64) (x7 : Int32) (x8 : Int32) (x9 : Int32) (x10 : Int32) : Prop :=
  bp_M_guarded_99 K29 K56 Q h x1 x2 x3 x4 x7 x8 x9 x10 (0 : Int32)
def bp_M_guarded_94 (K29 : RS → Int32 → Int32 → Int32 → Int64 → Int32 → Int32 → Int32 → Int32 → Prop) (K56 : RS → Int32 → Int32 → Int32 → Int64 → Int32 → Int32 → Int32 → Int32 → Int32 → Prop) (Q : Int32 → RS → Prop) (h : RS) (x1 : Int32) (x2 : Int32) (x3 : Int32) (x4 : Int64) (x7 : Int32) (x8 : Int32) (x9 : Int32) (x10 : Int32) : Prop :=
  bp_M_guarded_99 K29 K56 Q h x1 x2 x3 x4 x7 x8 x9 x10 (1 : Int32)
def bp_M_guarded_56 (K29 : RS → Int32 → Int32 → Int32 → Int64 → Int32 → Int32 → Int32 → Int32 → Prop) (K56 : RS → Int32 → Int32 → Int32 → Int64 → Int32 → Int32 → Int32 → Int32 → Int32 → Prop) (Q : Int32 → RS → Prop) (h : RS) (x1 : Int32) (x2 : Int32) (x3 : Int32) (x4 : Int64) (x6 : Int32) (x7 : Int32) (x8 : Int32) (x9 : Int32) (x10 : Int32) : Prop :=
  (x9 ≤ x10 → K29 h x1 x2 x3 x4 x6 x7 x8 (x9 + 1)) ∧
  (¬ x9 ≤ x10 → (x6 = 0 → bp_M_guarded_98 K29 K56 Q h x1 x2 x3 x4 x7 x8 x9 x10) ∧
  (¬ x6 = 0 → (x10 < (x9 - (1 : Int32)) → bp_M_guarded_94 K29 K56 Q h x1 x2 x3 x4 x7 x8 x9 x10) ∧
  (¬ x10 < (x9 - (1 : Int32)) → ∃ k5 : Nat, k5 < 4 ∧ x10 = nI k5 ∧ ∃ k6 : Nat, k6 < 4 ∧ x9 = nI k6 ∧ ((h 23 k6) ≤ (h 23 k5) → bp_M_guarded_98 K29 K56 Q h x1 x2 x3 x4 x7 x8 x9 x10) ∧
  (¬ (h 23 k6) ≤ (h 23 k5) → bp_M_guarded_94 K29 K56 Q h x1 x2 x3 x4 x7 x8 x9 x10))))
def wp_M_guarded_56 (K29 : RS → Int32 → Int32 → Int32 → Int64 → Int32 → Int32 → Int32 → Int32 → Prop) (Q : Int32 → RS → Prop) : Nat → RS → Int32 → Int32 → Int32 → Int64 → Int32 → Int32 → Int32 → Int32 → Int32 → Prop
  | 0 => fun _ _ _ _ _ _ _ _ _ _ => False
  | n + 1 => bp_M_guarded_56 K29 (wp_M_guarded_56 K29 Q n) Q
def bp_M_guarded_29 (K29 : RS → Int32 → Int32 → Int32 → Int64 → Int32 → Int32 → Int32 → Int32 → Prop) (Q : Int32 → RS → Prop) (h : RS) (x1 : Int32) (x2 : Int32) (x3 : Int32) (x4 : Int64) (x6 : Int32) (x7 : Int32) (x8 : Int32) (x9 : Int32) : Prop :=
  ∃ k7 : Nat, k7 < 8 ∧ x1 = nI k7 ∧ ((h 2 k7) ≤ x9 → (x2 = 0 → isB (1 : Int32) ∧ Q (1 : Int32) h) ∧
  (¬ x2 = 0 → (¬ x2 = (1 : Int32) → bp_M_guarded_185 Q h x2 x3 x4 x7 x8) ∧
  (x2 = (1 : Int32) → (¬ x6 = 0 → isB (1 : Int32) ∧ Q (1 : Int32) h) ∧
  (x6 = 0 → bp_M_guarded_185 Q h x2 x3 x4 x7 x8)))) ∧
  (¬ (h 2 k7) ≤ x9 → ∃ k8 : Nat, k8 < 4 ∧ x9 = nI k8 ∧ ∃ n9 : Nat, wp_M_guarded_56 K29 Q n9 h x1 x2 x3 (x4 + (Int32.toInt64 (h 23 k8))) x6 x7 x8 x9 (0 : Int32))
def wp_M_guarded_29 (Q : Int32 → RS → Prop) : Nat → RS → Int32 → Int32 → Int32 → Int64 → Int32 → Int32 → Int32 → Int32 → Prop
  | 0 => fun _ _ _ _ _ _ _ _ _ => False
  | n + 1 => bp_M_guarded_29 (wp_M_guarded_29 Q n) Q
def bp_M_guarded_0 (Q : Int32 → RS → Prop) (h : RS) (x1 : Int32) : Prop :=
  ∃ k10 : Nat, k10 < 8 ∧ x1 = nI k10 ∧ ∃ k11 : Nat, k11 < 8 ∧ x1 = nI k11 ∧ ∃ n12 : Nat, wp_M_guarded_29 Q n12 h x1 (h 6 k10) (h 7 k11) (0 : Int64) (1 : Int32) (1 : Int32) (1 : Int32) (0 : Int32)
def wp_M_guarded (h : RS) (x1 : Int32) (Q : Int32 → RS → Prop) : Prop := bp_M_guarded_0 Q h x1
def bp_M_chosen_0 (Q : Int32 → RS → Prop) (h : RS) (x1 : Int32) (x2 : Int32) : Prop :=
  ∃ k1 : Nat, k1 < 32 ∧ (((4 : Int32) * x1) + x2) = nI k1 ∧ ∃ k2 : Nat, k2 < 4 ∧ x2 = nI k2 ∧ ∃ k3 : Nat, k3 < 48 ∧ (((6 : Int32) * (h 3 k1)) + (h 22 k2)) = nI k3 ∧ Q (h 20 k3) h
def wp_M_chosen (h : RS) (x1 : Int32) (x2 : Int32) (Q : Int32 → RS → Prop) : Prop := bp_M_chosen_0 Q h x1 x2
def bp_M_matches_93 (K4 : RS → Int32 → Int32 → Int32 → Prop) (K67 : RS → Int32 → Int32 → Int32 → Int32 → Int32 → Prop) (Q : Int32 → RS → Prop) (h : RS) (x1 : Int32) (x3 : Int32) (x4 : Int32) (x5 : Int32) : Prop :=
  K67 h x1 (0 : Int32) x3 x4 (x5 + 1)
def bp_M_matches_67 (K4 : RS → Int32 → Int32 → Int32 → Prop) (K67 : RS → Int32 → Int32 → Int32 → Int32 → Int32 → Prop) (Q : Int32 → RS → Prop) (h : RS) (x1 : Int32) (x2 : Int32) (x3 : Int32) (x4 : Int32) (x5 : Int32) : Prop :=
  (x3 ≤ x5 → K4 h x1 x2 (x3 + 1)) ∧
  (¬ x3 ≤ x5 → (x2 = 0 → bp_M_matches_93 K4 K67 Q h x1 x3 x4 x5) ∧
  (¬ x2 = 0 → wp_M_chosen h x1 x5 (fun r1 h2 => (r1 = x4 → bp_M_matches_93 K4 K67 Q h2 x1 x3 x4 x5) ∧
  (¬ r1 = x4 → K67 h2 x1 (1 : Int32) x3 x4 (x5 + 1)))))
def wp_M_matches_67 (K4 : RS → Int32 → Int32 → Int32 → Prop) (Q : Int32 → RS → Prop) : Nat → RS → Int32 → Int32 → Int32 → Int32 → Int32 → Prop
  | 0 => fun _ _ _ _ _ _ => False
  | n + 1 => bp_M_matches_67 K4 (wp_M_matches_67 K4 Q n) Q
def bp_M_matches_63 (K4 : RS → Int32 → Int32 → Int32 → Prop) (Q : Int32 → RS → Prop) (h : RS) (x1 : Int32) (x3 : Int32) (x4 : Int32) (y0 : Int32) : Prop :=
  ∃ n3 : Nat, wp_M_matches_67 K4 Q n3 h x1 y0 x3 x4 (0 : Int32)
def bp_M_matches_62 (K4 : RS → Int32 → Int32 → Int32 → Prop) (Q : Int32 → RS → Prop) (h : RS) (x1 : Int32) (x3 : Int32) (x4 : Int32) : Prop :=
  bp_M_matches_63 K4 Q h x1 x3 x4 (0 : Int32)
def bp_M_matches_4 (K4 : RS → Int32 → Int32 → Int32 → Prop) (Q : Int32 → RS → Prop) (h : RS) (x1 : Int32) (x2 : Int32) (x3 : Int32) : Prop :=
  ∃ k4 : Nat, k4 < 8 ∧ x1 = nI k4 ∧ ((h 2 k4) ≤ x3 → (x2 = 0 → isB (0 : Int32) ∧ Q (0 : Int32) h) ∧
  (¬ x2 = 0 → wp_M_guarded h x1 (fun r5 h6 => (r5 = 0 → isB (0 : Int32) ∧ Q (0 : Int32) h6) ∧
  (¬ r5 = 0 → isB (1 : Int32) ∧ Q (1 : Int32) h6)))) ∧
  (¬ (h 2 k4) ≤ x3 → wp_M_chosen h x1 x3 (fun r7 h8 => ∃ k9 : Nat, k9 < 300 ∧ r7 = nI k9 ∧ ∃ k10 : Nat, k10 < 4 ∧ x3 = nI k10 ∧ ∀ h11 : RS, h11 = up2 h8 23 k10 (h8 15 k9) → (x2 = 0 → bp_M_matches_62 K4 Q h11 x1 x3 r7) ∧
  (¬ x2 = 0 → ∃ k12 : Nat, k12 < 300 ∧ r7 = nI k12 ∧ wp_M_passes h11 (((4 : Int32) * x1) + x3) (h11 15 k12) (fun r13 h14 => (r13 = 0 → bp_M_matches_62 K4 Q h14 x1 x3 r7) ∧
  (¬ r13 = 0 → bp_M_matches_63 K4 Q h14 x1 x3 r7 (1 : Int32))))))
def wp_M_matches_4 (Q : Int32 → RS → Prop) : Nat → RS → Int32 → Int32 → Int32 → Prop
  | 0 => fun _ _ _ _ => False
  | n + 1 => bp_M_matches_4 (wp_M_matches_4 Q n) Q
def bp_M_matches_0 (Q : Int32 → RS → Prop) (h : RS) (x1 : Int32) : Prop :=
  ∃ n15 : Nat, wp_M_matches_4 Q n15 h x1 (1 : Int32) (0 : Int32)
def wp_M_matches (h : RS) (x1 : Int32) (Q : Int32 → RS → Prop) : Prop := bp_M_matches_0 Q h x1
def bp_M_find_58 (K40 : RS → Int32 → Int32 → Int32 → Prop) (K58 : RS → Int32 → Int32 → Int32 → Int32 → Int32 → Prop) (Q : Int32 → RS → Prop) (h : RS) (x1 : Int32) (x2 : Int32) (x3 : Int32) (x4 : Int32) (x5 : Int32) : Prop :=
  (x5 < 0 → wp_M_matches h x1 (fun r1 h2 => (r1 = 0 → K40 h2 x1 x2 (x3 + 1)) ∧
  (¬ r1 = 0 → isB (1 : Int32) ∧ Q (1 : Int32) h2))) ∧
  (¬ x5 < 0 → ∃ k3 : Nat, k3 < 32 ∧ (((4 : Int32) * x1) + x5) = nI k3 ∧ ∃ k4 : Nat, k4 < 8 ∧ (h 3 k3) = nI k4 ∧ ¬ (h 21 k4) = 0 ∧ ∃ k5 : Nat, k5 < 4 ∧ x5 = nI k5 ∧ ∀ h6 : RS, h6 = up2 h 22 k5 (x4 - x4 / (h 21 k4) * (h 21 k4)) → ¬ (h 21 k4) = 0 ∧ K58 h6 x1 x2 x3 (x4 / (h 21 k4)) (x5 + (-1)))
def wp_M_find_58 (K40 : RS → Int32 → Int32 → Int32 → Prop) (Q : Int32 → RS → Prop) : Nat → RS → Int32 → Int32 → Int32 → Int32 → Int32 → Prop
  | 0 => fun _ _ _ _ _ _ => False
  | n + 1 => bp_M_find_58 K40 (wp_M_find_58 K40 Q n) Q
def bp_M_find_40 (K40 : RS → Int32 → Int32 → Int32 → Prop) (Q : Int32 → RS → Prop) (h : RS) (x1 : Int32) (x2 : Int32) (x3 : Int32) : Prop :=
  (x2 ≤ x3 → isB (0 : Int32) ∧ Q (0 : Int32) h) ∧
  (¬ x2 ≤ x3 → ∃ k7 : Nat, k7 < 8 ∧ x1 = nI k7 ∧ ∃ n8 : Nat, wp_M_find_58 K40 Q n8 h x1 x2 x3 x3 ((h 2 k7) - (1 : Int32)))
def wp_M_find_40 (Q : Int32 → RS → Prop) : Nat → RS → Int32 → Int32 → Int32 → Prop
  | 0 => fun _ _ _ _ => False
  | n + 1 => bp_M_find_40 (wp_M_find_40 Q n) Q
def bp_M_find_4 (K4 : RS → Int32 → Int32 → Int32 → Prop) (Q : Int32 → RS → Prop) (h : RS) (x1 : Int32) (x2 : Int32) (x3 : Int32) : Prop :=
  ∃ k9 : Nat, k9 < 8 ∧ x1 = nI k9 ∧ ((h 2 k9) ≤ x3 → ∃ n10 : Nat, wp_M_find_40 Q n10 h x1 x2 (0 : Int32)) ∧
  (¬ (h 2 k9) ≤ x3 → ∃ k11 : Nat, k11 < 32 ∧ (((4 : Int32) * x1) + x3) = nI k11 ∧ ∃ k12 : Nat, k12 < 8 ∧ (h 3 k11) = nI k12 ∧ K4 h x1 (x2 * (h 21 k12)) (x3 + 1))
def wp_M_find_4 (Q : Int32 → RS → Prop) : Nat → RS → Int32 → Int32 → Int32 → Prop
  | 0 => fun _ _ _ _ => False
  | n + 1 => bp_M_find_4 (wp_M_find_4 Q n) Q
def bp_M_find_0 (Q : Int32 → RS → Prop) (h : RS) (x1 : Int32) : Prop :=
  ∃ n13 : Nat, wp_M_find_4 Q n13 h x1 (1 : Int32) (0 : Int32)
def wp_M_find (h : RS) (x1 : Int32) (Q : Int32 → RS → Prop) : Prop := bp_M_find_0 Q h x1
def bp_M_room_156 (K7 : RS → Int32 → Int32 → Int32 → Int32 → Prop) (Q : Int32 → RS → Prop) (h : RS) (x1 : Int32) (x2 : Int32) (x4 : Int32) : Prop :=
  K7 h x1 x2 (0 : Int32) (x4 + 1)
def bp_M_room_120 (K7 : RS → Int32 → Int32 → Int32 → Int32 → Prop) (K28 : RS → Int32 → Int32 → Int32 → Int32 → Int32 → Int32 → Prop) (Q : Int32 → RS → Prop) (h : RS) (x1 : Int32) (x2 : Int32) (x3 : Int32) (x4 : Int32) (x6 : Int32) (x7 : Int32) (y0 : Int32) : Prop :=
  (x7 = 0 → K28 h x1 x2 x3 x4 y0 (x6 + 1)) ∧
  (¬ x7 = 0 → K28 h x1 (x2 + (1 : Int32)) x3 x4 y0 (x6 + 1))
def bp_M_room_104 (K7 : RS → Int32 → Int32 → Int32 → Int32 → Prop) (K28 : RS → Int32 → Int32 → Int32 → Int32 → Int32 → Int32 → Prop) (Q : Int32 → RS → Prop) (h : RS) (x1 : Int32) (x2 : Int32) (x3 : Int32) (x4 : Int32) (x5 : Int32) (x6 : Int32) (y0 : Int32) : Prop :=
  (y0 = 0 → bp_M_room_120 K7 K28 Q h x1 x2 x3 x4 x6 y0 x5) ∧
  (¬ y0 = 0 → bp_M_room_120 K7 K28 Q h x1 x2 x3 x4 x6 y0 (x5 + (1 : Int32)))
def bp_M_room_103 (K7 : RS → Int32 → Int32 → Int32 → Int32 → Prop) (K28 : RS → Int32 → Int32 → Int32 → Int32 → Int32 → Int32 → Prop) (Q : Int32 → RS → Prop) (h : RS) (x1 : Int32) (x2 : Int32) (x3 : Int32) (x4 : Int32) (x5 : Int32) (x6 : Int32) : Prop :=
  bp_M_room_104 K7 K28 Q h x1 x2 x3 x4 x5 x6 (0 : Int32)
def bp_M_room_70 (K7 : RS → Int32 → Int32 → Int32 → Int32 → Prop) (K28 : RS → Int32 → Int32 → Int32 → Int32 → Int32 → Int32 → Prop) (Q : Int32 → RS → Prop) (h : RS) (x1 : Int32) (x2 : Int32) (x3 : Int32) (x4 : Int32) (x6 : Int32) (y0 : Int32) : Prop :=
  ∃ k1 : Nat, k1 < 8 ∧ x1 = nI k1 ∧ ((h 8 k1) ≤ x6 → bp_M_room_103 K7 K28 Q h x1 x2 x3 x4 y0 x6) ∧
  (¬ (h 8 k1) ≤ x6 → ∃ k2 : Nat, k2 < 32 ∧ (((4 : Int32) * x1) + x6) = nI k2 ∧ (¬ (h 9 k2) = x4 → bp_M_room_103 K7 K28 Q h x1 x2 x3 x4 y0 x6) ∧
  ((h 9 k2) = x4 → bp_M_room_104 K7 K28 Q h x1 x2 x3 x4 y0 x6 (1 : Int32)))
def bp_M_room_68 (K7 : RS → Int32 → Int32 → Int32 → Int32 → Prop) (K28 : RS → Int32 → Int32 → Int32 → Int32 → Int32 → Int32 → Prop) (Q : Int32 → RS → Prop) (h : RS) (x1 : Int32) (x2 : Int32) (x3 : Int32) (x4 : Int32) (x5 : Int32) (x6 : Int32) : Prop :=
  bp_M_room_70 K7 K28 Q h x1 x2 x3 x4 x6 x5
def bp_M_room_28 (K7 : RS → Int32 → Int32 → Int32 → Int32 → Prop) (K28 : RS → Int32 → Int32 → Int32 → Int32 → Int32 → Int32 → Prop) (Q : Int32 → RS → Prop) (h : RS) (x1 : Int32) (x2 : Int32) (x3 : Int32) (x4 : Int32) (x5 : Int32) (x6 : Int32) : Prop :=
  ((4 : Int32) ≤ x6 → (x3 = 0 → bp_M_room_156 K7 Q h x1 x2 x4) ∧
  (¬ x3 = 0 → ((6 : Int32) < x5 → bp_M_room_156 K7 Q h x1 x2 x4) ∧
  (¬ (6 : Int32) < x5 → K7 h x1 x2 (1 : Int32) (x4 + 1)))) ∧
  (¬ (4 : Int32) ≤ x6 → ∃ k3 : Nat, k3 < 8 ∧ x1 = nI k3 ∧ ((h 2 k3) ≤ x6 → bp_M_room_68 K7 K28 Q h x1 x2 x3 x4 x5 x6) ∧
  (¬ (h 2 k3) ≤ x6 → ∃ k4 : Nat, k4 < 32 ∧ (((4 : Int32) * x1) + x6) = nI k4 ∧ (¬ (h 3 k4) = x4 → bp_M_room_68 K7 K28 Q h x1 x2 x3 x4 x5 x6) ∧
  ((h 3 k4) = x4 → bp_M_room_70 K7 K28 Q h x1 x2 x3 x4 x6 (x5 - (1 : Int32)))))
def wp_M_room_28 (K7 : RS → Int32 → Int32 → Int32 → Int32 → Prop) (Q : Int32 → RS → Prop) : Nat → RS → Int32 → Int32 → Int32 → Int32 → Int32 → Int32 → Prop
  | 0 => fun _ _ _ _ _ _ _ => False
  | n + 1 => bp_M_room_28 K7 (wp_M_room_28 K7 Q n) Q
def bp_M_room_7 (K7 : RS → Int32 → Int32 → Int32 → Int32 → Prop) (Q : Int32 → RS → Prop) (h : RS) (x1 : Int32) (x2 : Int32) (x3 : Int32) (x4 : Int32) : Prop :=
  ((h 0 0) ≤ x4 → (x3 = 0 → isB (0 : Int32) ∧ Q (0 : Int32) h) ∧
  (¬ x3 = 0 → ((300 : Int32) < ((h 0 16) + x2) → isB (0 : Int32) ∧ Q (0 : Int32) h) ∧
  (¬ (300 : Int32) < ((h 0 16) + x2) → isB (1 : Int32) ∧ Q (1 : Int32) h))) ∧
  (¬ (h 0 0) ≤ x4 → ∃ k5 : Nat, k5 < 8 ∧ x4 = nI k5 ∧ ∃ n6 : Nat, wp_M_room_28 K7 Q n6 h x1 x2 x3 x4 (h 21 k5) (0 : Int32))
def wp_M_room_7 (Q : Int32 → RS → Prop) : Nat → RS → Int32 → Int32 → Int32 → Int32 → Prop
  | 0 => fun _ _ _ _ _ => False
  | n + 1 => bp_M_room_7 (wp_M_room_7 Q n) Q
def bp_M_room_0 (Q : Int32 → RS → Prop) (h : RS) (x1 : Int32) : Prop :=
  ∃ n7 : Nat, wp_M_room_7 Q n7 h x1 (0 : Int32) (1 : Int32) (0 : Int32)
def wp_M_room (h : RS) (x1 : Int32) (Q : Int32 → RS → Prop) : Prop := bp_M_room_0 Q h x1
def bp_M_enabled_47 (K8 : RS → Int32 → Int32 → Prop) (Q : Int32 → RS → Prop) (h : RS) (x1 : Int32) (x2 : Int32) : Prop :=
  K8 h x1 (x2 + 1)
def bp_M_enabled_8 (K8 : RS → Int32 → Int32 → Prop) (Q : Int32 → RS → Prop) (h : RS) (x1 : Int32) (x2 : Int32) : Prop :=
  ((h 0 2) ≤ x2 → Q x1 h) ∧
  (¬ (h 0 2) ≤ x2 → ((h 0 15) = 0 → Q x1 h) ∧
  (¬ (h 0 15) = 0 → wp_M_room h x2 (fun r1 h2 => (r1 = 0 → bp_M_enabled_47 K8 Q h2 x1 x2) ∧
  (¬ r1 = 0 → wp_M_find h2 x2 (fun r3 h4 => (r3 = 0 → bp_M_enabled_47 K8 Q h4 x1 x2) ∧
  (¬ r3 = 0 → K8 h4 (x1 + ((1 : Int32) <<< (x2 &&& 31))) (x2 + 1)))))))
def wp_M_enabled_8 (Q : Int32 → RS → Prop) : Nat → RS → Int32 → Int32 → Prop
  | 0 => fun _ _ _ => False
  | n + 1 => bp_M_enabled_8 (wp_M_enabled_8 Q n) Q
def bp_M_enabled_0 (Q : Int32 → RS → Prop) (h : RS) : Prop :=
  wp_M_gather h (fun h5 => ∃ n6 : Nat, wp_M_enabled_8 Q n6 h5 (0 : Int32) (0 : Int32))
def wp_M_enabled (h : RS) (Q : Int32 → RS → Prop) : Prop := bp_M_enabled_0 Q h
def bp_M_next_32 (K32 : RS → Int32 → Int32 → Int32 → Prop) (Q : Int32 → RS → Prop) (h : RS) (x1 : Int32) (x2 : Int32) (x3 : Int32) : Prop :=
  ((h 0 2) ≤ x3 → Q (-1 : Int32) h) ∧
  (¬ (h 0 2) ≤ x3 → ¬ (h 0 2) = 0 ∧ (¬ ((x1 >>> (((x2 + x3) - (x2 + x3) / (h 0 2) * (h 0 2)) &&& 31)) &&& (1 : Int32)) = (1 : Int32) → K32 h x1 x2 (x3 + 1)) ∧
  (((x1 >>> (((x2 + x3) - (x2 + x3) / (h 0 2) * (h 0 2)) &&& 31)) &&& (1 : Int32)) = (1 : Int32) → Q ((x2 + x3) - (x2 + x3) / (h 0 2) * (h 0 2)) h))
def wp_M_next_32 (Q : Int32 → RS → Prop) : Nat → RS → Int32 → Int32 → Int32 → Prop
  | 0 => fun _ _ _ _ => False
  | n + 1 => bp_M_next_32 (wp_M_next_32 Q n) Q
def bp_M_next_29 (Q : Int32 → RS → Prop) (h : RS) (x1 : Int32) (y0 : Int32) : Prop :=
  ∃ n1 : Nat, wp_M_next_32 Q n1 h x1 y0 (0 : Int32)
def bp_M_next_0 (Q : Int32 → RS → Prop) (h : RS) : Prop :=
  wp_M_enabled h (fun r2 h3 => (¬ (h3 0 22) = 0 → ∃ k4 : Nat, k4 < 300 ∧ ((h3 0 22) - (1 : Int32)) = nI k4 ∧ bp_M_next_29 Q h3 r2 ((h3 19 k4) + (1 : Int32))) ∧
  ((h3 0 22) = 0 → bp_M_next_29 Q h3 r2 (0 : Int32)))
def wp_M_next (h : RS) (Q : Int32 → RS → Prop) : Prop := bp_M_next_0 Q h
def bp_M_taken_0 (Q : Int32 → RS → Prop) (h : RS) (x1 : Int32) : Prop :=
  wp_M_next h (fun r1 h2 => (r1 < 0 → Q (-1 : Int32) h2) ∧
  (¬ r1 < 0 → wp_M_hasPart h2 r1 x1 (fun r3 h4 => (¬ r3 = 0 → wp_M_find h4 r1 (fun r5 h6 => wp_M_chosen h6 r1 x1 (fun r7 h8 => Q r7 h8))) ∧
  (r3 = 0 → Q (-1 : Int32) h4))))
def wp_M_taken (h : RS) (x1 : Int32) (Q : Int32 → RS → Prop) : Prop := bp_M_taken_0 Q h x1
def bp_M_result_21 (K21 : RS → Int32 → Int32 → Int32 → Int32 → Int32 → Int32 → Prop) (Q : Int32 → RS → Prop) (h : RS) (x1 : Int32) (x2 : Int32) (x3 : Int32) (x4 : Int32) (x5 : Int32) (x6 : Int32) : Prop :=
  ∃ k1 : Nat, k1 < 8 ∧ x1 = nI k1 ∧ ((h 2 k1) ≤ x6 → ∃ k2 : Nat, k2 < 32 ∧ x2 = nI k2 ∧ (¬ (h 11 k2) = (1 : Int32) → ∃ k3 : Nat, k3 < 32 ∧ x2 = nI k3 ∧ (¬ (h 11 k3) = (2 : Int32) → ∃ k4 : Nat, k4 < 32 ∧ x2 = nI k4 ∧ (¬ (h 11 k4) = 0 → ∃ k5 : Nat, k5 < 32 ∧ x2 = nI k5 ∧ (¬ (h 11 k5) = (3 : Int32) → Q x5 h) ∧
  ((h 11 k5) = (3 : Int32) → Q (x4 + x3) h)) ∧
  ((h 11 k4) = 0 → Q x3 h)) ∧
  ((h 11 k3) = (2 : Int32) → ∃ k6 : Nat, k6 < 32 ∧ x2 = nI k6 ∧ ∃ k7 : Nat, k7 < 4 ∧ (h 12 k6) = nI k7 ∧ Q ((h 23 k7) * x3) h)) ∧
  ((h 11 k2) = (1 : Int32) → ∃ k8 : Nat, k8 < 32 ∧ x2 = nI k8 ∧ ∃ k9 : Nat, k9 < 4 ∧ (h 12 k8) = nI k9 ∧ Q ((h 23 k9) + x3) h)) ∧
  (¬ (h 2 k1) ≤ x6 → ∃ k10 : Nat, k10 < 4 ∧ x6 = nI k10 ∧ ∃ k11 : Nat, k11 < 4 ∧ x6 = nI k11 ∧ ((h 23 k11) ≤ x5 → K21 h x1 x2 x3 (x4 + (h 23 k10)) x5 (x6 + 1)) ∧
  (¬ (h 23 k11) ≤ x5 → ∃ k12 : Nat, k12 < 4 ∧ x6 = nI k12 ∧ K21 h x1 x2 x3 (x4 + (h 23 k10)) (h 23 k12) (x6 + 1)))
def wp_M_result_21 (Q : Int32 → RS → Prop) : Nat → RS → Int32 → Int32 → Int32 → Int32 → Int32 → Int32 → Prop
  | 0 => fun _ _ _ _ _ _ _ => False
  | n + 1 => bp_M_result_21 (wp_M_result_21 Q n) Q
def bp_M_result_0 (Q : Int32 → RS → Prop) (h : RS) (x1 : Int32) (x2 : Int32) : Prop :=
  ∃ k13 : Nat, k13 < 32 ∧ x2 = nI k13 ∧ ∃ k14 : Nat, k14 < 4 ∧ (0 : Int32) = nI k14 ∧ ∃ n15 : Nat, wp_M_result_21 Q n15 h x1 x2 (h 13 k13) (0 : Int32) (h 23 k14) (0 : Int32)
def wp_M_result (h : RS) (x1 : Int32) (x2 : Int32) (Q : Int32 → RS → Prop) : Prop := bp_M_result_0 Q h x1 x2
def bp_M_fire_50 (K50 : RS → Int32 → Int32 → Prop) (Q : RS → Prop) (h : RS) (x1 : Int32) (x2 : Int32) : Prop :=
  ∃ k1 : Nat, k1 < 8 ∧ x1 = nI k1 ∧ ((h 8 k1) ≤ x2 → ∃ k2 : Nat, k2 < 300 ∧ (h 0 22) = nI k2 ∧ ∀ h3 : RS, h3 = up2 h 19 k2 x1 → ∀ h4 : RS, h4 = up2 h3 0 22 ((h3 0 22) + (1 : Int32)) → Q h4) ∧
  (¬ (h 8 k1) ≤ x2 → wp_M_result h x1 (((4 : Int32) * x1) + x2) (fun r5 h6 => ∃ k7 : Nat, k7 < 32 ∧ (((4 : Int32) * x1) + x2) = nI k7 ∧ ((h6 9 k7) < 0 → ∃ k8 : Nat, k8 < 32 ∧ (((4 : Int32) * x1) + x2) = nI k8 ∧ wp_M_chosen h6 x1 (h6 10 k8) (fun r9 h10 => ∃ k11 : Nat, k11 < 300 ∧ r9 = nI k11 ∧ ∀ h12 : RS, h12 = up2 h10 18 k11 r5 → K50 h12 x1 (x2 + 1))) ∧
  (¬ (h6 9 k7) < 0 → ∃ k13 : Nat, k13 < 32 ∧ (((4 : Int32) * x1) + x2) = nI k13 ∧ wp_M_make h6 (h6 9 k13) r5 (fun r14 h15 => K50 h15 x1 (x2 + 1)))))
def wp_M_fire_50 (Q : RS → Prop) : Nat → RS → Int32 → Int32 → Prop
  | 0 => fun _ _ _ => False
  | n + 1 => bp_M_fire_50 (wp_M_fire_50 Q n) Q
def bp_M_fire_8 (K8 : RS → Int32 → Int32 → Prop) (Q : RS → Prop) (h : RS) (x1 : Int32) (x2 : Int32) : Prop :=
  ∃ k16 : Nat, k16 < 8 ∧ x1 = nI k16 ∧ ((h 2 k16) ≤ x2 → ∃ n17 : Nat, wp_M_fire_50 Q n17 h x1 (0 : Int32)) ∧
  (¬ (h 2 k16) ≤ x2 → wp_M_chosen h x1 x2 (fun r18 h19 => ∃ k20 : Nat, k20 < 300 ∧ r18 = nI k20 ∧ ∀ h21 : RS, h21 = up2 h19 16 k20 (2 : Int32) → ∃ k22 : Nat, k22 < 300 ∧ r18 = nI k22 ∧ ∀ h23 : RS, h23 = up2 h21 17 k22 (h21 0 22) → K8 h23 x1 (x2 + 1)))
def wp_M_fire_8 (Q : RS → Prop) : Nat → RS → Int32 → Int32 → Prop
  | 0 => fun _ _ _ => False
  | n + 1 => bp_M_fire_8 (wp_M_fire_8 Q n) Q
def bp_M_fire_0 (Q : RS → Prop) (h : RS) (x1 : Int32) : Prop :=
  wp_M_find h x1 (fun r24 h25 => ∃ n26 : Nat, wp_M_fire_8 Q n26 h25 x1 (0 : Int32))
def wp_M_fire (h : RS) (x1 : Int32) (Q : RS → Prop) : Prop := bp_M_fire_0 Q h x1
def bp_M_react_20 (K20 : RS → Int32 → Int32 → Prop) (Q : Int32 → RS → Prop) (h : RS) (x1 : Int32) (x2 : Int32) : Prop :=
  (x1 ≤ x2 → Q x1 h) ∧
  (¬ x1 ≤ x2 → wp_M_next h (fun r1 h2 => (0 ≤ r1 → wp_M_fire h2 r1 (fun h3 => K20 h3 x1 (x2 + 1))) ∧
  (¬ 0 ≤ r1 → Q x2 h2)))
def wp_M_react_20 (Q : Int32 → RS → Prop) : Nat → RS → Int32 → Int32 → Prop
  | 0 => fun _ _ _ => False
  | n + 1 => bp_M_react_20 (wp_M_react_20 Q n) Q
def bp_M_react_0 (Q : Int32 → RS → Prop) (h : RS) (x1 : Int32) : Prop :=
  ((h 0 15) = 0 → Q (-1 : Int32) h) ∧
  (¬ (h 0 15) = 0 → (x1 < 0 → Q (-1 : Int32) h) ∧
  (¬ x1 < 0 → (x1 ≤ (5 : Int32) → ∃ n4 : Nat, wp_M_react_20 Q n4 h x1 (0 : Int32)) ∧
  (¬ x1 ≤ (5 : Int32) → Q (-1 : Int32) h)))
def wp_M_react (h : RS) (x1 : Int32) (Q : Int32 → RS → Prop) : Prop := bp_M_react_0 Q h x1
def bp_M_pendingAt_0 (Q : Int32 → RS → Prop) (h : RS) (x1 : Int32) (x2 : Int32) : Prop :=
  wp_M_gather h (fun h1 => wp_M_isChannel h1 x1 (fun r2 h3 => (r2 = 0 → Q (-1 : Int32) h3) ∧
  (¬ r2 = 0 → (x2 < 0 → Q (-1 : Int32) h3) ∧
  (¬ x2 < 0 → ∃ k4 : Nat, k4 < 8 ∧ x1 = nI k4 ∧ ((h3 21 k4) ≤ x2 → Q (-1 : Int32) h3) ∧
  (¬ (h3 21 k4) ≤ x2 → ∃ k5 : Nat, k5 < 48 ∧ (((6 : Int32) * x1) + x2) = nI k5 ∧ Q (h3 20 k5) h3)))))
def wp_M_pendingAt (h : RS) (x1 : Int32) (x2 : Int32) (Q : Int32 → RS → Prop) : Prop := bp_M_pendingAt_0 Q h x1 x2
def bp_M_value_0 (Q : Int32 → RS → Prop) (h : RS) (x1 : Int32) : Prop :=
  wp_M_isMessage h x1 (fun r1 h2 => (r1 = 0 → Q (0 : Int32) h2) ∧
  (¬ r1 = 0 → ∃ k3 : Nat, k3 < 300 ∧ x1 = nI k3 ∧ Q (h2 15 k3) h2))
def wp_M_value (h : RS) (x1 : Int32) (Q : Int32 → RS → Prop) : Prop := bp_M_value_0 Q h x1
def bp_M_state_0 (Q : Int32 → RS → Prop) (h : RS) (x1 : Int32) : Prop :=
  wp_M_isMessage h x1 (fun r1 h2 => (r1 = 0 → Q (0 : Int32) h2) ∧
  (¬ r1 = 0 → ∃ k3 : Nat, k3 < 300 ∧ x1 = nI k3 ∧ Q (h2 16 k3) h2))
def wp_M_state (h : RS) (x1 : Int32) (Q : Int32 → RS → Prop) : Prop := bp_M_state_0 Q h x1
def bp_M_consumer_0 (Q : Int32 → RS → Prop) (h : RS) (x1 : Int32) : Prop :=
  wp_M_isMessage h x1 (fun r1 h2 => (r1 = 0 → Q (-1 : Int32) h2) ∧
  (¬ r1 = 0 → ∃ k3 : Nat, k3 < 300 ∧ x1 = nI k3 ∧ Q (h2 17 k3) h2))
def wp_M_consumer (h : RS) (x1 : Int32) (Q : Int32 → RS → Prop) : Prop := bp_M_consumer_0 Q h x1
def bp_M_answer_0 (Q : Int32 → RS → Prop) (h : RS) (x1 : Int32) : Prop :=
  wp_M_isMessage h x1 (fun r1 h2 => (r1 = 0 → Q (0 : Int32) h2) ∧
  (¬ r1 = 0 → ∃ k3 : Nat, k3 < 300 ∧ x1 = nI k3 ∧ Q (h2 18 k3) h2))
def wp_M_answer (h : RS) (x1 : Int32) (Q : Int32 → RS → Prop) : Prop := bp_M_answer_0 Q h x1
def bp_M_fired_0 (Q : Int32 → RS → Prop) (h : RS) (x1 : Int32) : Prop :=
  (x1 < 0 → Q (-1 : Int32) h) ∧
  (¬ x1 < 0 → ((h 0 22) ≤ x1 → Q (-1 : Int32) h) ∧
  (¬ (h 0 22) ≤ x1 → ∃ k1 : Nat, k1 < 300 ∧ x1 = nI k1 ∧ Q (h 19 k1) h))
def wp_M_fired (h : RS) (x1 : Int32) (Q : Int32 → RS → Prop) : Prop := bp_M_fired_0 Q h x1
end
section
section
variable {p : Program} {l : Launch} {e : Env} {R : Room} {s : State} {m : MethodId} {args : Array Value} {below : List Frame} {meth : Method} {c : Code} {D : va_G} {a : Nat → Nat} {q : Nat → ClassId}
set_option maxHeartbeats 4000000 in
set_option maxRecDepth 100000 in
theorem kb_V_channel_0 {Q : Int32 → RS → Prop} (X : Cx p l R s m args meth c b_V_channel 2 R_V (some .int) D clV (tyV q) a 101 0 0 tbW) {h : RS} {x1 : Int32} (hw : bp_V_channel_0 Q h x1) : Z p l e R s m args below meth c D clV 101 a (ceV a q) 2 (MQ below (va_Qi Q (AtC D clV 101 a (ceV a q)) (inW a 101)) args s 0 0 (inW a 101)) h 0 [(0, .ref (a 0)), (1, .int x1)] [] := by
  unfold bp_V_channel_0 at hw
  refine z_aload_n (pc := 0) X 0 d_V_channel_0 rfl rfl ?_
  refine z_get (i := 0) (pc := 1) X (by decide) (cV_V _) rfl hin_V 4 (by decide) lk1 rfl rfl d_V_channel_1 ?_
  refine z_if_ne (tgt := 16) (pc := 4) X d_V_channel_4 (by decide) (fun hc => ?_) (fun hc => ?_)
  · have hw := hw.1 hc
    refine z_iconst (v := (-1 : Int32)) (pc := 16) X d_V_channel_16 (by decide) ?_
    exact z_iret (pc := 17) X d_V_channel_17 hw
  · have hw := hw.2 hc
    refine z_aload_n (pc := 7) X 0 d_V_channel_7 rfl rfl ?_
    refine z_get (i := 0) (pc := 8) X (by decide) (cV_V _) rfl hin_V 1 (by decide) lk2 rfl rfl d_V_channel_8 ?_
    refine z_bipush (v := (8 : Int32)) (pc := 11) X d_V_channel_11 (by decide) ?_
    refine z_icmp_lt (tgt := 18) (pc := 13) X d_V_channel_13 (by decide) (fun hc => ?_) (fun hc => ?_)
    · have hw := hw.1 hc
      refine z_aload_n (pc := 18) X 0 d_V_channel_18 rfl rfl ?_
      refine z_get (i := 0) (pc := 19) X (by decide) (cV_V _) rfl hin_V 0 (by decide) lk3 rfl rfl d_V_channel_19 ?_
      refine z_aload_n (pc := 22) X 0 d_V_channel_22 rfl rfl ?_
      refine z_get (i := 0) (pc := 23) X (by decide) (cV_V _) rfl hin_V 1 (by decide) lk2 rfl rfl d_V_channel_23 ?_
      obtain ⟨k1, hk1, ek1, hw⟩ := hw
      refine z_aald (i := 1) (g := fun j => 13 + j) (pc := 26) X 2 (by decide) (cV_Chs _) rfl (by decide) hk1 ek1 d_V_channel_26 ?_
      refine z_iload_n (pc := 27) X 1 d_V_channel_27 rfl rfl ?_
      obtain ⟨hB, hw⟩ := hw
      refine z_putN (i := (13 + k1)) (pc := 28) X (lt_ix hk1 (by decide)) (cV_Ch _ hk1) rfl hin_Ch t_Ch t_Ch_ok n_Ch 0 (by decide) lk4 rfl rfl (t_Ch_ok 0 (by decide)) (isB_n hB) (isB_f hB) (Nat.le_of_ble_eq_true rfl) (cV_Ch _ hk1) d_V_channel_28 ?_
      have hw := hw _ rfl
      refine z_aload_n (pc := 31) X 0 d_V_channel_31 rfl rfl ?_
      refine z_dup (pc := 32) X d_V_channel_32 rfl ?_
      refine z_get (i := 0) (pc := 33) X (by decide) (cV_V _) rfl hin_V 1 (by decide) lk2 rfl rfl d_V_channel_33 ?_
      refine z_iconst (v := (1 : Int32)) (pc := 36) X d_V_channel_36 (by decide) ?_
      refine z_iadd (pc := 37) X d_V_channel_37 ?_
      refine z_put (i := 0) (pc := 38) X (by decide) (cV_V _) rfl hin_V t_V t_V_ok n_V 1 (by decide) lk2 rfl rfl (t_V_ok 1 (by decide)) rfl rfl (Nat.le_of_ble_eq_true rfl) (cV_V _) d_V_channel_38 ?_
      have hw := hw _ rfl
      refine z_aload_n (pc := 41) X 0 d_V_channel_41 rfl rfl ?_
      refine z_get (i := 0) (pc := 42) X (by decide) (cV_V _) rfl hin_V 1 (by decide) lk2 rfl rfl d_V_channel_42 ?_
      refine z_iconst (v := (1 : Int32)) (pc := 45) X d_V_channel_45 (by decide) ?_
      refine z_isub (pc := 46) X d_V_channel_46 ?_
      exact z_iret (pc := 47) X d_V_channel_47 hw
    · have hw := hw.2 hc
      refine z_iconst (v := (-1 : Int32)) (pc := 16) X d_V_channel_16 (by decide) ?_
      exact z_iret (pc := 17) X d_V_channel_17 hw
theorem c_V_channel {l : Launch} {D : va_G} {a : Nat → Nat} {q : Nat → ClassId} (hI : injW a 101) {h : RS} {x1 : Int32} {Q : Int32 → RS → Prop} (hw : wp_V_channel h x1 Q) : Met l y_V_channel [.code y_V_channel b_V_channel 2 (some .int)] { frames := 0, cells := 0, slots := 0, locals := 0 } (va_Pc [.ref (a 0), .int x1] (PreC tbW D clV (tyV q) 101 a (ceV a q) h)) (va_Qi Q (AtC D clV 101 a (ceV a q)) (inW a 101)) 0 0 (inW a 101) :=
  m_of (by decide +kernel) hI tb_ok (Nat.le_of_ble_eq_true rfl) (fun p e R s m below meth c X => kb_V_channel_0 X hw)
set_option maxHeartbeats 4000000 in
set_option maxRecDepth 100000 in
theorem kb_V_reaction_0 {Q : Int32 → RS → Prop} (X : Cx p l R s m args meth c b_V_reaction 1 R_V (some .int) D clV (tyV q) a 101 0 0 tbW) {h : RS} (hw : bp_V_reaction_0 Q h) : Z p l e R s m args below meth c D clV 101 a (ceV a q) 1 (MQ below (va_Qi Q (AtC D clV 101 a (ceV a q)) (inW a 101)) args s 0 0 (inW a 101)) h 0 [(0, .ref (a 0))] [] := by
  unfold bp_V_reaction_0 at hw
  refine z_aload_n (pc := 0) X 0 d_V_reaction_0 rfl rfl ?_
  refine z_get (i := 0) (pc := 1) X (by decide) (cV_V _) rfl hin_V 4 (by decide) lk1 rfl rfl d_V_reaction_1 ?_
  refine z_if_ne (tgt := 16) (pc := 4) X d_V_reaction_4 (by decide) (fun hc => ?_) (fun hc => ?_)
  · have hw := hw.1 hc
    refine z_iconst (v := (-1 : Int32)) (pc := 16) X d_V_reaction_16 (by decide) ?_
    exact z_iret (pc := 17) X d_V_reaction_17 hw
  · have hw := hw.2 hc
    refine z_aload_n (pc := 7) X 0 d_V_reaction_7 rfl rfl ?_
    refine z_get (i := 0) (pc := 8) X (by decide) (cV_V _) rfl hin_V 3 (by decide) lk5 rfl rfl d_V_reaction_8 ?_
    refine z_bipush (v := (8 : Int32)) (pc := 11) X d_V_reaction_11 (by decide) ?_
    refine z_icmp_lt (tgt := 18) (pc := 13) X d_V_reaction_13 (by decide) (fun hc => ?_) (fun hc => ?_)
    · have hw := hw.1 hc
      refine z_aload_n (pc := 18) X 0 d_V_reaction_18 rfl rfl ?_
      refine z_dup (pc := 19) X d_V_reaction_19 rfl ?_
      refine z_get (i := 0) (pc := 20) X (by decide) (cV_V _) rfl hin_V 3 (by decide) lk5 rfl rfl d_V_reaction_20 ?_
      refine z_iconst (v := (1 : Int32)) (pc := 23) X d_V_reaction_23 (by decide) ?_
      refine z_iadd (pc := 24) X d_V_reaction_24 ?_
      refine z_put (i := 0) (pc := 25) X (by decide) (cV_V _) rfl hin_V t_V t_V_ok n_V 3 (by decide) lk5 rfl rfl (t_V_ok 3 (by decide)) rfl rfl (Nat.le_of_ble_eq_true rfl) (cV_V _) d_V_reaction_25 ?_
      have hw := hw _ rfl
      refine z_aload_n (pc := 28) X 0 d_V_reaction_28 rfl rfl ?_
      refine z_get (i := 0) (pc := 29) X (by decide) (cV_V _) rfl hin_V 3 (by decide) lk5 rfl rfl d_V_reaction_29 ?_
      refine z_iconst (v := (1 : Int32)) (pc := 32) X d_V_reaction_32 (by decide) ?_
      refine z_isub (pc := 33) X d_V_reaction_33 ?_
      exact z_iret (pc := 34) X d_V_reaction_34 hw
    · have hw := hw.2 hc
      refine z_iconst (v := (-1 : Int32)) (pc := 16) X d_V_reaction_16 (by decide) ?_
      exact z_iret (pc := 17) X d_V_reaction_17 hw
theorem c_V_reaction {l : Launch} {D : va_G} {a : Nat → Nat} {q : Nat → ClassId} (hI : injW a 101) {h : RS} {Q : Int32 → RS → Prop} (hw : wp_V_reaction h Q) : Met l y_V_reaction [.code y_V_reaction b_V_reaction 1 (some .int)] { frames := 0, cells := 0, slots := 0, locals := 0 } (va_Pc [.ref (a 0)] (PreC tbW D clV (tyV q) 101 a (ceV a q) h)) (va_Qi Q (AtC D clV 101 a (ceV a q)) (inW a 101)) 0 0 (inW a 101) :=
  m_of (by decide +kernel) hI tb_ok (Nat.le_of_ble_eq_true rfl) (fun p e R s m below meth c X => kb_V_reaction_0 X hw)
set_option maxHeartbeats 4000000 in
set_option maxRecDepth 100000 in
theorem kb_V_mayBuild_0 {Q : Int32 → RS → Prop} (X : Cx p l R s m args meth c b_V_mayBuild 2 R_V (some .boolean) D clV (tyV q) a 101 0 0 tbW) {h : RS} {x1 : Int32} (hw : bp_V_mayBuild_0 Q h x1) : Z p l e R s m args below meth c D clV 101 a (ceV a q) 2 (MQ below (va_Qi Q (AtC D clV 101 a (ceV a q)) (inW a 101)) args s 0 0 (inW a 101)) h 0 [(0, .ref (a 0)), (1, .int x1)] [] := by
  unfold bp_V_mayBuild_0 at hw
  refine z_aload_n (pc := 0) X 0 d_V_mayBuild_0 rfl rfl ?_
  refine z_get (i := 0) (pc := 1) X (by decide) (cV_V _) rfl hin_V 4 (by decide) lk1 rfl rfl d_V_mayBuild_1 ?_
  refine z_if_ne (tgt := 23) (pc := 4) X d_V_mayBuild_4 (by decide) (fun hc => ?_) (fun hc => ?_)
  · have hw := hw.1 hc
    refine z_iconst (v := (0 : Int32)) (pc := 23) X d_V_mayBuild_23 (by decide) ?_
    exact z_zret (pc := 24) X hw.1 d_V_mayBuild_24 hw.2
  · have hw := hw.2 hc
    refine z_iload_n (pc := 7) X 1 d_V_mayBuild_7 rfl rfl ?_
    refine z_if_lt (tgt := 23) (pc := 8) X d_V_mayBuild_8 (by decide) (fun hc => ?_) (fun hc => ?_)
    · have hw := hw.1 hc
      refine z_iconst (v := (0 : Int32)) (pc := 23) X d_V_mayBuild_23 (by decide) ?_
      exact z_zret (pc := 24) X hw.1 d_V_mayBuild_24 hw.2
    · have hw := hw.2 hc
      refine z_iload_n (pc := 11) X 1 d_V_mayBuild_11 rfl rfl ?_
      refine z_aload_n (pc := 12) X 0 d_V_mayBuild_12 rfl rfl ?_
      refine z_get (i := 0) (pc := 13) X (by decide) (cV_V _) rfl hin_V 3 (by decide) lk5 rfl rfl d_V_mayBuild_13 ?_
      refine z_icmp_ge (tgt := 23) (pc := 16) X d_V_mayBuild_16 (by decide) (fun hc => ?_) (fun hc => ?_)
      · have hw := hw.1 hc
        refine z_iconst (v := (0 : Int32)) (pc := 23) X d_V_mayBuild_23 (by decide) ?_
        exact z_zret (pc := 24) X hw.1 d_V_mayBuild_24 hw.2
      · have hw := hw.2 hc
        refine z_iconst (v := (1 : Int32)) (pc := 19) X d_V_mayBuild_19 (by decide) ?_
        refine z_goto (tgt := 24) (pc := 20) X d_V_mayBuild_20 (by decide) ?_
        exact z_zret (pc := 24) X hw.1 d_V_mayBuild_24 hw.2
theorem c_V_mayBuild {l : Launch} {D : va_G} {a : Nat → Nat} {q : Nat → ClassId} (hI : injW a 101) {h : RS} {x1 : Int32} {Q : Int32 → RS → Prop} (hw : wp_V_mayBuild h x1 Q) : Met l y_V_mayBuild [.code y_V_mayBuild b_V_mayBuild 2 (some .boolean)] { frames := 0, cells := 0, slots := 0, locals := 0 } (va_Pc [.ref (a 0), .int x1] (PreC tbW D clV (tyV q) 101 a (ceV a q) h)) (va_Qi Q (AtC D clV 101 a (ceV a q)) (inW a 101)) 0 0 (inW a 101) :=
  m_of (by decide +kernel) hI tb_ok (Nat.le_of_ble_eq_true rfl) (fun p e R s m below meth c X => kb_V_mayBuild_0 X hw)
set_option maxHeartbeats 4000000 in
set_option maxRecDepth 100000 in
theorem kb_V_isChannel_0 {Q : Int32 → RS → Prop} (X : Cx p l R s m args meth c b_V_isChannel 2 R_V (some .boolean) D clV (tyV q) a 101 0 0 tbW) {h : RS} {x1 : Int32} (hw : bp_V_isChannel_0 Q h x1) : Z p l e R s m args below meth c D clV 101 a (ceV a q) 2 (MQ below (va_Qi Q (AtC D clV 101 a (ceV a q)) (inW a 101)) args s 0 0 (inW a 101)) h 0 [(0, .ref (a 0)), (1, .int x1)] [] := by
  unfold bp_V_isChannel_0 at hw
  refine z_iload_n (pc := 0) X 1 d_V_isChannel_0 rfl rfl ?_
  refine z_if_lt (tgt := 16) (pc := 1) X d_V_isChannel_1 (by decide) (fun hc => ?_) (fun hc => ?_)
  · have hw := hw.1 hc
    refine z_iconst (v := (0 : Int32)) (pc := 16) X d_V_isChannel_16 (by decide) ?_
    exact z_zret (pc := 17) X hw.1 d_V_isChannel_17 hw.2
  · have hw := hw.2 hc
    refine z_iload_n (pc := 4) X 1 d_V_isChannel_4 rfl rfl ?_
    refine z_aload_n (pc := 5) X 0 d_V_isChannel_5 rfl rfl ?_
    refine z_get (i := 0) (pc := 6) X (by decide) (cV_V _) rfl hin_V 1 (by decide) lk2 rfl rfl d_V_isChannel_6 ?_
    refine z_icmp_ge (tgt := 16) (pc := 9) X d_V_isChannel_9 (by decide) (fun hc => ?_) (fun hc => ?_)
    · have hw := hw.1 hc
      refine z_iconst (v := (0 : Int32)) (pc := 16) X d_V_isChannel_16 (by decide) ?_
      exact z_zret (pc := 17) X hw.1 d_V_isChannel_17 hw.2
    · have hw := hw.2 hc
      refine z_iconst (v := (1 : Int32)) (pc := 12) X d_V_isChannel_12 (by decide) ?_
      refine z_goto (tgt := 17) (pc := 13) X d_V_isChannel_13 (by decide) ?_
      exact z_zret (pc := 17) X hw.1 d_V_isChannel_17 hw.2
theorem c_V_isChannel {l : Launch} {D : va_G} {a : Nat → Nat} {q : Nat → ClassId} (hI : injW a 101) {h : RS} {x1 : Int32} {Q : Int32 → RS → Prop} (hw : wp_V_isChannel h x1 Q) : Met l y_V_isChannel [.code y_V_isChannel b_V_isChannel 2 (some .boolean)] { frames := 0, cells := 0, slots := 0, locals := 0 } (va_Pc [.ref (a 0), .int x1] (PreC tbW D clV (tyV q) 101 a (ceV a q) h)) (va_Qi Q (AtC D clV 101 a (ceV a q)) (inW a 101)) 0 0 (inW a 101) :=
  m_of (by decide +kernel) hI tb_ok (Nat.le_of_ble_eq_true rfl) (fun p e R s m below meth c X => kb_V_isChannel_0 X hw)
set_option maxHeartbeats 4000000 in
set_option maxRecDepth 100000 in
theorem kb_V_isWithin_0 {Q : Int32 → RS → Prop} (X : Cx p l R s m args meth c b_V_isWithin 2 R_V (some .boolean) D clV (tyV q) a 101 0 0 tbW) {h : RS} {x0 : Int32} {x1 : Int32} (hw : bp_V_isWithin_0 Q h x0 x1) : Z p l e R s m args below meth c D clV 101 a (ceV a q) 2 (MQ below (va_Qi Q (AtC D clV 101 a (ceV a q)) (inW a 101)) args s 0 0 (inW a 101)) h 0 [(0, .int x0), (1, .int x1)] [] := by
  unfold bp_V_isWithin_0 at hw
  refine z_iload_n (pc := 0) X 0 d_V_isWithin_0 rfl rfl ?_
  refine z_if_lt (tgt := 13) (pc := 1) X d_V_isWithin_1 (by decide) (fun hc => ?_) (fun hc => ?_)
  · have hw := hw.1 hc
    refine z_iconst (v := (0 : Int32)) (pc := 13) X d_V_isWithin_13 (by decide) ?_
    exact z_zret (pc := 14) X hw.1 d_V_isWithin_14 hw.2
  · have hw := hw.2 hc
    refine z_iload_n (pc := 4) X 0 d_V_isWithin_4 rfl rfl ?_
    refine z_iload_n (pc := 5) X 1 d_V_isWithin_5 rfl rfl ?_
    refine z_icmp_gt (tgt := 13) (pc := 6) X d_V_isWithin_6 (by decide) (fun hc => ?_) (fun hc => ?_)
    · have hw := hw.1 hc
      refine z_iconst (v := (0 : Int32)) (pc := 13) X d_V_isWithin_13 (by decide) ?_
      exact z_zret (pc := 14) X hw.1 d_V_isWithin_14 hw.2
    · have hw := hw.2 hc
      refine z_iconst (v := (1 : Int32)) (pc := 9) X d_V_isWithin_9 (by decide) ?_
      refine z_goto (tgt := 14) (pc := 10) X d_V_isWithin_10 (by decide) ?_
      exact z_zret (pc := 14) X hw.1 d_V_isWithin_14 hw.2
theorem c_V_isWithin {l : Launch} {D : va_G} {a : Nat → Nat} {q : Nat → ClassId} (hI : injW a 101) {h : RS} {x0 : Int32} {x1 : Int32} {Q : Int32 → RS → Prop} (hw : wp_V_isWithin h x0 x1 Q) : Met l y_V_isWithin [.code y_V_isWithin b_V_isWithin 2 (some .boolean)] { frames := 0, cells := 0, slots := 0, locals := 0 } (va_Pc [.int x0, .int x1] (PreC tbW D clV (tyV q) 101 a (ceV a q) h)) (va_Qi Q (AtC D clV 101 a (ceV a q)) (inW a 101)) 0 0 (inW a 101) :=
  m_of (by decide +kernel) hI tb_ok (Nat.le_of_ble_eq_true rfl) (fun p e R s m below meth c X => kb_V_isWithin_0 X hw)
set_option maxHeartbeats 4000000 in
set_option maxRecDepth 100000 in
theorem kb_Re_addPart_0 {Q : Int32 → RS → Prop} (X : Cx p l R s m args meth c b_Re_addPart 5 R_Re (some .int) D clV (tyV q) a 101 0 0 tbW) {h : RS} {i0 : Nat} {x1 : Int32} {x2 : Int32} {x3 : Int32} (hi0 : i0 < 8) (hw : bp_Re_addPart_0 Q h i0 x1 x2 x3) : Z p l e R s m args below meth c D clV 101 a (ceV a q) 5 (MQ below (va_Qi Q (AtC D clV 101 a (ceV a q)) (inW a 101)) args s 0 0 (inW a 101)) h 0 [(0, .ref (a (29 + i0))), (1, .int x1), (2, .int x2), (3, .int x3)] [] := by
  unfold bp_Re_addPart_0 at hw
  refine z_aload_n (pc := 0) X 0 d_Re_addPart_0 rfl rfl ?_
  refine z_get (i := (29 + i0)) (pc := 1) X (lt_ix hi0 (by decide)) (cV_Re _ hi0) rfl hin_Re 0 (by decide) lk6 rfl rfl d_Re_addPart_1 ?_
  refine z_istore (pc := 4) X d_Re_addPart_4 (by decide) rfl ?_
  refine z_aload_n (pc := 6) X 1 d_Re_addPart_6 rfl rfl ?_
  refine z_get (i := (29 + i0)) (pc := 7) X (lt_ix hi0 (by decide)) (cV_Re _ hi0) rfl hin_Re 1 (by decide) lk7 rfl rfl d_Re_addPart_7 ?_
  refine z_iload (pc := 10) X 0 d_Re_addPart_10 rfl ?_
  refine z_iload_n (pc := 12) X 2 d_Re_addPart_12 rfl rfl ?_
  obtain ⟨k1, hk1, ek1, hw⟩ := hw
  refine z_iast (i := (37 + i0)) (pc := 13) X 0 (lt_ix hi0 (by decide)) (fun g => (cV_pC g hi0)) rfl (by decide) hk1 ek1 d_Re_addPart_13 ?_
  have hw := hw _ rfl
  refine z_aload_n (pc := 14) X 1 d_Re_addPart_14 rfl rfl ?_
  refine z_get (i := (29 + i0)) (pc := 15) X (lt_ix hi0 (by decide)) (cV_Re _ hi0) rfl hin_Re 2 (by decide) lk8 rfl rfl d_Re_addPart_15 ?_
  refine z_iload (pc := 18) X 0 d_Re_addPart_18 rfl ?_
  refine z_iload_n (pc := 20) X 3 d_Re_addPart_20 rfl rfl ?_
  obtain ⟨k3, hk3, ek3, hw⟩ := hw
  refine z_iast (i := (45 + i0)) (pc := 21) X 0 (lt_ix hi0 (by decide)) (fun g => (cV_pT g hi0)) rfl (by decide) hk3 ek3 d_Re_addPart_21 ?_
  have hw := hw _ rfl
  refine z_aload_n (pc := 22) X 1 d_Re_addPart_22 rfl rfl ?_
  refine z_get (i := (29 + i0)) (pc := 23) X (lt_ix hi0 (by decide)) (cV_Re _ hi0) rfl hin_Re 3 (by decide) lk9 rfl rfl d_Re_addPart_23 ?_
  refine z_iload (pc := 26) X 0 d_Re_addPart_26 rfl ?_
  refine z_iload_n (pc := 28) X 4 d_Re_addPart_28 rfl rfl ?_
  obtain ⟨k5, hk5, ek5, hw⟩ := hw
  refine z_iast (i := (53 + i0)) (pc := 29) X 0 (lt_ix hi0 (by decide)) (fun g => (cV_pN g hi0)) rfl (by decide) hk5 ek5 d_Re_addPart_29 ?_
  have hw := hw _ rfl
  refine z_aload_n (pc := 30) X 1 d_Re_addPart_30 rfl rfl ?_
  refine z_dup (pc := 31) X d_Re_addPart_31 rfl ?_
  refine z_get (i := (29 + i0)) (pc := 32) X (lt_ix hi0 (by decide)) (cV_Re _ hi0) rfl hin_Re 0 (by decide) lk6 rfl rfl d_Re_addPart_32 ?_
  refine z_iconst (v := (1 : Int32)) (pc := 35) X d_Re_addPart_35 (by decide) ?_
  refine z_iadd (pc := 36) X d_Re_addPart_36 ?_
  refine z_put (i := (29 + i0)) (pc := 37) X (lt_ix hi0 (by decide)) (cV_Re _ hi0) rfl hin_Re t_Re t_Re_ok n_Re 0 (by decide) lk6 rfl rfl (t_Re_ok 0 (by decide)) rfl rfl (Nat.le_of_ble_eq_true rfl) (cV_Re _ hi0) d_Re_addPart_37 ?_
  have hw := hw _ rfl
  refine z_iload (pc := 40) X 0 d_Re_addPart_40 rfl ?_
  exact z_iret (pc := 42) X d_Re_addPart_42 hw
theorem c_Re_addPart {l : Launch} {D : va_G} {a : Nat → Nat} {q : Nat → ClassId} (hI : injW a 101) {h : RS} {i0 : Nat} {x1 : Int32} {x2 : Int32} {x3 : Int32} (hi0 : i0 < 8) {Q : Int32 → RS → Prop} (hw : wp_Re_addPart h i0 x1 x2 x3 Q) : Met l y_Re_addPart [.code y_Re_addPart b_Re_addPart 5 (some .int)] { frames := 0, cells := 0, slots := 0, locals := 0 } (va_Pc [.ref (a (29 + i0)), .int x1, .int x2, .int x3] (PreC tbW D clV (tyV q) 101 a (ceV a q) h)) (va_Qi Q (AtC D clV 101 a (ceV a q)) (inW a 101)) 0 0 (inW a 101) :=
  m_of (by decide +kernel) hI tb_ok (Nat.le_of_ble_eq_true rfl) (fun p e R s m below meth c X => kb_Re_addPart_0 X hi0 hw)
set_option maxHeartbeats 4000000 in
set_option maxRecDepth 100000 in
theorem kb_V_part_0 {Q : Int32 → RS → Prop} (X : Cx p l R s m args meth c b_V_part 5 R_V (some .int) D clV (tyV q) a 101 1 24 tbW) {h : RS} {x1 : Int32} {x2 : Int32} {x3 : Int32} {x4 : Int32} (hw : bp_V_part_0 Q h x1 x2 x3 x4) : Z p l e R s m args below meth c D clV 101 a (ceV a q) 5 (MQ below (va_Qi Q (AtC D clV 101 a (ceV a q)) (inW a 101)) args s 0 0 (inW a 101)) h 0 [(0, .ref (a 0)), (1, .int x1), (2, .int x2), (3, .int x3), (4, .int x4)] [] := by
  unfold bp_V_part_0 at hw
  refine z_aload_n (pc := 0) X 0 d_V_part_0 rfl rfl ?_
  refine z_iload_n (pc := 1) X 1 d_V_part_1 rfl rfl ?_
  refine z_cVi (i := 0) (pc := 2) X [.int x1] (c_V_mayBuild X.2.2.2.2.2.2.2.2.1 hw) (by decide) (by decide) lk10 cd_V_mayBuild lk11 lk12 lk13 (by decide) (cV_V _) rfl nm_V_mayBuild rfl rfl (Nat.le_of_ble_eq_true rfl) d_V_part_2 (fun r1 h2 hw => ?_)
  refine z_if_eq (tgt := 24) (pc := 5) X d_V_part_5 (by decide) (fun hc => ?_) (fun hc => ?_)
  · have hw := hw.1 hc
    refine z_iconst (v := (-1 : Int32)) (pc := 24) X d_V_part_24 (by decide) ?_
    exact z_iret (pc := 25) X d_V_part_25 hw
  · have hw := hw.2 hc
    refine z_aload_n (pc := 8) X 0 d_V_part_8 rfl rfl ?_
    refine z_iload_n (pc := 9) X 2 d_V_part_9 rfl rfl ?_
    refine z_cVi (i := 0) (pc := 10) X [.int x2] (c_V_isChannel X.2.2.2.2.2.2.2.2.1 hw) (by decide) (by decide) lk14 cd_V_isChannel lk11 lk15 lk16 (by decide) (cV_V _) rfl nm_V_isChannel rfl rfl (Nat.le_of_ble_eq_true rfl) d_V_part_10 (fun r3 h4 hw => ?_)
    refine z_if_eq (tgt := 24) (pc := 13) X d_V_part_13 (by decide) (fun hc => ?_) (fun hc => ?_)
    · have hw := hw.1 hc
      refine z_iconst (v := (-1 : Int32)) (pc := 24) X d_V_part_24 (by decide) ?_
      exact z_iret (pc := 25) X d_V_part_25 hw
    · have hw := hw.2 hc
      refine z_iload_n (pc := 16) X 3 d_V_part_16 rfl rfl ?_
      refine z_iconst (v := (4 : Int32)) (pc := 17) X d_V_part_17 (by decide) ?_
      refine z_cSi (pc := 18) X [.int x3, .int (4 : Int32)] (c_V_isWithin X.2.2.2.2.2.2.2.2.1 hw) (by decide) (by decide) lk17 cd_V_isWithin lk11 lk18 nm_V_isWithin rfl rfl (Nat.le_of_ble_eq_true rfl) d_V_part_18 (fun r5 h6 hw => ?_)
      refine z_if_ne (tgt := 26) (pc := 21) X d_V_part_21 (by decide) (fun hc => ?_) (fun hc => ?_)
      · have hw := hw.1 hc
        refine z_aload_n (pc := 26) X 0 d_V_part_26 rfl rfl ?_
        refine z_get (i := 0) (pc := 27) X (by decide) (cV_V _) rfl hin_V 2 (by decide) lk19 rfl rfl d_V_part_27 ?_
        refine z_iload_n (pc := 30) X 1 d_V_part_30 rfl rfl ?_
        obtain ⟨k7, hk7, ek7, hw⟩ := hw
        refine z_aald (i := 2) (g := fun j => 29 + j) (pc := 31) X 3 (by decide) (cV_Res _) rfl (by decide) hk7 ek7 d_V_part_31 ?_
        refine z_getN (i := (29 + k7)) (pc := 32) X (lt_ix hk7 (by decide)) (cV_Re _ hk7) rfl hin_Re 0 (by decide) lk20 rfl rfl d_V_part_32 ?_
        refine z_iconst (v := (4 : Int32)) (pc := 35) X d_V_part_35 (by decide) ?_
        refine z_icmp_lt (tgt := 41) (pc := 36) X d_V_part_36 (by decide) (fun hc => ?_) (fun hc => ?_)
        · have hw := hw.1 hc
          refine z_aload_n (pc := 41) X 0 d_V_part_41 rfl rfl ?_
          refine z_get (i := 0) (pc := 42) X (by decide) (cV_V _) rfl hin_V 2 (by decide) lk19 rfl rfl d_V_part_42 ?_
          refine z_iload_n (pc := 45) X 1 d_V_part_45 rfl rfl ?_
          obtain ⟨k8, hk8, ek8, hw⟩ := hw
          refine z_aald (i := 2) (g := fun j => 29 + j) (pc := 46) X 3 (by decide) (cV_Res _) rfl (by decide) hk8 ek8 d_V_part_46 ?_
          refine z_iload_n (pc := 47) X 2 d_V_part_47 rfl rfl ?_
          refine z_iload_n (pc := 48) X 3 d_V_part_48 rfl rfl ?_
          refine z_iload (pc := 49) X 4 d_V_part_49 rfl ?_
          refine z_cVNi (i := (29 + k8)) (pc := 51) X [.int x2, .int x3, .int x4] (c_Re_addPart X.2.2.2.2.2.2.2.2.1 hk8 hw) (by decide) (by decide) lk21 cd_Re_addPart lk22 lk23 lk24 (lt_ix hk8 (by decide)) (cV_Re _ hk8) rfl nm_Re_addPart rfl rfl (Nat.le_of_ble_eq_true rfl) d_V_part_51 (fun r9 h10 hw => ?_)
          exact z_iret (pc := 54) X d_V_part_54 hw
        · have hw := hw.2 hc
          refine z_iconst (v := (-1 : Int32)) (pc := 39) X d_V_part_39 (by decide) ?_
          exact z_iret (pc := 40) X d_V_part_40 hw
      · have hw := hw.2 hc
        refine z_iconst (v := (-1 : Int32)) (pc := 24) X d_V_part_24 (by decide) ?_
        exact z_iret (pc := 25) X d_V_part_25 hw
theorem c_V_part {l : Launch} {D : va_G} {a : Nat → Nat} {q : Nat → ClassId} (hI : injW a 101) {h : RS} {x1 : Int32} {x2 : Int32} {x3 : Int32} {x4 : Int32} {Q : Int32 → RS → Prop} (hw : wp_V_part h x1 x2 x3 x4 Q) : Met l y_V_part [.code y_V_part b_V_part 5 (some .int)] { frames := 1, cells := 0, slots := 0, locals := 24 } (va_Pc [.ref (a 0), .int x1, .int x2, .int x3, .int x4] (PreC tbW D clV (tyV q) 101 a (ceV a q) h)) (va_Qi Q (AtC D clV 101 a (ceV a q)) (inW a 101)) 0 0 (inW a 101) :=
  m_of (by decide +kernel) hI tb_ok (Nat.le_of_ble_eq_true rfl) (fun p e R s m below meth c X => kb_V_part_0 X hw)
set_option maxHeartbeats 4000000 in
set_option maxRecDepth 100000 in
theorem kb_V_guard_0 {Q : Int32 → RS → Prop} (X : Cx p l R s m args meth c b_V_guard 4 R_V (some .boolean) D clV (tyV q) a 101 1 21 tbW) {h : RS} {x1 : Int32} {x2 : Int32} {x3 : Int32} (hw : bp_V_guard_0 Q h x1 x2 x3) : Z p l e R s m args below meth c D clV 101 a (ceV a q) 4 (MQ below (va_Qi Q (AtC D clV 101 a (ceV a q)) (inW a 101)) args s 0 0 (inW a 101)) h 0 [(0, .ref (a 0)), (1, .int x1), (2, .int x2), (3, .int x3)] [] := by
  unfold bp_V_guard_0 at hw
  refine z_aload_n (pc := 0) X 0 d_V_guard_0 rfl rfl ?_
  refine z_iload_n (pc := 1) X 1 d_V_guard_1 rfl rfl ?_
  refine z_cVi (i := 0) (pc := 2) X [.int x1] (c_V_mayBuild X.2.2.2.2.2.2.2.2.1 hw) (by decide) (by decide) lk10 cd_V_mayBuild lk11 lk12 lk13 (by decide) (cV_V _) rfl nm_V_mayBuild rfl rfl (Nat.le_of_ble_eq_true rfl) d_V_guard_2 (fun r1 h2 hw => ?_)
  refine z_if_eq (tgt := 16) (pc := 5) X d_V_guard_5 (by decide) (fun hc => ?_) (fun hc => ?_)
  · have hw := hw.1 hc
    refine z_iconst (v := (0 : Int32)) (pc := 16) X d_V_guard_16 (by decide) ?_
    exact z_zret (pc := 17) X hw.1 d_V_guard_17 hw.2
  · have hw := hw.2 hc
    refine z_iload_n (pc := 8) X 2 d_V_guard_8 rfl rfl ?_
    refine z_iconst (v := (5 : Int32)) (pc := 9) X d_V_guard_9 (by decide) ?_
    refine z_cSi (pc := 10) X [.int x2, .int (5 : Int32)] (c_V_isWithin X.2.2.2.2.2.2.2.2.1 hw) (by decide) (by decide) lk17 cd_V_isWithin lk11 lk18 nm_V_isWithin rfl rfl (Nat.le_of_ble_eq_true rfl) d_V_guard_10 (fun r3 h4 hw => ?_)
    refine z_if_ne (tgt := 18) (pc := 13) X d_V_guard_13 (by decide) (fun hc => ?_) (fun hc => ?_)
    · have hw := hw.1 hc
      refine z_aload_n (pc := 18) X 0 d_V_guard_18 rfl rfl ?_
      refine z_get (i := 0) (pc := 19) X (by decide) (cV_V _) rfl hin_V 2 (by decide) lk19 rfl rfl d_V_guard_19 ?_
      refine z_iload_n (pc := 22) X 1 d_V_guard_22 rfl rfl ?_
      obtain ⟨k5, hk5, ek5, hw⟩ := hw
      refine z_aald (i := 2) (g := fun j => 29 + j) (pc := 23) X 3 (by decide) (cV_Res _) rfl (by decide) hk5 ek5 d_V_guard_23 ?_
      refine z_iload_n (pc := 24) X 2 d_V_guard_24 rfl rfl ?_
      refine z_putN (i := (29 + k5)) (pc := 25) X (lt_ix hk5 (by decide)) (cV_Re _ hk5) rfl hin_Re t_Re t_Re_ok n_Re 4 (by decide) lk25 rfl rfl (t_Re_ok 4 (by decide)) rfl rfl (Nat.le_of_ble_eq_true rfl) (cV_Re _ hk5) d_V_guard_25 ?_
      have hw := hw _ rfl
      refine z_aload_n (pc := 28) X 0 d_V_guard_28 rfl rfl ?_
      refine z_get (i := 0) (pc := 29) X (by decide) (cV_V _) rfl hin_V 2 (by decide) lk19 rfl rfl d_V_guard_29 ?_
      refine z_iload_n (pc := 32) X 1 d_V_guard_32 rfl rfl ?_
      obtain ⟨k7, hk7, ek7, hw⟩ := hw
      refine z_aald (i := 2) (g := fun j => 29 + j) (pc := 33) X 3 (by decide) (cV_Res _) rfl (by decide) hk7 ek7 d_V_guard_33 ?_
      refine z_iload_n (pc := 34) X 3 d_V_guard_34 rfl rfl ?_
      refine z_putN (i := (29 + k7)) (pc := 35) X (lt_ix hk7 (by decide)) (cV_Re _ hk7) rfl hin_Re t_Re t_Re_ok n_Re 5 (by decide) lk26 rfl rfl (t_Re_ok 5 (by decide)) rfl rfl (Nat.le_of_ble_eq_true rfl) (cV_Re _ hk7) d_V_guard_35 ?_
      have hw := hw _ rfl
      refine z_iconst (v := (1 : Int32)) (pc := 38) X d_V_guard_38 (by decide) ?_
      exact z_zret (pc := 39) X hw.1 d_V_guard_39 hw.2
    · have hw := hw.2 hc
      refine z_iconst (v := (0 : Int32)) (pc := 16) X d_V_guard_16 (by decide) ?_
      exact z_zret (pc := 17) X hw.1 d_V_guard_17 hw.2
theorem c_V_guard {l : Launch} {D : va_G} {a : Nat → Nat} {q : Nat → ClassId} (hI : injW a 101) {h : RS} {x1 : Int32} {x2 : Int32} {x3 : Int32} {Q : Int32 → RS → Prop} (hw : wp_V_guard h x1 x2 x3 Q) : Met l y_V_guard [.code y_V_guard b_V_guard 4 (some .boolean)] { frames := 1, cells := 0, slots := 0, locals := 21 } (va_Pc [.ref (a 0), .int x1, .int x2, .int x3] (PreC tbW D clV (tyV q) 101 a (ceV a q) h)) (va_Qi Q (AtC D clV 101 a (ceV a q)) (inW a 101)) 0 0 (inW a 101) :=
  m_of (by decide +kernel) hI tb_ok (Nat.le_of_ble_eq_true rfl) (fun p e R s m below meth c X => kb_V_guard_0 X hw)
set_option maxHeartbeats 4000000 in
set_option maxRecDepth 100000 in
theorem kb_V_isChannelOf_0 {Q : Int32 → RS → Prop} (X : Cx p l R s m args meth c b_V_isChannelOf 3 R_V (some .boolean) D clV (tyV q) a 101 1 21 tbW) {h : RS} {x1 : Int32} {x2 : Int32} (hw : bp_V_isChannelOf_0 Q h x1 x2) : Z p l e R s m args below meth c D clV 101 a (ceV a q) 3 (MQ below (va_Qi Q (AtC D clV 101 a (ceV a q)) (inW a 101)) args s 0 0 (inW a 101)) h 0 [(0, .ref (a 0)), (1, .int x1), (2, .int x2)] [] := by
  unfold bp_V_isChannelOf_0 at hw
  refine z_aload_n (pc := 0) X 0 d_V_isChannelOf_0 rfl rfl ?_
  refine z_iload_n (pc := 1) X 1 d_V_isChannelOf_1 rfl rfl ?_
  refine z_cVi (i := 0) (pc := 2) X [.int x1] (c_V_isChannel X.2.2.2.2.2.2.2.2.1 hw) (by decide) (by decide) lk14 cd_V_isChannel lk11 lk15 lk16 (by decide) (cV_V _) rfl nm_V_isChannel rfl rfl (Nat.le_of_ble_eq_true rfl) d_V_isChannelOf_2 (fun r1 h2 hw => ?_)
  refine z_if_eq (tgt := 25) (pc := 5) X d_V_isChannelOf_5 (by decide) (fun hc => ?_) (fun hc => ?_)
  · have hw := hw.1 hc
    refine z_iconst (v := (0 : Int32)) (pc := 25) X d_V_isChannelOf_25 (by decide) ?_
    exact z_zret (pc := 26) X hw.1 d_V_isChannelOf_26 hw.2
  · have hw := hw.2 hc
    refine z_aload_n (pc := 8) X 0 d_V_isChannelOf_8 rfl rfl ?_
    refine z_get (i := 0) (pc := 9) X (by decide) (cV_V _) rfl hin_V 0 (by decide) lk3 rfl rfl d_V_isChannelOf_9 ?_
    refine z_iload_n (pc := 12) X 1 d_V_isChannelOf_12 rfl rfl ?_
    obtain ⟨k3, hk3, ek3, hw⟩ := hw
    refine z_aald (i := 1) (g := fun j => 13 + j) (pc := 13) X 2 (by decide) (cV_Chs _) rfl (by decide) hk3 ek3 d_V_isChannelOf_13 ?_
    refine z_getN (i := (13 + k3)) (pc := 14) X (lt_ix hk3 (by decide)) (cV_Ch _ hk3) rfl hin_Ch 0 (by decide) lk4 rfl rfl d_V_isChannelOf_14 ?_
    refine z_iload_n (pc := 17) X 2 d_V_isChannelOf_17 rfl rfl ?_
    refine z_icmp_ne (tgt := 25) (pc := 18) X d_V_isChannelOf_18 (by decide) (fun hc => ?_) (fun hc => ?_)
    · have hw := hw.1 hc
      refine z_iconst (v := (0 : Int32)) (pc := 25) X d_V_isChannelOf_25 (by decide) ?_
      exact z_zret (pc := 26) X hw.1 d_V_isChannelOf_26 hw.2
    · have hw := hw.2 hc
      refine z_iconst (v := (1 : Int32)) (pc := 21) X d_V_isChannelOf_21 (by decide) ?_
      refine z_goto (tgt := 26) (pc := 22) X d_V_isChannelOf_22 (by decide) ?_
      exact z_zret (pc := 26) X hw.1 d_V_isChannelOf_26 hw.2
theorem c_V_isChannelOf {l : Launch} {D : va_G} {a : Nat → Nat} {q : Nat → ClassId} (hI : injW a 101) {h : RS} {x1 : Int32} {x2 : Int32} {Q : Int32 → RS → Prop} (hw : wp_V_isChannelOf h x1 x2 Q) : Met l y_V_isChannelOf [.code y_V_isChannelOf b_V_isChannelOf 3 (some .boolean)] { frames := 1, cells := 0, slots := 0, locals := 21 } (va_Pc [.ref (a 0), .int x1, .int x2] (PreC tbW D clV (tyV q) 101 a (ceV a q) h)) (va_Qi Q (AtC D clV 101 a (ceV a q)) (inW a 101)) 0 0 (inW a 101) :=
  m_of (by decide +kernel) hI tb_ok (Nat.le_of_ble_eq_true rfl) (fun p e R s m below meth c X => kb_V_isChannelOf_0 X hw)
set_option maxHeartbeats 4000000 in
set_option maxRecDepth 100000 in
theorem kb_Re_hasPart_0 {Q : Int32 → RS → Prop} (X : Cx p l R s m args meth c b_Re_hasPart 2 R_Re (some .boolean) D clV (tyV q) a 101 0 0 tbW) {h : RS} {i0 : Nat} {x1 : Int32} (hi0 : i0 < 8) (hw : bp_Re_hasPart_0 Q h i0 x1) : Z p l e R s m args below meth c D clV 101 a (ceV a q) 2 (MQ below (va_Qi Q (AtC D clV 101 a (ceV a q)) (inW a 101)) args s 0 0 (inW a 101)) h 0 [(0, .ref (a (29 + i0))), (1, .int x1)] [] := by
  unfold bp_Re_hasPart_0 at hw
  refine z_iload_n (pc := 0) X 1 d_Re_hasPart_0 rfl rfl ?_
  refine z_if_lt (tgt := 16) (pc := 1) X d_Re_hasPart_1 (by decide) (fun hc => ?_) (fun hc => ?_)
  · have hw := hw.1 hc
    refine z_iconst (v := (0 : Int32)) (pc := 16) X d_Re_hasPart_16 (by decide) ?_
    exact z_zret (pc := 17) X hw.1 d_Re_hasPart_17 hw.2
  · have hw := hw.2 hc
    refine z_iload_n (pc := 4) X 1 d_Re_hasPart_4 rfl rfl ?_
    refine z_aload_n (pc := 5) X 0 d_Re_hasPart_5 rfl rfl ?_
    refine z_get (i := (29 + i0)) (pc := 6) X (lt_ix hi0 (by decide)) (cV_Re _ hi0) rfl hin_Re 0 (by decide) lk6 rfl rfl d_Re_hasPart_6 ?_
    refine z_icmp_ge (tgt := 16) (pc := 9) X d_Re_hasPart_9 (by decide) (fun hc => ?_) (fun hc => ?_)
    · have hw := hw.1 hc
      refine z_iconst (v := (0 : Int32)) (pc := 16) X d_Re_hasPart_16 (by decide) ?_
      exact z_zret (pc := 17) X hw.1 d_Re_hasPart_17 hw.2
    · have hw := hw.2 hc
      refine z_iconst (v := (1 : Int32)) (pc := 12) X d_Re_hasPart_12 (by decide) ?_
      refine z_goto (tgt := 17) (pc := 13) X d_Re_hasPart_13 (by decide) ?_
      exact z_zret (pc := 17) X hw.1 d_Re_hasPart_17 hw.2
theorem c_Re_hasPart {l : Launch} {D : va_G} {a : Nat → Nat} {q : Nat → ClassId} (hI : injW a 101) {h : RS} {i0 : Nat} {x1 : Int32} (hi0 : i0 < 8) {Q : Int32 → RS → Prop} (hw : wp_Re_hasPart h i0 x1 Q) : Met l y_Re_hasPart [.code y_Re_hasPart b_Re_hasPart 2 (some .boolean)] { frames := 0, cells := 0, slots := 0, locals := 0 } (va_Pc [.ref (a (29 + i0)), .int x1] (PreC tbW D clV (tyV q) 101 a (ceV a q) h)) (va_Qi Q (AtC D clV 101 a (ceV a q)) (inW a 101)) 0 0 (inW a 101) :=
  m_of (by decide +kernel) hI tb_ok (Nat.le_of_ble_eq_true rfl) (fun p e R s m below meth c X => kb_Re_hasPart_0 X hi0 hw)
set_option maxHeartbeats 4000000 in
set_option maxRecDepth 100000 in
theorem kb_Re_mayAddAction_33 {Q : Int32 → RS → Prop} (X : Cx p l R s m args meth c b_Re_mayAddAction 4 R_Re (some .boolean) D clV (tyV q) a 101 1 21 tbW) {h : RS} {i0 : Nat} {x2 : Int32} {y0 : Int32} (hi0 : i0 < 8) (hw : bp_Re_mayAddAction_33 Q h i0 x2 y0) : Z p l e R s m args below meth c D clV 101 a (ceV a q) 4 (MQ below (va_Qi Q (AtC D clV 101 a (ceV a q)) (inW a 101)) args s 0 0 (inW a 101)) h 33 [(0, .ref (a (29 + i0))), (2, .int x2)] [.int y0] := by
  unfold bp_Re_mayAddAction_33 at hw
  refine z_istore_n (pc := 33) X d_Re_mayAddAction_33 rfl (by decide) rfl ?_
  refine z_iload_n (pc := 34) X 0 d_Re_mayAddAction_34 rfl rfl ?_
  refine z_if_eq (tgt := 46) (pc := 35) X d_Re_mayAddAction_35 (by decide) (fun hc => ?_) (fun hc => ?_)
  · have hw := hw.1 hc
    refine z_iconst (v := (1 : Int32)) (pc := 46) X d_Re_mayAddAction_46 (by decide) ?_
    refine z_goto (tgt := 51) (pc := 47) X d_Re_mayAddAction_47 (by decide) ?_
    exact z_zret (pc := 51) X hw.1 d_Re_mayAddAction_51 hw.2
  · have hw := hw.2 hc
    refine z_aload_n (pc := 38) X 1 d_Re_mayAddAction_38 rfl rfl ?_
    refine z_iload_n (pc := 39) X 2 d_Re_mayAddAction_39 rfl rfl ?_
    refine z_cVi (i := (29 + i0)) (pc := 40) X [.int x2] (c_Re_hasPart X.2.2.2.2.2.2.2.2.1 hi0 hw) (by decide) (by decide) lk27 cd_Re_hasPart lk22 lk28 lk29 (lt_ix hi0 (by decide)) (cV_Re _ hi0) rfl nm_Re_hasPart rfl rfl (Nat.le_of_ble_eq_true rfl) d_Re_mayAddAction_40 (fun r1 h2 hw => ?_)
    refine z_if_eq (tgt := 50) (pc := 43) X d_Re_mayAddAction_43 (by decide) (fun hc => ?_) (fun hc => ?_)
    · have hw := hw.1 hc
      refine z_iconst (v := (0 : Int32)) (pc := 50) X d_Re_mayAddAction_50 (by decide) ?_
      exact z_zret (pc := 51) X hw.1 d_Re_mayAddAction_51 hw.2
    · have hw := hw.2 hc
      refine z_iconst (v := (1 : Int32)) (pc := 46) X d_Re_mayAddAction_46 (by decide) ?_
      refine z_goto (tgt := 51) (pc := 47) X d_Re_mayAddAction_47 (by decide) ?_
      exact z_zret (pc := 51) X hw.1 d_Re_mayAddAction_51 hw.2
set_option maxHeartbeats 4000000 in
set_option maxRecDepth 100000 in
theorem kb_Re_mayAddAction_28 {Q : Int32 → RS → Prop} (X : Cx p l R s m args meth c b_Re_mayAddAction 4 R_Re (some .boolean) D clV (tyV q) a 101 1 21 tbW) {h : RS} {i0 : Nat} {x2 : Int32} (hi0 : i0 < 8) (hw : bp_Re_mayAddAction_28 Q h i0 x2) : Z p l e R s m args below meth c D clV 101 a (ceV a q) 4 (MQ below (va_Qi Q (AtC D clV 101 a (ceV a q)) (inW a 101)) args s 0 0 (inW a 101)) h 28 [(0, .ref (a (29 + i0))), (2, .int x2)] [] := by
  unfold bp_Re_mayAddAction_28 at hw
  refine z_iconst (v := (1 : Int32)) (pc := 28) X d_Re_mayAddAction_28 (by decide) ?_
  refine z_goto (tgt := 33) (pc := 29) X d_Re_mayAddAction_29 (by decide) ?_
  exact z_to [0, 1] rfl (kb_Re_mayAddAction_33 X hi0 hw)
set_option maxHeartbeats 4000000 in
set_option maxRecDepth 100000 in
theorem kb_Re_mayAddAction_0 {Q : Int32 → RS → Prop} (X : Cx p l R s m args meth c b_Re_mayAddAction 4 R_Re (some .boolean) D clV (tyV q) a 101 1 21 tbW) {h : RS} {i0 : Nat} {x1 : Int32} {x2 : Int32} (hi0 : i0 < 8) (hw : bp_Re_mayAddAction_0 Q h i0 x1 x2) : Z p l e R s m args below meth c D clV 101 a (ceV a q) 4 (MQ below (va_Qi Q (AtC D clV 101 a (ceV a q)) (inW a 101)) args s 0 0 (inW a 101)) h 0 [(0, .ref (a (29 + i0))), (1, .int x1), (2, .int x2)] [] := by
  unfold bp_Re_mayAddAction_0 at hw
  refine z_iload_n (pc := 0) X 1 d_Re_mayAddAction_0 rfl rfl ?_
  refine z_iconst (v := (4 : Int32)) (pc := 1) X d_Re_mayAddAction_1 (by decide) ?_
  refine z_cSNi (pc := 2) X [.int x1, .int (4 : Int32)] (c_V_isWithin X.2.2.2.2.2.2.2.2.1 hw) (by decide) (by decide) lk30 cd_V_isWithin lk11 lk18 nm_V_isWithin rfl rfl (Nat.le_of_ble_eq_true rfl) d_Re_mayAddAction_2 (fun r3 h4 hw => ?_)
  refine z_if_eq (tgt := 16) (pc := 5) X d_Re_mayAddAction_5 (by decide) (fun hc => ?_) (fun hc => ?_)
  · have hw := hw.1 hc
    refine z_iconst (v := (0 : Int32)) (pc := 16) X d_Re_mayAddAction_16 (by decide) ?_
    exact z_zret (pc := 17) X hw.1 d_Re_mayAddAction_17 hw.2
  · have hw := hw.2 hc
    refine z_aload_n (pc := 8) X 0 d_Re_mayAddAction_8 rfl rfl ?_
    refine z_get (i := (29 + i0)) (pc := 9) X (lt_ix hi0 (by decide)) (cV_Re _ hi0) rfl hin_Re 6 (by decide) lk31 rfl rfl d_Re_mayAddAction_9 ?_
    refine z_iconst (v := (4 : Int32)) (pc := 12) X d_Re_mayAddAction_12 (by decide) ?_
    refine z_icmp_lt (tgt := 18) (pc := 13) X d_Re_mayAddAction_13 (by decide) (fun hc => ?_) (fun hc => ?_)
    · have hw := hw.1 hc
      refine z_iload_n (pc := 18) X 1 d_Re_mayAddAction_18 rfl rfl ?_
      refine z_iconst (v := (1 : Int32)) (pc := 19) X d_Re_mayAddAction_19 (by decide) ?_
      refine z_icmp_eq (tgt := 28) (pc := 20) X d_Re_mayAddAction_20 (by decide) (fun hc => ?_) (fun hc => ?_)
      · have hw := hw.1 hc
        exact z_to [0, 2] rfl (kb_Re_mayAddAction_28 X hi0 hw)
      · have hw := hw.2 hc
        refine z_iload_n (pc := 23) X 1 d_Re_mayAddAction_23 rfl rfl ?_
        refine z_iconst (v := (2 : Int32)) (pc := 24) X d_Re_mayAddAction_24 (by decide) ?_
        refine z_icmp_ne (tgt := 32) (pc := 25) X d_Re_mayAddAction_25 (by decide) (fun hc => ?_) (fun hc => ?_)
        · have hw := hw.1 hc
          refine z_iconst (v := (0 : Int32)) (pc := 32) X d_Re_mayAddAction_32 (by decide) ?_
          exact z_to [0, 2] rfl (kb_Re_mayAddAction_33 X hi0 hw)
        · have hw := hw.2 hc
          exact z_to [0, 2] rfl (kb_Re_mayAddAction_28 X hi0 hw)
    · have hw := hw.2 hc
      refine z_iconst (v := (0 : Int32)) (pc := 16) X d_Re_mayAddAction_16 (by decide) ?_
      exact z_zret (pc := 17) X hw.1 d_Re_mayAddAction_17 hw.2
theorem c_Re_mayAddAction {l : Launch} {D : va_G} {a : Nat → Nat} {q : Nat → ClassId} (hI : injW a 101) {h : RS} {i0 : Nat} {x1 : Int32} {x2 : Int32} (hi0 : i0 < 8) {Q : Int32 → RS → Prop} (hw : wp_Re_mayAddAction h i0 x1 x2 Q) : Met l y_Re_mayAddAction [.code y_Re_mayAddAction b_Re_mayAddAction 4 (some .boolean)] { frames := 1, cells := 0, slots := 0, locals := 21 } (va_Pc [.ref (a (29 + i0)), .int x1, .int x2] (PreC tbW D clV (tyV q) 101 a (ceV a q) h)) (va_Qi Q (AtC D clV 101 a (ceV a q)) (inW a 101)) 0 0 (inW a 101) :=
  m_of (by decide +kernel) hI tb_ok (Nat.le_of_ble_eq_true rfl) (fun p e R s m below meth c X => kb_Re_mayAddAction_0 X hi0 hw)
set_option maxHeartbeats 4000000 in
set_option maxRecDepth 100000 in
theorem kb_Re_addAction_0 {Q : RS → Prop} (X : Cx p l R s m args meth c b_Re_addAction 7 R_Re none D clV (tyV q) a 101 0 0 tbW) {h : RS} {i0 : Nat} {x1 : Int32} {x2 : Int32} {x3 : Int32} {x4 : Int32} {x5 : Int32} (hi0 : i0 < 8) (hw : bp_Re_addAction_0 Q h i0 x1 x2 x3 x4 x5) : Z p l e R s m args below meth c D clV 101 a (ceV a q) 7 (MQ below (va_Qv Q (AtC D clV 101 a (ceV a q)) (inW a 101)) args s 0 0 (inW a 101)) h 0 [(0, .ref (a (29 + i0))), (1, .int x1), (2, .int x2), (3, .int x3), (4, .int x4), (5, .int x5)] [] := by
  unfold bp_Re_addAction_0 at hw
  refine z_aload_n (pc := 0) X 0 d_Re_addAction_0 rfl rfl ?_
  refine z_get (i := (29 + i0)) (pc := 1) X (lt_ix hi0 (by decide)) (cV_Re _ hi0) rfl hin_Re 6 (by decide) lk31 rfl rfl d_Re_addAction_1 ?_
  refine z_istore (pc := 4) X d_Re_addAction_4 (by decide) rfl ?_
  refine z_aload_n (pc := 6) X 1 d_Re_addAction_6 rfl rfl ?_
  refine z_get (i := (29 + i0)) (pc := 7) X (lt_ix hi0 (by decide)) (cV_Re _ hi0) rfl hin_Re 7 (by decide) lk32 rfl rfl d_Re_addAction_7 ?_
  refine z_iload (pc := 10) X 0 d_Re_addAction_10 rfl ?_
  refine z_iload_n (pc := 12) X 2 d_Re_addAction_12 rfl rfl ?_
  obtain ⟨k1, hk1, ek1, hw⟩ := hw
  obtain ⟨hB, hw⟩ := hw
  refine z_zast (i := (61 + i0)) (pc := 13) X 1 (lt_ix hi0 (by decide)) (fun g => (cV_aS g hi0)) rfl (by decide) hk1 ek1 hB d_Re_addAction_13 ?_
  have hw := hw _ rfl
  refine z_aload_n (pc := 14) X 1 d_Re_addAction_14 rfl rfl ?_
  refine z_get (i := (29 + i0)) (pc := 15) X (lt_ix hi0 (by decide)) (cV_Re _ hi0) rfl hin_Re 8 (by decide) lk33 rfl rfl d_Re_addAction_15 ?_
  refine z_iload (pc := 18) X 0 d_Re_addAction_18 rfl ?_
  refine z_iload_n (pc := 20) X 3 d_Re_addAction_20 rfl rfl ?_
  obtain ⟨k3, hk3, ek3, hw⟩ := hw
  refine z_iast (i := (69 + i0)) (pc := 21) X 0 (lt_ix hi0 (by decide)) (fun g => (cV_aT g hi0)) rfl (by decide) hk3 ek3 d_Re_addAction_21 ?_
  have hw := hw _ rfl
  refine z_aload_n (pc := 22) X 1 d_Re_addAction_22 rfl rfl ?_
  refine z_get (i := (29 + i0)) (pc := 23) X (lt_ix hi0 (by decide)) (cV_Re _ hi0) rfl hin_Re 9 (by decide) lk34 rfl rfl d_Re_addAction_23 ?_
  refine z_iload (pc := 26) X 0 d_Re_addAction_26 rfl ?_
  refine z_iload_n (pc := 28) X 4 d_Re_addAction_28 rfl rfl ?_
  obtain ⟨k5, hk5, ek5, hw⟩ := hw
  refine z_iast (i := (77 + i0)) (pc := 29) X 0 (lt_ix hi0 (by decide)) (fun g => (cV_aK g hi0)) rfl (by decide) hk5 ek5 d_Re_addAction_29 ?_
  have hw := hw _ rfl
  refine z_aload_n (pc := 30) X 1 d_Re_addAction_30 rfl rfl ?_
  refine z_get (i := (29 + i0)) (pc := 31) X (lt_ix hi0 (by decide)) (cV_Re _ hi0) rfl hin_Re 10 (by decide) lk35 rfl rfl d_Re_addAction_31 ?_
  refine z_iload (pc := 34) X 0 d_Re_addAction_34 rfl ?_
  refine z_iload (pc := 36) X 5 d_Re_addAction_36 rfl ?_
  obtain ⟨k7, hk7, ek7, hw⟩ := hw
  refine z_iast (i := (85 + i0)) (pc := 38) X 0 (lt_ix hi0 (by decide)) (fun g => (cV_aP g hi0)) rfl (by decide) hk7 ek7 d_Re_addAction_38 ?_
  have hw := hw _ rfl
  refine z_aload_n (pc := 39) X 1 d_Re_addAction_39 rfl rfl ?_
  refine z_get (i := (29 + i0)) (pc := 40) X (lt_ix hi0 (by decide)) (cV_Re _ hi0) rfl hin_Re 11 (by decide) lk36 rfl rfl d_Re_addAction_40 ?_
  refine z_iload (pc := 43) X 0 d_Re_addAction_43 rfl ?_
  refine z_iload (pc := 45) X 6 d_Re_addAction_45 rfl ?_
  obtain ⟨k9, hk9, ek9, hw⟩ := hw
  refine z_iast (i := (93 + i0)) (pc := 47) X 0 (lt_ix hi0 (by decide)) (fun g => (cV_aN g hi0)) rfl (by decide) hk9 ek9 d_Re_addAction_47 ?_
  have hw := hw _ rfl
  refine z_aload_n (pc := 48) X 1 d_Re_addAction_48 rfl rfl ?_
  refine z_dup (pc := 49) X d_Re_addAction_49 rfl ?_
  refine z_get (i := (29 + i0)) (pc := 50) X (lt_ix hi0 (by decide)) (cV_Re _ hi0) rfl hin_Re 6 (by decide) lk31 rfl rfl d_Re_addAction_50 ?_
  refine z_iconst (v := (1 : Int32)) (pc := 53) X d_Re_addAction_53 (by decide) ?_
  refine z_iadd (pc := 54) X d_Re_addAction_54 ?_
  refine z_put (i := (29 + i0)) (pc := 55) X (lt_ix hi0 (by decide)) (cV_Re _ hi0) rfl hin_Re t_Re t_Re_ok n_Re 6 (by decide) lk31 rfl rfl (t_Re_ok 6 (by decide)) rfl rfl (Nat.le_of_ble_eq_true rfl) (cV_Re _ hi0) d_Re_addAction_55 ?_
  have hw := hw _ rfl
  exact z_vret (pc := 58) X d_Re_addAction_58 hw
theorem c_Re_addAction {l : Launch} {D : va_G} {a : Nat → Nat} {q : Nat → ClassId} (hI : injW a 101) {h : RS} {i0 : Nat} {x1 : Int32} {x2 : Int32} {x3 : Int32} {x4 : Int32} {x5 : Int32} (hi0 : i0 < 8) {Q : RS → Prop} (hw : wp_Re_addAction h i0 x1 x2 x3 x4 x5 Q) : Met l y_Re_addAction [.code y_Re_addAction b_Re_addAction 7 none] { frames := 0, cells := 0, slots := 0, locals := 0 } (va_Pc [.ref (a (29 + i0)), .int x1, .int x2, .int x3, .int x4, .int x5] (PreC tbW D clV (tyV q) 101 a (ceV a q) h)) (va_Qv Q (AtC D clV 101 a (ceV a q)) (inW a 101)) 0 0 (inW a 101) :=
  m_of (by decide +kernel) hI tb_ok (Nat.le_of_ble_eq_true rfl) (fun p e R s m below meth c X => kb_Re_addAction_0 X hi0 hw)
set_option maxHeartbeats 4000000 in
set_option maxRecDepth 100000 in
theorem kb_V_emit_0 {Q : Int32 → RS → Prop} (X : Cx p l R s m args meth c b_V_emit 6 R_V (some .boolean) D clV (tyV q) a 101 2 44 tbW) {h : RS} {x1 : Int32} {x2 : Int32} {x3 : Int32} {x4 : Int32} {x5 : Int32} (hw : bp_V_emit_0 Q h x1 x2 x3 x4 x5) : Z p l e R s m args below meth c D clV 101 a (ceV a q) 6 (MQ below (va_Qi Q (AtC D clV 101 a (ceV a q)) (inW a 101)) args s 0 0 (inW a 101)) h 0 [(0, .ref (a 0)), (1, .int x1), (2, .int x2), (3, .int x3), (4, .int x4), (5, .int x5)] [] := by
  unfold bp_V_emit_0 at hw
  refine z_aload_n (pc := 0) X 0 d_V_emit_0 rfl rfl ?_
  refine z_iload_n (pc := 1) X 1 d_V_emit_1 rfl rfl ?_
  refine z_cVi (i := 0) (pc := 2) X [.int x1] (c_V_mayBuild X.2.2.2.2.2.2.2.2.1 hw) (by decide) (by decide) lk10 cd_V_mayBuild lk11 lk12 lk13 (by decide) (cV_V _) rfl nm_V_mayBuild rfl rfl (Nat.le_of_ble_eq_true rfl) d_V_emit_2 (fun r1 h2 hw => ?_)
  refine z_if_eq (tgt := 17) (pc := 5) X d_V_emit_5 (by decide) (fun hc => ?_) (fun hc => ?_)
  · have hw := hw.1 hc
    refine z_iconst (v := (0 : Int32)) (pc := 17) X d_V_emit_17 (by decide) ?_
    exact z_zret (pc := 18) X hw.1 d_V_emit_18 hw.2
  · have hw := hw.2 hc
    refine z_aload_n (pc := 8) X 0 d_V_emit_8 rfl rfl ?_
    refine z_iload_n (pc := 9) X 2 d_V_emit_9 rfl rfl ?_
    refine z_iconst (v := (0 : Int32)) (pc := 10) X d_V_emit_10 (by decide) ?_
    refine z_cVi (i := 0) (pc := 11) X [.int x2, .int (0 : Int32)] (c_V_isChannelOf X.2.2.2.2.2.2.2.2.1 hw) (by decide) (by decide) lk37 cd_V_isChannelOf lk11 lk38 lk39 (by decide) (cV_V _) rfl nm_V_isChannelOf rfl rfl (Nat.le_of_ble_eq_true rfl) d_V_emit_11 (fun r3 h4 hw => ?_)
    refine z_if_ne (tgt := 19) (pc := 14) X d_V_emit_14 (by decide) (fun hc => ?_) (fun hc => ?_)
    · have hw := hw.1 hc
      refine z_aload_n (pc := 19) X 0 d_V_emit_19 rfl rfl ?_
      refine z_get (i := 0) (pc := 20) X (by decide) (cV_V _) rfl hin_V 2 (by decide) lk19 rfl rfl d_V_emit_20 ?_
      refine z_iload_n (pc := 23) X 1 d_V_emit_23 rfl rfl ?_
      obtain ⟨k5, hk5, ek5, hw⟩ := hw
      refine z_aald (i := 2) (g := fun j => 29 + j) (pc := 24) X 3 (by decide) (cV_Res _) rfl (by decide) hk5 ek5 d_V_emit_24 ?_
      refine z_iload_n (pc := 25) X 3 d_V_emit_25 rfl rfl ?_
      refine z_iload (pc := 26) X 4 d_V_emit_26 rfl ?_
      refine z_cVNi (i := (29 + k5)) (pc := 28) X [.int x3, .int x4] (c_Re_mayAddAction X.2.2.2.2.2.2.2.2.1 hk5 hw) (by decide) (by decide) lk40 cd_Re_mayAddAction lk22 lk41 lk42 (lt_ix hk5 (by decide)) (cV_Re _ hk5) rfl nm_Re_mayAddAction rfl rfl (Nat.le_of_ble_eq_true rfl) d_V_emit_28 (fun r6 h7 hw => ?_)
      refine z_if_ne (tgt := 36) (pc := 31) X d_V_emit_31 (by decide) (fun hc => ?_) (fun hc => ?_)
      · have hw := hw.1 hc
        refine z_aload_n (pc := 36) X 0 d_V_emit_36 rfl rfl ?_
        refine z_get (i := 0) (pc := 37) X (by decide) (cV_V _) rfl hin_V 2 (by decide) lk19 rfl rfl d_V_emit_37 ?_
        refine z_iload_n (pc := 40) X 1 d_V_emit_40 rfl rfl ?_
        obtain ⟨k8, hk8, ek8, hw⟩ := hw
        refine z_aald (i := 2) (g := fun j => 29 + j) (pc := 41) X 3 (by decide) (cV_Res _) rfl (by decide) hk8 ek8 d_V_emit_41 ?_
        refine z_iconst (v := (1 : Int32)) (pc := 42) X d_V_emit_42 (by decide) ?_
        refine z_iload_n (pc := 43) X 2 d_V_emit_43 rfl rfl ?_
        refine z_iload_n (pc := 44) X 3 d_V_emit_44 rfl rfl ?_
        refine z_iload (pc := 45) X 4 d_V_emit_45 rfl ?_
        refine z_iload (pc := 47) X 5 d_V_emit_47 rfl ?_
        refine z_cVNv (i := (29 + k8)) (pc := 49) X [.int (1 : Int32), .int x2, .int x3, .int x4, .int x5] (c_Re_addAction X.2.2.2.2.2.2.2.2.1 hk8 hw) (by decide) (by decide) lk43 cd_Re_addAction lk22 lk44 lk45 (lt_ix hk8 (by decide)) (cV_Re _ hk8) rfl nm_Re_addAction rfl rfl (Nat.le_of_ble_eq_true rfl) d_V_emit_49 (fun h9 hw => ?_)
        refine z_iconst (v := (1 : Int32)) (pc := 52) X d_V_emit_52 (by decide) ?_
        exact z_zret (pc := 53) X hw.1 d_V_emit_53 hw.2
      · have hw := hw.2 hc
        refine z_iconst (v := (0 : Int32)) (pc := 34) X d_V_emit_34 (by decide) ?_
        exact z_zret (pc := 35) X hw.1 d_V_emit_35 hw.2
    · have hw := hw.2 hc
      refine z_iconst (v := (0 : Int32)) (pc := 17) X d_V_emit_17 (by decide) ?_
      exact z_zret (pc := 18) X hw.1 d_V_emit_18 hw.2
theorem c_V_emit {l : Launch} {D : va_G} {a : Nat → Nat} {q : Nat → ClassId} (hI : injW a 101) {h : RS} {x1 : Int32} {x2 : Int32} {x3 : Int32} {x4 : Int32} {x5 : Int32} {Q : Int32 → RS → Prop} (hw : wp_V_emit h x1 x2 x3 x4 x5 Q) : Met l y_V_emit [.code y_V_emit b_V_emit 6 (some .boolean)] { frames := 2, cells := 0, slots := 0, locals := 44 } (va_Pc [.ref (a 0), .int x1, .int x2, .int x3, .int x4, .int x5] (PreC tbW D clV (tyV q) 101 a (ceV a q) h)) (va_Qi Q (AtC D clV 101 a (ceV a q)) (inW a 101)) 0 0 (inW a 101) :=
  m_of (by decide +kernel) hI tb_ok (Nat.le_of_ble_eq_true rfl) (fun p e R s m below meth c X => kb_V_emit_0 X hw)
set_option maxHeartbeats 4000000 in
set_option maxRecDepth 100000 in
theorem kb_Re_hasReplyTo_2 {Q : Int32 → RS → Prop} (X : Cx p l R s m args meth c b_Re_hasReplyTo 3 R_Re (some .boolean) D clV (tyV q) a 101 0 0 tbW) {K2 : RS → Nat → Int32 → Int32 → Prop} (hK2 : ∀ (h : RS) (i0 : Nat) (x1 : Int32) (x2 : Int32), i0 < 8 → K2 h i0 x1 x2 → Z p l e R s m args below meth c D clV 101 a (ceV a q) 3 (MQ below (va_Qi Q (AtC D clV 101 a (ceV a q)) (inW a 101)) args s 0 0 (inW a 101)) h 2 [(0, .ref (a (29 + i0))), (1, .int x1), (2, .int x2)] []) {h : RS} {i0 : Nat} {x1 : Int32} {x2 : Int32} (hi0 : i0 < 8) (hw : bp_Re_hasReplyTo_2 K2 Q h i0 x1 x2) : Z p l e R s m args below meth c D clV 101 a (ceV a q) 3 (MQ below (va_Qi Q (AtC D clV 101 a (ceV a q)) (inW a 101)) args s 0 0 (inW a 101)) h 2 [(0, .ref (a (29 + i0))), (1, .int x1), (2, .int x2)] [] := by
  unfold bp_Re_hasReplyTo_2 at hw
  refine z_iload_n (pc := 2) X 2 d_Re_hasReplyTo_2 rfl rfl ?_
  refine z_aload_n (pc := 3) X 0 d_Re_hasReplyTo_3 rfl rfl ?_
  refine z_get (i := (29 + i0)) (pc := 4) X (lt_ix hi0 (by decide)) (cV_Re _ hi0) rfl hin_Re 6 (by decide) lk31 rfl rfl d_Re_hasReplyTo_4 ?_
  refine z_icmp_ge (tgt := 37) (pc := 7) X d_Re_hasReplyTo_7 (by decide) (fun hc => ?_) (fun hc => ?_)
  · have hw := hw.1 hc
    refine z_iconst (v := (0 : Int32)) (pc := 37) X d_Re_hasReplyTo_37 (by decide) ?_
    exact z_zret (pc := 38) X hw.1 d_Re_hasReplyTo_38 hw.2
  · have hw := hw.2 hc
    refine z_aload_n (pc := 10) X 0 d_Re_hasReplyTo_10 rfl rfl ?_
    refine z_get (i := (29 + i0)) (pc := 11) X (lt_ix hi0 (by decide)) (cV_Re _ hi0) rfl hin_Re 7 (by decide) lk32 rfl rfl d_Re_hasReplyTo_11 ?_
    refine z_iload_n (pc := 14) X 2 d_Re_hasReplyTo_14 rfl rfl ?_
    obtain ⟨k1, hk1, ek1, hw⟩ := hw
    refine z_zald (i := (61 + i0)) (pc := 15) X 1 (lt_ix hi0 (by decide)) (cV_aS _ hi0) rfl (by decide) hk1 ek1 d_Re_hasReplyTo_15 ?_
    refine z_if_ne (tgt := 31) (pc := 16) X d_Re_hasReplyTo_16 (by decide) (fun hc => ?_) (fun hc => ?_)
    · have hw := hw.1 hc
      refine z_iinc (v := (x2 + 1)) (pc := 31) X 2 d_Re_hasReplyTo_31 rfl rfl (by decide) rfl ?_
      refine z_goto (tgt := 2) (pc := 34) X d_Re_hasReplyTo_34 (by decide) ?_
      exact z_to [1, 2, 0] rfl (hK2 _ _ _ _ hi0 hw)
    · have hw := hw.2 hc
      refine z_aload_n (pc := 19) X 0 d_Re_hasReplyTo_19 rfl rfl ?_
      refine z_get (i := (29 + i0)) (pc := 20) X (lt_ix hi0 (by decide)) (cV_Re _ hi0) rfl hin_Re 8 (by decide) lk33 rfl rfl d_Re_hasReplyTo_20 ?_
      refine z_iload_n (pc := 23) X 2 d_Re_hasReplyTo_23 rfl rfl ?_
      obtain ⟨k2, hk2, ek2, hw⟩ := hw
      refine z_iald (i := (69 + i0)) (pc := 24) X 0 (lt_ix hi0 (by decide)) (cV_aT _ hi0) rfl (by decide) hk2 ek2 d_Re_hasReplyTo_24 ?_
      refine z_iload_n (pc := 25) X 1 d_Re_hasReplyTo_25 rfl rfl ?_
      refine z_icmp_ne (tgt := 31) (pc := 26) X d_Re_hasReplyTo_26 (by decide) (fun hc => ?_) (fun hc => ?_)
      · have hw := hw.1 hc
        refine z_iinc (v := (x2 + 1)) (pc := 31) X 2 d_Re_hasReplyTo_31 rfl rfl (by decide) rfl ?_
        refine z_goto (tgt := 2) (pc := 34) X d_Re_hasReplyTo_34 (by decide) ?_
        exact z_to [1, 2, 0] rfl (hK2 _ _ _ _ hi0 hw)
      · have hw := hw.2 hc
        refine z_iconst (v := (1 : Int32)) (pc := 29) X d_Re_hasReplyTo_29 (by decide) ?_
        exact z_zret (pc := 30) X hw.1 d_Re_hasReplyTo_30 hw.2
theorem kl_Re_hasReplyTo_2 {Q : Int32 → RS → Prop} (X : Cx p l R s m args meth c b_Re_hasReplyTo 3 R_Re (some .boolean) D clV (tyV q) a 101 0 0 tbW) : ∀ (n : Nat) (h : RS) (i0 : Nat) (x1 : Int32) (x2 : Int32), i0 < 8 → wp_Re_hasReplyTo_2 Q n h i0 x1 x2 → Z p l e R s m args below meth c D clV 101 a (ceV a q) 3 (MQ below (va_Qi Q (AtC D clV 101 a (ceV a q)) (inW a 101)) args s 0 0 (inW a 101)) h 2 [(0, .ref (a (29 + i0))), (1, .int x1), (2, .int x2)] [] := by
  intro n
  induction n with
  | zero =>
    intro h i0 x1 x2 hi0 hw
    exact hw.elim
  | succ n ih =>
    intro h i0 x1 x2 hi0 hw
    exact kb_Re_hasReplyTo_2 X ih hi0 hw
set_option maxHeartbeats 4000000 in
set_option maxRecDepth 100000 in
theorem kb_Re_hasReplyTo_0 {Q : Int32 → RS → Prop} (X : Cx p l R s m args meth c b_Re_hasReplyTo 3 R_Re (some .boolean) D clV (tyV q) a 101 0 0 tbW) {h : RS} {i0 : Nat} {x1 : Int32} (hi0 : i0 < 8) (hw : bp_Re_hasReplyTo_0 Q h i0 x1) : Z p l e R s m args below meth c D clV 101 a (ceV a q) 3 (MQ below (va_Qi Q (AtC D clV 101 a (ceV a q)) (inW a 101)) args s 0 0 (inW a 101)) h 0 [(0, .ref (a (29 + i0))), (1, .int x1)] [] := by
  unfold bp_Re_hasReplyTo_0 at hw
  refine z_iconst (v := (0 : Int32)) (pc := 0) X d_Re_hasReplyTo_0 (by decide) ?_
  refine z_istore_n (pc := 1) X d_Re_hasReplyTo_1 rfl (by decide) rfl ?_
  obtain ⟨n3, hw⟩ := hw
  exact z_to [1, 2, 0] rfl (kl_Re_hasReplyTo_2 X n3 _ _ _ _ hi0 hw)
theorem c_Re_hasReplyTo {l : Launch} {D : va_G} {a : Nat → Nat} {q : Nat → ClassId} (hI : injW a 101) {h : RS} {i0 : Nat} {x1 : Int32} (hi0 : i0 < 8) {Q : Int32 → RS → Prop} (hw : wp_Re_hasReplyTo h i0 x1 Q) : Met l y_Re_hasReplyTo [.code y_Re_hasReplyTo b_Re_hasReplyTo 3 (some .boolean)] { frames := 0, cells := 0, slots := 0, locals := 0 } (va_Pc [.ref (a (29 + i0)), .int x1] (PreC tbW D clV (tyV q) 101 a (ceV a q) h)) (va_Qi Q (AtC D clV 101 a (ceV a q)) (inW a 101)) 0 0 (inW a 101) :=
  m_of (by decide +kernel) hI tb_ok (Nat.le_of_ble_eq_true rfl) (fun p e R s m below meth c X => kb_Re_hasReplyTo_0 X hi0 hw)
set_option maxHeartbeats 4000000 in
set_option maxRecDepth 100000 in
theorem kb_V_reply_0 {Q : Int32 → RS → Prop} (X : Cx p l R s m args meth c b_V_reply 7 R_V (some .boolean) D clV (tyV q) a 101 2 44 tbW) {h : RS} {x1 : Int32} {x2 : Int32} {x3 : Int32} {x4 : Int32} {x5 : Int32} (hw : bp_V_reply_0 Q h x1 x2 x3 x4 x5) : Z p l e R s m args below meth c D clV 101 a (ceV a q) 7 (MQ below (va_Qi Q (AtC D clV 101 a (ceV a q)) (inW a 101)) args s 0 0 (inW a 101)) h 0 [(0, .ref (a 0)), (1, .int x1), (2, .int x2), (3, .int x3), (4, .int x4), (5, .int x5)] [] := by
  unfold bp_V_reply_0 at hw
  refine z_aload_n (pc := 0) X 0 d_V_reply_0 rfl rfl ?_
  refine z_iload_n (pc := 1) X 1 d_V_reply_1 rfl rfl ?_
  refine z_cVi (i := 0) (pc := 2) X [.int x1] (c_V_mayBuild X.2.2.2.2.2.2.2.2.1 hw) (by decide) (by decide) lk10 cd_V_mayBuild lk11 lk12 lk13 (by decide) (cV_V _) rfl nm_V_mayBuild rfl rfl (Nat.le_of_ble_eq_true rfl) d_V_reply_2 (fun r1 h2 hw => ?_)
  refine z_if_eq (tgt := 21) (pc := 5) X d_V_reply_5 (by decide) (fun hc => ?_) (fun hc => ?_)
  · have hw := hw.1 hc
    refine z_iconst (v := (0 : Int32)) (pc := 21) X d_V_reply_21 (by decide) ?_
    exact z_zret (pc := 22) X hw.1 d_V_reply_22 hw.2
  · have hw := hw.2 hc
    refine z_aload_n (pc := 8) X 0 d_V_reply_8 rfl rfl ?_
    refine z_get (i := 0) (pc := 9) X (by decide) (cV_V _) rfl hin_V 2 (by decide) lk19 rfl rfl d_V_reply_9 ?_
    refine z_iload_n (pc := 12) X 1 d_V_reply_12 rfl rfl ?_
    obtain ⟨k3, hk3, ek3, hw⟩ := hw
    refine z_aald (i := 2) (g := fun j => 29 + j) (pc := 13) X 3 (by decide) (cV_Res _) rfl (by decide) hk3 ek3 d_V_reply_13 ?_
    refine z_iload_n (pc := 14) X 2 d_V_reply_14 rfl rfl ?_
    refine z_cVNi (i := (29 + k3)) (pc := 15) X [.int x2] (c_Re_hasPart X.2.2.2.2.2.2.2.2.1 hk3 hw) (by decide) (by decide) lk46 cd_Re_hasPart lk22 lk28 lk29 (lt_ix hk3 (by decide)) (cV_Re _ hk3) rfl nm_Re_hasPart rfl rfl (Nat.le_of_ble_eq_true rfl) d_V_reply_15 (fun r4 h5 hw => ?_)
    refine z_if_ne (tgt := 23) (pc := 18) X d_V_reply_18 (by decide) (fun hc => ?_) (fun hc => ?_)
    · have hw := hw.1 hc
      refine z_aload_n (pc := 23) X 0 d_V_reply_23 rfl rfl ?_
      refine z_get (i := 0) (pc := 24) X (by decide) (cV_V _) rfl hin_V 2 (by decide) lk19 rfl rfl d_V_reply_24 ?_
      refine z_iload_n (pc := 27) X 1 d_V_reply_27 rfl rfl ?_
      obtain ⟨k6, hk6, ek6, hw⟩ := hw
      refine z_aald (i := 2) (g := fun j => 29 + j) (pc := 28) X 3 (by decide) (cV_Res _) rfl (by decide) hk6 ek6 d_V_reply_28 ?_
      refine z_astore (pc := 29) X d_V_reply_29 (by decide) rfl ?_
      refine z_aload_n (pc := 31) X 1 d_V_reply_31 rfl rfl ?_
      refine z_get (i := 0) (pc := 32) X (by decide) (cV_V _) rfl hin_V 0 (by decide) lk3 rfl rfl d_V_reply_32 ?_
      refine z_aload (pc := 35) X 0 d_V_reply_35 rfl ?_
      refine z_getN (i := (29 + k6)) (pc := 37) X (lt_ix hk6 (by decide)) (cV_Re _ hk6) rfl hin_Re 1 (by decide) lk47 rfl rfl d_V_reply_37 ?_
      refine z_iload_n (pc := 40) X 3 d_V_reply_40 rfl rfl ?_
      obtain ⟨k7, hk7, ek7, hw⟩ := hw
      refine z_iald (i := (37 + k6)) (pc := 41) X 0 (lt_ix hk6 (by decide)) (cV_pC _ hk6) rfl (by decide) hk7 ek7 d_V_reply_41 ?_
      obtain ⟨k8, hk8, ek8, hw⟩ := hw
      refine z_aald (i := 1) (g := fun j => 13 + j) (pc := 42) X 2 (by decide) (cV_Chs _) rfl (by decide) hk8 ek8 d_V_reply_42 ?_
      refine z_getN (i := (13 + k8)) (pc := 43) X (lt_ix hk8 (by decide)) (cV_Ch _ hk8) rfl hin_Ch 0 (by decide) lk4 rfl rfl d_V_reply_43 ?_
      refine z_if_eq (tgt := 58) (pc := 46) X d_V_reply_46 (by decide) (fun hc => ?_) (fun hc => ?_)
      · have hw := hw.1 hc
        refine z_iconst (v := (0 : Int32)) (pc := 58) X d_V_reply_58 (by decide) ?_
        exact z_zret (pc := 59) X hw.1 d_V_reply_59 hw.2
      · have hw := hw.2 hc
        refine z_aload (pc := 49) X 0 d_V_reply_49 rfl ?_
        refine z_iload_n (pc := 51) X 3 d_V_reply_51 rfl rfl ?_
        refine z_cVNi (i := (29 + k6)) (pc := 52) X [.int x2] (c_Re_hasReplyTo X.2.2.2.2.2.2.2.2.1 hk6 hw) (by decide) (by decide) lk48 cd_Re_hasReplyTo lk22 lk49 lk50 (lt_ix hk6 (by decide)) (cV_Re _ hk6) rfl nm_Re_hasReplyTo rfl rfl (Nat.le_of_ble_eq_true rfl) d_V_reply_52 (fun r9 h10 hw => ?_)
        refine z_if_eq (tgt := 60) (pc := 55) X d_V_reply_55 (by decide) (fun hc => ?_) (fun hc => ?_)
        · have hw := hw.1 hc
          refine z_aload (pc := 60) X 0 d_V_reply_60 rfl ?_
          refine z_iload_n (pc := 62) X 4 d_V_reply_62 rfl rfl ?_
          refine z_iload (pc := 63) X 5 d_V_reply_63 rfl ?_
          refine z_cVNi (i := (29 + k6)) (pc := 65) X [.int x3, .int x4] (c_Re_mayAddAction X.2.2.2.2.2.2.2.2.1 hk6 hw) (by decide) (by decide) lk40 cd_Re_mayAddAction lk22 lk41 lk42 (lt_ix hk6 (by decide)) (cV_Re _ hk6) rfl nm_Re_mayAddAction rfl rfl (Nat.le_of_ble_eq_true rfl) d_V_reply_65 (fun r11 h12 hw => ?_)
          refine z_if_ne (tgt := 73) (pc := 68) X d_V_reply_68 (by decide) (fun hc => ?_) (fun hc => ?_)
          · have hw := hw.1 hc
            refine z_aload (pc := 73) X 0 d_V_reply_73 rfl ?_
            refine z_iconst (v := (0 : Int32)) (pc := 75) X d_V_reply_75 (by decide) ?_
            refine z_iload_n (pc := 76) X 3 d_V_reply_76 rfl rfl ?_
            refine z_iload_n (pc := 77) X 4 d_V_reply_77 rfl rfl ?_
            refine z_iload (pc := 78) X 5 d_V_reply_78 rfl ?_
            refine z_iload (pc := 80) X 6 d_V_reply_80 rfl ?_
            refine z_cVNv (i := (29 + k6)) (pc := 82) X [.int (0 : Int32), .int x2, .int x3, .int x4, .int x5] (c_Re_addAction X.2.2.2.2.2.2.2.2.1 hk6 hw) (by decide) (by decide) lk43 cd_Re_addAction lk22 lk44 lk45 (lt_ix hk6 (by decide)) (cV_Re _ hk6) rfl nm_Re_addAction rfl rfl (Nat.le_of_ble_eq_true rfl) d_V_reply_82 (fun h13 hw => ?_)
            refine z_iconst (v := (1 : Int32)) (pc := 85) X d_V_reply_85 (by decide) ?_
            exact z_zret (pc := 86) X hw.1 d_V_reply_86 hw.2
          · have hw := hw.2 hc
            refine z_iconst (v := (0 : Int32)) (pc := 71) X d_V_reply_71 (by decide) ?_
            exact z_zret (pc := 72) X hw.1 d_V_reply_72 hw.2
        · have hw := hw.2 hc
          refine z_iconst (v := (0 : Int32)) (pc := 58) X d_V_reply_58 (by decide) ?_
          exact z_zret (pc := 59) X hw.1 d_V_reply_59 hw.2
    · have hw := hw.2 hc
      refine z_iconst (v := (0 : Int32)) (pc := 21) X d_V_reply_21 (by decide) ?_
      exact z_zret (pc := 22) X hw.1 d_V_reply_22 hw.2
theorem c_V_reply {l : Launch} {D : va_G} {a : Nat → Nat} {q : Nat → ClassId} (hI : injW a 101) {h : RS} {x1 : Int32} {x2 : Int32} {x3 : Int32} {x4 : Int32} {x5 : Int32} {Q : Int32 → RS → Prop} (hw : wp_V_reply h x1 x2 x3 x4 x5 Q) : Met l y_V_reply [.code y_V_reply b_V_reply 7 (some .boolean)] { frames := 2, cells := 0, slots := 0, locals := 44 } (va_Pc [.ref (a 0), .int x1, .int x2, .int x3, .int x4, .int x5] (PreC tbW D clV (tyV q) 101 a (ceV a q) h)) (va_Qi Q (AtC D clV 101 a (ceV a q)) (inW a 101)) 0 0 (inW a 101) :=
  m_of (by decide +kernel) hI tb_ok (Nat.le_of_ble_eq_true rfl) (fun p e R s m below meth c X => kb_V_reply_0 X hw)
end
end
section
section
variable {p : Program} {l : Launch} {e : Env} {R : Room} {s : State} {m : MethodId} {args : Array Value} {below : List Frame} {meth : Method} {c : Code} {D : va_G} {a : Nat → Nat} {q : Nat → ClassId}
set_option maxHeartbeats 4000000 in
set_option maxRecDepth 100000 in
theorem kb_V_leavesCallUnanswered_2 {Q : Int32 → RS → Prop} (X : Cx p l R s m args meth c b_V_leavesCallUnanswered 3 R_V (some .boolean) D clV (tyV q) a 101 1 22 tbW) {K2 : RS → Nat → Int32 → Prop} (hK2 : ∀ (h : RS) (i1 : Nat) (x2 : Int32), i1 < 8 → K2 h i1 x2 → Z p l e R s m args below meth c D clV 101 a (ceV a q) 3 (MQ below (va_Qi Q (AtC D clV 101 a (ceV a q)) (inW a 101)) args s 0 0 (inW a 101)) h 2 [(0, .ref (a 0)), (1, .ref (a (29 + i1))), (2, .int x2)] []) {h : RS} {i1 : Nat} {x2 : Int32} (hi1 : i1 < 8) (hw : bp_V_leavesCallUnanswered_2 K2 Q h i1 x2) : Z p l e R s m args below meth c D clV 101 a (ceV a q) 3 (MQ below (va_Qi Q (AtC D clV 101 a (ceV a q)) (inW a 101)) args s 0 0 (inW a 101)) h 2 [(0, .ref (a 0)), (1, .ref (a (29 + i1))), (2, .int x2)] [] := by
  unfold bp_V_leavesCallUnanswered_2 at hw
  refine z_iload_n (pc := 2) X 2 d_V_leavesCallUnanswered_2 rfl rfl ?_
  refine z_aload_n (pc := 3) X 1 d_V_leavesCallUnanswered_3 rfl rfl ?_
  refine z_getN (i := (29 + i1)) (pc := 4) X (lt_ix hi1 (by decide)) (cV_Re _ hi1) rfl hin_Re 0 (by decide) lk20 rfl rfl d_V_leavesCallUnanswered_4 ?_
  refine z_icmp_ge (tgt := 43) (pc := 7) X d_V_leavesCallUnanswered_7 (by decide) (fun hc => ?_) (fun hc => ?_)
  · have hw := hw.1 hc
    refine z_iconst (v := (0 : Int32)) (pc := 43) X d_V_leavesCallUnanswered_43 (by decide) ?_
    exact z_zret (pc := 44) X hw.1 d_V_leavesCallUnanswered_44 hw.2
  · have hw := hw.2 hc
    refine z_aload_n (pc := 10) X 0 d_V_leavesCallUnanswered_10 rfl rfl ?_
    refine z_get (i := 0) (pc := 11) X (by decide) (cV_V _) rfl hin_V 0 (by decide) lk3 rfl rfl d_V_leavesCallUnanswered_11 ?_
    refine z_aload_n (pc := 14) X 1 d_V_leavesCallUnanswered_14 rfl rfl ?_
    refine z_getN (i := (29 + i1)) (pc := 15) X (lt_ix hi1 (by decide)) (cV_Re _ hi1) rfl hin_Re 1 (by decide) lk47 rfl rfl d_V_leavesCallUnanswered_15 ?_
    refine z_iload_n (pc := 18) X 2 d_V_leavesCallUnanswered_18 rfl rfl ?_
    obtain ⟨k1, hk1, ek1, hw⟩ := hw
    refine z_iald (i := (37 + i1)) (pc := 19) X 0 (lt_ix hi1 (by decide)) (cV_pC _ hi1) rfl (by decide) hk1 ek1 d_V_leavesCallUnanswered_19 ?_
    obtain ⟨k2, hk2, ek2, hw⟩ := hw
    refine z_aald (i := 1) (g := fun j => 13 + j) (pc := 20) X 2 (by decide) (cV_Chs _) rfl (by decide) hk2 ek2 d_V_leavesCallUnanswered_20 ?_
    refine z_getN (i := (13 + k2)) (pc := 21) X (lt_ix hk2 (by decide)) (cV_Ch _ hk2) rfl hin_Ch 0 (by decide) lk4 rfl rfl d_V_leavesCallUnanswered_21 ?_
    refine z_if_eq (tgt := 37) (pc := 24) X d_V_leavesCallUnanswered_24 (by decide) (fun hc => ?_) (fun hc => ?_)
    · have hw := hw.1 hc
      refine z_iinc (v := (x2 + 1)) (pc := 37) X 2 d_V_leavesCallUnanswered_37 rfl rfl (by decide) rfl ?_
      refine z_goto (tgt := 2) (pc := 40) X d_V_leavesCallUnanswered_40 (by decide) ?_
      exact z_to [1, 2, 0] rfl (hK2 _ _ _ hi1 hw)
    · have hw := hw.2 hc
      refine z_aload_n (pc := 27) X 1 d_V_leavesCallUnanswered_27 rfl rfl ?_
      refine z_iload_n (pc := 28) X 2 d_V_leavesCallUnanswered_28 rfl rfl ?_
      refine z_cVNi (i := (29 + i1)) (pc := 29) X [.int x2] (c_Re_hasReplyTo X.2.2.2.2.2.2.2.2.1 hi1 hw) (by decide) (by decide) lk48 cd_Re_hasReplyTo lk22 lk49 lk50 (lt_ix hi1 (by decide)) (cV_Re _ hi1) rfl nm_Re_hasReplyTo rfl rfl (Nat.le_of_ble_eq_true rfl) d_V_leavesCallUnanswered_29 (fun r3 h4 hw => ?_)
      refine z_if_ne (tgt := 37) (pc := 32) X d_V_leavesCallUnanswered_32 (by decide) (fun hc => ?_) (fun hc => ?_)
      · have hw := hw.1 hc
        refine z_iinc (v := (x2 + 1)) (pc := 37) X 2 d_V_leavesCallUnanswered_37 rfl rfl (by decide) rfl ?_
        refine z_goto (tgt := 2) (pc := 40) X d_V_leavesCallUnanswered_40 (by decide) ?_
        exact z_to [1, 2, 0] rfl (hK2 _ _ _ hi1 hw)
      · have hw := hw.2 hc
        refine z_iconst (v := (1 : Int32)) (pc := 35) X d_V_leavesCallUnanswered_35 (by decide) ?_
        exact z_zret (pc := 36) X hw.1 d_V_leavesCallUnanswered_36 hw.2
theorem kl_V_leavesCallUnanswered_2 {Q : Int32 → RS → Prop} (X : Cx p l R s m args meth c b_V_leavesCallUnanswered 3 R_V (some .boolean) D clV (tyV q) a 101 1 22 tbW) : ∀ (n : Nat) (h : RS) (i1 : Nat) (x2 : Int32), i1 < 8 → wp_V_leavesCallUnanswered_2 Q n h i1 x2 → Z p l e R s m args below meth c D clV 101 a (ceV a q) 3 (MQ below (va_Qi Q (AtC D clV 101 a (ceV a q)) (inW a 101)) args s 0 0 (inW a 101)) h 2 [(0, .ref (a 0)), (1, .ref (a (29 + i1))), (2, .int x2)] [] := by
  intro n
  induction n with
  | zero =>
    intro h i1 x2 hi1 hw
    exact hw.elim
  | succ n ih =>
    intro h i1 x2 hi1 hw
    exact kb_V_leavesCallUnanswered_2 X ih hi1 hw
set_option maxHeartbeats 4000000 in
set_option maxRecDepth 100000 in
theorem kb_V_leavesCallUnanswered_0 {Q : Int32 → RS → Prop} (X : Cx p l R s m args meth c b_V_leavesCallUnanswered 3 R_V (some .boolean) D clV (tyV q) a 101 1 22 tbW) {h : RS} {i1 : Nat} (hi1 : i1 < 8) (hw : bp_V_leavesCallUnanswered_0 Q h i1) : Z p l e R s m args below meth c D clV 101 a (ceV a q) 3 (MQ below (va_Qi Q (AtC D clV 101 a (ceV a q)) (inW a 101)) args s 0 0 (inW a 101)) h 0 [(0, .ref (a 0)), (1, .ref (a (29 + i1)))] [] := by
  unfold bp_V_leavesCallUnanswered_0 at hw
  refine z_iconst (v := (0 : Int32)) (pc := 0) X d_V_leavesCallUnanswered_0 (by decide) ?_
  refine z_istore_n (pc := 1) X d_V_leavesCallUnanswered_1 rfl (by decide) rfl ?_
  obtain ⟨n5, hw⟩ := hw
  exact z_to [1, 2, 0] rfl (kl_V_leavesCallUnanswered_2 X n5 _ _ _ hi1 hw)
theorem c_V_leavesCallUnanswered {l : Launch} {D : va_G} {a : Nat → Nat} {q : Nat → ClassId} (hI : injW a 101) {h : RS} {i1 : Nat} (hi1 : i1 < 8) {Q : Int32 → RS → Prop} (hw : wp_V_leavesCallUnanswered h i1 Q) : Met l y_V_leavesCallUnanswered [.code y_V_leavesCallUnanswered b_V_leavesCallUnanswered 3 (some .boolean)] { frames := 1, cells := 0, slots := 0, locals := 22 } (va_Pc [.ref (a 0), .ref (a (29 + i1))] (PreC tbW D clV (tyV q) 101 a (ceV a q) h)) (va_Qi Q (AtC D clV 101 a (ceV a q)) (inW a 101)) 0 0 (inW a 101) :=
  m_of (by decide +kernel) hI tb_ok (Nat.le_of_ble_eq_true rfl) (fun p e R s m below meth c X => kb_V_leavesCallUnanswered_0 X hi1 hw)
set_option maxHeartbeats 4000000 in
set_option maxRecDepth 100000 in
theorem kb_V_obstacleToSealing_50 {Q : Int32 → RS → Prop} (X : Cx p l R s m args meth c b_V_obstacleToSealing 2 R_V (some .int) D clV (tyV q) a 101 2 44 tbW) {K50 : RS → Int32 → Prop} (hK50 : ∀ (h : RS) (x1 : Int32), K50 h x1 → Z p l e R s m args below meth c D clV 101 a (ceV a q) 2 (MQ below (va_Qi Q (AtC D clV 101 a (ceV a q)) (inW a 101)) args s 0 0 (inW a 101)) h 50 [(0, .ref (a 0)), (1, .int x1)] []) {h : RS} {x1 : Int32} (hw : bp_V_obstacleToSealing_50 K50 Q h x1) : Z p l e R s m args below meth c D clV 101 a (ceV a q) 2 (MQ below (va_Qi Q (AtC D clV 101 a (ceV a q)) (inW a 101)) args s 0 0 (inW a 101)) h 50 [(0, .ref (a 0)), (1, .int x1)] [] := by
  unfold bp_V_obstacleToSealing_50 at hw
  refine z_iload_n (pc := 50) X 1 d_V_obstacleToSealing_50 rfl rfl ?_
  refine z_aload_n (pc := 51) X 0 d_V_obstacleToSealing_51 rfl rfl ?_
  refine z_get (i := 0) (pc := 52) X (by decide) (cV_V _) rfl hin_V 3 (by decide) lk5 rfl rfl d_V_obstacleToSealing_52 ?_
  refine z_icmp_ge (tgt := 79) (pc := 55) X d_V_obstacleToSealing_55 (by decide) (fun hc => ?_) (fun hc => ?_)
  · have hw := hw.1 hc
    refine z_iconst (v := (0 : Int32)) (pc := 79) X d_V_obstacleToSealing_79 (by decide) ?_
    exact z_iret (pc := 80) X d_V_obstacleToSealing_80 hw
  · have hw := hw.2 hc
    refine z_aload_n (pc := 58) X 0 d_V_obstacleToSealing_58 rfl rfl ?_
    refine z_aload_n (pc := 59) X 0 d_V_obstacleToSealing_59 rfl rfl ?_
    refine z_get (i := 0) (pc := 60) X (by decide) (cV_V _) rfl hin_V 2 (by decide) lk19 rfl rfl d_V_obstacleToSealing_60 ?_
    refine z_iload_n (pc := 63) X 1 d_V_obstacleToSealing_63 rfl rfl ?_
    obtain ⟨k1, hk1, ek1, hw⟩ := hw
    refine z_aald (i := 2) (g := fun j => 29 + j) (pc := 64) X 3 (by decide) (cV_Res _) rfl (by decide) hk1 ek1 d_V_obstacleToSealing_64 ?_
    refine z_cVi (i := 0) (pc := 65) X [.ref (a (29 + k1))] (c_V_leavesCallUnanswered X.2.2.2.2.2.2.2.2.1 hk1 hw) (by decide) (by decide) lk51 cd_V_leavesCallUnanswered lk11 lk52 lk53 (by decide) (cV_V _) rfl nm_V_leavesCallUnanswered rfl rfl (Nat.le_of_ble_eq_true rfl) d_V_obstacleToSealing_65 (fun r2 h3 hw => ?_)
    refine z_if_eq (tgt := 73) (pc := 68) X d_V_obstacleToSealing_68 (by decide) (fun hc => ?_) (fun hc => ?_)
    · have hw := hw.1 hc
      refine z_iinc (v := (x1 + 1)) (pc := 73) X 1 d_V_obstacleToSealing_73 rfl rfl (by decide) rfl ?_
      refine z_goto (tgt := 50) (pc := 76) X d_V_obstacleToSealing_76 (by decide) ?_
      exact z_to [1, 0] rfl (hK50 _ _ hw)
    · have hw := hw.2 hc
      refine z_iconst (v := (4 : Int32)) (pc := 71) X d_V_obstacleToSealing_71 (by decide) ?_
      exact z_iret (pc := 72) X d_V_obstacleToSealing_72 hw
theorem kl_V_obstacleToSealing_50 {Q : Int32 → RS → Prop} (X : Cx p l R s m args meth c b_V_obstacleToSealing 2 R_V (some .int) D clV (tyV q) a 101 2 44 tbW) : ∀ (n : Nat) (h : RS) (x1 : Int32), wp_V_obstacleToSealing_50 Q n h x1 → Z p l e R s m args below meth c D clV 101 a (ceV a q) 2 (MQ below (va_Qi Q (AtC D clV 101 a (ceV a q)) (inW a 101)) args s 0 0 (inW a 101)) h 50 [(0, .ref (a 0)), (1, .int x1)] [] := by
  intro n
  induction n with
  | zero =>
    intro h x1 hw
    exact hw.elim
  | succ n ih =>
    intro h x1 hw
    exact kb_V_obstacleToSealing_50 X ih hw
set_option maxHeartbeats 4000000 in
set_option maxRecDepth 100000 in
theorem kb_V_obstacleToSealing_20 {Q : Int32 → RS → Prop} (X : Cx p l R s m args meth c b_V_obstacleToSealing 2 R_V (some .int) D clV (tyV q) a 101 2 44 tbW) {K20 : RS → Int32 → Prop} (hK20 : ∀ (h : RS) (x1 : Int32), K20 h x1 → Z p l e R s m args below meth c D clV 101 a (ceV a q) 2 (MQ below (va_Qi Q (AtC D clV 101 a (ceV a q)) (inW a 101)) args s 0 0 (inW a 101)) h 20 [(0, .ref (a 0)), (1, .int x1)] []) {h : RS} {x1 : Int32} (hw : bp_V_obstacleToSealing_20 K20 Q h x1) : Z p l e R s m args below meth c D clV 101 a (ceV a q) 2 (MQ below (va_Qi Q (AtC D clV 101 a (ceV a q)) (inW a 101)) args s 0 0 (inW a 101)) h 20 [(0, .ref (a 0)), (1, .int x1)] [] := by
  unfold bp_V_obstacleToSealing_20 at hw
  refine z_iload_n (pc := 20) X 1 d_V_obstacleToSealing_20 rfl rfl ?_
  refine z_aload_n (pc := 21) X 0 d_V_obstacleToSealing_21 rfl rfl ?_
  refine z_get (i := 0) (pc := 22) X (by decide) (cV_V _) rfl hin_V 3 (by decide) lk5 rfl rfl d_V_obstacleToSealing_22 ?_
  refine z_icmp_ge (tgt := 48) (pc := 25) X d_V_obstacleToSealing_25 (by decide) (fun hc => ?_) (fun hc => ?_)
  · have hw := hw.1 hc
    refine z_iconst (v := (0 : Int32)) (pc := 48) X d_V_obstacleToSealing_48 (by decide) ?_
    refine z_istore_n (pc := 49) X d_V_obstacleToSealing_49 rfl (by decide) rfl ?_
    obtain ⟨n4, hw⟩ := hw
    exact z_to [1, 0] rfl (kl_V_obstacleToSealing_50 X n4 _ _ hw)
  · have hw := hw.2 hc
    refine z_aload_n (pc := 28) X 0 d_V_obstacleToSealing_28 rfl rfl ?_
    refine z_get (i := 0) (pc := 29) X (by decide) (cV_V _) rfl hin_V 2 (by decide) lk19 rfl rfl d_V_obstacleToSealing_29 ?_
    refine z_iload_n (pc := 32) X 1 d_V_obstacleToSealing_32 rfl rfl ?_
    obtain ⟨k5, hk5, ek5, hw⟩ := hw
    refine z_aald (i := 2) (g := fun j => 29 + j) (pc := 33) X 3 (by decide) (cV_Res _) rfl (by decide) hk5 ek5 d_V_obstacleToSealing_33 ?_
    refine z_getN (i := (29 + k5)) (pc := 34) X (lt_ix hk5 (by decide)) (cV_Re _ hk5) rfl hin_Re 0 (by decide) lk20 rfl rfl d_V_obstacleToSealing_34 ?_
    refine z_if_ne (tgt := 42) (pc := 37) X d_V_obstacleToSealing_37 (by decide) (fun hc => ?_) (fun hc => ?_)
    · have hw := hw.1 hc
      refine z_iinc (v := (x1 + 1)) (pc := 42) X 1 d_V_obstacleToSealing_42 rfl rfl (by decide) rfl ?_
      refine z_goto (tgt := 20) (pc := 45) X d_V_obstacleToSealing_45 (by decide) ?_
      exact z_to [1, 0] rfl (hK20 _ _ hw)
    · have hw := hw.2 hc
      refine z_iconst (v := (3 : Int32)) (pc := 40) X d_V_obstacleToSealing_40 (by decide) ?_
      exact z_iret (pc := 41) X d_V_obstacleToSealing_41 hw
theorem kl_V_obstacleToSealing_20 {Q : Int32 → RS → Prop} (X : Cx p l R s m args meth c b_V_obstacleToSealing 2 R_V (some .int) D clV (tyV q) a 101 2 44 tbW) : ∀ (n : Nat) (h : RS) (x1 : Int32), wp_V_obstacleToSealing_20 Q n h x1 → Z p l e R s m args below meth c D clV 101 a (ceV a q) 2 (MQ below (va_Qi Q (AtC D clV 101 a (ceV a q)) (inW a 101)) args s 0 0 (inW a 101)) h 20 [(0, .ref (a 0)), (1, .int x1)] [] := by
  intro n
  induction n with
  | zero =>
    intro h x1 hw
    exact hw.elim
  | succ n ih =>
    intro h x1 hw
    exact kb_V_obstacleToSealing_20 X ih hw
set_option maxHeartbeats 4000000 in
set_option maxRecDepth 100000 in
theorem kb_V_obstacleToSealing_0 {Q : Int32 → RS → Prop} (X : Cx p l R s m args meth c b_V_obstacleToSealing 2 R_V (some .int) D clV (tyV q) a 101 2 44 tbW) {h : RS} (hw : bp_V_obstacleToSealing_0 Q h) : Z p l e R s m args below meth c D clV 101 a (ceV a q) 2 (MQ below (va_Qi Q (AtC D clV 101 a (ceV a q)) (inW a 101)) args s 0 0 (inW a 101)) h 0 [(0, .ref (a 0))] [] := by
  unfold bp_V_obstacleToSealing_0 at hw
  refine z_aload_n (pc := 0) X 0 d_V_obstacleToSealing_0 rfl rfl ?_
  refine z_get (i := 0) (pc := 1) X (by decide) (cV_V _) rfl hin_V 4 (by decide) lk1 rfl rfl d_V_obstacleToSealing_1 ?_
  refine z_if_eq (tgt := 9) (pc := 4) X d_V_obstacleToSealing_4 (by decide) (fun hc => ?_) (fun hc => ?_)
  · have hw := hw.1 hc
    refine z_aload_n (pc := 9) X 0 d_V_obstacleToSealing_9 rfl rfl ?_
    refine z_get (i := 0) (pc := 10) X (by decide) (cV_V _) rfl hin_V 3 (by decide) lk5 rfl rfl d_V_obstacleToSealing_10 ?_
    refine z_if_ne (tgt := 18) (pc := 13) X d_V_obstacleToSealing_13 (by decide) (fun hc => ?_) (fun hc => ?_)
    · have hw := hw.1 hc
      refine z_iconst (v := (0 : Int32)) (pc := 18) X d_V_obstacleToSealing_18 (by decide) ?_
      refine z_istore_n (pc := 19) X d_V_obstacleToSealing_19 rfl (by decide) rfl ?_
      obtain ⟨n6, hw⟩ := hw
      exact z_to [1, 0] rfl (kl_V_obstacleToSealing_20 X n6 _ _ hw)
    · have hw := hw.2 hc
      refine z_iconst (v := (2 : Int32)) (pc := 16) X d_V_obstacleToSealing_16 (by decide) ?_
      exact z_iret (pc := 17) X d_V_obstacleToSealing_17 hw
  · have hw := hw.2 hc
    refine z_iconst (v := (1 : Int32)) (pc := 7) X d_V_obstacleToSealing_7 (by decide) ?_
    exact z_iret (pc := 8) X d_V_obstacleToSealing_8 hw
theorem c_V_obstacleToSealing {l : Launch} {D : va_G} {a : Nat → Nat} {q : Nat → ClassId} (hI : injW a 101) {h : RS} {Q : Int32 → RS → Prop} (hw : wp_V_obstacleToSealing h Q) : Met l y_V_obstacleToSealing [.code y_V_obstacleToSealing b_V_obstacleToSealing 2 (some .int)] { frames := 2, cells := 0, slots := 0, locals := 44 } (va_Pc [.ref (a 0)] (PreC tbW D clV (tyV q) 101 a (ceV a q) h)) (va_Qi Q (AtC D clV 101 a (ceV a q)) (inW a 101)) 0 0 (inW a 101) :=
  m_of (by decide +kernel) hI tb_ok (Nat.le_of_ble_eq_true rfl) (fun p e R s m below meth c X => kb_V_obstacleToSealing_0 X hw)
set_option maxHeartbeats 4000000 in
set_option maxRecDepth 100000 in
theorem kb_V_seal_0 {Q : Int32 → RS → Prop} (X : Cx p l R s m args meth c b_V_seal 2 R_V (some .int) D clV (tyV q) a 101 3 65 tbW) {h : RS} (hw : bp_V_seal_0 Q h) : Z p l e R s m args below meth c D clV 101 a (ceV a q) 2 (MQ below (va_Qi Q (AtC D clV 101 a (ceV a q)) (inW a 101)) args s 0 0 (inW a 101)) h 0 [(0, .ref (a 0))] [] := by
  unfold bp_V_seal_0 at hw
  refine z_aload_n (pc := 0) X 0 d_V_seal_0 rfl rfl ?_
  refine z_cVi (i := 0) (pc := 1) X [] (c_V_obstacleToSealing X.2.2.2.2.2.2.2.2.1 hw) (by decide) (by decide) lk54 cd_V_obstacleToSealing lk11 lk55 lk56 (by decide) (cV_V _) rfl nm_V_obstacleToSealing rfl rfl (Nat.le_of_ble_eq_true rfl) d_V_seal_1 (fun r1 h2 hw => ?_)
  refine z_istore_n (pc := 4) X d_V_seal_4 rfl (by decide) rfl ?_
  refine z_iload_n (pc := 5) X 0 d_V_seal_5 rfl rfl ?_
  refine z_if_ne (tgt := 14) (pc := 6) X d_V_seal_6 (by decide) (fun hc => ?_) (fun hc => ?_)
  · have hw := hw.1 hc
    refine z_iload_n (pc := 14) X 0 d_V_seal_14 rfl rfl ?_
    exact z_iret (pc := 15) X d_V_seal_15 hw
  · have hw := hw.2 hc
    refine z_aload_n (pc := 9) X 1 d_V_seal_9 rfl rfl ?_
    refine z_iconst (v := (1 : Int32)) (pc := 10) X d_V_seal_10 (by decide) ?_
    obtain ⟨hB, hw⟩ := hw
    refine z_put (i := 0) (pc := 11) X (by decide) (cV_V _) rfl hin_V t_V t_V_ok n_V 4 (by decide) lk1 rfl rfl (t_V_ok 4 (by decide)) (isB_n hB) (isB_f hB) (Nat.le_of_ble_eq_true rfl) (cV_V _) d_V_seal_11 ?_
    have hw := hw _ rfl
    refine z_iload_n (pc := 14) X 0 d_V_seal_14 rfl rfl ?_
    exact z_iret (pc := 15) X d_V_seal_15 hw
theorem c_V_seal {l : Launch} {D : va_G} {a : Nat → Nat} {q : Nat → ClassId} (hI : injW a 101) {h : RS} {Q : Int32 → RS → Prop} (hw : wp_V_seal h Q) : Met l y_V_seal [.code y_V_seal b_V_seal 2 (some .int)] { frames := 3, cells := 0, slots := 0, locals := 65 } (va_Pc [.ref (a 0)] (PreC tbW D clV (tyV q) 101 a (ceV a q) h)) (va_Qi Q (AtC D clV 101 a (ceV a q)) (inW a 101)) 0 0 (inW a 101) :=
  m_of (by decide +kernel) hI tb_ok (Nat.le_of_ble_eq_true rfl) (fun p e R s m below meth c X => kb_V_seal_0 X hw)
set_option maxHeartbeats 4000000 in
set_option maxRecDepth 100000 in
theorem kb_Ms_add_0 {Q : Int32 → RS → Prop} (X : Cx p l R s m args meth c b_Ms_add 4 R_Ms (some .int) D clV (tyV q) a 101 0 0 tbW) {h : RS} {x1 : Int32} {x2 : Int32} (hw : bp_Ms_add_0 Q h x1 x2) : Z p l e R s m args below meth c D clV 101 a (ceV a q) 4 (MQ below (va_Qi Q (AtC D clV 101 a (ceV a q)) (inW a 101)) args s 0 0 (inW a 101)) h 0 [(0, .ref (a 3)), (1, .int x1), (2, .int x2)] [] := by
  unfold bp_Ms_add_0 at hw
  refine z_aload_n (pc := 0) X 0 d_Ms_add_0 rfl rfl ?_
  refine z_get (i := 3) (pc := 1) X (by decide) (cV_Msgs _) rfl hin_Ms 0 (by decide) lk57 rfl rfl d_Ms_add_1 ?_
  refine z_istore_n (pc := 4) X d_Ms_add_4 rfl (by decide) rfl ?_
  refine z_aload_n (pc := 5) X 1 d_Ms_add_5 rfl rfl ?_
  refine z_get (i := 3) (pc := 6) X (by decide) (cV_Msgs _) rfl hin_Ms 1 (by decide) lk58 rfl rfl d_Ms_add_6 ?_
  refine z_iload_n (pc := 9) X 0 d_Ms_add_9 rfl rfl ?_
  refine z_iload_n (pc := 10) X 2 d_Ms_add_10 rfl rfl ?_
  obtain ⟨k1, hk1, ek1, hw⟩ := hw
  refine z_iast (i := 6) (pc := 11) X 0 (by decide) (fun g => (cV_mCh g)) rfl (by decide) hk1 ek1 d_Ms_add_11 ?_
  have hw := hw _ rfl
  refine z_aload_n (pc := 12) X 1 d_Ms_add_12 rfl rfl ?_
  refine z_get (i := 3) (pc := 13) X (by decide) (cV_Msgs _) rfl hin_Ms 2 (by decide) lk59 rfl rfl d_Ms_add_13 ?_
  refine z_iload_n (pc := 16) X 0 d_Ms_add_16 rfl rfl ?_
  refine z_iload_n (pc := 17) X 3 d_Ms_add_17 rfl rfl ?_
  obtain ⟨k3, hk3, ek3, hw⟩ := hw
  refine z_iast (i := 7) (pc := 18) X 0 (by decide) (fun g => (cV_mVa g)) rfl (by decide) hk3 ek3 d_Ms_add_18 ?_
  have hw := hw _ rfl
  refine z_aload_n (pc := 19) X 1 d_Ms_add_19 rfl rfl ?_
  refine z_get (i := 3) (pc := 20) X (by decide) (cV_Msgs _) rfl hin_Ms 3 (by decide) lk60 rfl rfl d_Ms_add_20 ?_
  refine z_iload_n (pc := 23) X 0 d_Ms_add_23 rfl rfl ?_
  refine z_iconst (v := (1 : Int32)) (pc := 24) X d_Ms_add_24 (by decide) ?_
  obtain ⟨k5, hk5, ek5, hw⟩ := hw
  refine z_iast (i := 8) (pc := 25) X 0 (by decide) (fun g => (cV_mSt g)) rfl (by decide) hk5 ek5 d_Ms_add_25 ?_
  have hw := hw _ rfl
  refine z_aload_n (pc := 26) X 1 d_Ms_add_26 rfl rfl ?_
  refine z_get (i := 3) (pc := 27) X (by decide) (cV_Msgs _) rfl hin_Ms 4 (by decide) lk61 rfl rfl d_Ms_add_27 ?_
  refine z_iload_n (pc := 30) X 0 d_Ms_add_30 rfl rfl ?_
  refine z_iconst (v := (-1 : Int32)) (pc := 31) X d_Ms_add_31 (by decide) ?_
  obtain ⟨k7, hk7, ek7, hw⟩ := hw
  refine z_iast (i := 9) (pc := 32) X 0 (by decide) (fun g => (cV_mCo g)) rfl (by decide) hk7 ek7 d_Ms_add_32 ?_
  have hw := hw _ rfl
  refine z_aload_n (pc := 33) X 1 d_Ms_add_33 rfl rfl ?_
  refine z_dup (pc := 34) X d_Ms_add_34 rfl ?_
  refine z_get (i := 3) (pc := 35) X (by decide) (cV_Msgs _) rfl hin_Ms 0 (by decide) lk57 rfl rfl d_Ms_add_35 ?_
  refine z_iconst (v := (1 : Int32)) (pc := 38) X d_Ms_add_38 (by decide) ?_
  refine z_iadd (pc := 39) X d_Ms_add_39 ?_
  refine z_put (i := 3) (pc := 40) X (by decide) (cV_Msgs _) rfl hin_Ms t_Ms t_Ms_ok n_Ms 0 (by decide) lk57 rfl rfl (t_Ms_ok 0 (by decide)) rfl rfl (Nat.le_of_ble_eq_true rfl) (cV_Msgs _) d_Ms_add_40 ?_
  have hw := hw _ rfl
  refine z_iload_n (pc := 43) X 0 d_Ms_add_43 rfl rfl ?_
  exact z_iret (pc := 44) X d_Ms_add_44 hw
theorem c_Ms_add {l : Launch} {D : va_G} {a : Nat → Nat} {q : Nat → ClassId} (hI : injW a 101) {h : RS} {x1 : Int32} {x2 : Int32} {Q : Int32 → RS → Prop} (hw : wp_Ms_add h x1 x2 Q) : Met l y_Ms_add [.code y_Ms_add b_Ms_add 4 (some .int)] { frames := 0, cells := 0, slots := 0, locals := 0 } (va_Pc [.ref (a 3), .int x1, .int x2] (PreC tbW D clV (tyV q) 101 a (ceV a q) h)) (va_Qi Q (AtC D clV 101 a (ceV a q)) (inW a 101)) 0 0 (inW a 101) :=
  m_of (by decide +kernel) hI tb_ok (Nat.le_of_ble_eq_true rfl) (fun p e R s m below meth c X => kb_Ms_add_0 X hw)
set_option maxHeartbeats 4000000 in
set_option maxRecDepth 100000 in
theorem kb_Ch_addPending_0 {Q : RS → Prop} (X : Cx p l R s m args meth c b_Ch_addPending 2 R_Ch none D clV (tyV q) a 101 0 0 tbW) {h : RS} {i0 : Nat} {x1 : Int32} (hi0 : i0 < 8) (hw : bp_Ch_addPending_0 Q h i0 x1) : Z p l e R s m args below meth c D clV 101 a (ceV a q) 2 (MQ below (va_Qv Q (AtC D clV 101 a (ceV a q)) (inW a 101)) args s 0 0 (inW a 101)) h 0 [(0, .ref (a (13 + i0))), (1, .int x1)] [] := by
  unfold bp_Ch_addPending_0 at hw
  refine z_aload_n (pc := 0) X 0 d_Ch_addPending_0 rfl rfl ?_
  refine z_get (i := (13 + i0)) (pc := 1) X (lt_ix hi0 (by decide)) (cV_Ch _ hi0) rfl hin_Ch 1 (by decide) lk62 rfl rfl d_Ch_addPending_1 ?_
  refine z_aload_n (pc := 4) X 0 d_Ch_addPending_4 rfl rfl ?_
  refine z_get (i := (13 + i0)) (pc := 5) X (lt_ix hi0 (by decide)) (cV_Ch _ hi0) rfl hin_Ch 2 (by decide) lk63 rfl rfl d_Ch_addPending_5 ?_
  refine z_iload_n (pc := 8) X 1 d_Ch_addPending_8 rfl rfl ?_
  obtain ⟨k1, hk1, ek1, hw⟩ := hw
  refine z_iast (i := (21 + i0)) (pc := 9) X 0 (lt_ix hi0 (by decide)) (fun g => (cV_Pn g hi0)) rfl (by decide) hk1 ek1 d_Ch_addPending_9 ?_
  have hw := hw _ rfl
  refine z_aload_n (pc := 10) X 0 d_Ch_addPending_10 rfl rfl ?_
  refine z_dup (pc := 11) X d_Ch_addPending_11 rfl ?_
  refine z_get (i := (13 + i0)) (pc := 12) X (lt_ix hi0 (by decide)) (cV_Ch _ hi0) rfl hin_Ch 2 (by decide) lk63 rfl rfl d_Ch_addPending_12 ?_
  refine z_iconst (v := (1 : Int32)) (pc := 15) X d_Ch_addPending_15 (by decide) ?_
  refine z_iadd (pc := 16) X d_Ch_addPending_16 ?_
  refine z_put (i := (13 + i0)) (pc := 17) X (lt_ix hi0 (by decide)) (cV_Ch _ hi0) rfl hin_Ch t_Ch t_Ch_ok n_Ch 2 (by decide) lk63 rfl rfl (t_Ch_ok 2 (by decide)) rfl rfl (Nat.le_of_ble_eq_true rfl) (cV_Ch _ hi0) d_Ch_addPending_17 ?_
  have hw := hw _ rfl
  exact z_vret (pc := 20) X d_Ch_addPending_20 hw
theorem c_Ch_addPending {l : Launch} {D : va_G} {a : Nat → Nat} {q : Nat → ClassId} (hI : injW a 101) {h : RS} {i0 : Nat} {x1 : Int32} (hi0 : i0 < 8) {Q : RS → Prop} (hw : wp_Ch_addPending h i0 x1 Q) : Met l y_Ch_addPending [.code y_Ch_addPending b_Ch_addPending 2 none] { frames := 0, cells := 0, slots := 0, locals := 0 } (va_Pc [.ref (a (13 + i0)), .int x1] (PreC tbW D clV (tyV q) 101 a (ceV a q) h)) (va_Qv Q (AtC D clV 101 a (ceV a q)) (inW a 101)) 0 0 (inW a 101) :=
  m_of (by decide +kernel) hI tb_ok (Nat.le_of_ble_eq_true rfl) (fun p e R s m below meth c X => kb_Ch_addPending_0 X hi0 hw)
set_option maxHeartbeats 4000000 in
set_option maxRecDepth 100000 in
theorem kb_V_makeMessage_0 {Q : Int32 → RS → Prop} (X : Cx p l R s m args meth c b_V_makeMessage 4 R_V (some .int) D clV (tyV q) a 101 1 23 tbW) {h : RS} {x1 : Int32} {x2 : Int32} (hw : bp_V_makeMessage_0 Q h x1 x2) : Z p l e R s m args below meth c D clV 101 a (ceV a q) 4 (MQ below (va_Qi Q (AtC D clV 101 a (ceV a q)) (inW a 101)) args s 0 0 (inW a 101)) h 0 [(0, .ref (a 0)), (1, .int x1), (2, .int x2)] [] := by
  unfold bp_V_makeMessage_0 at hw
  refine z_aload_n (pc := 0) X 0 d_V_makeMessage_0 rfl rfl ?_
  refine z_get (i := 0) (pc := 1) X (by decide) (cV_V _) rfl hin_V 5 (by decide) lk64 rfl rfl d_V_makeMessage_1 ?_
  refine z_iload_n (pc := 4) X 1 d_V_makeMessage_4 rfl rfl ?_
  refine z_iload_n (pc := 5) X 2 d_V_makeMessage_5 rfl rfl ?_
  refine z_cVNi (i := 3) (pc := 6) X [.int x1, .int x2] (c_Ms_add X.2.2.2.2.2.2.2.2.1 hw) (by decide) (by decide) lk65 cd_Ms_add lk66 lk67 lk68 (by decide) (cV_Msgs _) rfl nm_Ms_add rfl rfl (Nat.le_of_ble_eq_true rfl) d_V_makeMessage_6 (fun r1 h2 hw => ?_)
  refine z_istore_n (pc := 9) X d_V_makeMessage_9 rfl (by decide) rfl ?_
  refine z_aload_n (pc := 10) X 1 d_V_makeMessage_10 rfl rfl ?_
  refine z_get (i := 0) (pc := 11) X (by decide) (cV_V _) rfl hin_V 0 (by decide) lk3 rfl rfl d_V_makeMessage_11 ?_
  refine z_iload_n (pc := 14) X 2 d_V_makeMessage_14 rfl rfl ?_
  obtain ⟨k3, hk3, ek3, hw⟩ := hw
  refine z_aald (i := 1) (g := fun j => 13 + j) (pc := 15) X 2 (by decide) (cV_Chs _) rfl (by decide) hk3 ek3 d_V_makeMessage_15 ?_
  refine z_iload_n (pc := 16) X 0 d_V_makeMessage_16 rfl rfl ?_
  refine z_cVNv (i := (13 + k3)) (pc := 17) X [.int r1] (c_Ch_addPending X.2.2.2.2.2.2.2.2.1 hk3 hw) (by decide) (by decide) lk69 cd_Ch_addPending lk70 lk71 lk72 (lt_ix hk3 (by decide)) (cV_Ch _ hk3) rfl nm_Ch_addPending rfl rfl (Nat.le_of_ble_eq_true rfl) d_V_makeMessage_17 (fun h4 hw => ?_)
  refine z_iload_n (pc := 20) X 0 d_V_makeMessage_20 rfl rfl ?_
  exact z_iret (pc := 21) X d_V_makeMessage_21 hw
theorem c_V_makeMessage {l : Launch} {D : va_G} {a : Nat → Nat} {q : Nat → ClassId} (hI : injW a 101) {h : RS} {x1 : Int32} {x2 : Int32} {Q : Int32 → RS → Prop} (hw : wp_V_makeMessage h x1 x2 Q) : Met l y_V_makeMessage [.code y_V_makeMessage b_V_makeMessage 4 (some .int)] { frames := 1, cells := 0, slots := 0, locals := 23 } (va_Pc [.ref (a 0), .int x1, .int x2] (PreC tbW D clV (tyV q) 101 a (ceV a q) h)) (va_Qi Q (AtC D clV 101 a (ceV a q)) (inW a 101)) 0 0 (inW a 101) :=
  m_of (by decide +kernel) hI tb_ok (Nat.le_of_ble_eq_true rfl) (fun p e R s m below meth c X => kb_V_makeMessage_0 X hw)
set_option maxHeartbeats 4000000 in
set_option maxRecDepth 100000 in
theorem kb_V_admit_0 {Q : Int32 → RS → Prop} (X : Cx p l R s m args meth c b_V_admit 4 R_V (some .int) D clV (tyV q) a 101 2 46 tbW) {h : RS} {x1 : Int32} {x2 : Int32} {x3 : Int32} (hw : bp_V_admit_0 Q h x1 x2 x3) : Z p l e R s m args below meth c D clV 101 a (ceV a q) 4 (MQ below (va_Qi Q (AtC D clV 101 a (ceV a q)) (inW a 101)) args s 0 0 (inW a 101)) h 0 [(0, .ref (a 0)), (1, .int x1), (2, .int x2), (3, .int x3)] [] := by
  unfold bp_V_admit_0 at hw
  refine z_aload_n (pc := 0) X 0 d_V_admit_0 rfl rfl ?_
  refine z_get (i := 0) (pc := 1) X (by decide) (cV_V _) rfl hin_V 4 (by decide) lk1 rfl rfl d_V_admit_1 ?_
  refine z_if_eq (tgt := 16) (pc := 4) X d_V_admit_4 (by decide) (fun hc => ?_) (fun hc => ?_)
  · have hw := hw.1 hc
    refine z_iconst (v := (-1 : Int32)) (pc := 16) X d_V_admit_16 (by decide) ?_
    exact z_iret (pc := 17) X d_V_admit_17 hw
  · have hw := hw.2 hc
    refine z_aload_n (pc := 7) X 0 d_V_admit_7 rfl rfl ?_
    refine z_iload_n (pc := 8) X 1 d_V_admit_8 rfl rfl ?_
    refine z_iload_n (pc := 9) X 3 d_V_admit_9 rfl rfl ?_
    refine z_cVi (i := 0) (pc := 10) X [.int x1, .int x3] (c_V_isChannelOf X.2.2.2.2.2.2.2.2.1 hw) (by decide) (by decide) lk37 cd_V_isChannelOf lk11 lk38 lk39 (by decide) (cV_V _) rfl nm_V_isChannelOf rfl rfl (Nat.le_of_ble_eq_true rfl) d_V_admit_10 (fun r1 h2 hw => ?_)
    refine z_if_ne (tgt := 18) (pc := 13) X d_V_admit_13 (by decide) (fun hc => ?_) (fun hc => ?_)
    · have hw := hw.1 hc
      refine z_aload_n (pc := 18) X 0 d_V_admit_18 rfl rfl ?_
      refine z_get (i := 0) (pc := 19) X (by decide) (cV_V _) rfl hin_V 0 (by decide) lk3 rfl rfl d_V_admit_19 ?_
      refine z_iload_n (pc := 22) X 1 d_V_admit_22 rfl rfl ?_
      obtain ⟨k3, hk3, ek3, hw⟩ := hw
      refine z_aald (i := 1) (g := fun j => 13 + j) (pc := 23) X 2 (by decide) (cV_Chs _) rfl (by decide) hk3 ek3 d_V_admit_23 ?_
      refine z_getN (i := (13 + k3)) (pc := 24) X (lt_ix hk3 (by decide)) (cV_Ch _ hk3) rfl hin_Ch 2 (by decide) lk73 rfl rfl d_V_admit_24 ?_
      refine z_bipush (v := (6 : Int32)) (pc := 27) X d_V_admit_27 (by decide) ?_
      refine z_icmp_ge (tgt := 45) (pc := 29) X d_V_admit_29 (by decide) (fun hc => ?_) (fun hc => ?_)
      · have hw := hw.1 hc
        refine z_iconst (v := (-1 : Int32)) (pc := 45) X d_V_admit_45 (by decide) ?_
        exact z_iret (pc := 46) X d_V_admit_46 hw
      · have hw := hw.2 hc
        refine z_aload_n (pc := 32) X 0 d_V_admit_32 rfl rfl ?_
        refine z_get (i := 0) (pc := 33) X (by decide) (cV_V _) rfl hin_V 5 (by decide) lk64 rfl rfl d_V_admit_33 ?_
        refine z_getN (i := 3) (pc := 36) X (by decide) (cV_Msgs _) rfl hin_Ms 0 (by decide) lk74 rfl rfl d_V_admit_36 ?_
        refine z_sipush (v := (300 : Int32)) (pc := 39) X d_V_admit_39 (by decide) ?_
        refine z_icmp_lt (tgt := 47) (pc := 42) X d_V_admit_42 (by decide) (fun hc => ?_) (fun hc => ?_)
        · have hw := hw.1 hc
          refine z_aload_n (pc := 47) X 0 d_V_admit_47 rfl rfl ?_
          refine z_iload_n (pc := 48) X 1 d_V_admit_48 rfl rfl ?_
          refine z_iload_n (pc := 49) X 2 d_V_admit_49 rfl rfl ?_
          refine z_cVi (i := 0) (pc := 50) X [.int x1, .int x2] (c_V_makeMessage X.2.2.2.2.2.2.2.2.1 hw) (by decide) (by decide) lk75 cd_V_makeMessage lk11 lk76 lk77 (by decide) (cV_V _) rfl nm_V_makeMessage rfl rfl (Nat.le_of_ble_eq_true rfl) d_V_admit_50 (fun r4 h5 hw => ?_)
          exact z_iret (pc := 53) X d_V_admit_53 hw
        · have hw := hw.2 hc
          refine z_iconst (v := (-1 : Int32)) (pc := 45) X d_V_admit_45 (by decide) ?_
          exact z_iret (pc := 46) X d_V_admit_46 hw
    · have hw := hw.2 hc
      refine z_iconst (v := (-1 : Int32)) (pc := 16) X d_V_admit_16 (by decide) ?_
      exact z_iret (pc := 17) X d_V_admit_17 hw
theorem c_V_admit {l : Launch} {D : va_G} {a : Nat → Nat} {q : Nat → ClassId} (hI : injW a 101) {h : RS} {x1 : Int32} {x2 : Int32} {x3 : Int32} {Q : Int32 → RS → Prop} (hw : wp_V_admit h x1 x2 x3 Q) : Met l y_V_admit [.code y_V_admit b_V_admit 4 (some .int)] { frames := 2, cells := 0, slots := 0, locals := 46 } (va_Pc [.ref (a 0), .int x1, .int x2, .int x3] (PreC tbW D clV (tyV q) 101 a (ceV a q) h)) (va_Qi Q (AtC D clV 101 a (ceV a q)) (inW a 101)) 0 0 (inW a 101) :=
  m_of (by decide +kernel) hI tb_ok (Nat.le_of_ble_eq_true rfl) (fun p e R s m below meth c X => kb_V_admit_0 X hw)
set_option maxHeartbeats 4000000 in
set_option maxRecDepth 100000 in
theorem kb_V_put_0 {Q : Int32 → RS → Prop} (X : Cx p l R s m args meth c b_V_put 3 R_V (some .int) D clV (tyV q) a 101 3 69 tbW) {h : RS} {x1 : Int32} {x2 : Int32} (hw : bp_V_put_0 Q h x1 x2) : Z p l e R s m args below meth c D clV 101 a (ceV a q) 3 (MQ below (va_Qi Q (AtC D clV 101 a (ceV a q)) (inW a 101)) args s 0 0 (inW a 101)) h 0 [(0, .ref (a 0)), (1, .int x1), (2, .int x2)] [] := by
  unfold bp_V_put_0 at hw
  refine z_aload_n (pc := 0) X 0 d_V_put_0 rfl rfl ?_
  refine z_iload_n (pc := 1) X 1 d_V_put_1 rfl rfl ?_
  refine z_iload_n (pc := 2) X 2 d_V_put_2 rfl rfl ?_
  refine z_iconst (v := (0 : Int32)) (pc := 3) X d_V_put_3 (by decide) ?_
  refine z_cVi (i := 0) (pc := 4) X [.int x1, .int x2, .int (0 : Int32)] (c_V_admit X.2.2.2.2.2.2.2.2.1 hw) (by decide) (by decide) lk78 cd_V_admit lk11 lk79 lk80 (by decide) (cV_V _) rfl nm_V_admit rfl rfl (Nat.le_of_ble_eq_true rfl) d_V_put_4 (fun r1 h2 hw => ?_)
  exact z_iret (pc := 7) X d_V_put_7 hw
theorem c_V_put {l : Launch} {D : va_G} {a : Nat → Nat} {q : Nat → ClassId} (hI : injW a 101) {h : RS} {x1 : Int32} {x2 : Int32} {Q : Int32 → RS → Prop} (hw : wp_V_put h x1 x2 Q) : Met l y_V_put [.code y_V_put b_V_put 3 (some .int)] { frames := 3, cells := 0, slots := 0, locals := 69 } (va_Pc [.ref (a 0), .int x1, .int x2] (PreC tbW D clV (tyV q) 101 a (ceV a q) h)) (va_Qi Q (AtC D clV 101 a (ceV a q)) (inW a 101)) 0 0 (inW a 101) :=
  m_of (by decide +kernel) hI tb_ok (Nat.le_of_ble_eq_true rfl) (fun p e R s m below meth c X => kb_V_put_0 X hw)
set_option maxHeartbeats 4000000 in
set_option maxRecDepth 100000 in
theorem kb_V_call_0 {Q : Int32 → RS → Prop} (X : Cx p l R s m args meth c b_V_call 3 R_V (some .int) D clV (tyV q) a 101 3 69 tbW) {h : RS} {x1 : Int32} {x2 : Int32} (hw : bp_V_call_0 Q h x1 x2) : Z p l e R s m args below meth c D clV 101 a (ceV a q) 3 (MQ below (va_Qi Q (AtC D clV 101 a (ceV a q)) (inW a 101)) args s 0 0 (inW a 101)) h 0 [(0, .ref (a 0)), (1, .int x1), (2, .int x2)] [] := by
  unfold bp_V_call_0 at hw
  refine z_aload_n (pc := 0) X 0 d_V_call_0 rfl rfl ?_
  refine z_iload_n (pc := 1) X 1 d_V_call_1 rfl rfl ?_
  refine z_iload_n (pc := 2) X 2 d_V_call_2 rfl rfl ?_
  refine z_iconst (v := (1 : Int32)) (pc := 3) X d_V_call_3 (by decide) ?_
  refine z_cVi (i := 0) (pc := 4) X [.int x1, .int x2, .int (1 : Int32)] (c_V_admit X.2.2.2.2.2.2.2.2.1 hw) (by decide) (by decide) lk78 cd_V_admit lk11 lk79 lk80 (by decide) (cV_V _) rfl nm_V_admit rfl rfl (Nat.le_of_ble_eq_true rfl) d_V_call_4 (fun r1 h2 hw => ?_)
  exact z_iret (pc := 7) X d_V_call_7 hw
theorem c_V_call {l : Launch} {D : va_G} {a : Nat → Nat} {q : Nat → ClassId} (hI : injW a 101) {h : RS} {x1 : Int32} {x2 : Int32} {Q : Int32 → RS → Prop} (hw : wp_V_call h x1 x2 Q) : Met l y_V_call [.code y_V_call b_V_call 3 (some .int)] { frames := 3, cells := 0, slots := 0, locals := 69 } (va_Pc [.ref (a 0), .int x1, .int x2] (PreC tbW D clV (tyV q) 101 a (ceV a q) h)) (va_Qi Q (AtC D clV 101 a (ceV a q)) (inW a 101)) 0 0 (inW a 101) :=
  m_of (by decide +kernel) hI tb_ok (Nat.le_of_ble_eq_true rfl) (fun p e R s m below meth c X => kb_V_call_0 X hw)
set_option maxHeartbeats 4000000 in
set_option maxRecDepth 100000 in
theorem kb_Ms_has_0 {Q : Int32 → RS → Prop} (X : Cx p l R s m args meth c b_Ms_has 2 R_Ms (some .boolean) D clV (tyV q) a 101 0 0 tbW) {h : RS} {x1 : Int32} (hw : bp_Ms_has_0 Q h x1) : Z p l e R s m args below meth c D clV 101 a (ceV a q) 2 (MQ below (va_Qi Q (AtC D clV 101 a (ceV a q)) (inW a 101)) args s 0 0 (inW a 101)) h 0 [(0, .ref (a 3)), (1, .int x1)] [] := by
  unfold bp_Ms_has_0 at hw
  refine z_iload_n (pc := 0) X 1 d_Ms_has_0 rfl rfl ?_
  refine z_if_lt (tgt := 16) (pc := 1) X d_Ms_has_1 (by decide) (fun hc => ?_) (fun hc => ?_)
  · have hw := hw.1 hc
    refine z_iconst (v := (0 : Int32)) (pc := 16) X d_Ms_has_16 (by decide) ?_
    exact z_zret (pc := 17) X hw.1 d_Ms_has_17 hw.2
  · have hw := hw.2 hc
    refine z_iload_n (pc := 4) X 1 d_Ms_has_4 rfl rfl ?_
    refine z_aload_n (pc := 5) X 0 d_Ms_has_5 rfl rfl ?_
    refine z_get (i := 3) (pc := 6) X (by decide) (cV_Msgs _) rfl hin_Ms 0 (by decide) lk57 rfl rfl d_Ms_has_6 ?_
    refine z_icmp_ge (tgt := 16) (pc := 9) X d_Ms_has_9 (by decide) (fun hc => ?_) (fun hc => ?_)
    · have hw := hw.1 hc
      refine z_iconst (v := (0 : Int32)) (pc := 16) X d_Ms_has_16 (by decide) ?_
      exact z_zret (pc := 17) X hw.1 d_Ms_has_17 hw.2
    · have hw := hw.2 hc
      refine z_iconst (v := (1 : Int32)) (pc := 12) X d_Ms_has_12 (by decide) ?_
      refine z_goto (tgt := 17) (pc := 13) X d_Ms_has_13 (by decide) ?_
      exact z_zret (pc := 17) X hw.1 d_Ms_has_17 hw.2
theorem c_Ms_has {l : Launch} {D : va_G} {a : Nat → Nat} {q : Nat → ClassId} (hI : injW a 101) {h : RS} {x1 : Int32} {Q : Int32 → RS → Prop} (hw : wp_Ms_has h x1 Q) : Met l y_Ms_has [.code y_Ms_has b_Ms_has 2 (some .boolean)] { frames := 0, cells := 0, slots := 0, locals := 0 } (va_Pc [.ref (a 3), .int x1] (PreC tbW D clV (tyV q) 101 a (ceV a q) h)) (va_Qi Q (AtC D clV 101 a (ceV a q)) (inW a 101)) 0 0 (inW a 101) :=
  m_of (by decide +kernel) hI tb_ok (Nat.le_of_ble_eq_true rfl) (fun p e R s m below meth c X => kb_Ms_has_0 X hw)
set_option maxHeartbeats 4000000 in
set_option maxRecDepth 100000 in
theorem kb_Ch_removePending_4 {Q : RS → Prop} (X : Cx p l R s m args meth c b_Ch_removePending 4 R_Ch none D clV (tyV q) a 101 0 0 tbW) {K4 : RS → Nat → Int32 → Int32 → Int32 → Prop} (hK4 : ∀ (h : RS) (i0 : Nat) (x1 : Int32) (x2 : Int32) (x3 : Int32), i0 < 8 → K4 h i0 x1 x2 x3 → Z p l e R s m args below meth c D clV 101 a (ceV a q) 4 (MQ below (va_Qv Q (AtC D clV 101 a (ceV a q)) (inW a 101)) args s 0 0 (inW a 101)) h 4 [(0, .ref (a (13 + i0))), (1, .int x1), (2, .int x2), (3, .int x3)] []) {h : RS} {i0 : Nat} {x1 : Int32} {x2 : Int32} {x3 : Int32} (hi0 : i0 < 8) (hw : bp_Ch_removePending_4 K4 Q h i0 x1 x2 x3) : Z p l e R s m args below meth c D clV 101 a (ceV a q) 4 (MQ below (va_Qv Q (AtC D clV 101 a (ceV a q)) (inW a 101)) args s 0 0 (inW a 101)) h 4 [(0, .ref (a (13 + i0))), (1, .int x1), (2, .int x2), (3, .int x3)] [] := by
  unfold bp_Ch_removePending_4 at hw
  refine z_iload_n (pc := 4) X 3 d_Ch_removePending_4 rfl rfl ?_
  refine z_aload_n (pc := 5) X 0 d_Ch_removePending_5 rfl rfl ?_
  refine z_get (i := (13 + i0)) (pc := 6) X (lt_ix hi0 (by decide)) (cV_Ch _ hi0) rfl hin_Ch 2 (by decide) lk63 rfl rfl d_Ch_removePending_6 ?_
  refine z_icmp_ge (tgt := 43) (pc := 9) X d_Ch_removePending_9 (by decide) (fun hc => ?_) (fun hc => ?_)
  · have hw := hw.1 hc
    refine z_aload_n (pc := 43) X 0 d_Ch_removePending_43 rfl rfl ?_
    refine z_iload_n (pc := 44) X 2 d_Ch_removePending_44 rfl rfl ?_
    refine z_put (i := (13 + i0)) (pc := 45) X (lt_ix hi0 (by decide)) (cV_Ch _ hi0) rfl hin_Ch t_Ch t_Ch_ok n_Ch 2 (by decide) lk63 rfl rfl (t_Ch_ok 2 (by decide)) rfl rfl (Nat.le_of_ble_eq_true rfl) (cV_Ch _ hi0) d_Ch_removePending_45 ?_
    have hw := hw _ rfl
    exact z_vret (pc := 48) X d_Ch_removePending_48 hw
  · have hw := hw.2 hc
    refine z_aload_n (pc := 12) X 0 d_Ch_removePending_12 rfl rfl ?_
    refine z_get (i := (13 + i0)) (pc := 13) X (lt_ix hi0 (by decide)) (cV_Ch _ hi0) rfl hin_Ch 1 (by decide) lk62 rfl rfl d_Ch_removePending_13 ?_
    refine z_iload_n (pc := 16) X 3 d_Ch_removePending_16 rfl rfl ?_
    obtain ⟨k2, hk2, ek2, hw⟩ := hw
    refine z_iald (i := (21 + i0)) (pc := 17) X 0 (lt_ix hi0 (by decide)) (cV_Pn _ hi0) rfl (by decide) hk2 ek2 d_Ch_removePending_17 ?_
    refine z_iload_n (pc := 18) X 1 d_Ch_removePending_18 rfl rfl ?_
    refine z_icmp_eq (tgt := 37) (pc := 19) X d_Ch_removePending_19 (by decide) (fun hc => ?_) (fun hc => ?_)
    · have hw := hw.1 hc
      refine z_iinc (v := (x3 + 1)) (pc := 37) X 3 d_Ch_removePending_37 rfl rfl (by decide) rfl ?_
      refine z_goto (tgt := 4) (pc := 40) X d_Ch_removePending_40 (by decide) ?_
      exact z_to [1, 2, 3, 0] rfl (hK4 _ _ _ _ _ hi0 hw)
    · have hw := hw.2 hc
      refine z_aload_n (pc := 22) X 0 d_Ch_removePending_22 rfl rfl ?_
      refine z_get (i := (13 + i0)) (pc := 23) X (lt_ix hi0 (by decide)) (cV_Ch _ hi0) rfl hin_Ch 1 (by decide) lk62 rfl rfl d_Ch_removePending_23 ?_
      refine z_iload_n (pc := 26) X 2 d_Ch_removePending_26 rfl rfl ?_
      refine z_aload_n (pc := 27) X 0 d_Ch_removePending_27 rfl rfl ?_
      refine z_get (i := (13 + i0)) (pc := 28) X (lt_ix hi0 (by decide)) (cV_Ch _ hi0) rfl hin_Ch 1 (by decide) lk62 rfl rfl d_Ch_removePending_28 ?_
      refine z_iload_n (pc := 31) X 3 d_Ch_removePending_31 rfl rfl ?_
      obtain ⟨k3, hk3, ek3, hw⟩ := hw
      refine z_iald (i := (21 + i0)) (pc := 32) X 0 (lt_ix hi0 (by decide)) (cV_Pn _ hi0) rfl (by decide) hk3 ek3 d_Ch_removePending_32 ?_
      obtain ⟨k4, hk4, ek4, hw⟩ := hw
      refine z_iast (i := (21 + i0)) (pc := 33) X 0 (lt_ix hi0 (by decide)) (fun g => (cV_Pn g hi0)) rfl (by decide) hk4 ek4 d_Ch_removePending_33 ?_
      have hw := hw _ rfl
      refine z_iinc (v := (x2 + 1)) (pc := 34) X 2 d_Ch_removePending_34 rfl rfl (by decide) rfl ?_
      refine z_iinc (v := (x3 + 1)) (pc := 37) X 3 d_Ch_removePending_37 rfl rfl (by decide) rfl ?_
      refine z_goto (tgt := 4) (pc := 40) X d_Ch_removePending_40 (by decide) ?_
      exact z_to [2, 3, 1, 0] rfl (hK4 _ _ _ _ _ hi0 hw)
theorem kl_Ch_removePending_4 {Q : RS → Prop} (X : Cx p l R s m args meth c b_Ch_removePending 4 R_Ch none D clV (tyV q) a 101 0 0 tbW) : ∀ (n : Nat) (h : RS) (i0 : Nat) (x1 : Int32) (x2 : Int32) (x3 : Int32), i0 < 8 → wp_Ch_removePending_4 Q n h i0 x1 x2 x3 → Z p l e R s m args below meth c D clV 101 a (ceV a q) 4 (MQ below (va_Qv Q (AtC D clV 101 a (ceV a q)) (inW a 101)) args s 0 0 (inW a 101)) h 4 [(0, .ref (a (13 + i0))), (1, .int x1), (2, .int x2), (3, .int x3)] [] := by
  intro n
  induction n with
  | zero =>
    intro h i0 x1 x2 x3 hi0 hw
    exact hw.elim
  | succ n ih =>
    intro h i0 x1 x2 x3 hi0 hw
    exact kb_Ch_removePending_4 X ih hi0 hw
set_option maxHeartbeats 4000000 in
set_option maxRecDepth 100000 in
theorem kb_Ch_removePending_0 {Q : RS → Prop} (X : Cx p l R s m args meth c b_Ch_removePending 4 R_Ch none D clV (tyV q) a 101 0 0 tbW) {h : RS} {i0 : Nat} {x1 : Int32} (hi0 : i0 < 8) (hw : bp_Ch_removePending_0 Q h i0 x1) : Z p l e R s m args below meth c D clV 101 a (ceV a q) 4 (MQ below (va_Qv Q (AtC D clV 101 a (ceV a q)) (inW a 101)) args s 0 0 (inW a 101)) h 0 [(0, .ref (a (13 + i0))), (1, .int x1)] [] := by
  unfold bp_Ch_removePending_0 at hw
  refine z_iconst (v := (0 : Int32)) (pc := 0) X d_Ch_removePending_0 (by decide) ?_
  refine z_istore_n (pc := 1) X d_Ch_removePending_1 rfl (by decide) rfl ?_
  refine z_iconst (v := (0 : Int32)) (pc := 2) X d_Ch_removePending_2 (by decide) ?_
  refine z_istore_n (pc := 3) X d_Ch_removePending_3 rfl (by decide) rfl ?_
  obtain ⟨n6, hw⟩ := hw
  exact z_to [2, 3, 1, 0] rfl (kl_Ch_removePending_4 X n6 _ _ _ _ _ hi0 hw)
theorem c_Ch_removePending {l : Launch} {D : va_G} {a : Nat → Nat} {q : Nat → ClassId} (hI : injW a 101) {h : RS} {i0 : Nat} {x1 : Int32} (hi0 : i0 < 8) {Q : RS → Prop} (hw : wp_Ch_removePending h i0 x1 Q) : Met l y_Ch_removePending [.code y_Ch_removePending b_Ch_removePending 4 none] { frames := 0, cells := 0, slots := 0, locals := 0 } (va_Pc [.ref (a (13 + i0)), .int x1] (PreC tbW D clV (tyV q) 101 a (ceV a q) h)) (va_Qv Q (AtC D clV 101 a (ceV a q)) (inW a 101)) 0 0 (inW a 101) :=
  m_of (by decide +kernel) hI tb_ok (Nat.le_of_ble_eq_true rfl) (fun p e R s m below meth c X => kb_Ch_removePending_0 X hi0 hw)
set_option maxHeartbeats 4000000 in
set_option maxRecDepth 100000 in
theorem kb_V_withdraw_0 {Q : Int32 → RS → Prop} (X : Cx p l R s m args meth c b_V_withdraw 3 R_V (some .boolean) D clV (tyV q) a 101 1 23 tbW) {h : RS} {x1 : Int32} (hw : bp_V_withdraw_0 Q h x1) : Z p l e R s m args below meth c D clV 101 a (ceV a q) 3 (MQ below (va_Qi Q (AtC D clV 101 a (ceV a q)) (inW a 101)) args s 0 0 (inW a 101)) h 0 [(0, .ref (a 0)), (1, .int x1)] [] := by
  unfold bp_V_withdraw_0 at hw
  refine z_aload_n (pc := 0) X 0 d_V_withdraw_0 rfl rfl ?_
  refine z_get (i := 0) (pc := 1) X (by decide) (cV_V _) rfl hin_V 5 (by decide) lk64 rfl rfl d_V_withdraw_1 ?_
  refine z_iload_n (pc := 4) X 1 d_V_withdraw_4 rfl rfl ?_
  refine z_cVNi (i := 3) (pc := 5) X [.int x1] (c_Ms_has X.2.2.2.2.2.2.2.2.1 hw) (by decide) (by decide) lk81 cd_Ms_has lk66 lk82 lk83 (by decide) (cV_Msgs _) rfl nm_Ms_has rfl rfl (Nat.le_of_ble_eq_true rfl) d_V_withdraw_5 (fun r1 h2 hw => ?_)
  refine z_if_eq (tgt := 24) (pc := 8) X d_V_withdraw_8 (by decide) (fun hc => ?_) (fun hc => ?_)
  · have hw := hw.1 hc
    refine z_iconst (v := (0 : Int32)) (pc := 24) X d_V_withdraw_24 (by decide) ?_
    exact z_zret (pc := 25) X hw.1 d_V_withdraw_25 hw.2
  · have hw := hw.2 hc
    refine z_aload_n (pc := 11) X 0 d_V_withdraw_11 rfl rfl ?_
    refine z_get (i := 0) (pc := 12) X (by decide) (cV_V _) rfl hin_V 5 (by decide) lk64 rfl rfl d_V_withdraw_12 ?_
    refine z_getN (i := 3) (pc := 15) X (by decide) (cV_Msgs _) rfl hin_Ms 3 (by decide) lk84 rfl rfl d_V_withdraw_15 ?_
    refine z_iload_n (pc := 18) X 1 d_V_withdraw_18 rfl rfl ?_
    obtain ⟨k3, hk3, ek3, hw⟩ := hw
    refine z_iald (i := 8) (pc := 19) X 0 (by decide) (cV_mSt _) rfl (by decide) hk3 ek3 d_V_withdraw_19 ?_
    refine z_iconst (v := (1 : Int32)) (pc := 20) X d_V_withdraw_20 (by decide) ?_
    refine z_icmp_eq (tgt := 26) (pc := 21) X d_V_withdraw_21 (by decide) (fun hc => ?_) (fun hc => ?_)
    · have hw := hw.1 hc
      refine z_aload_n (pc := 26) X 0 d_V_withdraw_26 rfl rfl ?_
      refine z_get (i := 0) (pc := 27) X (by decide) (cV_V _) rfl hin_V 0 (by decide) lk3 rfl rfl d_V_withdraw_27 ?_
      refine z_aload_n (pc := 30) X 0 d_V_withdraw_30 rfl rfl ?_
      refine z_get (i := 0) (pc := 31) X (by decide) (cV_V _) rfl hin_V 5 (by decide) lk64 rfl rfl d_V_withdraw_31 ?_
      refine z_getN (i := 3) (pc := 34) X (by decide) (cV_Msgs _) rfl hin_Ms 1 (by decide) lk85 rfl rfl d_V_withdraw_34 ?_
      refine z_iload_n (pc := 37) X 1 d_V_withdraw_37 rfl rfl ?_
      obtain ⟨k4, hk4, ek4, hw⟩ := hw
      refine z_iald (i := 6) (pc := 38) X 0 (by decide) (cV_mCh _) rfl (by decide) hk4 ek4 d_V_withdraw_38 ?_
      obtain ⟨k5, hk5, ek5, hw⟩ := hw
      refine z_aald (i := 1) (g := fun j => 13 + j) (pc := 39) X 2 (by decide) (cV_Chs _) rfl (by decide) hk5 ek5 d_V_withdraw_39 ?_
      refine z_astore_n (pc := 40) X d_V_withdraw_40 rfl (by decide) rfl ?_
      refine z_aload_n (pc := 41) X 0 d_V_withdraw_41 rfl rfl ?_
      refine z_getN (i := (13 + k5)) (pc := 42) X (lt_ix hk5 (by decide)) (cV_Ch _ hk5) rfl hin_Ch 0 (by decide) lk4 rfl rfl d_V_withdraw_42 ?_
      refine z_if_ne (tgt := 50) (pc := 45) X d_V_withdraw_45 (by decide) (fun hc => ?_) (fun hc => ?_)
      · have hw := hw.1 hc
        refine z_aload_n (pc := 50) X 1 d_V_withdraw_50 rfl rfl ?_
        refine z_get (i := 0) (pc := 51) X (by decide) (cV_V _) rfl hin_V 5 (by decide) lk64 rfl rfl d_V_withdraw_51 ?_
        refine z_getN (i := 3) (pc := 54) X (by decide) (cV_Msgs _) rfl hin_Ms 3 (by decide) lk84 rfl rfl d_V_withdraw_54 ?_
        refine z_iload_n (pc := 57) X 2 d_V_withdraw_57 rfl rfl ?_
        refine z_iconst (v := (3 : Int32)) (pc := 58) X d_V_withdraw_58 (by decide) ?_
        obtain ⟨k6, hk6, ek6, hw⟩ := hw
        refine z_iast (i := 8) (pc := 59) X 0 (by decide) (fun g => (cV_mSt g)) rfl (by decide) hk6 ek6 d_V_withdraw_59 ?_
        have hw := hw _ rfl
        refine z_aload_n (pc := 60) X 0 d_V_withdraw_60 rfl rfl ?_
        refine z_iload_n (pc := 61) X 2 d_V_withdraw_61 rfl rfl ?_
        refine z_cVNv (i := (13 + k5)) (pc := 62) X [.int x1] (c_Ch_removePending X.2.2.2.2.2.2.2.2.1 hk5 hw) (by decide) (by decide) lk86 cd_Ch_removePending lk70 lk87 lk88 (lt_ix hk5 (by decide)) (cV_Ch _ hk5) rfl nm_Ch_removePending rfl rfl (Nat.le_of_ble_eq_true rfl) d_V_withdraw_62 (fun h8 hw => ?_)
        refine z_iconst (v := (1 : Int32)) (pc := 65) X d_V_withdraw_65 (by decide) ?_
        exact z_zret (pc := 66) X hw.1 d_V_withdraw_66 hw.2
      · have hw := hw.2 hc
        refine z_iconst (v := (0 : Int32)) (pc := 48) X d_V_withdraw_48 (by decide) ?_
        exact z_zret (pc := 49) X hw.1 d_V_withdraw_49 hw.2
    · have hw := hw.2 hc
      refine z_iconst (v := (0 : Int32)) (pc := 24) X d_V_withdraw_24 (by decide) ?_
      exact z_zret (pc := 25) X hw.1 d_V_withdraw_25 hw.2
theorem c_V_withdraw {l : Launch} {D : va_G} {a : Nat → Nat} {q : Nat → ClassId} (hI : injW a 101) {h : RS} {x1 : Int32} {Q : Int32 → RS → Prop} (hw : wp_V_withdraw h x1 Q) : Met l y_V_withdraw [.code y_V_withdraw b_V_withdraw 3 (some .boolean)] { frames := 1, cells := 0, slots := 0, locals := 23 } (va_Pc [.ref (a 0), .int x1] (PreC tbW D clV (tyV q) 101 a (ceV a q) h)) (va_Qi Q (AtC D clV 101 a (ceV a q)) (inW a 101)) 0 0 (inW a 101) :=
  m_of (by decide +kernel) hI tb_ok (Nat.le_of_ble_eq_true rfl) (fun p e R s m below meth c X => kb_V_withdraw_0 X hw)
set_option maxHeartbeats 4000000 in
set_option maxRecDepth 100000 in
theorem kb_Re_sendCount_4 {Q : Int32 → RS → Prop} (X : Cx p l R s m args meth c b_Re_sendCount 3 R_Re (some .int) D clV (tyV q) a 101 0 0 tbW) {K4 : RS → Nat → Int32 → Int32 → Prop} (hK4 : ∀ (h : RS) (i0 : Nat) (x1 : Int32) (x2 : Int32), i0 < 8 → K4 h i0 x1 x2 → Z p l e R s m args below meth c D clV 101 a (ceV a q) 3 (MQ below (va_Qi Q (AtC D clV 101 a (ceV a q)) (inW a 101)) args s 0 0 (inW a 101)) h 4 [(0, .ref (a (29 + i0))), (1, .int x1), (2, .int x2)] []) {h : RS} {i0 : Nat} {x1 : Int32} {x2 : Int32} (hi0 : i0 < 8) (hw : bp_Re_sendCount_4 K4 Q h i0 x1 x2) : Z p l e R s m args below meth c D clV 101 a (ceV a q) 3 (MQ below (va_Qi Q (AtC D clV 101 a (ceV a q)) (inW a 101)) args s 0 0 (inW a 101)) h 4 [(0, .ref (a (29 + i0))), (1, .int x1), (2, .int x2)] [] := by
  unfold bp_Re_sendCount_4 at hw
  refine z_iload_n (pc := 4) X 2 d_Re_sendCount_4 rfl rfl ?_
  refine z_aload_n (pc := 5) X 0 d_Re_sendCount_5 rfl rfl ?_
  refine z_get (i := (29 + i0)) (pc := 6) X (lt_ix hi0 (by decide)) (cV_Re _ hi0) rfl hin_Re 6 (by decide) lk31 rfl rfl d_Re_sendCount_6 ?_
  refine z_icmp_ge (tgt := 30) (pc := 9) X d_Re_sendCount_9 (by decide) (fun hc => ?_) (fun hc => ?_)
  · have hw := hw.1 hc
    refine z_iload_n (pc := 30) X 1 d_Re_sendCount_30 rfl rfl ?_
    exact z_iret (pc := 31) X d_Re_sendCount_31 hw
  · have hw := hw.2 hc
    refine z_aload_n (pc := 12) X 0 d_Re_sendCount_12 rfl rfl ?_
    refine z_get (i := (29 + i0)) (pc := 13) X (lt_ix hi0 (by decide)) (cV_Re _ hi0) rfl hin_Re 7 (by decide) lk32 rfl rfl d_Re_sendCount_13 ?_
    refine z_iload_n (pc := 16) X 2 d_Re_sendCount_16 rfl rfl ?_
    obtain ⟨k1, hk1, ek1, hw⟩ := hw
    refine z_zald (i := (61 + i0)) (pc := 17) X 1 (lt_ix hi0 (by decide)) (cV_aS _ hi0) rfl (by decide) hk1 ek1 d_Re_sendCount_17 ?_
    refine z_if_eq (tgt := 24) (pc := 18) X d_Re_sendCount_18 (by decide) (fun hc => ?_) (fun hc => ?_)
    · have hw := hw.1 hc
      refine z_iinc (v := (x2 + 1)) (pc := 24) X 2 d_Re_sendCount_24 rfl rfl (by decide) rfl ?_
      refine z_goto (tgt := 4) (pc := 27) X d_Re_sendCount_27 (by decide) ?_
      exact z_to [1, 2, 0] rfl (hK4 _ _ _ _ hi0 hw)
    · have hw := hw.2 hc
      refine z_iinc (v := (x1 + 1)) (pc := 21) X 1 d_Re_sendCount_21 rfl rfl (by decide) rfl ?_
      refine z_iinc (v := (x2 + 1)) (pc := 24) X 2 d_Re_sendCount_24 rfl rfl (by decide) rfl ?_
      refine z_goto (tgt := 4) (pc := 27) X d_Re_sendCount_27 (by decide) ?_
      exact z_to [2, 1, 0] rfl (hK4 _ _ _ _ hi0 hw)
theorem kl_Re_sendCount_4 {Q : Int32 → RS → Prop} (X : Cx p l R s m args meth c b_Re_sendCount 3 R_Re (some .int) D clV (tyV q) a 101 0 0 tbW) : ∀ (n : Nat) (h : RS) (i0 : Nat) (x1 : Int32) (x2 : Int32), i0 < 8 → wp_Re_sendCount_4 Q n h i0 x1 x2 → Z p l e R s m args below meth c D clV 101 a (ceV a q) 3 (MQ below (va_Qi Q (AtC D clV 101 a (ceV a q)) (inW a 101)) args s 0 0 (inW a 101)) h 4 [(0, .ref (a (29 + i0))), (1, .int x1), (2, .int x2)] [] := by
  intro n
  induction n with
  | zero =>
    intro h i0 x1 x2 hi0 hw
    exact hw.elim
  | succ n ih =>
    intro h i0 x1 x2 hi0 hw
    exact kb_Re_sendCount_4 X ih hi0 hw
set_option maxHeartbeats 4000000 in
set_option maxRecDepth 100000 in
theorem kb_Re_sendCount_0 {Q : Int32 → RS → Prop} (X : Cx p l R s m args meth c b_Re_sendCount 3 R_Re (some .int) D clV (tyV q) a 101 0 0 tbW) {h : RS} {i0 : Nat} (hi0 : i0 < 8) (hw : bp_Re_sendCount_0 Q h i0) : Z p l e R s m args below meth c D clV 101 a (ceV a q) 3 (MQ below (va_Qi Q (AtC D clV 101 a (ceV a q)) (inW a 101)) args s 0 0 (inW a 101)) h 0 [(0, .ref (a (29 + i0)))] [] := by
  unfold bp_Re_sendCount_0 at hw
  refine z_iconst (v := (0 : Int32)) (pc := 0) X d_Re_sendCount_0 (by decide) ?_
  refine z_istore_n (pc := 1) X d_Re_sendCount_1 rfl (by decide) rfl ?_
  refine z_iconst (v := (0 : Int32)) (pc := 2) X d_Re_sendCount_2 (by decide) ?_
  refine z_istore_n (pc := 3) X d_Re_sendCount_3 rfl (by decide) rfl ?_
  obtain ⟨n2, hw⟩ := hw
  exact z_to [2, 1, 0] rfl (kl_Re_sendCount_4 X n2 _ _ _ _ hi0 hw)
theorem c_Re_sendCount {l : Launch} {D : va_G} {a : Nat → Nat} {q : Nat → ClassId} (hI : injW a 101) {h : RS} {i0 : Nat} (hi0 : i0 < 8) {Q : Int32 → RS → Prop} (hw : wp_Re_sendCount h i0 Q) : Met l y_Re_sendCount [.code y_Re_sendCount b_Re_sendCount 3 (some .int)] { frames := 0, cells := 0, slots := 0, locals := 0 } (va_Pc [.ref (a (29 + i0))] (PreC tbW D clV (tyV q) 101 a (ceV a q) h)) (va_Qi Q (AtC D clV 101 a (ceV a q)) (inW a 101)) 0 0 (inW a 101) :=
  m_of (by decide +kernel) hI tb_ok (Nat.le_of_ble_eq_true rfl) (fun p e R s m below meth c X => kb_Re_sendCount_0 X hi0 hw)
set_option maxHeartbeats 4000000 in
set_option maxRecDepth 100000 in
theorem kb_Re_partsOn_4 {Q : Int32 → RS → Prop} (X : Cx p l R s m args meth c b_Re_partsOn 4 R_Re (some .int) D clV (tyV q) a 101 0 0 tbW) {K4 : RS → Nat → Int32 → Int32 → Int32 → Prop} (hK4 : ∀ (h : RS) (i0 : Nat) (x1 : Int32) (x2 : Int32) (x3 : Int32), i0 < 8 → K4 h i0 x1 x2 x3 → Z p l e R s m args below meth c D clV 101 a (ceV a q) 4 (MQ below (va_Qi Q (AtC D clV 101 a (ceV a q)) (inW a 101)) args s 0 0 (inW a 101)) h 4 [(0, .ref (a (29 + i0))), (1, .int x1), (2, .int x2), (3, .int x3)] []) {h : RS} {i0 : Nat} {x1 : Int32} {x2 : Int32} {x3 : Int32} (hi0 : i0 < 8) (hw : bp_Re_partsOn_4 K4 Q h i0 x1 x2 x3) : Z p l e R s m args below meth c D clV 101 a (ceV a q) 4 (MQ below (va_Qi Q (AtC D clV 101 a (ceV a q)) (inW a 101)) args s 0 0 (inW a 101)) h 4 [(0, .ref (a (29 + i0))), (1, .int x1), (2, .int x2), (3, .int x3)] [] := by
  unfold bp_Re_partsOn_4 at hw
  refine z_iload_n (pc := 4) X 3 d_Re_partsOn_4 rfl rfl ?_
  refine z_aload_n (pc := 5) X 0 d_Re_partsOn_5 rfl rfl ?_
  refine z_get (i := (29 + i0)) (pc := 6) X (lt_ix hi0 (by decide)) (cV_Re _ hi0) rfl hin_Re 0 (by decide) lk6 rfl rfl d_Re_partsOn_6 ?_
  refine z_icmp_ge (tgt := 31) (pc := 9) X d_Re_partsOn_9 (by decide) (fun hc => ?_) (fun hc => ?_)
  · have hw := hw.1 hc
    refine z_iload_n (pc := 31) X 2 d_Re_partsOn_31 rfl rfl ?_
    exact z_iret (pc := 32) X d_Re_partsOn_32 hw
  · have hw := hw.2 hc
    refine z_aload_n (pc := 12) X 0 d_Re_partsOn_12 rfl rfl ?_
    refine z_get (i := (29 + i0)) (pc := 13) X (lt_ix hi0 (by decide)) (cV_Re _ hi0) rfl hin_Re 1 (by decide) lk7 rfl rfl d_Re_partsOn_13 ?_
    refine z_iload_n (pc := 16) X 3 d_Re_partsOn_16 rfl rfl ?_
    obtain ⟨k1, hk1, ek1, hw⟩ := hw
    refine z_iald (i := (37 + i0)) (pc := 17) X 0 (lt_ix hi0 (by decide)) (cV_pC _ hi0) rfl (by decide) hk1 ek1 d_Re_partsOn_17 ?_
    refine z_iload_n (pc := 18) X 1 d_Re_partsOn_18 rfl rfl ?_
    refine z_icmp_ne (tgt := 25) (pc := 19) X d_Re_partsOn_19 (by decide) (fun hc => ?_) (fun hc => ?_)
    · have hw := hw.1 hc
      refine z_iinc (v := (x3 + 1)) (pc := 25) X 3 d_Re_partsOn_25 rfl rfl (by decide) rfl ?_
      refine z_goto (tgt := 4) (pc := 28) X d_Re_partsOn_28 (by decide) ?_
      exact z_to [1, 2, 3, 0] rfl (hK4 _ _ _ _ _ hi0 hw)
    · have hw := hw.2 hc
      refine z_iinc (v := (x2 + 1)) (pc := 22) X 2 d_Re_partsOn_22 rfl rfl (by decide) rfl ?_
      refine z_iinc (v := (x3 + 1)) (pc := 25) X 3 d_Re_partsOn_25 rfl rfl (by decide) rfl ?_
      refine z_goto (tgt := 4) (pc := 28) X d_Re_partsOn_28 (by decide) ?_
      exact z_to [2, 3, 1, 0] rfl (hK4 _ _ _ _ _ hi0 hw)
theorem kl_Re_partsOn_4 {Q : Int32 → RS → Prop} (X : Cx p l R s m args meth c b_Re_partsOn 4 R_Re (some .int) D clV (tyV q) a 101 0 0 tbW) : ∀ (n : Nat) (h : RS) (i0 : Nat) (x1 : Int32) (x2 : Int32) (x3 : Int32), i0 < 8 → wp_Re_partsOn_4 Q n h i0 x1 x2 x3 → Z p l e R s m args below meth c D clV 101 a (ceV a q) 4 (MQ below (va_Qi Q (AtC D clV 101 a (ceV a q)) (inW a 101)) args s 0 0 (inW a 101)) h 4 [(0, .ref (a (29 + i0))), (1, .int x1), (2, .int x2), (3, .int x3)] [] := by
  intro n
  induction n with
  | zero =>
    intro h i0 x1 x2 x3 hi0 hw
    exact hw.elim
  | succ n ih =>
    intro h i0 x1 x2 x3 hi0 hw
    exact kb_Re_partsOn_4 X ih hi0 hw
set_option maxHeartbeats 4000000 in
set_option maxRecDepth 100000 in
theorem kb_Re_partsOn_0 {Q : Int32 → RS → Prop} (X : Cx p l R s m args meth c b_Re_partsOn 4 R_Re (some .int) D clV (tyV q) a 101 0 0 tbW) {h : RS} {i0 : Nat} {x1 : Int32} (hi0 : i0 < 8) (hw : bp_Re_partsOn_0 Q h i0 x1) : Z p l e R s m args below meth c D clV 101 a (ceV a q) 4 (MQ below (va_Qi Q (AtC D clV 101 a (ceV a q)) (inW a 101)) args s 0 0 (inW a 101)) h 0 [(0, .ref (a (29 + i0))), (1, .int x1)] [] := by
  unfold bp_Re_partsOn_0 at hw
  refine z_iconst (v := (0 : Int32)) (pc := 0) X d_Re_partsOn_0 (by decide) ?_
  refine z_istore_n (pc := 1) X d_Re_partsOn_1 rfl (by decide) rfl ?_
  refine z_iconst (v := (0 : Int32)) (pc := 2) X d_Re_partsOn_2 (by decide) ?_
  refine z_istore_n (pc := 3) X d_Re_partsOn_3 rfl (by decide) rfl ?_
  obtain ⟨n2, hw⟩ := hw
  exact z_to [2, 3, 1, 0] rfl (kl_Re_partsOn_4 X n2 _ _ _ _ _ hi0 hw)
theorem c_Re_partsOn {l : Launch} {D : va_G} {a : Nat → Nat} {q : Nat → ClassId} (hI : injW a 101) {h : RS} {i0 : Nat} {x1 : Int32} (hi0 : i0 < 8) {Q : Int32 → RS → Prop} (hw : wp_Re_partsOn h i0 x1 Q) : Met l y_Re_partsOn [.code y_Re_partsOn b_Re_partsOn 4 (some .int)] { frames := 0, cells := 0, slots := 0, locals := 0 } (va_Pc [.ref (a (29 + i0)), .int x1] (PreC tbW D clV (tyV q) 101 a (ceV a q) h)) (va_Qi Q (AtC D clV 101 a (ceV a q)) (inW a 101)) 0 0 (inW a 101) :=
  m_of (by decide +kernel) hI tb_ok (Nat.le_of_ble_eq_true rfl) (fun p e R s m below meth c X => kb_Re_partsOn_0 X hi0 hw)
set_option maxHeartbeats 4000000 in
set_option maxRecDepth 100000 in
theorem kb_Re_sendsTo_4 {Q : Int32 → RS → Prop} (X : Cx p l R s m args meth c b_Re_sendsTo 4 R_Re (some .int) D clV (tyV q) a 101 0 0 tbW) {K4 : RS → Nat → Int32 → Int32 → Int32 → Prop} (hK4 : ∀ (h : RS) (i0 : Nat) (x1 : Int32) (x2 : Int32) (x3 : Int32), i0 < 8 → K4 h i0 x1 x2 x3 → Z p l e R s m args below meth c D clV 101 a (ceV a q) 4 (MQ below (va_Qi Q (AtC D clV 101 a (ceV a q)) (inW a 101)) args s 0 0 (inW a 101)) h 4 [(0, .ref (a (29 + i0))), (1, .int x1), (2, .int x2), (3, .int x3)] []) {h : RS} {i0 : Nat} {x1 : Int32} {x2 : Int32} {x3 : Int32} (hi0 : i0 < 8) (hw : bp_Re_sendsTo_4 K4 Q h i0 x1 x2 x3) : Z p l e R s m args below meth c D clV 101 a (ceV a q) 4 (MQ below (va_Qi Q (AtC D clV 101 a (ceV a q)) (inW a 101)) args s 0 0 (inW a 101)) h 4 [(0, .ref (a (29 + i0))), (1, .int x1), (2, .int x2), (3, .int x3)] [] := by
  unfold bp_Re_sendsTo_4 at hw
  refine z_iload_n (pc := 4) X 3 d_Re_sendsTo_4 rfl rfl ?_
  refine z_aload_n (pc := 5) X 0 d_Re_sendsTo_5 rfl rfl ?_
  refine z_get (i := (29 + i0)) (pc := 6) X (lt_ix hi0 (by decide)) (cV_Re _ hi0) rfl hin_Re 6 (by decide) lk31 rfl rfl d_Re_sendsTo_6 ?_
  refine z_icmp_ge (tgt := 40) (pc := 9) X d_Re_sendsTo_9 (by decide) (fun hc => ?_) (fun hc => ?_)
  · have hw := hw.1 hc
    refine z_iload_n (pc := 40) X 2 d_Re_sendsTo_40 rfl rfl ?_
    exact z_iret (pc := 41) X d_Re_sendsTo_41 hw
  · have hw := hw.2 hc
    refine z_aload_n (pc := 12) X 0 d_Re_sendsTo_12 rfl rfl ?_
    refine z_get (i := (29 + i0)) (pc := 13) X (lt_ix hi0 (by decide)) (cV_Re _ hi0) rfl hin_Re 7 (by decide) lk32 rfl rfl d_Re_sendsTo_13 ?_
    refine z_iload_n (pc := 16) X 3 d_Re_sendsTo_16 rfl rfl ?_
    obtain ⟨k1, hk1, ek1, hw⟩ := hw
    refine z_zald (i := (61 + i0)) (pc := 17) X 1 (lt_ix hi0 (by decide)) (cV_aS _ hi0) rfl (by decide) hk1 ek1 d_Re_sendsTo_17 ?_
    refine z_if_eq (tgt := 34) (pc := 18) X d_Re_sendsTo_18 (by decide) (fun hc => ?_) (fun hc => ?_)
    · have hw := hw.1 hc
      refine z_iinc (v := (x3 + 1)) (pc := 34) X 3 d_Re_sendsTo_34 rfl rfl (by decide) rfl ?_
      refine z_goto (tgt := 4) (pc := 37) X d_Re_sendsTo_37 (by decide) ?_
      exact z_to [1, 2, 3, 0] rfl (hK4 _ _ _ _ _ hi0 hw)
    · have hw := hw.2 hc
      refine z_aload_n (pc := 21) X 0 d_Re_sendsTo_21 rfl rfl ?_
      refine z_get (i := (29 + i0)) (pc := 22) X (lt_ix hi0 (by decide)) (cV_Re _ hi0) rfl hin_Re 8 (by decide) lk33 rfl rfl d_Re_sendsTo_22 ?_
      refine z_iload_n (pc := 25) X 3 d_Re_sendsTo_25 rfl rfl ?_
      obtain ⟨k2, hk2, ek2, hw⟩ := hw
      refine z_iald (i := (69 + i0)) (pc := 26) X 0 (lt_ix hi0 (by decide)) (cV_aT _ hi0) rfl (by decide) hk2 ek2 d_Re_sendsTo_26 ?_
      refine z_iload_n (pc := 27) X 1 d_Re_sendsTo_27 rfl rfl ?_
      refine z_icmp_ne (tgt := 34) (pc := 28) X d_Re_sendsTo_28 (by decide) (fun hc => ?_) (fun hc => ?_)
      · have hw := hw.1 hc
        refine z_iinc (v := (x3 + 1)) (pc := 34) X 3 d_Re_sendsTo_34 rfl rfl (by decide) rfl ?_
        refine z_goto (tgt := 4) (pc := 37) X d_Re_sendsTo_37 (by decide) ?_
        exact z_to [1, 2, 3, 0] rfl (hK4 _ _ _ _ _ hi0 hw)
      · have hw := hw.2 hc
        refine z_iinc (v := (x2 + 1)) (pc := 31) X 2 d_Re_sendsTo_31 rfl rfl (by decide) rfl ?_
        refine z_iinc (v := (x3 + 1)) (pc := 34) X 3 d_Re_sendsTo_34 rfl rfl (by decide) rfl ?_
        refine z_goto (tgt := 4) (pc := 37) X d_Re_sendsTo_37 (by decide) ?_
        exact z_to [2, 3, 1, 0] rfl (hK4 _ _ _ _ _ hi0 hw)
theorem kl_Re_sendsTo_4 {Q : Int32 → RS → Prop} (X : Cx p l R s m args meth c b_Re_sendsTo 4 R_Re (some .int) D clV (tyV q) a 101 0 0 tbW) : ∀ (n : Nat) (h : RS) (i0 : Nat) (x1 : Int32) (x2 : Int32) (x3 : Int32), i0 < 8 → wp_Re_sendsTo_4 Q n h i0 x1 x2 x3 → Z p l e R s m args below meth c D clV 101 a (ceV a q) 4 (MQ below (va_Qi Q (AtC D clV 101 a (ceV a q)) (inW a 101)) args s 0 0 (inW a 101)) h 4 [(0, .ref (a (29 + i0))), (1, .int x1), (2, .int x2), (3, .int x3)] [] := by
  intro n
  induction n with
  | zero =>
    intro h i0 x1 x2 x3 hi0 hw
    exact hw.elim
  | succ n ih =>
    intro h i0 x1 x2 x3 hi0 hw
    exact kb_Re_sendsTo_4 X ih hi0 hw
set_option maxHeartbeats 4000000 in
set_option maxRecDepth 100000 in
theorem kb_Re_sendsTo_0 {Q : Int32 → RS → Prop} (X : Cx p l R s m args meth c b_Re_sendsTo 4 R_Re (some .int) D clV (tyV q) a 101 0 0 tbW) {h : RS} {i0 : Nat} {x1 : Int32} (hi0 : i0 < 8) (hw : bp_Re_sendsTo_0 Q h i0 x1) : Z p l e R s m args below meth c D clV 101 a (ceV a q) 4 (MQ below (va_Qi Q (AtC D clV 101 a (ceV a q)) (inW a 101)) args s 0 0 (inW a 101)) h 0 [(0, .ref (a (29 + i0))), (1, .int x1)] [] := by
  unfold bp_Re_sendsTo_0 at hw
  refine z_iconst (v := (0 : Int32)) (pc := 0) X d_Re_sendsTo_0 (by decide) ?_
  refine z_istore_n (pc := 1) X d_Re_sendsTo_1 rfl (by decide) rfl ?_
  refine z_iconst (v := (0 : Int32)) (pc := 2) X d_Re_sendsTo_2 (by decide) ?_
  refine z_istore_n (pc := 3) X d_Re_sendsTo_3 rfl (by decide) rfl ?_
  obtain ⟨n3, hw⟩ := hw
  exact z_to [2, 3, 1, 0] rfl (kl_Re_sendsTo_4 X n3 _ _ _ _ _ hi0 hw)
theorem c_Re_sendsTo {l : Launch} {D : va_G} {a : Nat → Nat} {q : Nat → ClassId} (hI : injW a 101) {h : RS} {i0 : Nat} {x1 : Int32} (hi0 : i0 < 8) {Q : Int32 → RS → Prop} (hw : wp_Re_sendsTo h i0 x1 Q) : Met l y_Re_sendsTo [.code y_Re_sendsTo b_Re_sendsTo 4 (some .int)] { frames := 0, cells := 0, slots := 0, locals := 0 } (va_Pc [.ref (a (29 + i0)), .int x1] (PreC tbW D clV (tyV q) 101 a (ceV a q) h)) (va_Qi Q (AtC D clV 101 a (ceV a q)) (inW a 101)) 0 0 (inW a 101) :=
  m_of (by decide +kernel) hI tb_ok (Nat.le_of_ble_eq_true rfl) (fun p e R s m below meth c X => kb_Re_sendsTo_0 X hi0 hw)
set_option maxHeartbeats 4000000 in
set_option maxRecDepth 100000 in
theorem kb_V_hasRoom_22 {Q : Int32 → RS → Prop} (X : Cx p l R s m args meth c b_V_hasRoom 4 R_V (some .boolean) D clV (tyV q) a 101 1 23 tbW) {K22 : RS → Nat → Int32 → Prop} (hK22 : ∀ (h : RS) (i1 : Nat) (x2 : Int32), i1 < 8 → K22 h i1 x2 → Z p l e R s m args below meth c D clV 101 a (ceV a q) 4 (MQ below (va_Qi Q (AtC D clV 101 a (ceV a q)) (inW a 101)) args s 0 0 (inW a 101)) h 22 [(0, .ref (a 0)), (1, .ref (a (29 + i1))), (2, .int x2)] []) {h : RS} {i1 : Nat} {x2 : Int32} (hi1 : i1 < 8) (hw : bp_V_hasRoom_22 K22 Q h i1 x2) : Z p l e R s m args below meth c D clV 101 a (ceV a q) 4 (MQ below (va_Qi Q (AtC D clV 101 a (ceV a q)) (inW a 101)) args s 0 0 (inW a 101)) h 22 [(0, .ref (a 0)), (1, .ref (a (29 + i1))), (2, .int x2)] [] := by
  unfold bp_V_hasRoom_22 at hw
  refine z_iload_n (pc := 22) X 2 d_V_hasRoom_22 rfl rfl ?_
  refine z_aload_n (pc := 23) X 0 d_V_hasRoom_23 rfl rfl ?_
  refine z_get (i := 0) (pc := 24) X (by decide) (cV_V _) rfl hin_V 1 (by decide) lk2 rfl rfl d_V_hasRoom_24 ?_
  refine z_icmp_ge (tgt := 66) (pc := 27) X d_V_hasRoom_27 (by decide) (fun hc => ?_) (fun hc => ?_)
  · have hw := hw.1 hc
    refine z_iconst (v := (1 : Int32)) (pc := 66) X d_V_hasRoom_66 (by decide) ?_
    exact z_zret (pc := 67) X hw.1 d_V_hasRoom_67 hw.2
  · have hw := hw.2 hc
    refine z_aload_n (pc := 30) X 0 d_V_hasRoom_30 rfl rfl ?_
    refine z_get (i := 0) (pc := 31) X (by decide) (cV_V _) rfl hin_V 0 (by decide) lk3 rfl rfl d_V_hasRoom_31 ?_
    refine z_iload_n (pc := 34) X 2 d_V_hasRoom_34 rfl rfl ?_
    obtain ⟨k1, hk1, ek1, hw⟩ := hw
    refine z_aald (i := 1) (g := fun j => 13 + j) (pc := 35) X 2 (by decide) (cV_Chs _) rfl (by decide) hk1 ek1 d_V_hasRoom_35 ?_
    refine z_getN (i := (13 + k1)) (pc := 36) X (lt_ix hk1 (by decide)) (cV_Ch _ hk1) rfl hin_Ch 2 (by decide) lk73 rfl rfl d_V_hasRoom_36 ?_
    refine z_aload_n (pc := 39) X 1 d_V_hasRoom_39 rfl rfl ?_
    refine z_iload_n (pc := 40) X 2 d_V_hasRoom_40 rfl rfl ?_
    refine z_cVNi (i := (29 + i1)) (pc := 41) X [.int x2] (c_Re_partsOn X.2.2.2.2.2.2.2.2.1 hi1 hw) (by decide) (by decide) lk89 cd_Re_partsOn lk22 lk90 lk91 (lt_ix hi1 (by decide)) (cV_Re _ hi1) rfl nm_Re_partsOn rfl rfl (Nat.le_of_ble_eq_true rfl) d_V_hasRoom_41 (fun r2 h3 hw => ?_)
    refine z_isub (pc := 44) X d_V_hasRoom_44 ?_
    refine z_aload_n (pc := 45) X 1 d_V_hasRoom_45 rfl rfl ?_
    refine z_iload_n (pc := 46) X 2 d_V_hasRoom_46 rfl rfl ?_
    refine z_cVNi (i := (29 + i1)) (pc := 47) X [.int x2] (c_Re_sendsTo X.2.2.2.2.2.2.2.2.1 hi1 hw) (by decide) (by decide) lk92 cd_Re_sendsTo lk22 lk93 lk94 (lt_ix hi1 (by decide)) (cV_Re _ hi1) rfl nm_Re_sendsTo rfl rfl (Nat.le_of_ble_eq_true rfl) d_V_hasRoom_47 (fun r4 h5 hw => ?_)
    refine z_iadd (pc := 50) X d_V_hasRoom_50 ?_
    refine z_istore_n (pc := 51) X d_V_hasRoom_51 rfl (by decide) rfl ?_
    refine z_iload_n (pc := 52) X 0 d_V_hasRoom_52 rfl rfl ?_
    refine z_bipush (v := (6 : Int32)) (pc := 53) X d_V_hasRoom_53 (by decide) ?_
    refine z_icmp_le (tgt := 60) (pc := 55) X d_V_hasRoom_55 (by decide) (fun hc => ?_) (fun hc => ?_)
    · have hw := hw.1 hc
      refine z_iinc (v := (x2 + 1)) (pc := 60) X 3 d_V_hasRoom_60 rfl rfl (by decide) rfl ?_
      refine z_goto (tgt := 22) (pc := 63) X d_V_hasRoom_63 (by decide) ?_
      exact z_to [2, 3, 0] rfl (hK22 _ _ _ hi1 hw)
    · have hw := hw.2 hc
      refine z_iconst (v := (0 : Int32)) (pc := 58) X d_V_hasRoom_58 (by decide) ?_
      exact z_zret (pc := 59) X hw.1 d_V_hasRoom_59 hw.2
theorem kl_V_hasRoom_22 {Q : Int32 → RS → Prop} (X : Cx p l R s m args meth c b_V_hasRoom 4 R_V (some .boolean) D clV (tyV q) a 101 1 23 tbW) : ∀ (n : Nat) (h : RS) (i1 : Nat) (x2 : Int32), i1 < 8 → wp_V_hasRoom_22 Q n h i1 x2 → Z p l e R s m args below meth c D clV 101 a (ceV a q) 4 (MQ below (va_Qi Q (AtC D clV 101 a (ceV a q)) (inW a 101)) args s 0 0 (inW a 101)) h 22 [(0, .ref (a 0)), (1, .ref (a (29 + i1))), (2, .int x2)] [] := by
  intro n
  induction n with
  | zero =>
    intro h i1 x2 hi1 hw
    exact hw.elim
  | succ n ih =>
    intro h i1 x2 hi1 hw
    exact kb_V_hasRoom_22 X ih hi1 hw
set_option maxHeartbeats 4000000 in
set_option maxRecDepth 100000 in
theorem kb_V_hasRoom_0 {Q : Int32 → RS → Prop} (X : Cx p l R s m args meth c b_V_hasRoom 4 R_V (some .boolean) D clV (tyV q) a 101 1 23 tbW) {h : RS} {i1 : Nat} (hi1 : i1 < 8) (hw : bp_V_hasRoom_0 Q h i1) : Z p l e R s m args below meth c D clV 101 a (ceV a q) 4 (MQ below (va_Qi Q (AtC D clV 101 a (ceV a q)) (inW a 101)) args s 0 0 (inW a 101)) h 0 [(0, .ref (a 0)), (1, .ref (a (29 + i1)))] [] := by
  unfold bp_V_hasRoom_0 at hw
  refine z_aload_n (pc := 0) X 0 d_V_hasRoom_0 rfl rfl ?_
  refine z_get (i := 0) (pc := 1) X (by decide) (cV_V _) rfl hin_V 5 (by decide) lk64 rfl rfl d_V_hasRoom_1 ?_
  refine z_getN (i := 3) (pc := 4) X (by decide) (cV_Msgs _) rfl hin_Ms 0 (by decide) lk74 rfl rfl d_V_hasRoom_4 ?_
  refine z_aload_n (pc := 7) X 1 d_V_hasRoom_7 rfl rfl ?_
  refine z_cVNi (i := (29 + i1)) (pc := 8) X [] (c_Re_sendCount X.2.2.2.2.2.2.2.2.1 hi1 hw) (by decide) (by decide) lk95 cd_Re_sendCount lk22 lk96 lk97 (lt_ix hi1 (by decide)) (cV_Re _ hi1) rfl nm_Re_sendCount rfl rfl (Nat.le_of_ble_eq_true rfl) d_V_hasRoom_8 (fun r6 h7 hw => ?_)
  refine z_iadd (pc := 11) X d_V_hasRoom_11 ?_
  refine z_sipush (v := (300 : Int32)) (pc := 12) X d_V_hasRoom_12 (by decide) ?_
  refine z_icmp_le (tgt := 20) (pc := 15) X d_V_hasRoom_15 (by decide) (fun hc => ?_) (fun hc => ?_)
  · have hw := hw.1 hc
    refine z_iconst (v := (0 : Int32)) (pc := 20) X d_V_hasRoom_20 (by decide) ?_
    refine z_istore_n (pc := 21) X d_V_hasRoom_21 rfl (by decide) rfl ?_
    obtain ⟨n8, hw⟩ := hw
    exact z_to [1, 2, 0] rfl (kl_V_hasRoom_22 X n8 _ _ _ hi1 hw)
  · have hw := hw.2 hc
    refine z_iconst (v := (0 : Int32)) (pc := 18) X d_V_hasRoom_18 (by decide) ?_
    exact z_zret (pc := 19) X hw.1 d_V_hasRoom_19 hw.2
theorem c_V_hasRoom {l : Launch} {D : va_G} {a : Nat → Nat} {q : Nat → ClassId} (hI : injW a 101) {h : RS} {i1 : Nat} (hi1 : i1 < 8) {Q : Int32 → RS → Prop} (hw : wp_V_hasRoom h i1 Q) : Met l y_V_hasRoom [.code y_V_hasRoom b_V_hasRoom 4 (some .boolean)] { frames := 1, cells := 0, slots := 0, locals := 23 } (va_Pc [.ref (a 0), .ref (a (29 + i1))] (PreC tbW D clV (tyV q) 101 a (ceV a q) h)) (va_Qi Q (AtC D clV 101 a (ceV a q)) (inW a 101)) 0 0 (inW a 101) :=
  m_of (by decide +kernel) hI tb_ok (Nat.le_of_ble_eq_true rfl) (fun p e R s m below meth c X => kb_V_hasRoom_0 X hi1 hw)
end
end
section
section
variable {p : Program} {l : Launch} {e : Env} {R : Room} {s : State} {m : MethodId} {args : Array Value} {below : List Frame} {meth : Method} {c : Code} {D : va_G} {a : Nat → Nat} {q : Nat → ClassId}
set_option maxHeartbeats 4000000 in
set_option maxRecDepth 100000 in
theorem kb_V_allRise_2 {Q : Int32 → RS → Prop} (X : Cx p l R s m args meth c b_V_allRise 3 R_V (some .boolean) D clV (tyV q) a 101 0 0 tbW) {K2 : RS → Int32 → Int32 → Prop} (hK2 : ∀ (h : RS) (x1 : Int32) (x2 : Int32), K2 h x1 x2 → Z p l e R s m args below meth c D clV 101 a (ceV a q) 3 (MQ below (va_Qi Q (AtC D clV 101 a (ceV a q)) (inW a 101)) args s 0 0 (inW a 101)) h 2 [(0, .ref (a 12)), (1, .int x1), (2, .int x2)] []) {h : RS} {x1 : Int32} {x2 : Int32} (hw : bp_V_allRise_2 K2 Q h x1 x2) : Z p l e R s m args below meth c D clV 101 a (ceV a q) 3 (MQ below (va_Qi Q (AtC D clV 101 a (ceV a q)) (inW a 101)) args s 0 0 (inW a 101)) h 2 [(0, .ref (a 12)), (1, .int x1), (2, .int x2)] [] := by
  unfold bp_V_allRise_2 at hw
  refine z_iload_n (pc := 2) X 2 d_V_allRise_2 rfl rfl ?_
  refine z_iload_n (pc := 3) X 1 d_V_allRise_3 rfl rfl ?_
  refine z_icmp_ge (tgt := 26) (pc := 4) X d_V_allRise_4 (by decide) (fun hc => ?_) (fun hc => ?_)
  · have hw := hw.1 hc
    refine z_iconst (v := (1 : Int32)) (pc := 26) X d_V_allRise_26 (by decide) ?_
    exact z_zret (pc := 27) X hw.1 d_V_allRise_27 hw.2
  · have hw := hw.2 hc
    refine z_aload_n (pc := 7) X 0 d_V_allRise_7 rfl rfl ?_
    refine z_iload_n (pc := 8) X 2 d_V_allRise_8 rfl rfl ?_
    refine z_iconst (v := (1 : Int32)) (pc := 9) X d_V_allRise_9 (by decide) ?_
    refine z_isub (pc := 10) X d_V_allRise_10 ?_
    obtain ⟨k1, hk1, ek1, hw⟩ := hw
    refine z_iald (i := 12) (pc := 11) X 0 (by decide) (cV_tVa _) rfl (by decide) hk1 ek1 d_V_allRise_11 ?_
    refine z_aload_n (pc := 12) X 0 d_V_allRise_12 rfl rfl ?_
    refine z_iload_n (pc := 13) X 2 d_V_allRise_13 rfl rfl ?_
    obtain ⟨k2, hk2, ek2, hw⟩ := hw
    refine z_iald (i := 12) (pc := 14) X 0 (by decide) (cV_tVa _) rfl (by decide) hk2 ek2 d_V_allRise_14 ?_
    refine z_icmp_lt (tgt := 20) (pc := 15) X d_V_allRise_15 (by decide) (fun hc => ?_) (fun hc => ?_)
    · have hw := hw.1 hc
      refine z_iinc (v := (x2 + 1)) (pc := 20) X 2 d_V_allRise_20 rfl rfl (by decide) rfl ?_
      refine z_goto (tgt := 2) (pc := 23) X d_V_allRise_23 (by decide) ?_
      exact z_to [1, 2, 0] rfl (hK2 _ _ _ hw)
    · have hw := hw.2 hc
      refine z_iconst (v := (0 : Int32)) (pc := 18) X d_V_allRise_18 (by decide) ?_
      exact z_zret (pc := 19) X hw.1 d_V_allRise_19 hw.2
theorem kl_V_allRise_2 {Q : Int32 → RS → Prop} (X : Cx p l R s m args meth c b_V_allRise 3 R_V (some .boolean) D clV (tyV q) a 101 0 0 tbW) : ∀ (n : Nat) (h : RS) (x1 : Int32) (x2 : Int32), wp_V_allRise_2 Q n h x1 x2 → Z p l e R s m args below meth c D clV 101 a (ceV a q) 3 (MQ below (va_Qi Q (AtC D clV 101 a (ceV a q)) (inW a 101)) args s 0 0 (inW a 101)) h 2 [(0, .ref (a 12)), (1, .int x1), (2, .int x2)] [] := by
  intro n
  induction n with
  | zero =>
    intro h x1 x2 hw
    exact hw.elim
  | succ n ih =>
    intro h x1 x2 hw
    exact kb_V_allRise_2 X ih hw
set_option maxHeartbeats 4000000 in
set_option maxRecDepth 100000 in
theorem kb_V_allRise_0 {Q : Int32 → RS → Prop} (X : Cx p l R s m args meth c b_V_allRise 3 R_V (some .boolean) D clV (tyV q) a 101 0 0 tbW) {h : RS} {x1 : Int32} (hw : bp_V_allRise_0 Q h x1) : Z p l e R s m args below meth c D clV 101 a (ceV a q) 3 (MQ below (va_Qi Q (AtC D clV 101 a (ceV a q)) (inW a 101)) args s 0 0 (inW a 101)) h 0 [(0, .ref (a 12)), (1, .int x1)] [] := by
  unfold bp_V_allRise_0 at hw
  refine z_iconst (v := (1 : Int32)) (pc := 0) X d_V_allRise_0 (by decide) ?_
  refine z_istore_n (pc := 1) X d_V_allRise_1 rfl (by decide) rfl ?_
  obtain ⟨n3, hw⟩ := hw
  exact z_to [1, 2, 0] rfl (kl_V_allRise_2 X n3 _ _ _ hw)
theorem c_V_allRise {l : Launch} {D : va_G} {a : Nat → Nat} {q : Nat → ClassId} (hI : injW a 101) {h : RS} {x1 : Int32} {Q : Int32 → RS → Prop} (hw : wp_V_allRise h x1 Q) : Met l y_V_allRise [.code y_V_allRise b_V_allRise 3 (some .boolean)] { frames := 0, cells := 0, slots := 0, locals := 0 } (va_Pc [.ref (a 12), .int x1] (PreC tbW D clV (tyV q) 101 a (ceV a q) h)) (va_Qi Q (AtC D clV 101 a (ceV a q)) (inW a 101)) 0 0 (inW a 101) :=
  m_of (by decide +kernel) hI tb_ok (Nat.le_of_ble_eq_true rfl) (fun p e R s m below meth c X => kb_V_allRise_0 X hw)
set_option maxHeartbeats 4000000 in
set_option maxRecDepth 100000 in
theorem kb_V_allEqual_2 {Q : Int32 → RS → Prop} (X : Cx p l R s m args meth c b_V_allEqual 3 R_V (some .boolean) D clV (tyV q) a 101 0 0 tbW) {K2 : RS → Int32 → Int32 → Prop} (hK2 : ∀ (h : RS) (x1 : Int32) (x2 : Int32), K2 h x1 x2 → Z p l e R s m args below meth c D clV 101 a (ceV a q) 3 (MQ below (va_Qi Q (AtC D clV 101 a (ceV a q)) (inW a 101)) args s 0 0 (inW a 101)) h 2 [(0, .ref (a 12)), (1, .int x1), (2, .int x2)] []) {h : RS} {x1 : Int32} {x2 : Int32} (hw : bp_V_allEqual_2 K2 Q h x1 x2) : Z p l e R s m args below meth c D clV 101 a (ceV a q) 3 (MQ below (va_Qi Q (AtC D clV 101 a (ceV a q)) (inW a 101)) args s 0 0 (inW a 101)) h 2 [(0, .ref (a 12)), (1, .int x1), (2, .int x2)] [] := by
  unfold bp_V_allEqual_2 at hw
  refine z_iload_n (pc := 2) X 2 d_V_allEqual_2 rfl rfl ?_
  refine z_iload_n (pc := 3) X 1 d_V_allEqual_3 rfl rfl ?_
  refine z_icmp_ge (tgt := 24) (pc := 4) X d_V_allEqual_4 (by decide) (fun hc => ?_) (fun hc => ?_)
  · have hw := hw.1 hc
    refine z_iconst (v := (1 : Int32)) (pc := 24) X d_V_allEqual_24 (by decide) ?_
    exact z_zret (pc := 25) X hw.1 d_V_allEqual_25 hw.2
  · have hw := hw.2 hc
    refine z_aload_n (pc := 7) X 0 d_V_allEqual_7 rfl rfl ?_
    refine z_iload_n (pc := 8) X 2 d_V_allEqual_8 rfl rfl ?_
    obtain ⟨k1, hk1, ek1, hw⟩ := hw
    refine z_iald (i := 12) (pc := 9) X 0 (by decide) (cV_tVa _) rfl (by decide) hk1 ek1 d_V_allEqual_9 ?_
    refine z_aload_n (pc := 10) X 0 d_V_allEqual_10 rfl rfl ?_
    refine z_iconst (v := (0 : Int32)) (pc := 11) X d_V_allEqual_11 (by decide) ?_
    obtain ⟨k2, hk2, ek2, hw⟩ := hw
    refine z_iald (i := 12) (pc := 12) X 0 (by decide) (cV_tVa _) rfl (by decide) hk2 ek2 d_V_allEqual_12 ?_
    refine z_icmp_eq (tgt := 18) (pc := 13) X d_V_allEqual_13 (by decide) (fun hc => ?_) (fun hc => ?_)
    · have hw := hw.1 hc
      refine z_iinc (v := (x2 + 1)) (pc := 18) X 2 d_V_allEqual_18 rfl rfl (by decide) rfl ?_
      refine z_goto (tgt := 2) (pc := 21) X d_V_allEqual_21 (by decide) ?_
      exact z_to [1, 2, 0] rfl (hK2 _ _ _ hw)
    · have hw := hw.2 hc
      refine z_iconst (v := (0 : Int32)) (pc := 16) X d_V_allEqual_16 (by decide) ?_
      exact z_zret (pc := 17) X hw.1 d_V_allEqual_17 hw.2
theorem kl_V_allEqual_2 {Q : Int32 → RS → Prop} (X : Cx p l R s m args meth c b_V_allEqual 3 R_V (some .boolean) D clV (tyV q) a 101 0 0 tbW) : ∀ (n : Nat) (h : RS) (x1 : Int32) (x2 : Int32), wp_V_allEqual_2 Q n h x1 x2 → Z p l e R s m args below meth c D clV 101 a (ceV a q) 3 (MQ below (va_Qi Q (AtC D clV 101 a (ceV a q)) (inW a 101)) args s 0 0 (inW a 101)) h 2 [(0, .ref (a 12)), (1, .int x1), (2, .int x2)] [] := by
  intro n
  induction n with
  | zero =>
    intro h x1 x2 hw
    exact hw.elim
  | succ n ih =>
    intro h x1 x2 hw
    exact kb_V_allEqual_2 X ih hw
set_option maxHeartbeats 4000000 in
set_option maxRecDepth 100000 in
theorem kb_V_allEqual_0 {Q : Int32 → RS → Prop} (X : Cx p l R s m args meth c b_V_allEqual 3 R_V (some .boolean) D clV (tyV q) a 101 0 0 tbW) {h : RS} {x1 : Int32} (hw : bp_V_allEqual_0 Q h x1) : Z p l e R s m args below meth c D clV 101 a (ceV a q) 3 (MQ below (va_Qi Q (AtC D clV 101 a (ceV a q)) (inW a 101)) args s 0 0 (inW a 101)) h 0 [(0, .ref (a 12)), (1, .int x1)] [] := by
  unfold bp_V_allEqual_0 at hw
  refine z_iconst (v := (1 : Int32)) (pc := 0) X d_V_allEqual_0 (by decide) ?_
  refine z_istore_n (pc := 1) X d_V_allEqual_1 rfl (by decide) rfl ?_
  obtain ⟨n3, hw⟩ := hw
  exact z_to [1, 2, 0] rfl (kl_V_allEqual_2 X n3 _ _ _ hw)
theorem c_V_allEqual {l : Launch} {D : va_G} {a : Nat → Nat} {q : Nat → ClassId} (hI : injW a 101) {h : RS} {x1 : Int32} {Q : Int32 → RS → Prop} (hw : wp_V_allEqual h x1 Q) : Met l y_V_allEqual [.code y_V_allEqual b_V_allEqual 3 (some .boolean)] { frames := 0, cells := 0, slots := 0, locals := 0 } (va_Pc [.ref (a 12), .int x1] (PreC tbW D clV (tyV q) 101 a (ceV a q) h)) (va_Qi Q (AtC D clV 101 a (ceV a q)) (inW a 101)) 0 0 (inW a 101) :=
  m_of (by decide +kernel) hI tb_ok (Nat.le_of_ble_eq_true rfl) (fun p e R s m below meth c X => kb_V_allEqual_0 X hw)
set_option maxHeartbeats 4000000 in
set_option maxRecDepth 100000 in
theorem kb_V_allDiffer_9 {Q : Int32 → RS → Prop} (X : Cx p l R s m args meth c b_V_allDiffer 4 R_V (some .boolean) D clV (tyV q) a 101 0 0 tbW) {K2 : RS → Int32 → Int32 → Prop} (hK2 : ∀ (h : RS) (x1 : Int32) (x2 : Int32), K2 h x1 x2 → Z p l e R s m args below meth c D clV 101 a (ceV a q) 4 (MQ below (va_Qi Q (AtC D clV 101 a (ceV a q)) (inW a 101)) args s 0 0 (inW a 101)) h 2 [(0, .ref (a 12)), (1, .int x1), (2, .int x2)] []) {K9 : RS → Int32 → Int32 → Int32 → Prop} (hK9 : ∀ (h : RS) (x1 : Int32) (x2 : Int32) (x3 : Int32), K9 h x1 x2 x3 → Z p l e R s m args below meth c D clV 101 a (ceV a q) 4 (MQ below (va_Qi Q (AtC D clV 101 a (ceV a q)) (inW a 101)) args s 0 0 (inW a 101)) h 9 [(0, .ref (a 12)), (1, .int x1), (2, .int x2), (3, .int x3)] []) {h : RS} {x1 : Int32} {x2 : Int32} {x3 : Int32} (hw : bp_V_allDiffer_9 K2 K9 Q h x1 x2 x3) : Z p l e R s m args below meth c D clV 101 a (ceV a q) 4 (MQ below (va_Qi Q (AtC D clV 101 a (ceV a q)) (inW a 101)) args s 0 0 (inW a 101)) h 9 [(0, .ref (a 12)), (1, .int x1), (2, .int x2), (3, .int x3)] [] := by
  unfold bp_V_allDiffer_9 at hw
  refine z_iload_n (pc := 9) X 3 d_V_allDiffer_9 rfl rfl ?_
  refine z_iload_n (pc := 10) X 2 d_V_allDiffer_10 rfl rfl ?_
  refine z_icmp_ge (tgt := 31) (pc := 11) X d_V_allDiffer_11 (by decide) (fun hc => ?_) (fun hc => ?_)
  · have hw := hw.1 hc
    refine z_iinc (v := (x2 + 1)) (pc := 31) X 2 d_V_allDiffer_31 rfl rfl (by decide) rfl ?_
    refine z_goto (tgt := 2) (pc := 34) X d_V_allDiffer_34 (by decide) ?_
    exact z_to [1, 2, 0] rfl (hK2 _ _ _ hw)
  · have hw := hw.2 hc
    refine z_aload_n (pc := 14) X 0 d_V_allDiffer_14 rfl rfl ?_
    refine z_iload_n (pc := 15) X 2 d_V_allDiffer_15 rfl rfl ?_
    obtain ⟨k1, hk1, ek1, hw⟩ := hw
    refine z_iald (i := 12) (pc := 16) X 0 (by decide) (cV_tVa _) rfl (by decide) hk1 ek1 d_V_allDiffer_16 ?_
    refine z_aload_n (pc := 17) X 0 d_V_allDiffer_17 rfl rfl ?_
    refine z_iload_n (pc := 18) X 3 d_V_allDiffer_18 rfl rfl ?_
    obtain ⟨k2, hk2, ek2, hw⟩ := hw
    refine z_iald (i := 12) (pc := 19) X 0 (by decide) (cV_tVa _) rfl (by decide) hk2 ek2 d_V_allDiffer_19 ?_
    refine z_icmp_ne (tgt := 25) (pc := 20) X d_V_allDiffer_20 (by decide) (fun hc => ?_) (fun hc => ?_)
    · have hw := hw.1 hc
      refine z_iinc (v := (x3 + 1)) (pc := 25) X 3 d_V_allDiffer_25 rfl rfl (by decide) rfl ?_
      refine z_goto (tgt := 9) (pc := 28) X d_V_allDiffer_28 (by decide) ?_
      exact z_to [1, 2, 3, 0] rfl (hK9 _ _ _ _ hw)
    · have hw := hw.2 hc
      refine z_iconst (v := (0 : Int32)) (pc := 23) X d_V_allDiffer_23 (by decide) ?_
      exact z_zret (pc := 24) X hw.1 d_V_allDiffer_24 hw.2
theorem kl_V_allDiffer_9 {Q : Int32 → RS → Prop} (X : Cx p l R s m args meth c b_V_allDiffer 4 R_V (some .boolean) D clV (tyV q) a 101 0 0 tbW) {K2 : RS → Int32 → Int32 → Prop} (hK2 : ∀ (h : RS) (x1 : Int32) (x2 : Int32), K2 h x1 x2 → Z p l e R s m args below meth c D clV 101 a (ceV a q) 4 (MQ below (va_Qi Q (AtC D clV 101 a (ceV a q)) (inW a 101)) args s 0 0 (inW a 101)) h 2 [(0, .ref (a 12)), (1, .int x1), (2, .int x2)] []) : ∀ (n : Nat) (h : RS) (x1 : Int32) (x2 : Int32) (x3 : Int32), wp_V_allDiffer_9 K2 Q n h x1 x2 x3 → Z p l e R s m args below meth c D clV 101 a (ceV a q) 4 (MQ below (va_Qi Q (AtC D clV 101 a (ceV a q)) (inW a 101)) args s 0 0 (inW a 101)) h 9 [(0, .ref (a 12)), (1, .int x1), (2, .int x2), (3, .int x3)] [] := by
  intro n
  induction n with
  | zero =>
    intro h x1 x2 x3 hw
    exact hw.elim
  | succ n ih =>
    intro h x1 x2 x3 hw
    exact kb_V_allDiffer_9 X hK2 ih hw
set_option maxHeartbeats 4000000 in
set_option maxRecDepth 100000 in
theorem kb_V_allDiffer_2 {Q : Int32 → RS → Prop} (X : Cx p l R s m args meth c b_V_allDiffer 4 R_V (some .boolean) D clV (tyV q) a 101 0 0 tbW) {K2 : RS → Int32 → Int32 → Prop} (hK2 : ∀ (h : RS) (x1 : Int32) (x2 : Int32), K2 h x1 x2 → Z p l e R s m args below meth c D clV 101 a (ceV a q) 4 (MQ below (va_Qi Q (AtC D clV 101 a (ceV a q)) (inW a 101)) args s 0 0 (inW a 101)) h 2 [(0, .ref (a 12)), (1, .int x1), (2, .int x2)] []) {h : RS} {x1 : Int32} {x2 : Int32} (hw : bp_V_allDiffer_2 K2 Q h x1 x2) : Z p l e R s m args below meth c D clV 101 a (ceV a q) 4 (MQ below (va_Qi Q (AtC D clV 101 a (ceV a q)) (inW a 101)) args s 0 0 (inW a 101)) h 2 [(0, .ref (a 12)), (1, .int x1), (2, .int x2)] [] := by
  unfold bp_V_allDiffer_2 at hw
  refine z_iload_n (pc := 2) X 2 d_V_allDiffer_2 rfl rfl ?_
  refine z_iload_n (pc := 3) X 1 d_V_allDiffer_3 rfl rfl ?_
  refine z_icmp_ge (tgt := 37) (pc := 4) X d_V_allDiffer_4 (by decide) (fun hc => ?_) (fun hc => ?_)
  · have hw := hw.1 hc
    refine z_iconst (v := (1 : Int32)) (pc := 37) X d_V_allDiffer_37 (by decide) ?_
    exact z_zret (pc := 38) X hw.1 d_V_allDiffer_38 hw.2
  · have hw := hw.2 hc
    refine z_iconst (v := (0 : Int32)) (pc := 7) X d_V_allDiffer_7 (by decide) ?_
    refine z_istore_n (pc := 8) X d_V_allDiffer_8 rfl (by decide) rfl ?_
    obtain ⟨n3, hw⟩ := hw
    exact z_to [1, 2, 3, 0] rfl (kl_V_allDiffer_9 X hK2 n3 _ _ _ _ hw)
theorem kl_V_allDiffer_2 {Q : Int32 → RS → Prop} (X : Cx p l R s m args meth c b_V_allDiffer 4 R_V (some .boolean) D clV (tyV q) a 101 0 0 tbW) : ∀ (n : Nat) (h : RS) (x1 : Int32) (x2 : Int32), wp_V_allDiffer_2 Q n h x1 x2 → Z p l e R s m args below meth c D clV 101 a (ceV a q) 4 (MQ below (va_Qi Q (AtC D clV 101 a (ceV a q)) (inW a 101)) args s 0 0 (inW a 101)) h 2 [(0, .ref (a 12)), (1, .int x1), (2, .int x2)] [] := by
  intro n
  induction n with
  | zero =>
    intro h x1 x2 hw
    exact hw.elim
  | succ n ih =>
    intro h x1 x2 hw
    exact kb_V_allDiffer_2 X ih hw
set_option maxHeartbeats 4000000 in
set_option maxRecDepth 100000 in
theorem kb_V_allDiffer_0 {Q : Int32 → RS → Prop} (X : Cx p l R s m args meth c b_V_allDiffer 4 R_V (some .boolean) D clV (tyV q) a 101 0 0 tbW) {h : RS} {x1 : Int32} (hw : bp_V_allDiffer_0 Q h x1) : Z p l e R s m args below meth c D clV 101 a (ceV a q) 4 (MQ below (va_Qi Q (AtC D clV 101 a (ceV a q)) (inW a 101)) args s 0 0 (inW a 101)) h 0 [(0, .ref (a 12)), (1, .int x1)] [] := by
  unfold bp_V_allDiffer_0 at hw
  refine z_iconst (v := (1 : Int32)) (pc := 0) X d_V_allDiffer_0 (by decide) ?_
  refine z_istore_n (pc := 1) X d_V_allDiffer_1 rfl (by decide) rfl ?_
  obtain ⟨n4, hw⟩ := hw
  exact z_to [1, 2, 0] rfl (kl_V_allDiffer_2 X n4 _ _ _ hw)
theorem c_V_allDiffer {l : Launch} {D : va_G} {a : Nat → Nat} {q : Nat → ClassId} (hI : injW a 101) {h : RS} {x1 : Int32} {Q : Int32 → RS → Prop} (hw : wp_V_allDiffer h x1 Q) : Met l y_V_allDiffer [.code y_V_allDiffer b_V_allDiffer 4 (some .boolean)] { frames := 0, cells := 0, slots := 0, locals := 0 } (va_Pc [.ref (a 12), .int x1] (PreC tbW D clV (tyV q) 101 a (ceV a q) h)) (va_Qi Q (AtC D clV 101 a (ceV a q)) (inW a 101)) 0 0 (inW a 101) :=
  m_of (by decide +kernel) hI tb_ok (Nat.le_of_ble_eq_true rfl) (fun p e R s m below meth c X => kb_V_allDiffer_0 X hw)
set_option maxHeartbeats 4000000 in
set_option maxRecDepth 100000 in
theorem kb_V_sum_5 {Q : Int64 → RS → Prop} (X : Cx p l R s m args meth c b_V_sum 5 R_V (some .long) D clV (tyV q) a 101 0 0 tbW) {K5 : RS → Int32 → Int64 → Int32 → Prop} (hK5 : ∀ (h : RS) (x1 : Int32) (x2 : Int64) (x4 : Int32), K5 h x1 x2 x4 → Z p l e R s m args below meth c D clV 101 a (ceV a q) 5 (MQ below (va_Ql Q (AtC D clV 101 a (ceV a q)) (inW a 101)) args s 0 0 (inW a 101)) h 5 [(0, .ref (a 12)), (1, .int x1), (2, .long x2), (4, .int x4)] []) {h : RS} {x1 : Int32} {x2 : Int64} {x4 : Int32} (hw : bp_V_sum_5 K5 Q h x1 x2 x4) : Z p l e R s m args below meth c D clV 101 a (ceV a q) 5 (MQ below (va_Ql Q (AtC D clV 101 a (ceV a q)) (inW a 101)) args s 0 0 (inW a 101)) h 5 [(0, .ref (a 12)), (1, .int x1), (2, .long x2), (4, .int x4)] [] := by
  unfold bp_V_sum_5 at hw
  refine z_iload (pc := 5) X 3 d_V_sum_5 rfl ?_
  refine z_iload_n (pc := 7) X 1 d_V_sum_7 rfl rfl ?_
  refine z_icmp_ge (tgt := 25) (pc := 8) X d_V_sum_8 (by decide) (fun hc => ?_) (fun hc => ?_)
  · have hw := hw.1 hc
    refine z_lload_n (pc := 25) X 2 d_V_sum_25 rfl rfl ?_
    exact z_lret (pc := 26) X d_V_sum_26 hw
  · have hw := hw.2 hc
    refine z_lload_n (pc := 11) X 2 d_V_sum_11 rfl rfl ?_
    refine z_aload_n (pc := 12) X 0 d_V_sum_12 rfl rfl ?_
    refine z_iload (pc := 13) X 3 d_V_sum_13 rfl ?_
    obtain ⟨k1, hk1, ek1, hw⟩ := hw
    refine z_iald (i := 12) (pc := 15) X 0 (by decide) (cV_tVa _) rfl (by decide) hk1 ek1 d_V_sum_15 ?_
    refine z_i2l (pc := 16) X d_V_sum_16 ?_
    refine z_ladd (pc := 17) X d_V_sum_17 ?_
    refine z_lstore_n (pc := 18) X d_V_sum_18 rfl (by decide) rfl ?_
    refine z_iinc (v := (x4 + 1)) (pc := 19) X 3 d_V_sum_19 rfl rfl (by decide) rfl ?_
    refine z_goto (tgt := 5) (pc := 22) X d_V_sum_22 (by decide) ?_
    exact z_to [2, 3, 1, 0] rfl (hK5 _ _ _ _ hw)
theorem kl_V_sum_5 {Q : Int64 → RS → Prop} (X : Cx p l R s m args meth c b_V_sum 5 R_V (some .long) D clV (tyV q) a 101 0 0 tbW) : ∀ (n : Nat) (h : RS) (x1 : Int32) (x2 : Int64) (x4 : Int32), wp_V_sum_5 Q n h x1 x2 x4 → Z p l e R s m args below meth c D clV 101 a (ceV a q) 5 (MQ below (va_Ql Q (AtC D clV 101 a (ceV a q)) (inW a 101)) args s 0 0 (inW a 101)) h 5 [(0, .ref (a 12)), (1, .int x1), (2, .long x2), (4, .int x4)] [] := by
  intro n
  induction n with
  | zero =>
    intro h x1 x2 x4 hw
    exact hw.elim
  | succ n ih =>
    intro h x1 x2 x4 hw
    exact kb_V_sum_5 X ih hw
set_option maxHeartbeats 4000000 in
set_option maxRecDepth 100000 in
theorem kb_V_sum_0 {Q : Int64 → RS → Prop} (X : Cx p l R s m args meth c b_V_sum 5 R_V (some .long) D clV (tyV q) a 101 0 0 tbW) {h : RS} {x1 : Int32} (hw : bp_V_sum_0 Q h x1) : Z p l e R s m args below meth c D clV 101 a (ceV a q) 5 (MQ below (va_Ql Q (AtC D clV 101 a (ceV a q)) (inW a 101)) args s 0 0 (inW a 101)) h 0 [(0, .ref (a 12)), (1, .int x1)] [] := by
  unfold bp_V_sum_0 at hw
  refine z_lconst (v := (0 : Int64)) (pc := 0) X d_V_sum_0 (by decide) ?_
  refine z_lstore_n (pc := 1) X d_V_sum_1 rfl (by decide) rfl ?_
  refine z_iconst (v := (0 : Int32)) (pc := 2) X d_V_sum_2 (by decide) ?_
  refine z_istore (pc := 3) X d_V_sum_3 (by decide) rfl ?_
  obtain ⟨n2, hw⟩ := hw
  exact z_to [2, 3, 1, 0] rfl (kl_V_sum_5 X n2 _ _ _ _ hw)
theorem c_V_sum {l : Launch} {D : va_G} {a : Nat → Nat} {q : Nat → ClassId} (hI : injW a 101) {h : RS} {x1 : Int32} {Q : Int64 → RS → Prop} (hw : wp_V_sum h x1 Q) : Met l y_V_sum [.code y_V_sum b_V_sum 5 (some .long)] { frames := 0, cells := 0, slots := 0, locals := 0 } (va_Pc [.ref (a 12), .int x1] (PreC tbW D clV (tyV q) 101 a (ceV a q) h)) (va_Ql Q (AtC D clV 101 a (ceV a q)) (inW a 101)) 0 0 (inW a 101) :=
  m_of (by decide +kernel) hI tb_ok (Nat.le_of_ble_eq_true rfl) (fun p e R s m below meth c X => kb_V_sum_0 X hw)
set_option maxHeartbeats 4000000 in
set_option maxRecDepth 100000 in
theorem kb_Re_guardHolds_0 {Q : Int32 → RS → Prop} (X : Cx p l R s m args meth c b_Re_guardHolds 2 R_Re (some .boolean) D clV (tyV q) a 101 1 24 tbW) {h : RS} {i0 : Nat} (hi0 : i0 < 8) (hw : bp_Re_guardHolds_0 Q h i0) : Z p l e R s m args below meth c D clV 101 a (ceV a q) 2 (MQ below (va_Qi Q (AtC D clV 101 a (ceV a q)) (inW a 101)) args s 0 0 (inW a 101)) h 0 [(0, .ref (a (29 + i0))), (1, .ref (a 12))] [] := by
  unfold bp_Re_guardHolds_0 at hw
  refine z_aload_n (pc := 0) X 0 d_Re_guardHolds_0 rfl rfl ?_
  refine z_get (i := (29 + i0)) (pc := 1) X (lt_ix hi0 (by decide)) (cV_Re _ hi0) rfl hin_Re 4 (by decide) lk98 rfl rfl d_Re_guardHolds_1 ?_
  refine z_sw (k := 1) (fun ek => ?_) (fun ek1 => ?_)
  · have hw := hw.1 ek
    refine z_tableIn (tgt := 40) (pc := 4) X d_Re_guardHolds_4 (by rw [ek]; decide) (by rw [ek]; decide) (by rw [ek]; rfl) (by decide) ?_
    refine z_aload_n (pc := 40) X 1 d_Re_guardHolds_40 rfl rfl ?_
    refine z_aload_n (pc := 41) X 0 d_Re_guardHolds_41 rfl rfl ?_
    refine z_get (i := (29 + i0)) (pc := 42) X (lt_ix hi0 (by decide)) (cV_Re _ hi0) rfl hin_Re 0 (by decide) lk6 rfl rfl d_Re_guardHolds_42 ?_
    refine z_cSNi (pc := 45) X [.ref (a 12), .int (h (29 + i0) 0)] (c_V_allRise X.2.2.2.2.2.2.2.2.1 hw) (by decide) (by decide) lk99 cd_V_allRise lk11 lk100 nm_V_allRise rfl rfl (Nat.le_of_ble_eq_true rfl) d_Re_guardHolds_45 (fun r1 h2 hw => ?_)
    exact z_zret (pc := 48) X hw.1 d_Re_guardHolds_48 hw.2
  have hw := hw.2
  refine z_sw (k := 2) (fun ek => ?_) (fun ek2 => ?_)
  · have hw := hw.1 ek
    refine z_tableIn (tgt := 49) (pc := 4) X d_Re_guardHolds_4 (by rw [ek]; decide) (by rw [ek]; decide) (by rw [ek]; rfl) (by decide) ?_
    refine z_aload_n (pc := 49) X 1 d_Re_guardHolds_49 rfl rfl ?_
    refine z_aload_n (pc := 50) X 0 d_Re_guardHolds_50 rfl rfl ?_
    refine z_get (i := (29 + i0)) (pc := 51) X (lt_ix hi0 (by decide)) (cV_Re _ hi0) rfl hin_Re 0 (by decide) lk6 rfl rfl d_Re_guardHolds_51 ?_
    refine z_cSNi (pc := 54) X [.ref (a 12), .int (h (29 + i0) 0)] (c_V_allEqual X.2.2.2.2.2.2.2.2.1 hw) (by decide) (by decide) lk101 cd_V_allEqual lk11 lk102 nm_V_allEqual rfl rfl (Nat.le_of_ble_eq_true rfl) d_Re_guardHolds_54 (fun r3 h4 hw => ?_)
    exact z_zret (pc := 57) X hw.1 d_Re_guardHolds_57 hw.2
  have hw := hw.2
  refine z_sw (k := 3) (fun ek => ?_) (fun ek3 => ?_)
  · have hw := hw.1 ek
    refine z_tableIn (tgt := 58) (pc := 4) X d_Re_guardHolds_4 (by rw [ek]; decide) (by rw [ek]; decide) (by rw [ek]; rfl) (by decide) ?_
    refine z_aload_n (pc := 58) X 1 d_Re_guardHolds_58 rfl rfl ?_
    refine z_aload_n (pc := 59) X 0 d_Re_guardHolds_59 rfl rfl ?_
    refine z_get (i := (29 + i0)) (pc := 60) X (lt_ix hi0 (by decide)) (cV_Re _ hi0) rfl hin_Re 0 (by decide) lk6 rfl rfl d_Re_guardHolds_60 ?_
    refine z_cSNi (pc := 63) X [.ref (a 12), .int (h (29 + i0) 0)] (c_V_allDiffer X.2.2.2.2.2.2.2.2.1 hw) (by decide) (by decide) lk103 cd_V_allDiffer lk11 lk104 nm_V_allDiffer rfl rfl (Nat.le_of_ble_eq_true rfl) d_Re_guardHolds_63 (fun r5 h6 hw => ?_)
    exact z_zret (pc := 66) X hw.1 d_Re_guardHolds_66 hw.2
  have hw := hw.2
  refine z_sw (k := 4) (fun ek => ?_) (fun ek4 => ?_)
  · have hw := hw.1 ek
    refine z_tableIn (tgt := 67) (pc := 4) X d_Re_guardHolds_4 (by rw [ek]; decide) (by rw [ek]; decide) (by rw [ek]; rfl) (by decide) ?_
    refine z_aload_n (pc := 67) X 1 d_Re_guardHolds_67 rfl rfl ?_
    refine z_aload_n (pc := 68) X 0 d_Re_guardHolds_68 rfl rfl ?_
    refine z_get (i := (29 + i0)) (pc := 69) X (lt_ix hi0 (by decide)) (cV_Re _ hi0) rfl hin_Re 0 (by decide) lk6 rfl rfl d_Re_guardHolds_69 ?_
    refine z_cSNl (pc := 72) X [.ref (a 12), .int (h (29 + i0) 0)] (c_V_sum X.2.2.2.2.2.2.2.2.1 hw) (by decide) (by decide) lk105 cd_V_sum lk11 lk106 nm_V_sum rfl rfl (Nat.le_of_ble_eq_true rfl) d_Re_guardHolds_72 (fun r7 h8 hw => ?_)
    refine z_aload_n (pc := 75) X 0 d_Re_guardHolds_75 rfl rfl ?_
    refine z_get (i := (29 + i0)) (pc := 76) X (lt_ix hi0 (by decide)) (cV_Re _ hi0) rfl hin_Re 5 (by decide) lk107 rfl rfl d_Re_guardHolds_76 ?_
    refine z_i2l (pc := 79) X d_Re_guardHolds_79 ?_
    refine z_lcmp (pc := 80) X d_Re_guardHolds_80 ?_
    refine z_if_gt (tgt := 88) (pc := 81) X d_Re_guardHolds_81 (by decide) (fun hc => ?_) (fun hc => ?_)
    · have hw := hw.1 hc
      refine z_iconst (v := (0 : Int32)) (pc := 88) X d_Re_guardHolds_88 (by decide) ?_
      exact z_zret (pc := 89) X hw.1 d_Re_guardHolds_89 hw.2
    · have hw := hw.2 hc
      refine z_iconst (v := (1 : Int32)) (pc := 84) X d_Re_guardHolds_84 (by decide) ?_
      refine z_goto (tgt := 89) (pc := 85) X d_Re_guardHolds_85 (by decide) ?_
      exact z_zret (pc := 89) X hw.1 d_Re_guardHolds_89 hw.2
  have hw := hw.2
  refine z_sw (k := 5) (fun ek => ?_) (fun ek5 => ?_)
  · have hw := hw.1 ek
    refine z_tableIn (tgt := 90) (pc := 4) X d_Re_guardHolds_4 (by rw [ek]; decide) (by rw [ek]; decide) (by rw [ek]; rfl) (by decide) ?_
    refine z_aload_n (pc := 90) X 0 d_Re_guardHolds_90 rfl rfl ?_
    refine z_get (i := (29 + i0)) (pc := 91) X (lt_ix hi0 (by decide)) (cV_Re _ hi0) rfl hin_Re 5 (by decide) lk107 rfl rfl d_Re_guardHolds_91 ?_
    refine z_if_eq (tgt := 120) (pc := 94) X d_Re_guardHolds_94 (by decide) (fun hc => ?_) (fun hc => ?_)
    · have hw := hw.1 hc
      refine z_iconst (v := (0 : Int32)) (pc := 120) X d_Re_guardHolds_120 (by decide) ?_
      exact z_zret (pc := 121) X hw.1 d_Re_guardHolds_121 hw.2
    · have hw := hw.2 hc
      refine z_aload_n (pc := 97) X 1 d_Re_guardHolds_97 rfl rfl ?_
      refine z_aload_n (pc := 98) X 0 d_Re_guardHolds_98 rfl rfl ?_
      refine z_get (i := (29 + i0)) (pc := 99) X (lt_ix hi0 (by decide)) (cV_Re _ hi0) rfl hin_Re 0 (by decide) lk6 rfl rfl d_Re_guardHolds_99 ?_
      refine z_cSNl (pc := 102) X [.ref (a 12), .int (h (29 + i0) 0)] (c_V_sum X.2.2.2.2.2.2.2.2.1 hw) (by decide) (by decide) lk105 cd_V_sum lk11 lk106 nm_V_sum rfl rfl (Nat.le_of_ble_eq_true rfl) d_Re_guardHolds_102 (fun r9 h10 hw => ?_)
      refine z_aload_n (pc := 105) X 0 d_Re_guardHolds_105 rfl rfl ?_
      refine z_get (i := (29 + i0)) (pc := 106) X (lt_ix hi0 (by decide)) (cV_Re _ hi0) rfl hin_Re 5 (by decide) lk107 rfl rfl d_Re_guardHolds_106 ?_
      refine z_i2l (pc := 109) X d_Re_guardHolds_109 ?_
      obtain ⟨hne, hw⟩ := hw
      refine z_lrem (pc := 110) X d_Re_guardHolds_110 hne ?_
      refine z_lconst (v := (0 : Int64)) (pc := 111) X d_Re_guardHolds_111 (by decide) ?_
      refine z_lcmp (pc := 112) X d_Re_guardHolds_112 ?_
      refine z_if_ne (tgt := 120) (pc := 113) X d_Re_guardHolds_113 (by decide) (fun hc => ?_) (fun hc => ?_)
      · have hw := hw.1 hc
        refine z_iconst (v := (0 : Int32)) (pc := 120) X d_Re_guardHolds_120 (by decide) ?_
        exact z_zret (pc := 121) X hw.1 d_Re_guardHolds_121 hw.2
      · have hw := hw.2 hc
        refine z_iconst (v := (1 : Int32)) (pc := 116) X d_Re_guardHolds_116 (by decide) ?_
        refine z_goto (tgt := 121) (pc := 117) X d_Re_guardHolds_117 (by decide) ?_
        exact z_zret (pc := 121) X hw.1 d_Re_guardHolds_121 hw.2
  have hw := hw.2
  have hw := hw ek1 ek2 ek3 ek4 ek5
  refine z_tableOut (tgt := 122) (pc := 4) X d_Re_guardHolds_4 (sw_1_5 ek1 ek2 ek3 ek4 ek5) (by decide) ?_
  refine z_iconst (v := (1 : Int32)) (pc := 122) X d_Re_guardHolds_122 (by decide) ?_
  exact z_zret (pc := 123) X hw.1 d_Re_guardHolds_123 hw.2
theorem c_Re_guardHolds {l : Launch} {D : va_G} {a : Nat → Nat} {q : Nat → ClassId} (hI : injW a 101) {h : RS} {i0 : Nat} (hi0 : i0 < 8) {Q : Int32 → RS → Prop} (hw : wp_Re_guardHolds h i0 Q) : Met l y_Re_guardHolds [.code y_Re_guardHolds b_Re_guardHolds 2 (some .boolean)] { frames := 1, cells := 0, slots := 0, locals := 24 } (va_Pc [.ref (a (29 + i0)), .ref (a 12)] (PreC tbW D clV (tyV q) 101 a (ceV a q) h)) (va_Qi Q (AtC D clV 101 a (ceV a q)) (inW a 101)) 0 0 (inW a 101) :=
  m_of (by decide +kernel) hI tb_ok (Nat.le_of_ble_eq_true rfl) (fun p e R s m below meth c X => kb_Re_guardHolds_0 X hi0 hw)
set_option maxHeartbeats 4000000 in
set_option maxRecDepth 100000 in
theorem kb_Re_passesTest_0 {Q : Int32 → RS → Prop} (X : Cx p l R s m args meth c b_Re_passesTest 4 R_Re (some .boolean) D clV (tyV q) a 101 0 0 tbW) {h : RS} {i0 : Nat} {x1 : Int32} {x2 : Int32} (hi0 : i0 < 8) (hw : bp_Re_passesTest_0 Q h i0 x1 x2) : Z p l e R s m args below meth c D clV 101 a (ceV a q) 4 (MQ below (va_Qi Q (AtC D clV 101 a (ceV a q)) (inW a 101)) args s 0 0 (inW a 101)) h 0 [(0, .ref (a (29 + i0))), (1, .int x1), (2, .int x2)] [] := by
  unfold bp_Re_passesTest_0 at hw
  refine z_aload_n (pc := 0) X 0 d_Re_passesTest_0 rfl rfl ?_
  refine z_get (i := (29 + i0)) (pc := 1) X (lt_ix hi0 (by decide)) (cV_Re _ hi0) rfl hin_Re 3 (by decide) lk9 rfl rfl d_Re_passesTest_1 ?_
  refine z_iload_n (pc := 4) X 1 d_Re_passesTest_4 rfl rfl ?_
  obtain ⟨k1, hk1, ek1, hw⟩ := hw
  refine z_iald (i := (53 + i0)) (pc := 5) X 0 (lt_ix hi0 (by decide)) (cV_pN _ hi0) rfl (by decide) hk1 ek1 d_Re_passesTest_5 ?_
  refine z_istore_n (pc := 6) X d_Re_passesTest_6 rfl (by decide) rfl ?_
  refine z_aload_n (pc := 7) X 1 d_Re_passesTest_7 rfl rfl ?_
  refine z_get (i := (29 + i0)) (pc := 8) X (lt_ix hi0 (by decide)) (cV_Re _ hi0) rfl hin_Re 2 (by decide) lk8 rfl rfl d_Re_passesTest_8 ?_
  refine z_iload_n (pc := 11) X 2 d_Re_passesTest_11 rfl rfl ?_
  obtain ⟨k2, hk2, ek2, hw⟩ := hw
  refine z_iald (i := (45 + i0)) (pc := 12) X 0 (lt_ix hi0 (by decide)) (cV_pT _ hi0) rfl (by decide) hk2 ek2 d_Re_passesTest_12 ?_
  refine z_sw (k := 1) (fun ek => ?_) (fun ek1 => ?_)
  · have hw := hw.1 ek
    refine z_tableIn (tgt := 44) (pc := 13) X d_Re_passesTest_13 (by rw [ek]; decide) (by rw [ek]; decide) (by rw [ek]; rfl) (by decide) ?_
    refine z_iload_n (pc := 44) X 3 d_Re_passesTest_44 rfl rfl ?_
    refine z_iload_n (pc := 45) X 0 d_Re_passesTest_45 rfl rfl ?_
    refine z_icmp_ne (tgt := 53) (pc := 46) X d_Re_passesTest_46 (by decide) (fun hc => ?_) (fun hc => ?_)
    · have hw := hw.1 hc
      refine z_iconst (v := (0 : Int32)) (pc := 53) X d_Re_passesTest_53 (by decide) ?_
      exact z_zret (pc := 54) X hw.1 d_Re_passesTest_54 hw.2
    · have hw := hw.2 hc
      refine z_iconst (v := (1 : Int32)) (pc := 49) X d_Re_passesTest_49 (by decide) ?_
      refine z_goto (tgt := 54) (pc := 50) X d_Re_passesTest_50 (by decide) ?_
      exact z_zret (pc := 54) X hw.1 d_Re_passesTest_54 hw.2
  have hw := hw.2
  refine z_sw (k := 2) (fun ek => ?_) (fun ek2 => ?_)
  · have hw := hw.1 ek
    refine z_tableIn (tgt := 55) (pc := 13) X d_Re_passesTest_13 (by rw [ek]; decide) (by rw [ek]; decide) (by rw [ek]; rfl) (by decide) ?_
    refine z_iload_n (pc := 55) X 3 d_Re_passesTest_55 rfl rfl ?_
    refine z_iload_n (pc := 56) X 0 d_Re_passesTest_56 rfl rfl ?_
    refine z_icmp_ge (tgt := 64) (pc := 57) X d_Re_passesTest_57 (by decide) (fun hc => ?_) (fun hc => ?_)
    · have hw := hw.1 hc
      refine z_iconst (v := (0 : Int32)) (pc := 64) X d_Re_passesTest_64 (by decide) ?_
      exact z_zret (pc := 65) X hw.1 d_Re_passesTest_65 hw.2
    · have hw := hw.2 hc
      refine z_iconst (v := (1 : Int32)) (pc := 60) X d_Re_passesTest_60 (by decide) ?_
      refine z_goto (tgt := 65) (pc := 61) X d_Re_passesTest_61 (by decide) ?_
      exact z_zret (pc := 65) X hw.1 d_Re_passesTest_65 hw.2
  have hw := hw.2
  refine z_sw (k := 3) (fun ek => ?_) (fun ek3 => ?_)
  · have hw := hw.1 ek
    refine z_tableIn (tgt := 66) (pc := 13) X d_Re_passesTest_13 (by rw [ek]; decide) (by rw [ek]; decide) (by rw [ek]; rfl) (by decide) ?_
    refine z_iload_n (pc := 66) X 3 d_Re_passesTest_66 rfl rfl ?_
    refine z_iload_n (pc := 67) X 0 d_Re_passesTest_67 rfl rfl ?_
    refine z_icmp_lt (tgt := 75) (pc := 68) X d_Re_passesTest_68 (by decide) (fun hc => ?_) (fun hc => ?_)
    · have hw := hw.1 hc
      refine z_iconst (v := (0 : Int32)) (pc := 75) X d_Re_passesTest_75 (by decide) ?_
      exact z_zret (pc := 76) X hw.1 d_Re_passesTest_76 hw.2
    · have hw := hw.2 hc
      refine z_iconst (v := (1 : Int32)) (pc := 71) X d_Re_passesTest_71 (by decide) ?_
      refine z_goto (tgt := 76) (pc := 72) X d_Re_passesTest_72 (by decide) ?_
      exact z_zret (pc := 76) X hw.1 d_Re_passesTest_76 hw.2
  have hw := hw.2
  refine z_sw (k := 4) (fun ek => ?_) (fun ek4 => ?_)
  · have hw := hw.1 ek
    refine z_tableIn (tgt := 77) (pc := 13) X d_Re_passesTest_13 (by rw [ek]; decide) (by rw [ek]; decide) (by rw [ek]; rfl) (by decide) ?_
    refine z_iload_n (pc := 77) X 3 d_Re_passesTest_77 rfl rfl ?_
    refine z_iload_n (pc := 78) X 0 d_Re_passesTest_78 rfl rfl ?_
    refine z_iand (pc := 79) X d_Re_passesTest_79 ?_
    refine z_if_eq (tgt := 87) (pc := 80) X d_Re_passesTest_80 (by decide) (fun hc => ?_) (fun hc => ?_)
    · have hw := hw.1 hc
      refine z_iconst (v := (0 : Int32)) (pc := 87) X d_Re_passesTest_87 (by decide) ?_
      exact z_zret (pc := 88) X hw.1 d_Re_passesTest_88 hw.2
    · have hw := hw.2 hc
      refine z_iconst (v := (1 : Int32)) (pc := 83) X d_Re_passesTest_83 (by decide) ?_
      refine z_goto (tgt := 88) (pc := 84) X d_Re_passesTest_84 (by decide) ?_
      exact z_zret (pc := 88) X hw.1 d_Re_passesTest_88 hw.2
  have hw := hw.2
  have hw := hw ek1 ek2 ek3 ek4
  refine z_tableOut (tgt := 89) (pc := 13) X d_Re_passesTest_13 (sw_1_4 ek1 ek2 ek3 ek4) (by decide) ?_
  refine z_iconst (v := (1 : Int32)) (pc := 89) X d_Re_passesTest_89 (by decide) ?_
  exact z_zret (pc := 90) X hw.1 d_Re_passesTest_90 hw.2
theorem c_Re_passesTest {l : Launch} {D : va_G} {a : Nat → Nat} {q : Nat → ClassId} (hI : injW a 101) {h : RS} {i0 : Nat} {x1 : Int32} {x2 : Int32} (hi0 : i0 < 8) {Q : Int32 → RS → Prop} (hw : wp_Re_passesTest h i0 x1 x2 Q) : Met l y_Re_passesTest [.code y_Re_passesTest b_Re_passesTest 4 (some .boolean)] { frames := 0, cells := 0, slots := 0, locals := 0 } (va_Pc [.ref (a (29 + i0)), .int x1, .int x2] (PreC tbW D clV (tyV q) 101 a (ceV a q) h)) (va_Qi Q (AtC D clV 101 a (ceV a q)) (inW a 101)) 0 0 (inW a 101) :=
  m_of (by decide +kernel) hI tb_ok (Nat.le_of_ble_eq_true rfl) (fun p e R s m below meth c X => kb_Re_passesTest_0 X hi0 hw)
set_option maxHeartbeats 4000000 in
set_option maxRecDepth 100000 in
theorem kb_Mt_holdsBefore_2 {Q : Int32 → RS → Prop} (X : Cx p l R s m args meth c b_Mt_holdsBefore 4 R_Mt (some .boolean) D clV (tyV q) a 101 0 0 tbW) {K2 : RS → Int32 → Int32 → Int32 → Prop} (hK2 : ∀ (h : RS) (x1 : Int32) (x2 : Int32) (x3 : Int32), K2 h x1 x2 x3 → Z p l e R s m args below meth c D clV 101 a (ceV a q) 4 (MQ below (va_Qi Q (AtC D clV 101 a (ceV a q)) (inW a 101)) args s 0 0 (inW a 101)) h 2 [(0, .ref (a 4)), (1, .int x1), (2, .int x2), (3, .int x3)] []) {h : RS} {x1 : Int32} {x2 : Int32} {x3 : Int32} (hw : bp_Mt_holdsBefore_2 K2 Q h x1 x2 x3) : Z p l e R s m args below meth c D clV 101 a (ceV a q) 4 (MQ below (va_Qi Q (AtC D clV 101 a (ceV a q)) (inW a 101)) args s 0 0 (inW a 101)) h 2 [(0, .ref (a 4)), (1, .int x1), (2, .int x2), (3, .int x3)] [] := by
  unfold bp_Mt_holdsBefore_2 at hw
  refine z_iload_n (pc := 2) X 3 d_Mt_holdsBefore_2 rfl rfl ?_
  refine z_iload_n (pc := 3) X 1 d_Mt_holdsBefore_3 rfl rfl ?_
  refine z_icmp_ge (tgt := 25) (pc := 4) X d_Mt_holdsBefore_4 (by decide) (fun hc => ?_) (fun hc => ?_)
  · have hw := hw.1 hc
    refine z_iconst (v := (0 : Int32)) (pc := 25) X d_Mt_holdsBefore_25 (by decide) ?_
    exact z_zret (pc := 26) X hw.1 d_Mt_holdsBefore_26 hw.2
  · have hw := hw.2 hc
    refine z_aload_n (pc := 7) X 0 d_Mt_holdsBefore_7 rfl rfl ?_
    refine z_get (i := 4) (pc := 8) X (by decide) (cV_Mat _) rfl hin_Mt 0 (by decide) lk108 rfl rfl d_Mt_holdsBefore_8 ?_
    refine z_iload_n (pc := 11) X 3 d_Mt_holdsBefore_11 rfl rfl ?_
    obtain ⟨k1, hk1, ek1, hw⟩ := hw
    refine z_iald (i := 11) (pc := 12) X 0 (by decide) (cV_tNu _) rfl (by decide) hk1 ek1 d_Mt_holdsBefore_12 ?_
    refine z_iload_n (pc := 13) X 2 d_Mt_holdsBefore_13 rfl rfl ?_
    refine z_icmp_ne (tgt := 19) (pc := 14) X d_Mt_holdsBefore_14 (by decide) (fun hc => ?_) (fun hc => ?_)
    · have hw := hw.1 hc
      refine z_iinc (v := (x3 + 1)) (pc := 19) X 3 d_Mt_holdsBefore_19 rfl rfl (by decide) rfl ?_
      refine z_goto (tgt := 2) (pc := 22) X d_Mt_holdsBefore_22 (by decide) ?_
      exact z_to [1, 2, 3, 0] rfl (hK2 _ _ _ _ hw)
    · have hw := hw.2 hc
      refine z_iconst (v := (1 : Int32)) (pc := 17) X d_Mt_holdsBefore_17 (by decide) ?_
      exact z_zret (pc := 18) X hw.1 d_Mt_holdsBefore_18 hw.2
theorem kl_Mt_holdsBefore_2 {Q : Int32 → RS → Prop} (X : Cx p l R s m args meth c b_Mt_holdsBefore 4 R_Mt (some .boolean) D clV (tyV q) a 101 0 0 tbW) : ∀ (n : Nat) (h : RS) (x1 : Int32) (x2 : Int32) (x3 : Int32), wp_Mt_holdsBefore_2 Q n h x1 x2 x3 → Z p l e R s m args below meth c D clV 101 a (ceV a q) 4 (MQ below (va_Qi Q (AtC D clV 101 a (ceV a q)) (inW a 101)) args s 0 0 (inW a 101)) h 2 [(0, .ref (a 4)), (1, .int x1), (2, .int x2), (3, .int x3)] [] := by
  intro n
  induction n with
  | zero =>
    intro h x1 x2 x3 hw
    exact hw.elim
  | succ n ih =>
    intro h x1 x2 x3 hw
    exact kb_Mt_holdsBefore_2 X ih hw
set_option maxHeartbeats 4000000 in
set_option maxRecDepth 100000 in
theorem kb_Mt_holdsBefore_0 {Q : Int32 → RS → Prop} (X : Cx p l R s m args meth c b_Mt_holdsBefore 4 R_Mt (some .boolean) D clV (tyV q) a 101 0 0 tbW) {h : RS} {x1 : Int32} {x2 : Int32} (hw : bp_Mt_holdsBefore_0 Q h x1 x2) : Z p l e R s m args below meth c D clV 101 a (ceV a q) 4 (MQ below (va_Qi Q (AtC D clV 101 a (ceV a q)) (inW a 101)) args s 0 0 (inW a 101)) h 0 [(0, .ref (a 4)), (1, .int x1), (2, .int x2)] [] := by
  unfold bp_Mt_holdsBefore_0 at hw
  refine z_iconst (v := (0 : Int32)) (pc := 0) X d_Mt_holdsBefore_0 (by decide) ?_
  refine z_istore_n (pc := 1) X d_Mt_holdsBefore_1 rfl (by decide) rfl ?_
  obtain ⟨n2, hw⟩ := hw
  exact z_to [1, 2, 3, 0] rfl (kl_Mt_holdsBefore_2 X n2 _ _ _ _ hw)
theorem c_Mt_holdsBefore {l : Launch} {D : va_G} {a : Nat → Nat} {q : Nat → ClassId} (hI : injW a 101) {h : RS} {x1 : Int32} {x2 : Int32} {Q : Int32 → RS → Prop} (hw : wp_Mt_holdsBefore h x1 x2 Q) : Met l y_Mt_holdsBefore [.code y_Mt_holdsBefore b_Mt_holdsBefore 4 (some .boolean)] { frames := 0, cells := 0, slots := 0, locals := 0 } (va_Pc [.ref (a 4), .int x1, .int x2] (PreC tbW D clV (tyV q) 101 a (ceV a q) h)) (va_Qi Q (AtC D clV 101 a (ceV a q)) (inW a 101)) 0 0 (inW a 101) :=
  m_of (by decide +kernel) hI tb_ok (Nat.le_of_ble_eq_true rfl) (fun p e R s m below meth c X => kb_Mt_holdsBefore_0 X hw)
set_option maxHeartbeats 4000000 in
set_option maxRecDepth 100000 in
theorem kb_V_fillMatch_38 {Q : Int32 → RS → Prop} {dd : Nat} (X : Cx p l R s m args meth c b_V_fillMatch 9 R_V (some .boolean) D clV (tyV q) a 101 (2 + (dd + 1)) (45 + (dd + 1) * 28) tbW) {Rc : RS → Nat → Int32 → (Int32 → RS → Prop) → Prop} (hRc : ∀ (h : RS) (i1 : Nat) (x4 : Int32) (Q : Int32 → RS → Prop), i1 < 8 → Rc h i1 x4 Q → Met l y_V_fillMatch [.code y_V_fillMatch b_V_fillMatch 9 (some .boolean)] { frames := 2 + dd, cells := 0, slots := 0, locals := 45 + dd * 28 } (va_Pc [.ref (a 4), .ref (a (29 + i1)), .ref (a 1), .ref (a 3), .int x4] (PreC tbW D clV (tyV q) 101 a (ceV a q) h)) (va_Qi Q (AtC D clV 101 a (ceV a q)) (inW a 101)) 0 0 (inW a 101)) {K38 : RS → Nat → Int32 → Nat → Int32 → Prop} (hK38 : ∀ (h : RS) (i1 : Nat) (x4 : Int32) (i5 : Nat) (x6 : Int32), i1 < 8 → i5 < 8 → K38 h i1 x4 i5 x6 → Z p l e R s m args below meth c D clV 101 a (ceV a q) 9 (MQ below (va_Qi Q (AtC D clV 101 a (ceV a q)) (inW a 101)) args s 0 0 (inW a 101)) h 38 [(0, .ref (a 4)), (1, .ref (a (29 + i1))), (2, .ref (a 1)), (3, .ref (a 3)), (4, .int x4), (5, .ref (a (13 + i5))), (6, .int x6)] []) {h : RS} {i1 : Nat} {x4 : Int32} {i5 : Nat} {x6 : Int32} (hi1 : i1 < 8) (hi5 : i5 < 8) (hw : bp_V_fillMatch_38 Rc K38 Q h i1 x4 i5 x6) : Z p l e R s m args below meth c D clV 101 a (ceV a q) 9 (MQ below (va_Qi Q (AtC D clV 101 a (ceV a q)) (inW a 101)) args s 0 0 (inW a 101)) h 38 [(0, .ref (a 4)), (1, .ref (a (29 + i1))), (2, .ref (a 1)), (3, .ref (a 3)), (4, .int x4), (5, .ref (a (13 + i5))), (6, .int x6)] [] := by
  unfold bp_V_fillMatch_38 at hw
  refine z_iload (pc := 38) X 6 d_V_fillMatch_38 rfl ?_
  refine z_aload (pc := 40) X 5 d_V_fillMatch_40 rfl ?_
  refine z_getN (i := (13 + i5)) (pc := 42) X (lt_ix hi5 (by decide)) (cV_Ch _ hi5) rfl hin_Ch 2 (by decide) lk73 rfl rfl d_V_fillMatch_42 ?_
  refine z_icmp_ge (tgt := 129) (pc := 45) X d_V_fillMatch_45 (by decide) (fun hc => ?_) (fun hc => ?_)
  · have hw := hw.1 hc
    refine z_iconst (v := (0 : Int32)) (pc := 129) X d_V_fillMatch_129 (by decide) ?_
    exact z_zret (pc := 130) X hw.1 d_V_fillMatch_130 hw.2
  · have hw := hw.2 hc
    refine z_aload (pc := 48) X 5 d_V_fillMatch_48 rfl ?_
    refine z_getN (i := (13 + i5)) (pc := 50) X (lt_ix hi5 (by decide)) (cV_Ch _ hi5) rfl hin_Ch 1 (by decide) lk109 rfl rfl d_V_fillMatch_50 ?_
    refine z_iload (pc := 53) X 6 d_V_fillMatch_53 rfl ?_
    obtain ⟨k1, hk1, ek1, hw⟩ := hw
    refine z_iald (i := (21 + i5)) (pc := 55) X 0 (lt_ix hi5 (by decide)) (cV_Pn _ hi5) rfl (by decide) hk1 ek1 d_V_fillMatch_55 ?_
    refine z_istore (pc := 56) X d_V_fillMatch_56 (by decide) rfl ?_
    refine z_aload_n (pc := 58) X 4 d_V_fillMatch_58 rfl rfl ?_
    refine z_getN (i := 3) (pc := 59) X (by decide) (cV_Msgs _) rfl hin_Ms 2 (by decide) lk110 rfl rfl d_V_fillMatch_59 ?_
    refine z_iload (pc := 62) X 0 d_V_fillMatch_62 rfl ?_
    obtain ⟨k2, hk2, ek2, hw⟩ := hw
    refine z_iald (i := 7) (pc := 64) X 0 (by decide) (cV_mVa _) rfl (by decide) hk2 ek2 d_V_fillMatch_64 ?_
    refine z_istore (pc := 65) X d_V_fillMatch_65 (by decide) rfl ?_
    refine z_aload_n (pc := 67) X 3 d_V_fillMatch_67 rfl rfl ?_
    refine z_iload (pc := 68) X 6 d_V_fillMatch_68 rfl ?_
    refine z_iload (pc := 70) X 0 d_V_fillMatch_70 rfl ?_
    refine z_cVNi (i := (29 + i1)) (pc := 72) X [.int x4, .int (h 7 k2)] (c_Re_passesTest X.2.2.2.2.2.2.2.2.1 hi1 hw) (by omega) (by omega) lk111 cd_Re_passesTest lk22 lk112 lk113 (lt_ix hi1 (by decide)) (cV_Re _ hi1) rfl nm_Re_passesTest rfl rfl (Nat.le_of_ble_eq_true rfl) d_V_fillMatch_72 (fun r3 h4 hw => ?_)
    refine z_if_eq (tgt := 123) (pc := 75) X d_V_fillMatch_75 (by decide) (fun hc => ?_) (fun hc => ?_)
    · have hw := hw.1 hc
      refine z_iinc (v := (x6 + 1)) (pc := 123) X 8 d_V_fillMatch_123 rfl rfl (by decide) rfl ?_
      refine z_goto (tgt := 38) (pc := 126) X d_V_fillMatch_126 (by decide) ?_
      exact z_to [3, 4, 5, 6, 7, 8, 0] rfl (hK38 _ _ _ _ _ hi1 hi5 hw)
    · have hw := hw.2 hc
      refine z_aload_n (pc := 78) X 2 d_V_fillMatch_78 rfl rfl ?_
      refine z_iload (pc := 79) X 6 d_V_fillMatch_79 rfl ?_
      refine z_iload (pc := 81) X 1 d_V_fillMatch_81 rfl ?_
      refine z_cVNi (i := 4) (pc := 83) X [.int x4, .int (h (21 + i5) k1)] (c_Mt_holdsBefore X.2.2.2.2.2.2.2.2.1 hw) (by omega) (by omega) lk114 cd_Mt_holdsBefore lk115 lk116 lk117 (by decide) (cV_Mat _) rfl nm_Mt_holdsBefore rfl rfl (Nat.le_of_ble_eq_true rfl) d_V_fillMatch_83 (fun r5 h6 hw => ?_)
      refine z_if_ne (tgt := 123) (pc := 86) X d_V_fillMatch_86 (by decide) (fun hc => ?_) (fun hc => ?_)
      · have hw := hw.1 hc
        refine z_iinc (v := (x6 + 1)) (pc := 123) X 8 d_V_fillMatch_123 rfl rfl (by decide) rfl ?_
        refine z_goto (tgt := 38) (pc := 126) X d_V_fillMatch_126 (by decide) ?_
        exact z_to [3, 4, 5, 6, 7, 8, 0] rfl (hK38 _ _ _ _ _ hi1 hi5 hw)
      · have hw := hw.2 hc
        refine z_aload_n (pc := 89) X 2 d_V_fillMatch_89 rfl rfl ?_
        refine z_getN (i := 4) (pc := 90) X (by decide) (cV_Mat _) rfl hin_Mt 0 (by decide) lk118 rfl rfl d_V_fillMatch_90 ?_
        refine z_iload (pc := 93) X 6 d_V_fillMatch_93 rfl ?_
        refine z_iload (pc := 95) X 1 d_V_fillMatch_95 rfl ?_
        obtain ⟨k7, hk7, ek7, hw⟩ := hw
        refine z_iast (i := 11) (pc := 97) X 0 (by decide) (fun g => (cV_tNu g)) rfl (by decide) hk7 ek7 d_V_fillMatch_97 ?_
        have hw := hw _ rfl
        refine z_aload_n (pc := 98) X 2 d_V_fillMatch_98 rfl rfl ?_
        refine z_getN (i := 4) (pc := 99) X (by decide) (cV_Mat _) rfl hin_Mt 1 (by decide) lk119 rfl rfl d_V_fillMatch_99 ?_
        refine z_iload (pc := 102) X 6 d_V_fillMatch_102 rfl ?_
        refine z_iload (pc := 104) X 0 d_V_fillMatch_104 rfl ?_
        obtain ⟨k9, hk9, ek9, hw⟩ := hw
        refine z_iast (i := 12) (pc := 106) X 0 (by decide) (fun g => (cV_tVa g)) rfl (by decide) hk9 ek9 d_V_fillMatch_106 ?_
        have hw := hw _ rfl
        refine z_aload_n (pc := 107) X 2 d_V_fillMatch_107 rfl rfl ?_
        refine z_aload_n (pc := 108) X 3 d_V_fillMatch_108 rfl rfl ?_
        refine z_aload_n (pc := 109) X 4 d_V_fillMatch_109 rfl rfl ?_
        refine z_aload_n (pc := 110) X 5 d_V_fillMatch_110 rfl rfl ?_
        refine z_iload (pc := 111) X 6 d_V_fillMatch_111 rfl ?_
        refine z_iconst (v := (1 : Int32)) (pc := 113) X d_V_fillMatch_113 (by decide) ?_
        refine z_iadd (pc := 114) X d_V_fillMatch_114 ?_
        refine z_cSi (pc := 115) X [.ref (a 4), .ref (a (29 + i1)), .ref (a 1), .ref (a 3), .int (x4 + (1 : Int32))] (hRc _ _ _ _ hi1 hw) (by omega) (by omega) lk120 cd_V_fillMatch lk11 lk121 nm_V_fillMatch rfl rfl (Nat.le_of_ble_eq_true rfl) d_V_fillMatch_115 (fun r11 h12 hw => ?_)
        refine z_if_eq (tgt := 123) (pc := 118) X d_V_fillMatch_118 (by decide) (fun hc => ?_) (fun hc => ?_)
        · have hw := hw.1 hc
          refine z_iinc (v := (x6 + 1)) (pc := 123) X 8 d_V_fillMatch_123 rfl rfl (by decide) rfl ?_
          refine z_goto (tgt := 38) (pc := 126) X d_V_fillMatch_126 (by decide) ?_
          exact z_to [3, 4, 5, 6, 7, 8, 0] rfl (hK38 _ _ _ _ _ hi1 hi5 hw)
        · have hw := hw.2 hc
          refine z_iconst (v := (1 : Int32)) (pc := 121) X d_V_fillMatch_121 (by decide) ?_
          exact z_zret (pc := 122) X hw.1 d_V_fillMatch_122 hw.2
theorem kl_V_fillMatch_38 {Q : Int32 → RS → Prop} {dd : Nat} (X : Cx p l R s m args meth c b_V_fillMatch 9 R_V (some .boolean) D clV (tyV q) a 101 (2 + (dd + 1)) (45 + (dd + 1) * 28) tbW) {Rc : RS → Nat → Int32 → (Int32 → RS → Prop) → Prop} (hRc : ∀ (h : RS) (i1 : Nat) (x4 : Int32) (Q : Int32 → RS → Prop), i1 < 8 → Rc h i1 x4 Q → Met l y_V_fillMatch [.code y_V_fillMatch b_V_fillMatch 9 (some .boolean)] { frames := 2 + dd, cells := 0, slots := 0, locals := 45 + dd * 28 } (va_Pc [.ref (a 4), .ref (a (29 + i1)), .ref (a 1), .ref (a 3), .int x4] (PreC tbW D clV (tyV q) 101 a (ceV a q) h)) (va_Qi Q (AtC D clV 101 a (ceV a q)) (inW a 101)) 0 0 (inW a 101)) : ∀ (n : Nat) (h : RS) (i1 : Nat) (x4 : Int32) (i5 : Nat) (x6 : Int32), i1 < 8 → i5 < 8 → wp_V_fillMatch_38 Rc Q n h i1 x4 i5 x6 → Z p l e R s m args below meth c D clV 101 a (ceV a q) 9 (MQ below (va_Qi Q (AtC D clV 101 a (ceV a q)) (inW a 101)) args s 0 0 (inW a 101)) h 38 [(0, .ref (a 4)), (1, .ref (a (29 + i1))), (2, .ref (a 1)), (3, .ref (a 3)), (4, .int x4), (5, .ref (a (13 + i5))), (6, .int x6)] [] := by
  intro n
  induction n with
  | zero =>
    intro h i1 x4 i5 x6 hi1 hi5 hw
    exact hw.elim
  | succ n ih =>
    intro h i1 x4 i5 x6 hi1 hi5 hw
    exact kb_V_fillMatch_38 X hRc ih hi1 hi5 hw
set_option maxHeartbeats 4000000 in
set_option maxRecDepth 100000 in
theorem kb_V_fillMatch_15 {Q : Int32 → RS → Prop} {dd : Nat} (X : Cx p l R s m args meth c b_V_fillMatch 9 R_V (some .boolean) D clV (tyV q) a 101 (2 + (dd + 1)) (45 + (dd + 1) * 28) tbW) {Rc : RS → Nat → Int32 → (Int32 → RS → Prop) → Prop} (hRc : ∀ (h : RS) (i1 : Nat) (x4 : Int32) (Q : Int32 → RS → Prop), i1 < 8 → Rc h i1 x4 Q → Met l y_V_fillMatch [.code y_V_fillMatch b_V_fillMatch 9 (some .boolean)] { frames := 2 + dd, cells := 0, slots := 0, locals := 45 + dd * 28 } (va_Pc [.ref (a 4), .ref (a (29 + i1)), .ref (a 1), .ref (a 3), .int x4] (PreC tbW D clV (tyV q) 101 a (ceV a q) h)) (va_Qi Q (AtC D clV 101 a (ceV a q)) (inW a 101)) 0 0 (inW a 101)) {h : RS} {i1 : Nat} (hi1 : i1 < 8) (hw : bp_V_fillMatch_15 Rc Q h i1) : Z p l e R s m args below meth c D clV 101 a (ceV a q) 9 (MQ below (va_Qi Q (AtC D clV 101 a (ceV a q)) (inW a 101)) args s 0 0 (inW a 101)) h 15 [(0, .ref (a 4)), (1, .ref (a (29 + i1)))] [] := by
  unfold bp_V_fillMatch_15 at hw
  refine z_aload_n (pc := 15) X 1 d_V_fillMatch_15 rfl rfl ?_
  refine z_aload_n (pc := 16) X 0 d_V_fillMatch_16 rfl rfl ?_
  refine z_getN (i := 4) (pc := 17) X (by decide) (cV_Mat _) rfl hin_Mt 1 (by decide) lk119 rfl rfl d_V_fillMatch_17 ?_
  refine z_cVNi (i := (29 + i1)) (pc := 20) X [.ref (a 12)] (c_Re_guardHolds X.2.2.2.2.2.2.2.2.1 hi1 hw) (by omega) (by omega) lk122 cd_Re_guardHolds lk22 lk123 lk124 (lt_ix hi1 (by decide)) (cV_Re _ hi1) rfl nm_Re_guardHolds rfl rfl (Nat.le_of_ble_eq_true rfl) d_V_fillMatch_20 (fun r13 h14 hw => ?_)
  exact z_zret (pc := 23) X hw.1 d_V_fillMatch_23 hw.2
set_option maxHeartbeats 4000000 in
set_option maxRecDepth 100000 in
theorem kb_V_fillMatch_0 {Q : Int32 → RS → Prop} {dd : Nat} (X : Cx p l R s m args meth c b_V_fillMatch 9 R_V (some .boolean) D clV (tyV q) a 101 (2 + (dd + 1)) (45 + (dd + 1) * 28) tbW) {Rc : RS → Nat → Int32 → (Int32 → RS → Prop) → Prop} (hRc : ∀ (h : RS) (i1 : Nat) (x4 : Int32) (Q : Int32 → RS → Prop), i1 < 8 → Rc h i1 x4 Q → Met l y_V_fillMatch [.code y_V_fillMatch b_V_fillMatch 9 (some .boolean)] { frames := 2 + dd, cells := 0, slots := 0, locals := 45 + dd * 28 } (va_Pc [.ref (a 4), .ref (a (29 + i1)), .ref (a 1), .ref (a 3), .int x4] (PreC tbW D clV (tyV q) 101 a (ceV a q) h)) (va_Qi Q (AtC D clV 101 a (ceV a q)) (inW a 101)) 0 0 (inW a 101)) {h : RS} {i1 : Nat} {x4 : Int32} (hi1 : i1 < 8) (hw : bp_V_fillMatch_0 Rc Q h i1 x4) : Z p l e R s m args below meth c D clV 101 a (ceV a q) 9 (MQ below (va_Qi Q (AtC D clV 101 a (ceV a q)) (inW a 101)) args s 0 0 (inW a 101)) h 0 [(0, .ref (a 4)), (1, .ref (a (29 + i1))), (2, .ref (a 1)), (3, .ref (a 3)), (4, .int x4)] [] := by
  unfold bp_V_fillMatch_0 at hw
  refine z_iload (pc := 0) X 4 d_V_fillMatch_0 rfl ?_
  refine z_iconst (v := (4 : Int32)) (pc := 2) X d_V_fillMatch_2 (by decide) ?_
  refine z_icmp_ge (tgt := 15) (pc := 3) X d_V_fillMatch_3 (by decide) (fun hc => ?_) (fun hc => ?_)
  · have hw := hw.1 hc
    exact z_to [0, 1] rfl (kb_V_fillMatch_15 X hRc hi1 hw)
  · have hw := hw.2 hc
    refine z_iload (pc := 6) X 4 d_V_fillMatch_6 rfl ?_
    refine z_aload_n (pc := 8) X 1 d_V_fillMatch_8 rfl rfl ?_
    refine z_getN (i := (29 + i1)) (pc := 9) X (lt_ix hi1 (by decide)) (cV_Re _ hi1) rfl hin_Re 0 (by decide) lk20 rfl rfl d_V_fillMatch_9 ?_
    refine z_icmp_lt (tgt := 24) (pc := 12) X d_V_fillMatch_12 (by decide) (fun hc => ?_) (fun hc => ?_)
    · have hw := hw.1 hc
      refine z_aload_n (pc := 24) X 2 d_V_fillMatch_24 rfl rfl ?_
      refine z_aload_n (pc := 25) X 1 d_V_fillMatch_25 rfl rfl ?_
      refine z_getN (i := (29 + i1)) (pc := 26) X (lt_ix hi1 (by decide)) (cV_Re _ hi1) rfl hin_Re 1 (by decide) lk47 rfl rfl d_V_fillMatch_26 ?_
      refine z_iload (pc := 29) X 4 d_V_fillMatch_29 rfl ?_
      obtain ⟨k15, hk15, ek15, hw⟩ := hw
      refine z_iald (i := (37 + i1)) (pc := 31) X 0 (lt_ix hi1 (by decide)) (cV_pC _ hi1) rfl (by decide) hk15 ek15 d_V_fillMatch_31 ?_
      obtain ⟨k16, hk16, ek16, hw⟩ := hw
      refine z_aald (i := 1) (g := fun j => 13 + j) (pc := 32) X 2 (by decide) (cV_Chs _) rfl (by decide) hk16 ek16 d_V_fillMatch_32 ?_
      refine z_astore (pc := 33) X d_V_fillMatch_33 (by decide) rfl ?_
      refine z_iconst (v := (0 : Int32)) (pc := 35) X d_V_fillMatch_35 (by decide) ?_
      refine z_istore (pc := 36) X d_V_fillMatch_36 (by decide) rfl ?_
      obtain ⟨n17, hw⟩ := hw
      exact z_to [2, 3, 4, 5, 6, 1, 0] rfl (kl_V_fillMatch_38 X hRc n17 _ _ _ _ _ hi1 hk16 hw)
    · have hw := hw.2 hc
      exact z_to [0, 1] rfl (kb_V_fillMatch_15 X hRc hi1 hw)
theorem c_V_fillMatch {l : Launch} {D : va_G} {a : Nat → Nat} {q : Nat → ClassId} (hI : injW a 101) : ∀ (dd : Nat) (h : RS) (i1 : Nat) (x4 : Int32) (Q : Int32 → RS → Prop), i1 < 8 → wp_V_fillMatch dd h i1 x4 Q → Met l y_V_fillMatch [.code y_V_fillMatch b_V_fillMatch 9 (some .boolean)] { frames := 2 + dd, cells := 0, slots := 0, locals := 45 + dd * 28 } (va_Pc [.ref (a 4), .ref (a (29 + i1)), .ref (a 1), .ref (a 3), .int x4] (PreC tbW D clV (tyV q) 101 a (ceV a q) h)) (va_Qi Q (AtC D clV 101 a (ceV a q)) (inW a 101)) 0 0 (inW a 101) := by
  intro dd
  induction dd with
  | zero =>
    intro h i1 x4 Q hi1 hw
    exact hw.elim
  | succ dd ih =>
    intro h i1 x4 Q hi1 hw
    exact m_of (by decide +kernel) hI tb_ok (Nat.le_of_ble_eq_true rfl) (fun p e R s m below meth c X => kb_V_fillMatch_0 X ih hi1 hw)
set_option maxHeartbeats 4000000 in
set_option maxRecDepth 100000 in
theorem kb_V_findEnabledMatch_0 {Q : Int32 → RS → Prop} (X : Cx p l R s m args meth c b_V_findEnabledMatch 2 R_V (some .boolean) D clV (tyV q) a 101 8 213 tbW) {h : RS} {x1 : Int32} (hw : bp_V_findEnabledMatch_0 Q h x1) : Z p l e R s m args below meth c D clV 101 a (ceV a q) 2 (MQ below (va_Qi Q (AtC D clV 101 a (ceV a q)) (inW a 101)) args s 0 0 (inW a 101)) h 0 [(0, .ref (a 0)), (1, .int x1)] [] := by
  unfold bp_V_findEnabledMatch_0 at hw
  refine z_aload_n (pc := 0) X 0 d_V_findEnabledMatch_0 rfl rfl ?_
  refine z_get (i := 0) (pc := 1) X (by decide) (cV_V _) rfl hin_V 4 (by decide) lk1 rfl rfl d_V_findEnabledMatch_1 ?_
  refine z_if_eq (tgt := 49) (pc := 4) X d_V_findEnabledMatch_4 (by decide) (fun hc => ?_) (fun hc => ?_)
  · have hw := hw.1 hc
    refine z_iconst (v := (0 : Int32)) (pc := 49) X d_V_findEnabledMatch_49 (by decide) ?_
    exact z_zret (pc := 50) X hw.1 d_V_findEnabledMatch_50 hw.2
  · have hw := hw.2 hc
    refine z_aload_n (pc := 7) X 0 d_V_findEnabledMatch_7 rfl rfl ?_
    refine z_aload_n (pc := 8) X 0 d_V_findEnabledMatch_8 rfl rfl ?_
    refine z_get (i := 0) (pc := 9) X (by decide) (cV_V _) rfl hin_V 2 (by decide) lk19 rfl rfl d_V_findEnabledMatch_9 ?_
    refine z_iload_n (pc := 12) X 1 d_V_findEnabledMatch_12 rfl rfl ?_
    obtain ⟨k1, hk1, ek1, hw⟩ := hw
    refine z_aald (i := 2) (g := fun j => 29 + j) (pc := 13) X 3 (by decide) (cV_Res _) rfl (by decide) hk1 ek1 d_V_findEnabledMatch_13 ?_
    refine z_cVi (i := 0) (pc := 14) X [.ref (a (29 + k1))] (c_V_hasRoom X.2.2.2.2.2.2.2.2.1 hk1 hw) (by decide) (by decide) lk125 cd_V_hasRoom lk11 lk126 lk127 (by decide) (cV_V _) rfl nm_V_hasRoom rfl rfl (Nat.le_of_ble_eq_true rfl) d_V_findEnabledMatch_14 (fun r2 h3 hw => ?_)
    refine z_if_eq (tgt := 49) (pc := 17) X d_V_findEnabledMatch_17 (by decide) (fun hc => ?_) (fun hc => ?_)
    · have hw := hw.1 hc
      refine z_iconst (v := (0 : Int32)) (pc := 49) X d_V_findEnabledMatch_49 (by decide) ?_
      exact z_zret (pc := 50) X hw.1 d_V_findEnabledMatch_50 hw.2
    · have hw := hw.2 hc
      refine z_aload_n (pc := 20) X 0 d_V_findEnabledMatch_20 rfl rfl ?_
      refine z_get (i := 0) (pc := 21) X (by decide) (cV_V _) rfl hin_V 6 (by decide) lk128 rfl rfl d_V_findEnabledMatch_21 ?_
      refine z_aload_n (pc := 24) X 0 d_V_findEnabledMatch_24 rfl rfl ?_
      refine z_get (i := 0) (pc := 25) X (by decide) (cV_V _) rfl hin_V 2 (by decide) lk19 rfl rfl d_V_findEnabledMatch_25 ?_
      refine z_iload_n (pc := 28) X 1 d_V_findEnabledMatch_28 rfl rfl ?_
      obtain ⟨k4, hk4, ek4, hw⟩ := hw
      refine z_aald (i := 2) (g := fun j => 29 + j) (pc := 29) X 3 (by decide) (cV_Res _) rfl (by decide) hk4 ek4 d_V_findEnabledMatch_29 ?_
      refine z_aload_n (pc := 30) X 0 d_V_findEnabledMatch_30 rfl rfl ?_
      refine z_get (i := 0) (pc := 31) X (by decide) (cV_V _) rfl hin_V 0 (by decide) lk3 rfl rfl d_V_findEnabledMatch_31 ?_
      refine z_aload_n (pc := 34) X 0 d_V_findEnabledMatch_34 rfl rfl ?_
      refine z_get (i := 0) (pc := 35) X (by decide) (cV_V _) rfl hin_V 5 (by decide) lk64 rfl rfl d_V_findEnabledMatch_35 ?_
      refine z_iconst (v := (0 : Int32)) (pc := 38) X d_V_findEnabledMatch_38 (by decide) ?_
      obtain ⟨d7, hd7, hw⟩ := hw
      refine z_cSi (pc := 39) X [.ref (a 4), .ref (a (29 + k4)), .ref (a 1), .ref (a 3), .int (0 : Int32)] (c_V_fillMatch X.2.2.2.2.2.2.2.2.1 d7 _ _ _ _ hk4 hw) (by omega) (by omega) lk120 cd_V_fillMatch lk11 lk121 nm_V_fillMatch rfl rfl (Nat.le_of_ble_eq_true rfl) d_V_findEnabledMatch_39 (fun r5 h6 hw => ?_)
      refine z_if_eq (tgt := 49) (pc := 42) X d_V_findEnabledMatch_42 (by decide) (fun hc => ?_) (fun hc => ?_)
      · have hw := hw.1 hc
        refine z_iconst (v := (0 : Int32)) (pc := 49) X d_V_findEnabledMatch_49 (by decide) ?_
        exact z_zret (pc := 50) X hw.1 d_V_findEnabledMatch_50 hw.2
      · have hw := hw.2 hc
        refine z_iconst (v := (1 : Int32)) (pc := 45) X d_V_findEnabledMatch_45 (by decide) ?_
        refine z_goto (tgt := 50) (pc := 46) X d_V_findEnabledMatch_46 (by decide) ?_
        exact z_zret (pc := 50) X hw.1 d_V_findEnabledMatch_50 hw.2
theorem c_V_findEnabledMatch {l : Launch} {D : va_G} {a : Nat → Nat} {q : Nat → ClassId} (hI : injW a 101) {h : RS} {x1 : Int32} {Q : Int32 → RS → Prop} (hw : wp_V_findEnabledMatch h x1 Q) : Met l y_V_findEnabledMatch [.code y_V_findEnabledMatch b_V_findEnabledMatch 2 (some .boolean)] { frames := 8, cells := 0, slots := 0, locals := 213 } (va_Pc [.ref (a 0), .int x1] (PreC tbW D clV (tyV q) 101 a (ceV a q) h)) (va_Qi Q (AtC D clV 101 a (ceV a q)) (inW a 101)) 0 0 (inW a 101) :=
  m_of (by decide +kernel) hI tb_ok (Nat.le_of_ble_eq_true rfl) (fun p e R s m below meth c X => kb_V_findEnabledMatch_0 X hw)
set_option maxHeartbeats 4000000 in
set_option maxRecDepth 100000 in
theorem kb_V_findNext_27 {Q : Int32 → RS → Prop} (X : Cx p l R s m args meth c b_V_findNext 4 R_V (some .int) D clV (tyV q) a 101 9 234 tbW) {K27 : RS → Int32 → Int32 → Prop} (hK27 : ∀ (h : RS) (x1 : Int32) (x2 : Int32), K27 h x1 x2 → Z p l e R s m args below meth c D clV 101 a (ceV a q) 4 (MQ below (va_Qi Q (AtC D clV 101 a (ceV a q)) (inW a 101)) args s 0 0 (inW a 101)) h 27 [(0, .ref (a 0)), (1, .int x1), (2, .int x2)] []) {h : RS} {x1 : Int32} {x2 : Int32} (hw : bp_V_findNext_27 K27 Q h x1 x2) : Z p l e R s m args below meth c D clV 101 a (ceV a q) 4 (MQ below (va_Qi Q (AtC D clV 101 a (ceV a q)) (inW a 101)) args s 0 0 (inW a 101)) h 27 [(0, .ref (a 0)), (1, .int x1), (2, .int x2)] [] := by
  unfold bp_V_findNext_27 at hw
  refine z_iload_n (pc := 27) X 2 d_V_findNext_27 rfl rfl ?_
  refine z_aload_n (pc := 28) X 0 d_V_findNext_28 rfl rfl ?_
  refine z_get (i := 0) (pc := 29) X (by decide) (cV_V _) rfl hin_V 3 (by decide) lk5 rfl rfl d_V_findNext_29 ?_
  refine z_icmp_ge (tgt := 60) (pc := 32) X d_V_findNext_32 (by decide) (fun hc => ?_) (fun hc => ?_)
  · have hw := hw.1 hc
    refine z_iconst (v := (-1 : Int32)) (pc := 60) X d_V_findNext_60 (by decide) ?_
    exact z_iret (pc := 61) X d_V_findNext_61 hw
  · have hw := hw.2 hc
    refine z_iload_n (pc := 35) X 1 d_V_findNext_35 rfl rfl ?_
    refine z_iload_n (pc := 36) X 2 d_V_findNext_36 rfl rfl ?_
    refine z_iadd (pc := 37) X d_V_findNext_37 ?_
    refine z_aload_n (pc := 38) X 0 d_V_findNext_38 rfl rfl ?_
    refine z_get (i := 0) (pc := 39) X (by decide) (cV_V _) rfl hin_V 3 (by decide) lk5 rfl rfl d_V_findNext_39 ?_
    obtain ⟨hne, hw⟩ := hw
    refine z_irem (pc := 42) X d_V_findNext_42 hne ?_
    refine z_istore_n (pc := 43) X d_V_findNext_43 rfl (by decide) rfl ?_
    refine z_aload_n (pc := 44) X 1 d_V_findNext_44 rfl rfl ?_
    refine z_iload_n (pc := 45) X 0 d_V_findNext_45 rfl rfl ?_
    refine z_cVi (i := 0) (pc := 46) X [.int ((x1 + x2) - (x1 + x2) / (h 0 3) * (h 0 3))] (c_V_findEnabledMatch X.2.2.2.2.2.2.2.2.1 hw) (by decide) (by decide) lk129 cd_V_findEnabledMatch lk11 lk130 lk131 (by decide) (cV_V _) rfl nm_V_findEnabledMatch rfl rfl (Nat.le_of_ble_eq_true rfl) d_V_findNext_46 (fun r1 h2 hw => ?_)
    refine z_if_eq (tgt := 54) (pc := 49) X d_V_findNext_49 (by decide) (fun hc => ?_) (fun hc => ?_)
    · have hw := hw.1 hc
      refine z_iinc (v := (x2 + 1)) (pc := 54) X 3 d_V_findNext_54 rfl rfl (by decide) rfl ?_
      refine z_goto (tgt := 27) (pc := 57) X d_V_findNext_57 (by decide) ?_
      exact z_to [2, 3, 0] rfl (hK27 _ _ _ hw)
    · have hw := hw.2 hc
      refine z_iload_n (pc := 52) X 0 d_V_findNext_52 rfl rfl ?_
      exact z_iret (pc := 53) X d_V_findNext_53 hw
theorem kl_V_findNext_27 {Q : Int32 → RS → Prop} (X : Cx p l R s m args meth c b_V_findNext 4 R_V (some .int) D clV (tyV q) a 101 9 234 tbW) : ∀ (n : Nat) (h : RS) (x1 : Int32) (x2 : Int32), wp_V_findNext_27 Q n h x1 x2 → Z p l e R s m args below meth c D clV 101 a (ceV a q) 4 (MQ below (va_Qi Q (AtC D clV 101 a (ceV a q)) (inW a 101)) args s 0 0 (inW a 101)) h 27 [(0, .ref (a 0)), (1, .int x1), (2, .int x2)] [] := by
  intro n
  induction n with
  | zero =>
    intro h x1 x2 hw
    exact hw.elim
  | succ n ih =>
    intro h x1 x2 hw
    exact kb_V_findNext_27 X ih hw
set_option maxHeartbeats 4000000 in
set_option maxRecDepth 100000 in
theorem kb_V_findNext_24 {Q : Int32 → RS → Prop} (X : Cx p l R s m args meth c b_V_findNext 4 R_V (some .int) D clV (tyV q) a 101 9 234 tbW) {h : RS} {y0 : Int32} (hw : bp_V_findNext_24 Q h y0) : Z p l e R s m args below meth c D clV 101 a (ceV a q) 4 (MQ below (va_Qi Q (AtC D clV 101 a (ceV a q)) (inW a 101)) args s 0 0 (inW a 101)) h 24 [(0, .ref (a 0))] [.int y0] := by
  unfold bp_V_findNext_24 at hw
  refine z_istore_n (pc := 24) X d_V_findNext_24 rfl (by decide) rfl ?_
  refine z_iconst (v := (0 : Int32)) (pc := 25) X d_V_findNext_25 (by decide) ?_
  refine z_istore_n (pc := 26) X d_V_findNext_26 rfl (by decide) rfl ?_
  obtain ⟨n3, hw⟩ := hw
  exact z_to [2, 1, 0] rfl (kl_V_findNext_27 X n3 _ _ _ hw)
set_option maxHeartbeats 4000000 in
set_option maxRecDepth 100000 in
theorem kb_V_findNext_0 {Q : Int32 → RS → Prop} (X : Cx p l R s m args meth c b_V_findNext 4 R_V (some .int) D clV (tyV q) a 101 9 234 tbW) {h : RS} (hw : bp_V_findNext_0 Q h) : Z p l e R s m args below meth c D clV 101 a (ceV a q) 4 (MQ below (va_Qi Q (AtC D clV 101 a (ceV a q)) (inW a 101)) args s 0 0 (inW a 101)) h 0 [(0, .ref (a 0))] [] := by
  unfold bp_V_findNext_0 at hw
  refine z_aload_n (pc := 0) X 0 d_V_findNext_0 rfl rfl ?_
  refine z_get (i := 0) (pc := 1) X (by decide) (cV_V _) rfl hin_V 8 (by decide) lk132 rfl rfl d_V_findNext_1 ?_
  refine z_if_ne (tgt := 11) (pc := 4) X d_V_findNext_4 (by decide) (fun hc => ?_) (fun hc => ?_)
  · have hw := hw.1 hc
    refine z_aload_n (pc := 11) X 0 d_V_findNext_11 rfl rfl ?_
    refine z_get (i := 0) (pc := 12) X (by decide) (cV_V _) rfl hin_V 7 (by decide) lk133 rfl rfl d_V_findNext_12 ?_
    refine z_aload_n (pc := 15) X 0 d_V_findNext_15 rfl rfl ?_
    refine z_get (i := 0) (pc := 16) X (by decide) (cV_V _) rfl hin_V 8 (by decide) lk132 rfl rfl d_V_findNext_16 ?_
    refine z_iconst (v := (1 : Int32)) (pc := 19) X d_V_findNext_19 (by decide) ?_
    refine z_isub (pc := 20) X d_V_findNext_20 ?_
    obtain ⟨k4, hk4, ek4, hw⟩ := hw
    refine z_iald (i := 5) (pc := 21) X 0 (by decide) (cV_Fir _) rfl (by decide) hk4 ek4 d_V_findNext_21 ?_
    refine z_iconst (v := (1 : Int32)) (pc := 22) X d_V_findNext_22 (by decide) ?_
    refine z_iadd (pc := 23) X d_V_findNext_23 ?_
    exact z_to [0] rfl (kb_V_findNext_24 X hw)
  · have hw := hw.2 hc
    refine z_iconst (v := (0 : Int32)) (pc := 7) X d_V_findNext_7 (by decide) ?_
    refine z_goto (tgt := 24) (pc := 8) X d_V_findNext_8 (by decide) ?_
    exact z_to [0] rfl (kb_V_findNext_24 X hw)
theorem c_V_findNext {l : Launch} {D : va_G} {a : Nat → Nat} {q : Nat → ClassId} (hI : injW a 101) {h : RS} {Q : Int32 → RS → Prop} (hw : wp_V_findNext h Q) : Met l y_V_findNext [.code y_V_findNext b_V_findNext 4 (some .int)] { frames := 9, cells := 0, slots := 0, locals := 234 } (va_Pc [.ref (a 0)] (PreC tbW D clV (tyV q) 101 a (ceV a q) h)) (va_Qi Q (AtC D clV 101 a (ceV a q)) (inW a 101)) 0 0 (inW a 101) :=
  m_of (by decide +kernel) hI tb_ok (Nat.le_of_ble_eq_true rfl) (fun p e R s m below meth c X => kb_V_findNext_0 X hw)
set_option maxHeartbeats 4000000 in
set_option maxRecDepth 100000 in
theorem kb_V_consume_0 {Q : RS → Prop} (X : Cx p l R s m args meth c b_V_consume 2 R_V none D clV (tyV q) a 101 1 23 tbW) {h : RS} {x1 : Int32} (hw : bp_V_consume_0 Q h x1) : Z p l e R s m args below meth c D clV 101 a (ceV a q) 2 (MQ below (va_Qv Q (AtC D clV 101 a (ceV a q)) (inW a 101)) args s 0 0 (inW a 101)) h 0 [(0, .ref (a 0)), (1, .int x1)] [] := by
  unfold bp_V_consume_0 at hw
  refine z_aload_n (pc := 0) X 0 d_V_consume_0 rfl rfl ?_
  refine z_get (i := 0) (pc := 1) X (by decide) (cV_V _) rfl hin_V 5 (by decide) lk64 rfl rfl d_V_consume_1 ?_
  refine z_getN (i := 3) (pc := 4) X (by decide) (cV_Msgs _) rfl hin_Ms 3 (by decide) lk84 rfl rfl d_V_consume_4 ?_
  refine z_iload_n (pc := 7) X 1 d_V_consume_7 rfl rfl ?_
  refine z_iconst (v := (2 : Int32)) (pc := 8) X d_V_consume_8 (by decide) ?_
  obtain ⟨k1, hk1, ek1, hw⟩ := hw
  refine z_iast (i := 8) (pc := 9) X 0 (by decide) (fun g => (cV_mSt g)) rfl (by decide) hk1 ek1 d_V_consume_9 ?_
  have hw := hw _ rfl
  refine z_aload_n (pc := 10) X 0 d_V_consume_10 rfl rfl ?_
  refine z_get (i := 0) (pc := 11) X (by decide) (cV_V _) rfl hin_V 5 (by decide) lk64 rfl rfl d_V_consume_11 ?_
  refine z_getN (i := 3) (pc := 14) X (by decide) (cV_Msgs _) rfl hin_Ms 4 (by decide) lk134 rfl rfl d_V_consume_14 ?_
  refine z_iload_n (pc := 17) X 1 d_V_consume_17 rfl rfl ?_
  refine z_aload_n (pc := 18) X 0 d_V_consume_18 rfl rfl ?_
  refine z_get (i := 0) (pc := 19) X (by decide) (cV_V _) rfl hin_V 8 (by decide) lk132 rfl rfl d_V_consume_19 ?_
  obtain ⟨k3, hk3, ek3, hw⟩ := hw
  refine z_iast (i := 9) (pc := 22) X 0 (by decide) (fun g => (cV_mCo g)) rfl (by decide) hk3 ek3 d_V_consume_22 ?_
  have hw := hw _ rfl
  refine z_aload_n (pc := 23) X 0 d_V_consume_23 rfl rfl ?_
  refine z_get (i := 0) (pc := 24) X (by decide) (cV_V _) rfl hin_V 0 (by decide) lk3 rfl rfl d_V_consume_24 ?_
  refine z_aload_n (pc := 27) X 0 d_V_consume_27 rfl rfl ?_
  refine z_get (i := 0) (pc := 28) X (by decide) (cV_V _) rfl hin_V 5 (by decide) lk64 rfl rfl d_V_consume_28 ?_
  refine z_getN (i := 3) (pc := 31) X (by decide) (cV_Msgs _) rfl hin_Ms 1 (by decide) lk85 rfl rfl d_V_consume_31 ?_
  refine z_iload_n (pc := 34) X 1 d_V_consume_34 rfl rfl ?_
  obtain ⟨k5, hk5, ek5, hw⟩ := hw
  refine z_iald (i := 6) (pc := 35) X 0 (by decide) (cV_mCh _) rfl (by decide) hk5 ek5 d_V_consume_35 ?_
  obtain ⟨k6, hk6, ek6, hw⟩ := hw
  refine z_aald (i := 1) (g := fun j => 13 + j) (pc := 36) X 2 (by decide) (cV_Chs _) rfl (by decide) hk6 ek6 d_V_consume_36 ?_
  refine z_iload_n (pc := 37) X 1 d_V_consume_37 rfl rfl ?_
  refine z_cVNv (i := (13 + k6)) (pc := 38) X [.int x1] (c_Ch_removePending X.2.2.2.2.2.2.2.2.1 hk6 hw) (by decide) (by decide) lk86 cd_Ch_removePending lk70 lk87 lk88 (lt_ix hk6 (by decide)) (cV_Ch _ hk6) rfl nm_Ch_removePending rfl rfl (Nat.le_of_ble_eq_true rfl) d_V_consume_38 (fun h7 hw => ?_)
  exact z_vret (pc := 41) X d_V_consume_41 hw
theorem c_V_consume {l : Launch} {D : va_G} {a : Nat → Nat} {q : Nat → ClassId} (hI : injW a 101) {h : RS} {x1 : Int32} {Q : RS → Prop} (hw : wp_V_consume h x1 Q) : Met l y_V_consume [.code y_V_consume b_V_consume 2 none] { frames := 1, cells := 0, slots := 0, locals := 23 } (va_Pc [.ref (a 0), .int x1] (PreC tbW D clV (tyV q) 101 a (ceV a q) h)) (va_Qv Q (AtC D clV 101 a (ceV a q)) (inW a 101)) 0 0 (inW a 101) :=
  m_of (by decide +kernel) hI tb_ok (Nat.le_of_ble_eq_true rfl) (fun p e R s m below meth c X => kb_V_consume_0 X hw)
end
end
section
section
variable {p : Program} {l : Launch} {e : Env} {R : Room} {s : State} {m : MethodId} {args : Array Value} {below : List Frame} {meth : Method} {c : Code} {D : va_G} {a : Nat → Nat} {q : Nat → ClassId}
set_option maxHeartbeats 4000000 in
set_option maxRecDepth 100000 in
theorem kb_V_greatest_6 {Q : Int32 → RS → Prop} (X : Cx p l R s m args meth c b_V_greatest 4 R_V (some .int) D clV (tyV q) a 101 1 21 tbW) {K6 : RS → Int32 → Int32 → Int32 → Prop} (hK6 : ∀ (h : RS) (x1 : Int32) (x2 : Int32) (x3 : Int32), K6 h x1 x2 x3 → Z p l e R s m args below meth c D clV 101 a (ceV a q) 4 (MQ below (va_Qi Q (AtC D clV 101 a (ceV a q)) (inW a 101)) args s 0 0 (inW a 101)) h 6 [(0, .ref (a 12)), (1, .int x1), (2, .int x2), (3, .int x3)] []) {h : RS} {x1 : Int32} {x2 : Int32} {x3 : Int32} (hw : bp_V_greatest_6 K6 Q h x1 x2 x3) : Z p l e R s m args below meth c D clV 101 a (ceV a q) 4 (MQ below (va_Qi Q (AtC D clV 101 a (ceV a q)) (inW a 101)) args s 0 0 (inW a 101)) h 6 [(0, .ref (a 12)), (1, .int x1), (2, .int x2), (3, .int x3)] [] := by
  unfold bp_V_greatest_6 at hw
  refine z_iload_n (pc := 6) X 3 d_V_greatest_6 rfl rfl ?_
  refine z_iload_n (pc := 7) X 1 d_V_greatest_7 rfl rfl ?_
  refine z_icmp_ge (tgt := 25) (pc := 8) X d_V_greatest_8 (by decide) (fun hc => ?_) (fun hc => ?_)
  · have hw := hw.1 hc
    refine z_iload_n (pc := 25) X 2 d_V_greatest_25 rfl rfl ?_
    exact z_iret (pc := 26) X d_V_greatest_26 hw
  · have hw := hw.2 hc
    refine z_iload_n (pc := 11) X 2 d_V_greatest_11 rfl rfl ?_
    refine z_aload_n (pc := 12) X 0 d_V_greatest_12 rfl rfl ?_
    refine z_iload_n (pc := 13) X 3 d_V_greatest_13 rfl rfl ?_
    obtain ⟨k1, hk1, ek1, hw⟩ := hw
    refine z_iald (i := 12) (pc := 14) X 0 (by decide) (cV_tVa _) rfl (by decide) hk1 ek1 d_V_greatest_14 ?_
    refine z_mmax (pc := 15) X lk135 lk136 lk137 lk138 (by decide) (Nat.le_of_ble_eq_true rfl) d_V_greatest_15 ?_
    refine z_istore_n (pc := 18) X d_V_greatest_18 rfl (by decide) rfl ?_
    refine z_iinc (v := (x3 + 1)) (pc := 19) X 3 d_V_greatest_19 rfl rfl (by decide) rfl ?_
    refine z_goto (tgt := 6) (pc := 22) X d_V_greatest_22 (by decide) ?_
    exact z_to [2, 3, 1, 0] rfl (hK6 _ _ _ _ hw)
theorem kl_V_greatest_6 {Q : Int32 → RS → Prop} (X : Cx p l R s m args meth c b_V_greatest 4 R_V (some .int) D clV (tyV q) a 101 1 21 tbW) : ∀ (n : Nat) (h : RS) (x1 : Int32) (x2 : Int32) (x3 : Int32), wp_V_greatest_6 Q n h x1 x2 x3 → Z p l e R s m args below meth c D clV 101 a (ceV a q) 4 (MQ below (va_Qi Q (AtC D clV 101 a (ceV a q)) (inW a 101)) args s 0 0 (inW a 101)) h 6 [(0, .ref (a 12)), (1, .int x1), (2, .int x2), (3, .int x3)] [] := by
  intro n
  induction n with
  | zero =>
    intro h x1 x2 x3 hw
    exact hw.elim
  | succ n ih =>
    intro h x1 x2 x3 hw
    exact kb_V_greatest_6 X ih hw
set_option maxHeartbeats 4000000 in
set_option maxRecDepth 100000 in
theorem kb_V_greatest_0 {Q : Int32 → RS → Prop} (X : Cx p l R s m args meth c b_V_greatest 4 R_V (some .int) D clV (tyV q) a 101 1 21 tbW) {h : RS} {x1 : Int32} (hw : bp_V_greatest_0 Q h x1) : Z p l e R s m args below meth c D clV 101 a (ceV a q) 4 (MQ below (va_Qi Q (AtC D clV 101 a (ceV a q)) (inW a 101)) args s 0 0 (inW a 101)) h 0 [(0, .ref (a 12)), (1, .int x1)] [] := by
  unfold bp_V_greatest_0 at hw
  refine z_aload_n (pc := 0) X 0 d_V_greatest_0 rfl rfl ?_
  refine z_iconst (v := (0 : Int32)) (pc := 1) X d_V_greatest_1 (by decide) ?_
  obtain ⟨k2, hk2, ek2, hw⟩ := hw
  refine z_iald (i := 12) (pc := 2) X 0 (by decide) (cV_tVa _) rfl (by decide) hk2 ek2 d_V_greatest_2 ?_
  refine z_istore_n (pc := 3) X d_V_greatest_3 rfl (by decide) rfl ?_
  refine z_iconst (v := (1 : Int32)) (pc := 4) X d_V_greatest_4 (by decide) ?_
  refine z_istore_n (pc := 5) X d_V_greatest_5 rfl (by decide) rfl ?_
  obtain ⟨n3, hw⟩ := hw
  exact z_to [2, 3, 1, 0] rfl (kl_V_greatest_6 X n3 _ _ _ _ hw)
theorem c_V_greatest {l : Launch} {D : va_G} {a : Nat → Nat} {q : Nat → ClassId} (hI : injW a 101) {h : RS} {x1 : Int32} {Q : Int32 → RS → Prop} (hw : wp_V_greatest h x1 Q) : Met l y_V_greatest [.code y_V_greatest b_V_greatest 4 (some .int)] { frames := 1, cells := 0, slots := 0, locals := 21 } (va_Pc [.ref (a 12), .int x1] (PreC tbW D clV (tyV q) 101 a (ceV a q) h)) (va_Qi Q (AtC D clV 101 a (ceV a q)) (inW a 101)) 0 0 (inW a 101) :=
  m_of (by decide +kernel) hI tb_ok (Nat.le_of_ble_eq_true rfl) (fun p e R s m below meth c X => kb_V_greatest_0 X hw)
set_option maxHeartbeats 4000000 in
set_option maxRecDepth 100000 in
theorem kb_Re_evaluate_0 {Q : Int32 → RS → Prop} (X : Cx p l R s m args meth c b_Re_evaluate 4 R_Re (some .int) D clV (tyV q) a 101 2 44 tbW) {h : RS} {i0 : Nat} {x1 : Int32} (hi0 : i0 < 8) (hw : bp_Re_evaluate_0 Q h i0 x1) : Z p l e R s m args below meth c D clV 101 a (ceV a q) 4 (MQ below (va_Qi Q (AtC D clV 101 a (ceV a q)) (inW a 101)) args s 0 0 (inW a 101)) h 0 [(0, .ref (a (29 + i0))), (1, .int x1), (2, .ref (a 12))] [] := by
  unfold bp_Re_evaluate_0 at hw
  refine z_aload_n (pc := 0) X 0 d_Re_evaluate_0 rfl rfl ?_
  refine z_get (i := (29 + i0)) (pc := 1) X (lt_ix hi0 (by decide)) (cV_Re _ hi0) rfl hin_Re 11 (by decide) lk36 rfl rfl d_Re_evaluate_1 ?_
  refine z_iload_n (pc := 4) X 1 d_Re_evaluate_4 rfl rfl ?_
  obtain ⟨k1, hk1, ek1, hw⟩ := hw
  refine z_iald (i := (93 + i0)) (pc := 5) X 0 (lt_ix hi0 (by decide)) (cV_aN _ hi0) rfl (by decide) hk1 ek1 d_Re_evaluate_5 ?_
  refine z_istore_n (pc := 6) X d_Re_evaluate_6 rfl (by decide) rfl ?_
  refine z_aload_n (pc := 7) X 1 d_Re_evaluate_7 rfl rfl ?_
  refine z_get (i := (29 + i0)) (pc := 8) X (lt_ix hi0 (by decide)) (cV_Re _ hi0) rfl hin_Re 9 (by decide) lk34 rfl rfl d_Re_evaluate_8 ?_
  refine z_iload_n (pc := 11) X 2 d_Re_evaluate_11 rfl rfl ?_
  obtain ⟨k2, hk2, ek2, hw⟩ := hw
  refine z_iald (i := (77 + i0)) (pc := 12) X 0 (lt_ix hi0 (by decide)) (cV_aK _ hi0) rfl (by decide) hk2 ek2 d_Re_evaluate_12 ?_
  refine z_sw (k := 1) (fun ek => ?_) (fun ek1 => ?_)
  · have hw := hw.1 ek
    refine z_tableIn (tgt := 44) (pc := 13) X d_Re_evaluate_13 (by rw [ek]; decide) (by rw [ek]; decide) (by rw [ek]; rfl) (by decide) ?_
    refine z_aload_n (pc := 44) X 3 d_Re_evaluate_44 rfl rfl ?_
    refine z_aload_n (pc := 45) X 1 d_Re_evaluate_45 rfl rfl ?_
    refine z_get (i := (29 + i0)) (pc := 46) X (lt_ix hi0 (by decide)) (cV_Re _ hi0) rfl hin_Re 10 (by decide) lk35 rfl rfl d_Re_evaluate_46 ?_
    refine z_iload_n (pc := 49) X 2 d_Re_evaluate_49 rfl rfl ?_
    obtain ⟨k3, hk3, ek3, hw⟩ := hw
    refine z_iald (i := (85 + i0)) (pc := 50) X 0 (lt_ix hi0 (by decide)) (cV_aP _ hi0) rfl (by decide) hk3 ek3 d_Re_evaluate_50 ?_
    obtain ⟨k4, hk4, ek4, hw⟩ := hw
    refine z_iald (i := 12) (pc := 51) X 0 (by decide) (cV_tVa _) rfl (by decide) hk4 ek4 d_Re_evaluate_51 ?_
    refine z_iload_n (pc := 52) X 0 d_Re_evaluate_52 rfl rfl ?_
    refine z_iadd (pc := 53) X d_Re_evaluate_53 ?_
    exact z_iret (pc := 54) X d_Re_evaluate_54 hw
  have hw := hw.2
  refine z_sw (k := 2) (fun ek => ?_) (fun ek2 => ?_)
  · have hw := hw.1 ek
    refine z_tableIn (tgt := 55) (pc := 13) X d_Re_evaluate_13 (by rw [ek]; decide) (by rw [ek]; decide) (by rw [ek]; rfl) (by decide) ?_
    refine z_aload_n (pc := 55) X 3 d_Re_evaluate_55 rfl rfl ?_
    refine z_aload_n (pc := 56) X 1 d_Re_evaluate_56 rfl rfl ?_
    refine z_get (i := (29 + i0)) (pc := 57) X (lt_ix hi0 (by decide)) (cV_Re _ hi0) rfl hin_Re 10 (by decide) lk35 rfl rfl d_Re_evaluate_57 ?_
    refine z_iload_n (pc := 60) X 2 d_Re_evaluate_60 rfl rfl ?_
    obtain ⟨k5, hk5, ek5, hw⟩ := hw
    refine z_iald (i := (85 + i0)) (pc := 61) X 0 (lt_ix hi0 (by decide)) (cV_aP _ hi0) rfl (by decide) hk5 ek5 d_Re_evaluate_61 ?_
    obtain ⟨k6, hk6, ek6, hw⟩ := hw
    refine z_iald (i := 12) (pc := 62) X 0 (by decide) (cV_tVa _) rfl (by decide) hk6 ek6 d_Re_evaluate_62 ?_
    refine z_iload_n (pc := 63) X 0 d_Re_evaluate_63 rfl rfl ?_
    refine z_imul (pc := 64) X d_Re_evaluate_64 ?_
    exact z_iret (pc := 65) X d_Re_evaluate_65 hw
  have hw := hw.2
  refine z_sw (k := 3) (fun ek => ?_) (fun ek3 => ?_)
  · have hw := hw.1 ek
    refine z_tableIn (tgt := 66) (pc := 13) X d_Re_evaluate_13 (by rw [ek]; decide) (by rw [ek]; decide) (by rw [ek]; rfl) (by decide) ?_
    refine z_aload_n (pc := 66) X 3 d_Re_evaluate_66 rfl rfl ?_
    refine z_aload_n (pc := 67) X 1 d_Re_evaluate_67 rfl rfl ?_
    refine z_get (i := (29 + i0)) (pc := 68) X (lt_ix hi0 (by decide)) (cV_Re _ hi0) rfl hin_Re 0 (by decide) lk6 rfl rfl d_Re_evaluate_68 ?_
    refine z_cSNl (pc := 71) X [.ref (a 12), .int (h (29 + i0) 0)] (c_V_sum X.2.2.2.2.2.2.2.2.1 hw) (by decide) (by decide) lk105 cd_V_sum lk11 lk106 nm_V_sum rfl rfl (Nat.le_of_ble_eq_true rfl) d_Re_evaluate_71 (fun r7 h8 hw => ?_)
    refine z_l2i (pc := 74) X d_Re_evaluate_74 ?_
    refine z_iload_n (pc := 75) X 0 d_Re_evaluate_75 rfl rfl ?_
    refine z_iadd (pc := 76) X d_Re_evaluate_76 ?_
    exact z_iret (pc := 77) X d_Re_evaluate_77 hw
  have hw := hw.2
  refine z_sw (k := 4) (fun ek => ?_) (fun ek4 => ?_)
  · have hw := hw.1 ek
    refine z_tableIn (tgt := 78) (pc := 13) X d_Re_evaluate_13 (by rw [ek]; decide) (by rw [ek]; decide) (by rw [ek]; rfl) (by decide) ?_
    refine z_aload_n (pc := 78) X 3 d_Re_evaluate_78 rfl rfl ?_
    refine z_aload_n (pc := 79) X 1 d_Re_evaluate_79 rfl rfl ?_
    refine z_get (i := (29 + i0)) (pc := 80) X (lt_ix hi0 (by decide)) (cV_Re _ hi0) rfl hin_Re 0 (by decide) lk6 rfl rfl d_Re_evaluate_80 ?_
    refine z_cSNi (pc := 83) X [.ref (a 12), .int (h (29 + i0) 0)] (c_V_greatest X.2.2.2.2.2.2.2.2.1 hw) (by decide) (by decide) lk139 cd_V_greatest lk11 lk140 nm_V_greatest rfl rfl (Nat.le_of_ble_eq_true rfl) d_Re_evaluate_83 (fun r9 h10 hw => ?_)
    exact z_iret (pc := 86) X d_Re_evaluate_86 hw
  have hw := hw.2
  have hw := hw ek1 ek2 ek3 ek4
  refine z_tableOut (tgt := 87) (pc := 13) X d_Re_evaluate_13 (sw_1_4 ek1 ek2 ek3 ek4) (by decide) ?_
  refine z_iload_n (pc := 87) X 0 d_Re_evaluate_87 rfl rfl ?_
  exact z_iret (pc := 88) X d_Re_evaluate_88 hw
theorem c_Re_evaluate {l : Launch} {D : va_G} {a : Nat → Nat} {q : Nat → ClassId} (hI : injW a 101) {h : RS} {i0 : Nat} {x1 : Int32} (hi0 : i0 < 8) {Q : Int32 → RS → Prop} (hw : wp_Re_evaluate h i0 x1 Q) : Met l y_Re_evaluate [.code y_Re_evaluate b_Re_evaluate 4 (some .int)] { frames := 2, cells := 0, slots := 0, locals := 44 } (va_Pc [.ref (a (29 + i0)), .int x1, .ref (a 12)] (PreC tbW D clV (tyV q) 101 a (ceV a q) h)) (va_Qi Q (AtC D clV 101 a (ceV a q)) (inW a 101)) 0 0 (inW a 101) :=
  m_of (by decide +kernel) hI tb_ok (Nat.le_of_ble_eq_true rfl) (fun p e R s m below meth c X => kb_Re_evaluate_0 X hi0 hw)
set_option maxHeartbeats 4000000 in
set_option maxRecDepth 100000 in
theorem kb_V_fire_38 {Q : RS → Prop} (X : Cx p l R s m args meth c b_V_fire 5 R_V none D clV (tyV q) a 101 3 67 tbW) {K38 : RS → Int32 → Nat → Int32 → Prop} (hK38 : ∀ (h : RS) (x1 : Int32) (i2 : Nat) (x3 : Int32), i2 < 8 → K38 h x1 i2 x3 → Z p l e R s m args below meth c D clV 101 a (ceV a q) 5 (MQ below (va_Qv Q (AtC D clV 101 a (ceV a q)) (inW a 101)) args s 0 0 (inW a 101)) h 38 [(0, .ref (a 0)), (1, .int x1), (2, .ref (a (29 + i2))), (3, .int x3)] []) {h : RS} {x1 : Int32} {i2 : Nat} {x3 : Int32} (hi2 : i2 < 8) (hw : bp_V_fire_38 K38 Q h x1 i2 x3) : Z p l e R s m args below meth c D clV 101 a (ceV a q) 5 (MQ below (va_Qv Q (AtC D clV 101 a (ceV a q)) (inW a 101)) args s 0 0 (inW a 101)) h 38 [(0, .ref (a 0)), (1, .int x1), (2, .ref (a (29 + i2))), (3, .int x3)] [] := by
  unfold bp_V_fire_38 at hw
  refine z_iload_n (pc := 38) X 3 d_V_fire_38 rfl rfl ?_
  refine z_aload_n (pc := 39) X 2 d_V_fire_39 rfl rfl ?_
  refine z_getN (i := (29 + i2)) (pc := 40) X (lt_ix hi2 (by decide)) (cV_Re _ hi2) rfl hin_Re 6 (by decide) lk141 rfl rfl d_V_fire_40 ?_
  refine z_icmp_ge (tgt := 115) (pc := 43) X d_V_fire_43 (by decide) (fun hc => ?_) (fun hc => ?_)
  · have hw := hw.1 hc
    refine z_aload_n (pc := 115) X 0 d_V_fire_115 rfl rfl ?_
    refine z_get (i := 0) (pc := 116) X (by decide) (cV_V _) rfl hin_V 7 (by decide) lk133 rfl rfl d_V_fire_116 ?_
    refine z_aload_n (pc := 119) X 0 d_V_fire_119 rfl rfl ?_
    refine z_get (i := 0) (pc := 120) X (by decide) (cV_V _) rfl hin_V 8 (by decide) lk132 rfl rfl d_V_fire_120 ?_
    refine z_iload_n (pc := 123) X 1 d_V_fire_123 rfl rfl ?_
    obtain ⟨k1, hk1, ek1, hw⟩ := hw
    refine z_iast (i := 5) (pc := 124) X 0 (by decide) (fun g => (cV_Fir g)) rfl (by decide) hk1 ek1 d_V_fire_124 ?_
    have hw := hw _ rfl
    refine z_aload_n (pc := 125) X 0 d_V_fire_125 rfl rfl ?_
    refine z_dup (pc := 126) X d_V_fire_126 rfl ?_
    refine z_get (i := 0) (pc := 127) X (by decide) (cV_V _) rfl hin_V 8 (by decide) lk132 rfl rfl d_V_fire_127 ?_
    refine z_iconst (v := (1 : Int32)) (pc := 130) X d_V_fire_130 (by decide) ?_
    refine z_iadd (pc := 131) X d_V_fire_131 ?_
    refine z_put (i := 0) (pc := 132) X (by decide) (cV_V _) rfl hin_V t_V t_V_ok n_V 8 (by decide) lk132 rfl rfl (t_V_ok 8 (by decide)) rfl rfl (Nat.le_of_ble_eq_true rfl) (cV_V _) d_V_fire_132 ?_
    have hw := hw _ rfl
    exact z_vret (pc := 135) X d_V_fire_135 hw
  · have hw := hw.2 hc
    refine z_aload_n (pc := 46) X 2 d_V_fire_46 rfl rfl ?_
    refine z_iload_n (pc := 47) X 3 d_V_fire_47 rfl rfl ?_
    refine z_aload_n (pc := 48) X 0 d_V_fire_48 rfl rfl ?_
    refine z_get (i := 0) (pc := 49) X (by decide) (cV_V _) rfl hin_V 6 (by decide) lk128 rfl rfl d_V_fire_49 ?_
    refine z_getN (i := 4) (pc := 52) X (by decide) (cV_Mat _) rfl hin_Mt 1 (by decide) lk119 rfl rfl d_V_fire_52 ?_
    refine z_cVNi (i := (29 + i2)) (pc := 55) X [.int x3, .ref (a 12)] (c_Re_evaluate X.2.2.2.2.2.2.2.2.1 hi2 hw) (by decide) (by decide) lk142 cd_Re_evaluate lk22 lk143 lk144 (lt_ix hi2 (by decide)) (cV_Re _ hi2) rfl nm_Re_evaluate rfl rfl (Nat.le_of_ble_eq_true rfl) d_V_fire_55 (fun r4 h5 hw => ?_)
    refine z_istore (pc := 58) X d_V_fire_58 (by decide) rfl ?_
    refine z_aload_n (pc := 60) X 3 d_V_fire_60 rfl rfl ?_
    refine z_getN (i := (29 + i2)) (pc := 61) X (lt_ix hi2 (by decide)) (cV_Re _ hi2) rfl hin_Re 7 (by decide) lk145 rfl rfl d_V_fire_61 ?_
    refine z_iload_n (pc := 64) X 4 d_V_fire_64 rfl rfl ?_
    obtain ⟨k6, hk6, ek6, hw⟩ := hw
    refine z_zald (i := (61 + i2)) (pc := 65) X 1 (lt_ix hi2 (by decide)) (cV_aS _ hi2) rfl (by decide) hk6 ek6 d_V_fire_65 ?_
    refine z_if_eq (tgt := 85) (pc := 66) X d_V_fire_66 (by decide) (fun hc => ?_) (fun hc => ?_)
    · have hw := hw.1 hc
      refine z_aload_n (pc := 85) X 1 d_V_fire_85 rfl rfl ?_
      refine z_get (i := 0) (pc := 86) X (by decide) (cV_V _) rfl hin_V 5 (by decide) lk64 rfl rfl d_V_fire_86 ?_
      refine z_getN (i := 3) (pc := 89) X (by decide) (cV_Msgs _) rfl hin_Ms 5 (by decide) lk146 rfl rfl d_V_fire_89 ?_
      refine z_aload_n (pc := 92) X 1 d_V_fire_92 rfl rfl ?_
      refine z_get (i := 0) (pc := 93) X (by decide) (cV_V _) rfl hin_V 6 (by decide) lk128 rfl rfl d_V_fire_93 ?_
      refine z_getN (i := 4) (pc := 96) X (by decide) (cV_Mat _) rfl hin_Mt 0 (by decide) lk118 rfl rfl d_V_fire_96 ?_
      refine z_aload_n (pc := 99) X 3 d_V_fire_99 rfl rfl ?_
      refine z_getN (i := (29 + i2)) (pc := 100) X (lt_ix hi2 (by decide)) (cV_Re _ hi2) rfl hin_Re 8 (by decide) lk147 rfl rfl d_V_fire_100 ?_
      refine z_iload_n (pc := 103) X 4 d_V_fire_103 rfl rfl ?_
      obtain ⟨k7, hk7, ek7, hw⟩ := hw
      refine z_iald (i := (69 + i2)) (pc := 104) X 0 (lt_ix hi2 (by decide)) (cV_aT _ hi2) rfl (by decide) hk7 ek7 d_V_fire_104 ?_
      obtain ⟨k8, hk8, ek8, hw⟩ := hw
      refine z_iald (i := 11) (pc := 105) X 0 (by decide) (cV_tNu _) rfl (by decide) hk8 ek8 d_V_fire_105 ?_
      refine z_iload (pc := 106) X 0 d_V_fire_106 rfl ?_
      obtain ⟨k9, hk9, ek9, hw⟩ := hw
      refine z_iast (i := 10) (pc := 108) X 0 (by decide) (fun g => (cV_mAn g)) rfl (by decide) hk9 ek9 d_V_fire_108 ?_
      have hw := hw _ rfl
      refine z_iinc (v := (x3 + 1)) (pc := 109) X 4 d_V_fire_109 rfl rfl (by decide) rfl ?_
      refine z_goto (tgt := 38) (pc := 112) X d_V_fire_112 (by decide) ?_
      exact z_to [2, 3, 4, 0] rfl (hK38 _ _ _ _ hi2 hw)
    · have hw := hw.2 hc
      refine z_aload_n (pc := 69) X 1 d_V_fire_69 rfl rfl ?_
      refine z_aload_n (pc := 70) X 3 d_V_fire_70 rfl rfl ?_
      refine z_getN (i := (29 + i2)) (pc := 71) X (lt_ix hi2 (by decide)) (cV_Re _ hi2) rfl hin_Re 8 (by decide) lk147 rfl rfl d_V_fire_71 ?_
      refine z_iload_n (pc := 74) X 4 d_V_fire_74 rfl rfl ?_
      obtain ⟨k11, hk11, ek11, hw⟩ := hw
      refine z_iald (i := (69 + i2)) (pc := 75) X 0 (lt_ix hi2 (by decide)) (cV_aT _ hi2) rfl (by decide) hk11 ek11 d_V_fire_75 ?_
      refine z_iload (pc := 76) X 0 d_V_fire_76 rfl ?_
      refine z_cVi (i := 0) (pc := 78) X [.int (h5 (69 + i2) k11), .int r4] (c_V_makeMessage X.2.2.2.2.2.2.2.2.1 hw) (by decide) (by decide) lk75 cd_V_makeMessage lk11 lk76 lk77 (by decide) (cV_V _) rfl nm_V_makeMessage rfl rfl (Nat.le_of_ble_eq_true rfl) d_V_fire_78 (fun r12 h13 hw => ?_)
      refine z_pop (pc := 81) X d_V_fire_81 rfl ?_
      refine z_goto (tgt := 109) (pc := 82) X d_V_fire_82 (by decide) ?_
      refine z_iinc (v := (x3 + 1)) (pc := 109) X 4 d_V_fire_109 rfl rfl (by decide) rfl ?_
      refine z_goto (tgt := 38) (pc := 112) X d_V_fire_112 (by decide) ?_
      exact z_to [2, 3, 4, 0] rfl (hK38 _ _ _ _ hi2 hw)
theorem kl_V_fire_38 {Q : RS → Prop} (X : Cx p l R s m args meth c b_V_fire 5 R_V none D clV (tyV q) a 101 3 67 tbW) : ∀ (n : Nat) (h : RS) (x1 : Int32) (i2 : Nat) (x3 : Int32), i2 < 8 → wp_V_fire_38 Q n h x1 i2 x3 → Z p l e R s m args below meth c D clV 101 a (ceV a q) 5 (MQ below (va_Qv Q (AtC D clV 101 a (ceV a q)) (inW a 101)) args s 0 0 (inW a 101)) h 38 [(0, .ref (a 0)), (1, .int x1), (2, .ref (a (29 + i2))), (3, .int x3)] [] := by
  intro n
  induction n with
  | zero =>
    intro h x1 i2 x3 hi2 hw
    exact hw.elim
  | succ n ih =>
    intro h x1 i2 x3 hi2 hw
    exact kb_V_fire_38 X ih hi2 hw
set_option maxHeartbeats 4000000 in
set_option maxRecDepth 100000 in
theorem kb_V_fire_9 {Q : RS → Prop} (X : Cx p l R s m args meth c b_V_fire 5 R_V none D clV (tyV q) a 101 3 67 tbW) {K9 : RS → Int32 → Nat → Int32 → Prop} (hK9 : ∀ (h : RS) (x1 : Int32) (i2 : Nat) (x3 : Int32), i2 < 8 → K9 h x1 i2 x3 → Z p l e R s m args below meth c D clV 101 a (ceV a q) 5 (MQ below (va_Qv Q (AtC D clV 101 a (ceV a q)) (inW a 101)) args s 0 0 (inW a 101)) h 9 [(0, .ref (a 0)), (1, .int x1), (2, .ref (a (29 + i2))), (3, .int x3)] []) {h : RS} {x1 : Int32} {i2 : Nat} {x3 : Int32} (hi2 : i2 < 8) (hw : bp_V_fire_9 K9 Q h x1 i2 x3) : Z p l e R s m args below meth c D clV 101 a (ceV a q) 5 (MQ below (va_Qv Q (AtC D clV 101 a (ceV a q)) (inW a 101)) args s 0 0 (inW a 101)) h 9 [(0, .ref (a 0)), (1, .int x1), (2, .ref (a (29 + i2))), (3, .int x3)] [] := by
  unfold bp_V_fire_9 at hw
  refine z_iload_n (pc := 9) X 3 d_V_fire_9 rfl rfl ?_
  refine z_aload_n (pc := 10) X 2 d_V_fire_10 rfl rfl ?_
  refine z_getN (i := (29 + i2)) (pc := 11) X (lt_ix hi2 (by decide)) (cV_Re _ hi2) rfl hin_Re 0 (by decide) lk20 rfl rfl d_V_fire_11 ?_
  refine z_icmp_ge (tgt := 36) (pc := 14) X d_V_fire_14 (by decide) (fun hc => ?_) (fun hc => ?_)
  · have hw := hw.1 hc
    refine z_iconst (v := (0 : Int32)) (pc := 36) X d_V_fire_36 (by decide) ?_
    refine z_istore_n (pc := 37) X d_V_fire_37 rfl (by decide) rfl ?_
    obtain ⟨n14, hw⟩ := hw
    exact z_to [1, 2, 3, 0] rfl (kl_V_fire_38 X n14 _ _ _ _ hi2 hw)
  · have hw := hw.2 hc
    refine z_aload_n (pc := 17) X 0 d_V_fire_17 rfl rfl ?_
    refine z_aload_n (pc := 18) X 0 d_V_fire_18 rfl rfl ?_
    refine z_get (i := 0) (pc := 19) X (by decide) (cV_V _) rfl hin_V 6 (by decide) lk128 rfl rfl d_V_fire_19 ?_
    refine z_getN (i := 4) (pc := 22) X (by decide) (cV_Mat _) rfl hin_Mt 0 (by decide) lk118 rfl rfl d_V_fire_22 ?_
    refine z_iload_n (pc := 25) X 3 d_V_fire_25 rfl rfl ?_
    obtain ⟨k15, hk15, ek15, hw⟩ := hw
    refine z_iald (i := 11) (pc := 26) X 0 (by decide) (cV_tNu _) rfl (by decide) hk15 ek15 d_V_fire_26 ?_
    refine z_cVv (i := 0) (pc := 27) X [.int (h 11 k15)] (c_V_consume X.2.2.2.2.2.2.2.2.1 hw) (by decide) (by decide) lk148 cd_V_consume lk11 lk149 lk150 (by decide) (cV_V _) rfl nm_V_consume rfl rfl (Nat.le_of_ble_eq_true rfl) d_V_fire_27 (fun h16 hw => ?_)
    refine z_iinc (v := (x3 + 1)) (pc := 30) X 3 d_V_fire_30 rfl rfl (by decide) rfl ?_
    refine z_goto (tgt := 9) (pc := 33) X d_V_fire_33 (by decide) ?_
    exact z_to [1, 2, 3, 0] rfl (hK9 _ _ _ _ hi2 hw)
theorem kl_V_fire_9 {Q : RS → Prop} (X : Cx p l R s m args meth c b_V_fire 5 R_V none D clV (tyV q) a 101 3 67 tbW) : ∀ (n : Nat) (h : RS) (x1 : Int32) (i2 : Nat) (x3 : Int32), i2 < 8 → wp_V_fire_9 Q n h x1 i2 x3 → Z p l e R s m args below meth c D clV 101 a (ceV a q) 5 (MQ below (va_Qv Q (AtC D clV 101 a (ceV a q)) (inW a 101)) args s 0 0 (inW a 101)) h 9 [(0, .ref (a 0)), (1, .int x1), (2, .ref (a (29 + i2))), (3, .int x3)] [] := by
  intro n
  induction n with
  | zero =>
    intro h x1 i2 x3 hi2 hw
    exact hw.elim
  | succ n ih =>
    intro h x1 i2 x3 hi2 hw
    exact kb_V_fire_9 X ih hi2 hw
set_option maxHeartbeats 4000000 in
set_option maxRecDepth 100000 in
theorem kb_V_fire_0 {Q : RS → Prop} (X : Cx p l R s m args meth c b_V_fire 5 R_V none D clV (tyV q) a 101 3 67 tbW) {h : RS} {x1 : Int32} (hw : bp_V_fire_0 Q h x1) : Z p l e R s m args below meth c D clV 101 a (ceV a q) 5 (MQ below (va_Qv Q (AtC D clV 101 a (ceV a q)) (inW a 101)) args s 0 0 (inW a 101)) h 0 [(0, .ref (a 0)), (1, .int x1)] [] := by
  unfold bp_V_fire_0 at hw
  refine z_aload_n (pc := 0) X 0 d_V_fire_0 rfl rfl ?_
  refine z_get (i := 0) (pc := 1) X (by decide) (cV_V _) rfl hin_V 2 (by decide) lk19 rfl rfl d_V_fire_1 ?_
  refine z_iload_n (pc := 4) X 1 d_V_fire_4 rfl rfl ?_
  obtain ⟨k17, hk17, ek17, hw⟩ := hw
  refine z_aald (i := 2) (g := fun j => 29 + j) (pc := 5) X 3 (by decide) (cV_Res _) rfl (by decide) hk17 ek17 d_V_fire_5 ?_
  refine z_astore_n (pc := 6) X d_V_fire_6 rfl (by decide) rfl ?_
  refine z_iconst (v := (0 : Int32)) (pc := 7) X d_V_fire_7 (by decide) ?_
  refine z_istore_n (pc := 8) X d_V_fire_8 rfl (by decide) rfl ?_
  obtain ⟨n18, hw⟩ := hw
  exact z_to [2, 3, 1, 0] rfl (kl_V_fire_9 X n18 _ _ _ _ hk17 hw)
theorem c_V_fire {l : Launch} {D : va_G} {a : Nat → Nat} {q : Nat → ClassId} (hI : injW a 101) {h : RS} {x1 : Int32} {Q : RS → Prop} (hw : wp_V_fire h x1 Q) : Met l y_V_fire [.code y_V_fire b_V_fire 5 none] { frames := 3, cells := 0, slots := 0, locals := 67 } (va_Pc [.ref (a 0), .int x1] (PreC tbW D clV (tyV q) 101 a (ceV a q) h)) (va_Qv Q (AtC D clV 101 a (ceV a q)) (inW a 101)) 0 0 (inW a 101) :=
  m_of (by decide +kernel) hI tb_ok (Nat.le_of_ble_eq_true rfl) (fun p e R s m below meth c X => kb_V_fire_0 X hw)
set_option maxHeartbeats 4000000 in
set_option maxRecDepth 100000 in
theorem kb_V_react_19 {Q : Int32 → RS → Prop} (X : Cx p l R s m args meth c b_V_react 4 R_V (some .int) D clV (tyV q) a 101 10 257 tbW) {K19 : RS → Int32 → Int32 → Prop} (hK19 : ∀ (h : RS) (x1 : Int32) (x2 : Int32), K19 h x1 x2 → Z p l e R s m args below meth c D clV 101 a (ceV a q) 4 (MQ below (va_Qi Q (AtC D clV 101 a (ceV a q)) (inW a 101)) args s 0 0 (inW a 101)) h 19 [(0, .ref (a 0)), (1, .int x1), (2, .int x2)] []) {h : RS} {x1 : Int32} {x2 : Int32} (hw : bp_V_react_19 K19 Q h x1 x2) : Z p l e R s m args below meth c D clV 101 a (ceV a q) 4 (MQ below (va_Qi Q (AtC D clV 101 a (ceV a q)) (inW a 101)) args s 0 0 (inW a 101)) h 19 [(0, .ref (a 0)), (1, .int x1), (2, .int x2)] [] := by
  unfold bp_V_react_19 at hw
  refine z_iload_n (pc := 19) X 2 d_V_react_19 rfl rfl ?_
  refine z_iload_n (pc := 20) X 1 d_V_react_20 rfl rfl ?_
  refine z_icmp_ge (tgt := 47) (pc := 21) X d_V_react_21 (by decide) (fun hc => ?_) (fun hc => ?_)
  · have hw := hw.1 hc
    refine z_iload_n (pc := 47) X 1 d_V_react_47 rfl rfl ?_
    exact z_iret (pc := 48) X d_V_react_48 hw
  · have hw := hw.2 hc
    refine z_aload_n (pc := 24) X 0 d_V_react_24 rfl rfl ?_
    refine z_cVi (i := 0) (pc := 25) X [] (c_V_findNext X.2.2.2.2.2.2.2.2.1 hw) (by decide) (by decide) lk151 cd_V_findNext lk11 lk152 lk153 (by decide) (cV_V _) rfl nm_V_findNext rfl rfl (Nat.le_of_ble_eq_true rfl) d_V_react_25 (fun r1 h2 hw => ?_)
    refine z_istore_n (pc := 28) X d_V_react_28 rfl (by decide) rfl ?_
    refine z_iload_n (pc := 29) X 0 d_V_react_29 rfl rfl ?_
    refine z_iconst (v := (-1 : Int32)) (pc := 30) X d_V_react_30 (by decide) ?_
    refine z_icmp_ne (tgt := 36) (pc := 31) X d_V_react_31 (by decide) (fun hc => ?_) (fun hc => ?_)
    · have hw := hw.1 hc
      refine z_aload_n (pc := 36) X 1 d_V_react_36 rfl rfl ?_
      refine z_iload_n (pc := 37) X 0 d_V_react_37 rfl rfl ?_
      refine z_cVv (i := 0) (pc := 38) X [.int r1] (c_V_fire X.2.2.2.2.2.2.2.2.1 hw) (by decide) (by decide) lk154 cd_V_fire lk11 lk155 lk156 (by decide) (cV_V _) rfl nm_V_fire rfl rfl (Nat.le_of_ble_eq_true rfl) d_V_react_38 (fun h3 hw => ?_)
      refine z_iinc (v := (x2 + 1)) (pc := 41) X 3 d_V_react_41 rfl rfl (by decide) rfl ?_
      refine z_goto (tgt := 19) (pc := 44) X d_V_react_44 (by decide) ?_
      exact z_to [2, 3, 0] rfl (hK19 _ _ _ hw)
    · have hw := hw.2 hc
      refine z_iload_n (pc := 34) X 3 d_V_react_34 rfl rfl ?_
      exact z_iret (pc := 35) X d_V_react_35 hw
theorem kl_V_react_19 {Q : Int32 → RS → Prop} (X : Cx p l R s m args meth c b_V_react 4 R_V (some .int) D clV (tyV q) a 101 10 257 tbW) : ∀ (n : Nat) (h : RS) (x1 : Int32) (x2 : Int32), wp_V_react_19 Q n h x1 x2 → Z p l e R s m args below meth c D clV 101 a (ceV a q) 4 (MQ below (va_Qi Q (AtC D clV 101 a (ceV a q)) (inW a 101)) args s 0 0 (inW a 101)) h 19 [(0, .ref (a 0)), (1, .int x1), (2, .int x2)] [] := by
  intro n
  induction n with
  | zero =>
    intro h x1 x2 hw
    exact hw.elim
  | succ n ih =>
    intro h x1 x2 hw
    exact kb_V_react_19 X ih hw
set_option maxHeartbeats 4000000 in
set_option maxRecDepth 100000 in
theorem kb_V_react_0 {Q : Int32 → RS → Prop} (X : Cx p l R s m args meth c b_V_react 4 R_V (some .int) D clV (tyV q) a 101 10 257 tbW) {h : RS} {x1 : Int32} (hw : bp_V_react_0 Q h x1) : Z p l e R s m args below meth c D clV 101 a (ceV a q) 4 (MQ below (va_Qi Q (AtC D clV 101 a (ceV a q)) (inW a 101)) args s 0 0 (inW a 101)) h 0 [(0, .ref (a 0)), (1, .int x1)] [] := by
  unfold bp_V_react_0 at hw
  refine z_aload_n (pc := 0) X 0 d_V_react_0 rfl rfl ?_
  refine z_get (i := 0) (pc := 1) X (by decide) (cV_V _) rfl hin_V 4 (by decide) lk1 rfl rfl d_V_react_1 ?_
  refine z_if_eq (tgt := 15) (pc := 4) X d_V_react_4 (by decide) (fun hc => ?_) (fun hc => ?_)
  · have hw := hw.1 hc
    refine z_iconst (v := (-1 : Int32)) (pc := 15) X d_V_react_15 (by decide) ?_
    exact z_iret (pc := 16) X d_V_react_16 hw
  · have hw := hw.2 hc
    refine z_iload_n (pc := 7) X 1 d_V_react_7 rfl rfl ?_
    refine z_iconst (v := (5 : Int32)) (pc := 8) X d_V_react_8 (by decide) ?_
    refine z_cSi (pc := 9) X [.int x1, .int (5 : Int32)] (c_V_isWithin X.2.2.2.2.2.2.2.2.1 hw) (by decide) (by decide) lk17 cd_V_isWithin lk11 lk18 nm_V_isWithin rfl rfl (Nat.le_of_ble_eq_true rfl) d_V_react_9 (fun r4 h5 hw => ?_)
    refine z_if_ne (tgt := 17) (pc := 12) X d_V_react_12 (by decide) (fun hc => ?_) (fun hc => ?_)
    · have hw := hw.1 hc
      refine z_iconst (v := (0 : Int32)) (pc := 17) X d_V_react_17 (by decide) ?_
      refine z_istore_n (pc := 18) X d_V_react_18 rfl (by decide) rfl ?_
      obtain ⟨n6, hw⟩ := hw
      exact z_to [1, 2, 0] rfl (kl_V_react_19 X n6 _ _ _ hw)
    · have hw := hw.2 hc
      refine z_iconst (v := (-1 : Int32)) (pc := 15) X d_V_react_15 (by decide) ?_
      exact z_iret (pc := 16) X d_V_react_16 hw
theorem c_V_react {l : Launch} {D : va_G} {a : Nat → Nat} {q : Nat → ClassId} (hI : injW a 101) {h : RS} {x1 : Int32} {Q : Int32 → RS → Prop} (hw : wp_V_react h x1 Q) : Met l y_V_react [.code y_V_react b_V_react 4 (some .int)] { frames := 10, cells := 0, slots := 0, locals := 257 } (va_Pc [.ref (a 0), .int x1] (PreC tbW D clV (tyV q) 101 a (ceV a q) h)) (va_Qi Q (AtC D clV 101 a (ceV a q)) (inW a 101)) 0 0 (inW a 101) :=
  m_of (by decide +kernel) hI tb_ok (Nat.le_of_ble_eq_true rfl) (fun p e R s m below meth c X => kb_V_react_0 X hw)
set_option maxHeartbeats 4000000 in
set_option maxRecDepth 100000 in
theorem kb_V_enabled_4 {Q : Int32 → RS → Prop} (X : Cx p l R s m args meth c b_V_enabled 3 R_V (some .int) D clV (tyV q) a 101 9 234 tbW) {K4 : RS → Int32 → Int32 → Prop} (hK4 : ∀ (h : RS) (x1 : Int32) (x2 : Int32), K4 h x1 x2 → Z p l e R s m args below meth c D clV 101 a (ceV a q) 3 (MQ below (va_Qi Q (AtC D clV 101 a (ceV a q)) (inW a 101)) args s 0 0 (inW a 101)) h 4 [(0, .ref (a 0)), (1, .int x1), (2, .int x2)] []) {h : RS} {x1 : Int32} {x2 : Int32} (hw : bp_V_enabled_4 K4 Q h x1 x2) : Z p l e R s m args below meth c D clV 101 a (ceV a q) 3 (MQ below (va_Qi Q (AtC D clV 101 a (ceV a q)) (inW a 101)) args s 0 0 (inW a 101)) h 4 [(0, .ref (a 0)), (1, .int x1), (2, .int x2)] [] := by
  unfold bp_V_enabled_4 at hw
  refine z_iload_n (pc := 4) X 2 d_V_enabled_4 rfl rfl ?_
  refine z_aload_n (pc := 5) X 0 d_V_enabled_5 rfl rfl ?_
  refine z_get (i := 0) (pc := 6) X (by decide) (cV_V _) rfl hin_V 3 (by decide) lk5 rfl rfl d_V_enabled_6 ?_
  refine z_icmp_ge (tgt := 32) (pc := 9) X d_V_enabled_9 (by decide) (fun hc => ?_) (fun hc => ?_)
  · have hw := hw.1 hc
    refine z_iload_n (pc := 32) X 1 d_V_enabled_32 rfl rfl ?_
    exact z_iret (pc := 33) X d_V_enabled_33 hw
  · have hw := hw.2 hc
    refine z_aload_n (pc := 12) X 0 d_V_enabled_12 rfl rfl ?_
    refine z_iload_n (pc := 13) X 2 d_V_enabled_13 rfl rfl ?_
    refine z_cVi (i := 0) (pc := 14) X [.int x2] (c_V_findEnabledMatch X.2.2.2.2.2.2.2.2.1 hw) (by decide) (by decide) lk129 cd_V_findEnabledMatch lk11 lk130 lk131 (by decide) (cV_V _) rfl nm_V_findEnabledMatch rfl rfl (Nat.le_of_ble_eq_true rfl) d_V_enabled_14 (fun r1 h2 hw => ?_)
    refine z_if_eq (tgt := 26) (pc := 17) X d_V_enabled_17 (by decide) (fun hc => ?_) (fun hc => ?_)
    · have hw := hw.1 hc
      refine z_iinc (v := (x2 + 1)) (pc := 26) X 2 d_V_enabled_26 rfl rfl (by decide) rfl ?_
      refine z_goto (tgt := 4) (pc := 29) X d_V_enabled_29 (by decide) ?_
      exact z_to [1, 2, 0] rfl (hK4 _ _ _ hw)
    · have hw := hw.2 hc
      refine z_iload_n (pc := 20) X 1 d_V_enabled_20 rfl rfl ?_
      refine z_iconst (v := (1 : Int32)) (pc := 21) X d_V_enabled_21 (by decide) ?_
      refine z_iload_n (pc := 22) X 2 d_V_enabled_22 rfl rfl ?_
      refine z_ishl (pc := 23) X d_V_enabled_23 ?_
      refine z_ior (pc := 24) X d_V_enabled_24 ?_
      refine z_istore_n (pc := 25) X d_V_enabled_25 rfl (by decide) rfl ?_
      refine z_iinc (v := (x2 + 1)) (pc := 26) X 2 d_V_enabled_26 rfl rfl (by decide) rfl ?_
      refine z_goto (tgt := 4) (pc := 29) X d_V_enabled_29 (by decide) ?_
      exact z_to [2, 1, 0] rfl (hK4 _ _ _ hw)
theorem kl_V_enabled_4 {Q : Int32 → RS → Prop} (X : Cx p l R s m args meth c b_V_enabled 3 R_V (some .int) D clV (tyV q) a 101 9 234 tbW) : ∀ (n : Nat) (h : RS) (x1 : Int32) (x2 : Int32), wp_V_enabled_4 Q n h x1 x2 → Z p l e R s m args below meth c D clV 101 a (ceV a q) 3 (MQ below (va_Qi Q (AtC D clV 101 a (ceV a q)) (inW a 101)) args s 0 0 (inW a 101)) h 4 [(0, .ref (a 0)), (1, .int x1), (2, .int x2)] [] := by
  intro n
  induction n with
  | zero =>
    intro h x1 x2 hw
    exact hw.elim
  | succ n ih =>
    intro h x1 x2 hw
    exact kb_V_enabled_4 X ih hw
set_option maxHeartbeats 4000000 in
set_option maxRecDepth 100000 in
theorem kb_V_enabled_0 {Q : Int32 → RS → Prop} (X : Cx p l R s m args meth c b_V_enabled 3 R_V (some .int) D clV (tyV q) a 101 9 234 tbW) {h : RS} (hw : bp_V_enabled_0 Q h) : Z p l e R s m args below meth c D clV 101 a (ceV a q) 3 (MQ below (va_Qi Q (AtC D clV 101 a (ceV a q)) (inW a 101)) args s 0 0 (inW a 101)) h 0 [(0, .ref (a 0))] [] := by
  unfold bp_V_enabled_0 at hw
  refine z_iconst (v := (0 : Int32)) (pc := 0) X d_V_enabled_0 (by decide) ?_
  refine z_istore_n (pc := 1) X d_V_enabled_1 rfl (by decide) rfl ?_
  refine z_iconst (v := (0 : Int32)) (pc := 2) X d_V_enabled_2 (by decide) ?_
  refine z_istore_n (pc := 3) X d_V_enabled_3 rfl (by decide) rfl ?_
  obtain ⟨n3, hw⟩ := hw
  exact z_to [2, 1, 0] rfl (kl_V_enabled_4 X n3 _ _ _ hw)
theorem c_V_enabled {l : Launch} {D : va_G} {a : Nat → Nat} {q : Nat → ClassId} (hI : injW a 101) {h : RS} {Q : Int32 → RS → Prop} (hw : wp_V_enabled h Q) : Met l y_V_enabled [.code y_V_enabled b_V_enabled 3 (some .int)] { frames := 9, cells := 0, slots := 0, locals := 234 } (va_Pc [.ref (a 0)] (PreC tbW D clV (tyV q) 101 a (ceV a q) h)) (va_Qi Q (AtC D clV 101 a (ceV a q)) (inW a 101)) 0 0 (inW a 101) :=
  m_of (by decide +kernel) hI tb_ok (Nat.le_of_ble_eq_true rfl) (fun p e R s m below meth c X => kb_V_enabled_0 X hw)
set_option maxHeartbeats 4000000 in
set_option maxRecDepth 100000 in
theorem kb_V_next_0 {Q : Int32 → RS → Prop} (X : Cx p l R s m args meth c b_V_next 1 R_V (some .int) D clV (tyV q) a 101 10 257 tbW) {h : RS} (hw : bp_V_next_0 Q h) : Z p l e R s m args below meth c D clV 101 a (ceV a q) 1 (MQ below (va_Qi Q (AtC D clV 101 a (ceV a q)) (inW a 101)) args s 0 0 (inW a 101)) h 0 [(0, .ref (a 0))] [] := by
  unfold bp_V_next_0 at hw
  refine z_aload_n (pc := 0) X 0 d_V_next_0 rfl rfl ?_
  refine z_cVi (i := 0) (pc := 1) X [] (c_V_findNext X.2.2.2.2.2.2.2.2.1 hw) (by decide) (by decide) lk151 cd_V_findNext lk11 lk152 lk153 (by decide) (cV_V _) rfl nm_V_findNext rfl rfl (Nat.le_of_ble_eq_true rfl) d_V_next_1 (fun r1 h2 hw => ?_)
  exact z_iret (pc := 4) X d_V_next_4 hw
theorem c_V_next {l : Launch} {D : va_G} {a : Nat → Nat} {q : Nat → ClassId} (hI : injW a 101) {h : RS} {Q : Int32 → RS → Prop} (hw : wp_V_next h Q) : Met l y_V_next [.code y_V_next b_V_next 1 (some .int)] { frames := 10, cells := 0, slots := 0, locals := 257 } (va_Pc [.ref (a 0)] (PreC tbW D clV (tyV q) 101 a (ceV a q) h)) (va_Qi Q (AtC D clV 101 a (ceV a q)) (inW a 101)) 0 0 (inW a 101) :=
  m_of (by decide +kernel) hI tb_ok (Nat.le_of_ble_eq_true rfl) (fun p e R s m below meth c X => kb_V_next_0 X hw)
set_option maxHeartbeats 4000000 in
set_option maxRecDepth 100000 in
theorem kb_V_taken_0 {Q : Int32 → RS → Prop} (X : Cx p l R s m args meth c b_V_taken 3 R_V (some .int) D clV (tyV q) a 101 10 257 tbW) {h : RS} {x1 : Int32} (hw : bp_V_taken_0 Q h x1) : Z p l e R s m args below meth c D clV 101 a (ceV a q) 3 (MQ below (va_Qi Q (AtC D clV 101 a (ceV a q)) (inW a 101)) args s 0 0 (inW a 101)) h 0 [(0, .ref (a 0)), (1, .int x1)] [] := by
  unfold bp_V_taken_0 at hw
  refine z_aload_n (pc := 0) X 0 d_V_taken_0 rfl rfl ?_
  refine z_cVi (i := 0) (pc := 1) X [] (c_V_findNext X.2.2.2.2.2.2.2.2.1 hw) (by decide) (by decide) lk151 cd_V_findNext lk11 lk152 lk153 (by decide) (cV_V _) rfl nm_V_findNext rfl rfl (Nat.le_of_ble_eq_true rfl) d_V_taken_1 (fun r1 h2 hw => ?_)
  refine z_istore_n (pc := 4) X d_V_taken_4 rfl (by decide) rfl ?_
  refine z_iload_n (pc := 5) X 0 d_V_taken_5 rfl rfl ?_
  refine z_iconst (v := (-1 : Int32)) (pc := 6) X d_V_taken_6 (by decide) ?_
  refine z_icmp_eq (tgt := 23) (pc := 7) X d_V_taken_7 (by decide) (fun hc => ?_) (fun hc => ?_)
  · have hw := hw.1 hc
    refine z_iconst (v := (-1 : Int32)) (pc := 23) X d_V_taken_23 (by decide) ?_
    exact z_iret (pc := 24) X d_V_taken_24 hw
  · have hw := hw.2 hc
    refine z_aload_n (pc := 10) X 1 d_V_taken_10 rfl rfl ?_
    refine z_get (i := 0) (pc := 11) X (by decide) (cV_V _) rfl hin_V 2 (by decide) lk19 rfl rfl d_V_taken_11 ?_
    refine z_iload_n (pc := 14) X 0 d_V_taken_14 rfl rfl ?_
    obtain ⟨k3, hk3, ek3, hw⟩ := hw
    refine z_aald (i := 2) (g := fun j => 29 + j) (pc := 15) X 3 (by decide) (cV_Res _) rfl (by decide) hk3 ek3 d_V_taken_15 ?_
    refine z_iload_n (pc := 16) X 2 d_V_taken_16 rfl rfl ?_
    refine z_cVNi (i := (29 + k3)) (pc := 17) X [.int x1] (c_Re_hasPart X.2.2.2.2.2.2.2.2.1 hk3 hw) (by decide) (by decide) lk46 cd_Re_hasPart lk22 lk28 lk29 (lt_ix hk3 (by decide)) (cV_Re _ hk3) rfl nm_Re_hasPart rfl rfl (Nat.le_of_ble_eq_true rfl) d_V_taken_17 (fun r4 h5 hw => ?_)
    refine z_if_ne (tgt := 25) (pc := 20) X d_V_taken_20 (by decide) (fun hc => ?_) (fun hc => ?_)
    · have hw := hw.1 hc
      refine z_aload_n (pc := 25) X 1 d_V_taken_25 rfl rfl ?_
      refine z_get (i := 0) (pc := 26) X (by decide) (cV_V _) rfl hin_V 6 (by decide) lk128 rfl rfl d_V_taken_26 ?_
      refine z_getN (i := 4) (pc := 29) X (by decide) (cV_Mat _) rfl hin_Mt 0 (by decide) lk118 rfl rfl d_V_taken_29 ?_
      refine z_iload_n (pc := 32) X 2 d_V_taken_32 rfl rfl ?_
      obtain ⟨k6, hk6, ek6, hw⟩ := hw
      refine z_iald (i := 11) (pc := 33) X 0 (by decide) (cV_tNu _) rfl (by decide) hk6 ek6 d_V_taken_33 ?_
      exact z_iret (pc := 34) X d_V_taken_34 hw
    · have hw := hw.2 hc
      refine z_iconst (v := (-1 : Int32)) (pc := 23) X d_V_taken_23 (by decide) ?_
      exact z_iret (pc := 24) X d_V_taken_24 hw
theorem c_V_taken {l : Launch} {D : va_G} {a : Nat → Nat} {q : Nat → ClassId} (hI : injW a 101) {h : RS} {x1 : Int32} {Q : Int32 → RS → Prop} (hw : wp_V_taken h x1 Q) : Met l y_V_taken [.code y_V_taken b_V_taken 3 (some .int)] { frames := 10, cells := 0, slots := 0, locals := 257 } (va_Pc [.ref (a 0), .int x1] (PreC tbW D clV (tyV q) 101 a (ceV a q) h)) (va_Qi Q (AtC D clV 101 a (ceV a q)) (inW a 101)) 0 0 (inW a 101) :=
  m_of (by decide +kernel) hI tb_ok (Nat.le_of_ble_eq_true rfl) (fun p e R s m below meth c X => kb_V_taken_0 X hw)
set_option maxHeartbeats 4000000 in
set_option maxRecDepth 100000 in
theorem kb_V_pendingAt_0 {Q : Int32 → RS → Prop} (X : Cx p l R s m args meth c b_V_pendingAt 3 R_V (some .int) D clV (tyV q) a 101 1 21 tbW) {h : RS} {x1 : Int32} {x2 : Int32} (hw : bp_V_pendingAt_0 Q h x1 x2) : Z p l e R s m args below meth c D clV 101 a (ceV a q) 3 (MQ below (va_Qi Q (AtC D clV 101 a (ceV a q)) (inW a 101)) args s 0 0 (inW a 101)) h 0 [(0, .ref (a 0)), (1, .int x1), (2, .int x2)] [] := by
  unfold bp_V_pendingAt_0 at hw
  refine z_aload_n (pc := 0) X 0 d_V_pendingAt_0 rfl rfl ?_
  refine z_iload_n (pc := 1) X 1 d_V_pendingAt_1 rfl rfl ?_
  refine z_cVi (i := 0) (pc := 2) X [.int x1] (c_V_isChannel X.2.2.2.2.2.2.2.2.1 hw) (by decide) (by decide) lk14 cd_V_isChannel lk11 lk15 lk16 (by decide) (cV_V _) rfl nm_V_isChannel rfl rfl (Nat.le_of_ble_eq_true rfl) d_V_pendingAt_2 (fun r1 h2 hw => ?_)
  refine z_if_eq (tgt := 25) (pc := 5) X d_V_pendingAt_5 (by decide) (fun hc => ?_) (fun hc => ?_)
  · have hw := hw.1 hc
    refine z_iconst (v := (-1 : Int32)) (pc := 25) X d_V_pendingAt_25 (by decide) ?_
    exact z_iret (pc := 26) X d_V_pendingAt_26 hw
  · have hw := hw.2 hc
    refine z_iload_n (pc := 8) X 2 d_V_pendingAt_8 rfl rfl ?_
    refine z_if_lt (tgt := 25) (pc := 9) X d_V_pendingAt_9 (by decide) (fun hc => ?_) (fun hc => ?_)
    · have hw := hw.1 hc
      refine z_iconst (v := (-1 : Int32)) (pc := 25) X d_V_pendingAt_25 (by decide) ?_
      exact z_iret (pc := 26) X d_V_pendingAt_26 hw
    · have hw := hw.2 hc
      refine z_iload_n (pc := 12) X 2 d_V_pendingAt_12 rfl rfl ?_
      refine z_aload_n (pc := 13) X 0 d_V_pendingAt_13 rfl rfl ?_
      refine z_get (i := 0) (pc := 14) X (by decide) (cV_V _) rfl hin_V 0 (by decide) lk3 rfl rfl d_V_pendingAt_14 ?_
      refine z_iload_n (pc := 17) X 1 d_V_pendingAt_17 rfl rfl ?_
      obtain ⟨k3, hk3, ek3, hw⟩ := hw
      refine z_aald (i := 1) (g := fun j => 13 + j) (pc := 18) X 2 (by decide) (cV_Chs _) rfl (by decide) hk3 ek3 d_V_pendingAt_18 ?_
      refine z_getN (i := (13 + k3)) (pc := 19) X (lt_ix hk3 (by decide)) (cV_Ch _ hk3) rfl hin_Ch 2 (by decide) lk73 rfl rfl d_V_pendingAt_19 ?_
      refine z_icmp_lt (tgt := 27) (pc := 22) X d_V_pendingAt_22 (by decide) (fun hc => ?_) (fun hc => ?_)
      · have hw := hw.1 hc
        refine z_aload_n (pc := 27) X 0 d_V_pendingAt_27 rfl rfl ?_
        refine z_get (i := 0) (pc := 28) X (by decide) (cV_V _) rfl hin_V 0 (by decide) lk3 rfl rfl d_V_pendingAt_28 ?_
        refine z_iload_n (pc := 31) X 1 d_V_pendingAt_31 rfl rfl ?_
        obtain ⟨k4, hk4, ek4, hw⟩ := hw
        refine z_aald (i := 1) (g := fun j => 13 + j) (pc := 32) X 2 (by decide) (cV_Chs _) rfl (by decide) hk4 ek4 d_V_pendingAt_32 ?_
        refine z_getN (i := (13 + k4)) (pc := 33) X (lt_ix hk4 (by decide)) (cV_Ch _ hk4) rfl hin_Ch 1 (by decide) lk109 rfl rfl d_V_pendingAt_33 ?_
        refine z_iload_n (pc := 36) X 2 d_V_pendingAt_36 rfl rfl ?_
        obtain ⟨k5, hk5, ek5, hw⟩ := hw
        refine z_iald (i := (21 + k4)) (pc := 37) X 0 (lt_ix hk4 (by decide)) (cV_Pn _ hk4) rfl (by decide) hk5 ek5 d_V_pendingAt_37 ?_
        exact z_iret (pc := 38) X d_V_pendingAt_38 hw
      · have hw := hw.2 hc
        refine z_iconst (v := (-1 : Int32)) (pc := 25) X d_V_pendingAt_25 (by decide) ?_
        exact z_iret (pc := 26) X d_V_pendingAt_26 hw
theorem c_V_pendingAt {l : Launch} {D : va_G} {a : Nat → Nat} {q : Nat → ClassId} (hI : injW a 101) {h : RS} {x1 : Int32} {x2 : Int32} {Q : Int32 → RS → Prop} (hw : wp_V_pendingAt h x1 x2 Q) : Met l y_V_pendingAt [.code y_V_pendingAt b_V_pendingAt 3 (some .int)] { frames := 1, cells := 0, slots := 0, locals := 21 } (va_Pc [.ref (a 0), .int x1, .int x2] (PreC tbW D clV (tyV q) 101 a (ceV a q) h)) (va_Qi Q (AtC D clV 101 a (ceV a q)) (inW a 101)) 0 0 (inW a 101) :=
  m_of (by decide +kernel) hI tb_ok (Nat.le_of_ble_eq_true rfl) (fun p e R s m below meth c X => kb_V_pendingAt_0 X hw)
set_option maxHeartbeats 4000000 in
set_option maxRecDepth 100000 in
theorem kb_V_value_0 {Q : Int32 → RS → Prop} (X : Cx p l R s m args meth c b_V_value 2 R_V (some .int) D clV (tyV q) a 101 1 21 tbW) {h : RS} {x1 : Int32} (hw : bp_V_value_0 Q h x1) : Z p l e R s m args below meth c D clV 101 a (ceV a q) 2 (MQ below (va_Qi Q (AtC D clV 101 a (ceV a q)) (inW a 101)) args s 0 0 (inW a 101)) h 0 [(0, .ref (a 0)), (1, .int x1)] [] := by
  unfold bp_V_value_0 at hw
  refine z_aload_n (pc := 0) X 0 d_V_value_0 rfl rfl ?_
  refine z_get (i := 0) (pc := 1) X (by decide) (cV_V _) rfl hin_V 5 (by decide) lk64 rfl rfl d_V_value_1 ?_
  refine z_iload_n (pc := 4) X 1 d_V_value_4 rfl rfl ?_
  refine z_cVNi (i := 3) (pc := 5) X [.int x1] (c_Ms_has X.2.2.2.2.2.2.2.2.1 hw) (by decide) (by decide) lk81 cd_Ms_has lk66 lk82 lk83 (by decide) (cV_Msgs _) rfl nm_Ms_has rfl rfl (Nat.le_of_ble_eq_true rfl) d_V_value_5 (fun r1 h2 hw => ?_)
  refine z_if_eq (tgt := 23) (pc := 8) X d_V_value_8 (by decide) (fun hc => ?_) (fun hc => ?_)
  · have hw := hw.1 hc
    refine z_iconst (v := (0 : Int32)) (pc := 23) X d_V_value_23 (by decide) ?_
    exact z_iret (pc := 24) X d_V_value_24 hw
  · have hw := hw.2 hc
    refine z_aload_n (pc := 11) X 0 d_V_value_11 rfl rfl ?_
    refine z_get (i := 0) (pc := 12) X (by decide) (cV_V _) rfl hin_V 5 (by decide) lk64 rfl rfl d_V_value_12 ?_
    refine z_getN (i := 3) (pc := 15) X (by decide) (cV_Msgs _) rfl hin_Ms 2 (by decide) lk110 rfl rfl d_V_value_15 ?_
    refine z_iload_n (pc := 18) X 1 d_V_value_18 rfl rfl ?_
    obtain ⟨k3, hk3, ek3, hw⟩ := hw
    refine z_iald (i := 7) (pc := 19) X 0 (by decide) (cV_mVa _) rfl (by decide) hk3 ek3 d_V_value_19 ?_
    refine z_goto (tgt := 24) (pc := 20) X d_V_value_20 (by decide) ?_
    exact z_iret (pc := 24) X d_V_value_24 hw
theorem c_V_value {l : Launch} {D : va_G} {a : Nat → Nat} {q : Nat → ClassId} (hI : injW a 101) {h : RS} {x1 : Int32} {Q : Int32 → RS → Prop} (hw : wp_V_value h x1 Q) : Met l y_V_value [.code y_V_value b_V_value 2 (some .int)] { frames := 1, cells := 0, slots := 0, locals := 21 } (va_Pc [.ref (a 0), .int x1] (PreC tbW D clV (tyV q) 101 a (ceV a q) h)) (va_Qi Q (AtC D clV 101 a (ceV a q)) (inW a 101)) 0 0 (inW a 101) :=
  m_of (by decide +kernel) hI tb_ok (Nat.le_of_ble_eq_true rfl) (fun p e R s m below meth c X => kb_V_value_0 X hw)
set_option maxHeartbeats 4000000 in
set_option maxRecDepth 100000 in
theorem kb_V_state_0 {Q : Int32 → RS → Prop} (X : Cx p l R s m args meth c b_V_state 2 R_V (some .int) D clV (tyV q) a 101 1 21 tbW) {h : RS} {x1 : Int32} (hw : bp_V_state_0 Q h x1) : Z p l e R s m args below meth c D clV 101 a (ceV a q) 2 (MQ below (va_Qi Q (AtC D clV 101 a (ceV a q)) (inW a 101)) args s 0 0 (inW a 101)) h 0 [(0, .ref (a 0)), (1, .int x1)] [] := by
  unfold bp_V_state_0 at hw
  refine z_aload_n (pc := 0) X 0 d_V_state_0 rfl rfl ?_
  refine z_get (i := 0) (pc := 1) X (by decide) (cV_V _) rfl hin_V 5 (by decide) lk64 rfl rfl d_V_state_1 ?_
  refine z_iload_n (pc := 4) X 1 d_V_state_4 rfl rfl ?_
  refine z_cVNi (i := 3) (pc := 5) X [.int x1] (c_Ms_has X.2.2.2.2.2.2.2.2.1 hw) (by decide) (by decide) lk81 cd_Ms_has lk66 lk82 lk83 (by decide) (cV_Msgs _) rfl nm_Ms_has rfl rfl (Nat.le_of_ble_eq_true rfl) d_V_state_5 (fun r1 h2 hw => ?_)
  refine z_if_eq (tgt := 23) (pc := 8) X d_V_state_8 (by decide) (fun hc => ?_) (fun hc => ?_)
  · have hw := hw.1 hc
    refine z_iconst (v := (0 : Int32)) (pc := 23) X d_V_state_23 (by decide) ?_
    exact z_iret (pc := 24) X d_V_state_24 hw
  · have hw := hw.2 hc
    refine z_aload_n (pc := 11) X 0 d_V_state_11 rfl rfl ?_
    refine z_get (i := 0) (pc := 12) X (by decide) (cV_V _) rfl hin_V 5 (by decide) lk64 rfl rfl d_V_state_12 ?_
    refine z_getN (i := 3) (pc := 15) X (by decide) (cV_Msgs _) rfl hin_Ms 3 (by decide) lk84 rfl rfl d_V_state_15 ?_
    refine z_iload_n (pc := 18) X 1 d_V_state_18 rfl rfl ?_
    obtain ⟨k3, hk3, ek3, hw⟩ := hw
    refine z_iald (i := 8) (pc := 19) X 0 (by decide) (cV_mSt _) rfl (by decide) hk3 ek3 d_V_state_19 ?_
    refine z_goto (tgt := 24) (pc := 20) X d_V_state_20 (by decide) ?_
    exact z_iret (pc := 24) X d_V_state_24 hw
theorem c_V_state {l : Launch} {D : va_G} {a : Nat → Nat} {q : Nat → ClassId} (hI : injW a 101) {h : RS} {x1 : Int32} {Q : Int32 → RS → Prop} (hw : wp_V_state h x1 Q) : Met l y_V_state [.code y_V_state b_V_state 2 (some .int)] { frames := 1, cells := 0, slots := 0, locals := 21 } (va_Pc [.ref (a 0), .int x1] (PreC tbW D clV (tyV q) 101 a (ceV a q) h)) (va_Qi Q (AtC D clV 101 a (ceV a q)) (inW a 101)) 0 0 (inW a 101) :=
  m_of (by decide +kernel) hI tb_ok (Nat.le_of_ble_eq_true rfl) (fun p e R s m below meth c X => kb_V_state_0 X hw)
set_option maxHeartbeats 4000000 in
set_option maxRecDepth 100000 in
theorem kb_V_consumer_0 {Q : Int32 → RS → Prop} (X : Cx p l R s m args meth c b_V_consumer 2 R_V (some .int) D clV (tyV q) a 101 1 21 tbW) {h : RS} {x1 : Int32} (hw : bp_V_consumer_0 Q h x1) : Z p l e R s m args below meth c D clV 101 a (ceV a q) 2 (MQ below (va_Qi Q (AtC D clV 101 a (ceV a q)) (inW a 101)) args s 0 0 (inW a 101)) h 0 [(0, .ref (a 0)), (1, .int x1)] [] := by
  unfold bp_V_consumer_0 at hw
  refine z_aload_n (pc := 0) X 0 d_V_consumer_0 rfl rfl ?_
  refine z_get (i := 0) (pc := 1) X (by decide) (cV_V _) rfl hin_V 5 (by decide) lk64 rfl rfl d_V_consumer_1 ?_
  refine z_iload_n (pc := 4) X 1 d_V_consumer_4 rfl rfl ?_
  refine z_cVNi (i := 3) (pc := 5) X [.int x1] (c_Ms_has X.2.2.2.2.2.2.2.2.1 hw) (by decide) (by decide) lk81 cd_Ms_has lk66 lk82 lk83 (by decide) (cV_Msgs _) rfl nm_Ms_has rfl rfl (Nat.le_of_ble_eq_true rfl) d_V_consumer_5 (fun r1 h2 hw => ?_)
  refine z_if_eq (tgt := 23) (pc := 8) X d_V_consumer_8 (by decide) (fun hc => ?_) (fun hc => ?_)
  · have hw := hw.1 hc
    refine z_iconst (v := (-1 : Int32)) (pc := 23) X d_V_consumer_23 (by decide) ?_
    exact z_iret (pc := 24) X d_V_consumer_24 hw
  · have hw := hw.2 hc
    refine z_aload_n (pc := 11) X 0 d_V_consumer_11 rfl rfl ?_
    refine z_get (i := 0) (pc := 12) X (by decide) (cV_V _) rfl hin_V 5 (by decide) lk64 rfl rfl d_V_consumer_12 ?_
    refine z_getN (i := 3) (pc := 15) X (by decide) (cV_Msgs _) rfl hin_Ms 4 (by decide) lk134 rfl rfl d_V_consumer_15 ?_
    refine z_iload_n (pc := 18) X 1 d_V_consumer_18 rfl rfl ?_
    obtain ⟨k3, hk3, ek3, hw⟩ := hw
    refine z_iald (i := 9) (pc := 19) X 0 (by decide) (cV_mCo _) rfl (by decide) hk3 ek3 d_V_consumer_19 ?_
    refine z_goto (tgt := 24) (pc := 20) X d_V_consumer_20 (by decide) ?_
    exact z_iret (pc := 24) X d_V_consumer_24 hw
theorem c_V_consumer {l : Launch} {D : va_G} {a : Nat → Nat} {q : Nat → ClassId} (hI : injW a 101) {h : RS} {x1 : Int32} {Q : Int32 → RS → Prop} (hw : wp_V_consumer h x1 Q) : Met l y_V_consumer [.code y_V_consumer b_V_consumer 2 (some .int)] { frames := 1, cells := 0, slots := 0, locals := 21 } (va_Pc [.ref (a 0), .int x1] (PreC tbW D clV (tyV q) 101 a (ceV a q) h)) (va_Qi Q (AtC D clV 101 a (ceV a q)) (inW a 101)) 0 0 (inW a 101) :=
  m_of (by decide +kernel) hI tb_ok (Nat.le_of_ble_eq_true rfl) (fun p e R s m below meth c X => kb_V_consumer_0 X hw)
set_option maxHeartbeats 4000000 in
set_option maxRecDepth 100000 in
theorem kb_V_answer_0 {Q : Int32 → RS → Prop} (X : Cx p l R s m args meth c b_V_answer 2 R_V (some .int) D clV (tyV q) a 101 1 21 tbW) {h : RS} {x1 : Int32} (hw : bp_V_answer_0 Q h x1) : Z p l e R s m args below meth c D clV 101 a (ceV a q) 2 (MQ below (va_Qi Q (AtC D clV 101 a (ceV a q)) (inW a 101)) args s 0 0 (inW a 101)) h 0 [(0, .ref (a 0)), (1, .int x1)] [] := by
  unfold bp_V_answer_0 at hw
  refine z_aload_n (pc := 0) X 0 d_V_answer_0 rfl rfl ?_
  refine z_get (i := 0) (pc := 1) X (by decide) (cV_V _) rfl hin_V 5 (by decide) lk64 rfl rfl d_V_answer_1 ?_
  refine z_iload_n (pc := 4) X 1 d_V_answer_4 rfl rfl ?_
  refine z_cVNi (i := 3) (pc := 5) X [.int x1] (c_Ms_has X.2.2.2.2.2.2.2.2.1 hw) (by decide) (by decide) lk81 cd_Ms_has lk66 lk82 lk83 (by decide) (cV_Msgs _) rfl nm_Ms_has rfl rfl (Nat.le_of_ble_eq_true rfl) d_V_answer_5 (fun r1 h2 hw => ?_)
  refine z_if_eq (tgt := 23) (pc := 8) X d_V_answer_8 (by decide) (fun hc => ?_) (fun hc => ?_)
  · have hw := hw.1 hc
    refine z_iconst (v := (0 : Int32)) (pc := 23) X d_V_answer_23 (by decide) ?_
    exact z_iret (pc := 24) X d_V_answer_24 hw
  · have hw := hw.2 hc
    refine z_aload_n (pc := 11) X 0 d_V_answer_11 rfl rfl ?_
    refine z_get (i := 0) (pc := 12) X (by decide) (cV_V _) rfl hin_V 5 (by decide) lk64 rfl rfl d_V_answer_12 ?_
    refine z_getN (i := 3) (pc := 15) X (by decide) (cV_Msgs _) rfl hin_Ms 5 (by decide) lk146 rfl rfl d_V_answer_15 ?_
    refine z_iload_n (pc := 18) X 1 d_V_answer_18 rfl rfl ?_
    obtain ⟨k3, hk3, ek3, hw⟩ := hw
    refine z_iald (i := 10) (pc := 19) X 0 (by decide) (cV_mAn _) rfl (by decide) hk3 ek3 d_V_answer_19 ?_
    refine z_goto (tgt := 24) (pc := 20) X d_V_answer_20 (by decide) ?_
    exact z_iret (pc := 24) X d_V_answer_24 hw
theorem c_V_answer {l : Launch} {D : va_G} {a : Nat → Nat} {q : Nat → ClassId} (hI : injW a 101) {h : RS} {x1 : Int32} {Q : Int32 → RS → Prop} (hw : wp_V_answer h x1 Q) : Met l y_V_answer [.code y_V_answer b_V_answer 2 (some .int)] { frames := 1, cells := 0, slots := 0, locals := 21 } (va_Pc [.ref (a 0), .int x1] (PreC tbW D clV (tyV q) 101 a (ceV a q) h)) (va_Qi Q (AtC D clV 101 a (ceV a q)) (inW a 101)) 0 0 (inW a 101) :=
  m_of (by decide +kernel) hI tb_ok (Nat.le_of_ble_eq_true rfl) (fun p e R s m below meth c X => kb_V_answer_0 X hw)
set_option maxHeartbeats 4000000 in
set_option maxRecDepth 100000 in
theorem kb_V_fired_0 {Q : Int32 → RS → Prop} (X : Cx p l R s m args meth c b_V_fired 2 R_V (some .int) D clV (tyV q) a 101 0 0 tbW) {h : RS} {x1 : Int32} (hw : bp_V_fired_0 Q h x1) : Z p l e R s m args below meth c D clV 101 a (ceV a q) 2 (MQ below (va_Qi Q (AtC D clV 101 a (ceV a q)) (inW a 101)) args s 0 0 (inW a 101)) h 0 [(0, .ref (a 0)), (1, .int x1)] [] := by
  unfold bp_V_fired_0 at hw
  refine z_iload_n (pc := 0) X 1 d_V_fired_0 rfl rfl ?_
  refine z_if_lt (tgt := 21) (pc := 1) X d_V_fired_1 (by decide) (fun hc => ?_) (fun hc => ?_)
  · have hw := hw.1 hc
    refine z_iconst (v := (-1 : Int32)) (pc := 21) X d_V_fired_21 (by decide) ?_
    exact z_iret (pc := 22) X d_V_fired_22 hw
  · have hw := hw.2 hc
    refine z_iload_n (pc := 4) X 1 d_V_fired_4 rfl rfl ?_
    refine z_aload_n (pc := 5) X 0 d_V_fired_5 rfl rfl ?_
    refine z_get (i := 0) (pc := 6) X (by decide) (cV_V _) rfl hin_V 8 (by decide) lk132 rfl rfl d_V_fired_6 ?_
    refine z_icmp_ge (tgt := 21) (pc := 9) X d_V_fired_9 (by decide) (fun hc => ?_) (fun hc => ?_)
    · have hw := hw.1 hc
      refine z_iconst (v := (-1 : Int32)) (pc := 21) X d_V_fired_21 (by decide) ?_
      exact z_iret (pc := 22) X d_V_fired_22 hw
    · have hw := hw.2 hc
      refine z_aload_n (pc := 12) X 0 d_V_fired_12 rfl rfl ?_
      refine z_get (i := 0) (pc := 13) X (by decide) (cV_V _) rfl hin_V 7 (by decide) lk133 rfl rfl d_V_fired_13 ?_
      refine z_iload_n (pc := 16) X 1 d_V_fired_16 rfl rfl ?_
      obtain ⟨k1, hk1, ek1, hw⟩ := hw
      refine z_iald (i := 5) (pc := 17) X 0 (by decide) (cV_Fir _) rfl (by decide) hk1 ek1 d_V_fired_17 ?_
      refine z_goto (tgt := 22) (pc := 18) X d_V_fired_18 (by decide) ?_
      exact z_iret (pc := 22) X d_V_fired_22 hw
theorem c_V_fired {l : Launch} {D : va_G} {a : Nat → Nat} {q : Nat → ClassId} (hI : injW a 101) {h : RS} {x1 : Int32} {Q : Int32 → RS → Prop} (hw : wp_V_fired h x1 Q) : Met l y_V_fired [.code y_V_fired b_V_fired 2 (some .int)] { frames := 0, cells := 0, slots := 0, locals := 0 } (va_Pc [.ref (a 0), .int x1] (PreC tbW D clV (tyV q) 101 a (ceV a q) h)) (va_Qi Q (AtC D clV 101 a (ceV a q)) (inW a 101)) 0 0 (inW a 101) :=
  m_of (by decide +kernel) hI tb_ok (Nat.le_of_ble_eq_true rfl) (fun p e R s m below meth c X => kb_V_fired_0 X hw)
end
end
