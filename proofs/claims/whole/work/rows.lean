section
-- ===== PART A: goes FIRST, ahead of the names: the tables' words, and 'selects' of the private methods out of them =====
/-- a private method of a class that the tables say can be made, by its rows of tables_1 -/
def lw_okq (q : MethodName × Nat) : Prop := (q.1.cls ≠ "java/lang/invoke/MethodHandle" ∧ q.1.cls ≠ "java/lang/invoke/VarHandle") ∧ Cond.instantiable q.1.cls q.2 ∈ tables_1 ∧ Cond.privateMethod q.1 ∈ tables_1 ∧ Cond.instanceMethod q.1 ∈ tables_1
theorem lw_p0 : lw_okq (⟨"BallotHouse", "canBe", "(III)Z"⟩, 8) := ⟨⟨by decide +kernel, by decide +kernel⟩, List.mem_of_getElem? (i := 10) (by decide +kernel), List.mem_of_getElem? (i := 92) (by decide +kernel), List.mem_of_getElem? (i := 93) (by decide +kernel)⟩
theorem lw_p1 : lw_okq (⟨"BallotHouse", "membersFrom", "(I)I"⟩, 8) := ⟨⟨by decide +kernel, by decide +kernel⟩, List.mem_of_getElem? (i := 10) (by decide +kernel), List.mem_of_getElem? (i := 103) (by decide +kernel), List.mem_of_getElem? (i := 104) (by decide +kernel)⟩
theorem lw_p2 : lw_okq (⟨"BallotHouse", "find", "(I)LBallotHouse$Ballot;"⟩, 8) := ⟨⟨by decide +kernel, by decide +kernel⟩, List.mem_of_getElem? (i := 10) (by decide +kernel), List.mem_of_getElem? (i := 107) (by decide +kernel), List.mem_of_getElem? (i := 108) (by decide +kernel)⟩
theorem lw_p3 : lw_okq (⟨"BallotHouse", "sendToEach", "(IILBallotHouse$Ballot;I)I"⟩, 8) := ⟨⟨by decide +kernel, by decide +kernel⟩, List.mem_of_getElem? (i := 10) (by decide +kernel), List.mem_of_getElem? (i := 186) (by decide +kernel), List.mem_of_getElem? (i := 187) (by decide +kernel)⟩
theorem lw_p4 : lw_okq (⟨"BallotHouse", "sendMissingVotes", "(LBallotHouse$Ballot;)I"⟩, 8) := ⟨⟨by decide +kernel, by decide +kernel⟩, List.mem_of_getElem? (i := 10) (by decide +kernel), List.mem_of_getElem? (i := 194) (by decide +kernel), List.mem_of_getElem? (i := 195) (by decide +kernel)⟩
theorem lw_p5 : lw_okq (⟨"BallotHouse", "isForSilent", "(I)Z"⟩, 8) := ⟨⟨by decide +kernel, by decide +kernel⟩, List.mem_of_getElem? (i := 10) (by decide +kernel), List.mem_of_getElem? (i := 212) (by decide +kernel), List.mem_of_getElem? (i := 213) (by decide +kernel)⟩
theorem lw_p6 : lw_okq (⟨"BallotHouse", "handOver", "(I)V"⟩, 8) := ⟨⟨by decide +kernel, by decide +kernel⟩, List.mem_of_getElem? (i := 10) (by decide +kernel), List.mem_of_getElem? (i := 216) (by decide +kernel), List.mem_of_getElem? (i := 217) (by decide +kernel)⟩
theorem lw_p7 : lw_okq (⟨"BallotHouse", "newComes", "(LBallotHouse$Ballot;)V"⟩, 8) := ⟨⟨by decide +kernel, by decide +kernel⟩, List.mem_of_getElem? (i := 10) (by decide +kernel), List.mem_of_getElem? (i := 228) (by decide +kernel), List.mem_of_getElem? (i := 229) (by decide +kernel)⟩
theorem lw_p8 : lw_okq (⟨"BallotHouse", "goOn", "(LBallotHouse$Ballot;)V"⟩, 8) := ⟨⟨by decide +kernel, by decide +kernel⟩, List.mem_of_getElem? (i := 10) (by decide +kernel), List.mem_of_getElem? (i := 232) (by decide +kernel), List.mem_of_getElem? (i := 233) (by decide +kernel)⟩
theorem lw_p9 : lw_okq (⟨"BallotHouse", "isReadingOver", "(LBallotHouse$Ballot;)Z"⟩, 8) := ⟨⟨by decide +kernel, by decide +kernel⟩, List.mem_of_getElem? (i := 10) (by decide +kernel), List.mem_of_getElem? (i := 236) (by decide +kernel), List.mem_of_getElem? (i := 237) (by decide +kernel)⟩
theorem lw_p10 : lw_okq (⟨"BallotHouse", "readComes", "(LBallotHouse$Ballot;I)V"⟩, 8) := ⟨⟨by decide +kernel, by decide +kernel⟩, List.mem_of_getElem? (i := 10) (by decide +kernel), List.mem_of_getElem? (i := 245) (by decide +kernel), List.mem_of_getElem? (i := 246) (by decide +kernel)⟩
theorem lw_p11 : lw_okq (⟨"BallotHouse", "isVoter", "(I)Z"⟩, 8) := ⟨⟨by decide +kernel, by decide +kernel⟩, List.mem_of_getElem? (i := 10) (by decide +kernel), List.mem_of_getElem? (i := 249) (by decide +kernel), List.mem_of_getElem? (i := 250) (by decide +kernel)⟩
theorem lw_p12 : lw_okq (⟨"BallotHouse", "readAnswerComes", "(LBallotHouse$Ballot;IJ)V"⟩, 8) := ⟨⟨by decide +kernel, by decide +kernel⟩, List.mem_of_getElem? (i := 10) (by decide +kernel), List.mem_of_getElem? (i := 253) (by decide +kernel), List.mem_of_getElem? (i := 254) (by decide +kernel)⟩
theorem lw_p13 : lw_okq (⟨"BallotHouse", "takeFound", "(LBallotHouse$Ballot;J)V"⟩, 8) := ⟨⟨by decide +kernel, by decide +kernel⟩, List.mem_of_getElem? (i := 10) (by decide +kernel), List.mem_of_getElem? (i := 257) (by decide +kernel), List.mem_of_getElem? (i := 258) (by decide +kernel)⟩
theorem lw_p14 : lw_okq (⟨"BallotHouse", "voteComes", "(LBallotHouse$Ballot;II)V"⟩, 8) := ⟨⟨by decide +kernel, by decide +kernel⟩, List.mem_of_getElem? (i := 10) (by decide +kernel), List.mem_of_getElem? (i := 265) (by decide +kernel), List.mem_of_getElem? (i := 266) (by decide +kernel)⟩
theorem lw_p15 : lw_okq (⟨"BallotHouse", "voteAnswerComes", "(LBallotHouse$Ballot;II)V"⟩, 8) := ⟨⟨by decide +kernel, by decide +kernel⟩, List.mem_of_getElem? (i := 10) (by decide +kernel), List.mem_of_getElem? (i := 273) (by decide +kernel), List.mem_of_getElem? (i := 274) (by decide +kernel)⟩
def lw_privs_1 : List (MethodName × Nat) := [(⟨"BallotHouse", "canBe", "(III)Z"⟩, 8), (⟨"BallotHouse", "membersFrom", "(I)I"⟩, 8), (⟨"BallotHouse", "find", "(I)LBallotHouse$Ballot;"⟩, 8), (⟨"BallotHouse", "sendToEach", "(IILBallotHouse$Ballot;I)I"⟩, 8), (⟨"BallotHouse", "sendMissingVotes", "(LBallotHouse$Ballot;)I"⟩, 8), (⟨"BallotHouse", "isForSilent", "(I)Z"⟩, 8), (⟨"BallotHouse", "handOver", "(I)V"⟩, 8), (⟨"BallotHouse", "newComes", "(LBallotHouse$Ballot;)V"⟩, 8), (⟨"BallotHouse", "goOn", "(LBallotHouse$Ballot;)V"⟩, 8), (⟨"BallotHouse", "isReadingOver", "(LBallotHouse$Ballot;)Z"⟩, 8), (⟨"BallotHouse", "readComes", "(LBallotHouse$Ballot;I)V"⟩, 8), (⟨"BallotHouse", "isVoter", "(I)Z"⟩, 8), (⟨"BallotHouse", "readAnswerComes", "(LBallotHouse$Ballot;IJ)V"⟩, 8), (⟨"BallotHouse", "takeFound", "(LBallotHouse$Ballot;J)V"⟩, 8), (⟨"BallotHouse", "voteComes", "(LBallotHouse$Ballot;II)V"⟩, 8), (⟨"BallotHouse", "voteAnswerComes", "(LBallotHouse$Ballot;II)V"⟩, 8)]
theorem lw_r1 : ∀ q ∈ lw_privs_1, lw_okq q := List.forall_mem_cons.mpr ⟨lw_p0, List.forall_mem_cons.mpr ⟨lw_p1, List.forall_mem_cons.mpr ⟨lw_p2, List.forall_mem_cons.mpr ⟨lw_p3, List.forall_mem_cons.mpr ⟨lw_p4, List.forall_mem_cons.mpr ⟨lw_p5, List.forall_mem_cons.mpr ⟨lw_p6, List.forall_mem_cons.mpr ⟨lw_p7, List.forall_mem_cons.mpr ⟨lw_p8, List.forall_mem_cons.mpr ⟨lw_p9, List.forall_mem_cons.mpr ⟨lw_p10, List.forall_mem_cons.mpr ⟨lw_p11, List.forall_mem_cons.mpr ⟨lw_p12, List.forall_mem_cons.mpr ⟨lw_p13, List.forall_mem_cons.mpr ⟨lw_p14, List.forall_mem_cons.mpr ⟨lw_p15, fun _ h => absurd h List.not_mem_nil⟩⟩⟩⟩⟩⟩⟩⟩⟩⟩⟩⟩⟩⟩⟩⟩
theorem lw_p16 : lw_okq (⟨"BallotHouse", "completeComes", "(LBallotHouse$Ballot;)V"⟩, 8) := ⟨⟨by decide +kernel, by decide +kernel⟩, List.mem_of_getElem? (i := 10) (by decide +kernel), List.mem_of_getElem? (i := 277) (by decide +kernel), List.mem_of_getElem? (i := 278) (by decide +kernel)⟩
theorem lw_p17 : lw_okq (⟨"BallotHouse", "activeComes", "(LBallotHouse$Ballot;)V"⟩, 8) := ⟨⟨by decide +kernel, by decide +kernel⟩, List.mem_of_getElem? (i := 10) (by decide +kernel), List.mem_of_getElem? (i := 281) (by decide +kernel), List.mem_of_getElem? (i := 282) (by decide +kernel)⟩
theorem lw_p18 : lw_okq (⟨"BallotHouse", "firstDeliverable", "()I"⟩, 8) := ⟨⟨by decide +kernel, by decide +kernel⟩, List.mem_of_getElem? (i := 10) (by decide +kernel), List.mem_of_getElem? (i := 289) (by decide +kernel), List.mem_of_getElem? (i := 290) (by decide +kernel)⟩
theorem lw_p19 : lw_okq (⟨"BallotHouse", "firstThatChose", "(I)LBallotHouse$Ballot;"⟩, 8) := ⟨⟨by decide +kernel, by decide +kernel⟩, List.mem_of_getElem? (i := 10) (by decide +kernel), List.mem_of_getElem? (i := 338) (by decide +kernel), List.mem_of_getElem? (i := 339) (by decide +kernel)⟩
theorem lw_p20 : lw_okq (⟨"BallotHouseModel", "put", "(IIIIJ)V"⟩, 31) := ⟨⟨by decide +kernel, by decide +kernel⟩, List.mem_of_getElem? (i := 369) (by decide +kernel), List.mem_of_getElem? (i := 477) (by decide +kernel), List.mem_of_getElem? (i := 478) (by decide +kernel)⟩
theorem lw_p21 : lw_okq (⟨"BallotHouseModel", "isBallot", "(I)Z"⟩, 31) := ⟨⟨by decide +kernel, by decide +kernel⟩, List.mem_of_getElem? (i := 369) (by decide +kernel), List.mem_of_getElem? (i := 485) (by decide +kernel), List.mem_of_getElem? (i := 486) (by decide +kernel)⟩
theorem lw_p22 : lw_okq (⟨"BallotHouseModel", "sendVotes", "(II)I"⟩, 31) := ⟨⟨by decide +kernel, by decide +kernel⟩, List.mem_of_getElem? (i := 369) (by decide +kernel), List.mem_of_getElem? (i := 492) (by decide +kernel), List.mem_of_getElem? (i := 493) (by decide +kernel)⟩
theorem lw_p23 : lw_okq (⟨"BallotHouseModel", "sendReads", "(I)I"⟩, 31) := ⟨⟨by decide +kernel, by decide +kernel⟩, List.mem_of_getElem? (i := 369) (by decide +kernel), List.mem_of_getElem? (i := 500) (by decide +kernel), List.mem_of_getElem? (i := 501) (by decide +kernel)⟩
theorem lw_p24 : lw_okq (⟨"BallotHouseModel", "asked", "(I)I"⟩, 31) := ⟨⟨by decide +kernel, by decide +kernel⟩, List.mem_of_getElem? (i := 369) (by decide +kernel), List.mem_of_getElem? (i := 504) (by decide +kernel), List.mem_of_getElem? (i := 505) (by decide +kernel)⟩
theorem lw_p25 : lw_okq (⟨"BallotHouseModel", "firstRead", "(I)I"⟩, 31) := ⟨⟨by decide +kernel, by decide +kernel⟩, List.mem_of_getElem? (i := 369) (by decide +kernel), List.mem_of_getElem? (i := 508) (by decide +kernel), List.mem_of_getElem? (i := 509) (by decide +kernel)⟩
theorem lw_p26 : lw_okq (⟨"BallotHouseModel", "canBe", "(I)Z"⟩, 31) := ⟨⟨by decide +kernel, by decide +kernel⟩, List.mem_of_getElem? (i := 369) (by decide +kernel), List.mem_of_getElem? (i := 516) (by decide +kernel), List.mem_of_getElem? (i := 517) (by decide +kernel)⟩
theorem lw_p27 : lw_okq (⟨"BallotHouseModel", "take", "(I)V"⟩, 31) := ⟨⟨by decide +kernel, by decide +kernel⟩, List.mem_of_getElem? (i := 369) (by decide +kernel), List.mem_of_getElem? (i := 520) (by decide +kernel), List.mem_of_getElem? (i := 521) (by decide +kernel)⟩
theorem lw_p28 : lw_okq (⟨"BallotHouseModel", "copy", "(II)V"⟩, 31) := ⟨⟨by decide +kernel, by decide +kernel⟩, List.mem_of_getElem? (i := 369) (by decide +kernel), List.mem_of_getElem? (i := 524) (by decide +kernel), List.mem_of_getElem? (i := 525) (by decide +kernel)⟩
theorem lw_p29 : lw_okq (⟨"BallotHouseModel", "beginReading", "(I)V"⟩, 31) := ⟨⟨by decide +kernel, by decide +kernel⟩, List.mem_of_getElem? (i := 369) (by decide +kernel), List.mem_of_getElem? (i := 528) (by decide +kernel), List.mem_of_getElem? (i := 529) (by decide +kernel)⟩
theorem lw_p30 : lw_okq (⟨"BallotHouseModel", "isRead", "(I)Z"⟩, 31) := ⟨⟨by decide +kernel, by decide +kernel⟩, List.mem_of_getElem? (i := 369) (by decide +kernel), List.mem_of_getElem? (i := 532) (by decide +kernel), List.mem_of_getElem? (i := 533) (by decide +kernel)⟩
theorem lw_p31 : lw_okq (⟨"BallotHouseModel", "beginMoving", "(I)V"⟩, 31) := ⟨⟨by decide +kernel, by decide +kernel⟩, List.mem_of_getElem? (i := 369) (by decide +kernel), List.mem_of_getElem? (i := 536) (by decide +kernel), List.mem_of_getElem? (i := 537) (by decide +kernel)⟩
def lw_privs_2 : List (MethodName × Nat) := [(⟨"BallotHouse", "completeComes", "(LBallotHouse$Ballot;)V"⟩, 8), (⟨"BallotHouse", "activeComes", "(LBallotHouse$Ballot;)V"⟩, 8), (⟨"BallotHouse", "firstDeliverable", "()I"⟩, 8), (⟨"BallotHouse", "firstThatChose", "(I)LBallotHouse$Ballot;"⟩, 8), (⟨"BallotHouseModel", "put", "(IIIIJ)V"⟩, 31), (⟨"BallotHouseModel", "isBallot", "(I)Z"⟩, 31), (⟨"BallotHouseModel", "sendVotes", "(II)I"⟩, 31), (⟨"BallotHouseModel", "sendReads", "(I)I"⟩, 31), (⟨"BallotHouseModel", "asked", "(I)I"⟩, 31), (⟨"BallotHouseModel", "firstRead", "(I)I"⟩, 31), (⟨"BallotHouseModel", "canBe", "(I)Z"⟩, 31), (⟨"BallotHouseModel", "take", "(I)V"⟩, 31), (⟨"BallotHouseModel", "copy", "(II)V"⟩, 31), (⟨"BallotHouseModel", "beginReading", "(I)V"⟩, 31), (⟨"BallotHouseModel", "isRead", "(I)Z"⟩, 31), (⟨"BallotHouseModel", "beginMoving", "(I)V"⟩, 31)]
theorem lw_r2 : ∀ q ∈ lw_privs_2, lw_okq q := List.forall_mem_cons.mpr ⟨lw_p16, List.forall_mem_cons.mpr ⟨lw_p17, List.forall_mem_cons.mpr ⟨lw_p18, List.forall_mem_cons.mpr ⟨lw_p19, List.forall_mem_cons.mpr ⟨lw_p20, List.forall_mem_cons.mpr ⟨lw_p21, List.forall_mem_cons.mpr ⟨lw_p22, List.forall_mem_cons.mpr ⟨lw_p23, List.forall_mem_cons.mpr ⟨lw_p24, List.forall_mem_cons.mpr ⟨lw_p25, List.forall_mem_cons.mpr ⟨lw_p26, List.forall_mem_cons.mpr ⟨lw_p27, List.forall_mem_cons.mpr ⟨lw_p28, List.forall_mem_cons.mpr ⟨lw_p29, List.forall_mem_cons.mpr ⟨lw_p30, List.forall_mem_cons.mpr ⟨lw_p31, fun _ h => absurd h List.not_mem_nil⟩⟩⟩⟩⟩⟩⟩⟩⟩⟩⟩⟩⟩⟩⟩⟩
theorem lw_p32 : lw_okq (⟨"BallotHouseModel", "isMoved", "(I)Z"⟩, 31) := ⟨⟨by decide +kernel, by decide +kernel⟩, List.mem_of_getElem? (i := 369) (by decide +kernel), List.mem_of_getElem? (i := 540) (by decide +kernel), List.mem_of_getElem? (i := 541) (by decide +kernel)⟩
theorem lw_p33 : lw_okq (⟨"BallotHouseModel", "beginAsking", "(I)V"⟩, 31) := ⟨⟨by decide +kernel, by decide +kernel⟩, List.mem_of_getElem? (i := 369) (by decide +kernel), List.mem_of_getElem? (i := 544) (by decide +kernel), List.mem_of_getElem? (i := 545) (by decide +kernel)⟩
theorem lw_p34 : lw_okq (⟨"BallotHouseModel", "comesRead", "(II)V"⟩, 31) := ⟨⟨by decide +kernel, by decide +kernel⟩, List.mem_of_getElem? (i := 369) (by decide +kernel), List.mem_of_getElem? (i := 548) (by decide +kernel), List.mem_of_getElem? (i := 549) (by decide +kernel)⟩
theorem lw_p35 : lw_okq (⟨"BallotHouseModel", "comesReadAnswer", "(II)V"⟩, 31) := ⟨⟨by decide +kernel, by decide +kernel⟩, List.mem_of_getElem? (i := 369) (by decide +kernel), List.mem_of_getElem? (i := 552) (by decide +kernel), List.mem_of_getElem? (i := 553) (by decide +kernel)⟩
theorem lw_p36 : lw_okq (⟨"BallotHouseModel", "comesVote", "(IIIJ)V"⟩, 31) := ⟨⟨by decide +kernel, by decide +kernel⟩, List.mem_of_getElem? (i := 369) (by decide +kernel), List.mem_of_getElem? (i := 556) (by decide +kernel), List.mem_of_getElem? (i := 557) (by decide +kernel)⟩
theorem lw_p37 : lw_okq (⟨"BallotHouseModel", "comesVoteAnswer", "(III)V"⟩, 31) := ⟨⟨by decide +kernel, by decide +kernel⟩, List.mem_of_getElem? (i := 369) (by decide +kernel), List.mem_of_getElem? (i := 560) (by decide +kernel), List.mem_of_getElem? (i := 561) (by decide +kernel)⟩
theorem lw_p38 : lw_okq (⟨"BallotHouseModel", "isVoter", "(I)Z"⟩, 31) := ⟨⟨by decide +kernel, by decide +kernel⟩, List.mem_of_getElem? (i := 369) (by decide +kernel), List.mem_of_getElem? (i := 581) (by decide +kernel), List.mem_of_getElem? (i := 582) (by decide +kernel)⟩
theorem lw_p39 : lw_okq (⟨"BallotHouseModel", "isChosen", "(II)Z"⟩, 31) := ⟨⟨by decide +kernel, by decide +kernel⟩, List.mem_of_getElem? (i := 369) (by decide +kernel), List.mem_of_getElem? (i := 613) (by decide +kernel), List.mem_of_getElem? (i := 614) (by decide +kernel)⟩
def lw_privs_3 : List (MethodName × Nat) := [(⟨"BallotHouseModel", "isMoved", "(I)Z"⟩, 31), (⟨"BallotHouseModel", "beginAsking", "(I)V"⟩, 31), (⟨"BallotHouseModel", "comesRead", "(II)V"⟩, 31), (⟨"BallotHouseModel", "comesReadAnswer", "(II)V"⟩, 31), (⟨"BallotHouseModel", "comesVote", "(IIIJ)V"⟩, 31), (⟨"BallotHouseModel", "comesVoteAnswer", "(III)V"⟩, 31), (⟨"BallotHouseModel", "isVoter", "(I)Z"⟩, 31), (⟨"BallotHouseModel", "isChosen", "(II)Z"⟩, 31)]
theorem lw_r3 : ∀ q ∈ lw_privs_3, lw_okq q := List.forall_mem_cons.mpr ⟨lw_p32, List.forall_mem_cons.mpr ⟨lw_p33, List.forall_mem_cons.mpr ⟨lw_p34, List.forall_mem_cons.mpr ⟨lw_p35, List.forall_mem_cons.mpr ⟨lw_p36, List.forall_mem_cons.mpr ⟨lw_p37, List.forall_mem_cons.mpr ⟨lw_p38, List.forall_mem_cons.mpr ⟨lw_p39, fun _ h => absurd h List.not_mem_nil⟩⟩⟩⟩⟩⟩⟩⟩
def lw_privs : List (MethodName × Nat) := lw_privs_1 ++ (lw_privs_2 ++ (lw_privs_3))
def lw_tbl : List Cond := k2_sels lw_privs ++ tables_1
theorem lw_privs_ok : ∀ q ∈ lw_privs, lw_okq q := by
  show ∀ q ∈ lw_privs_1 ++ (lw_privs_2 ++ (lw_privs_3)), lw_okq q
  exact List.forall_mem_append.mpr ⟨lw_r1, List.forall_mem_append.mpr ⟨lw_r2, lw_r3⟩⟩
/-! ===== BEGIN words of one list among another's, by their places ===== -/
theorem goodIn_r {big : List Cond} (ws : List Cond) (ps : List Nat) (hp : ws = ps.filterMap (fun i => big[i]?)) (h : ws.all goodWord = true) : GoodIn big ws := by
  intro w hw
  have h1 := List.all_eq_true.mp h w hw
  rw [hp] at hw
  obtain ⟨i, -, hi⟩ := List.mem_filterMap.mp hw
  have hm : w ∈ big := by first | exact List.mem_of_getElem? hi | exact List.getElem?_mem hi
  exact ⟨hm, good_of_word h1⟩
theorem goodIn_app {big a b : List Cond} (ha : GoodIn big a) (hb : GoodIn big b) : GoodIn big (a ++ b) := fun w h => (List.mem_append.mp h).elim (ha w) (hb w)
theorem goodIn_ca {big a b : List Cond} {c : Cond} (ha : GoodIn big (c :: a)) (hb : GoodIn big b) : GoodIn big (c :: (a ++ b)) := fun w h => (List.mem_cons.mp h).elim (fun e => ha w (List.mem_cons.mpr (Or.inl e))) (fun h => (List.mem_append.mp h).elim (fun h => ha w (List.mem_cons.mpr (Or.inr h))) (hb w))
theorem goodIn_sub {big ws : List Cond} (hm : ∀ w ∈ ws, w ∈ big) (h : ws.all goodWord = true) : GoodIn big ws := fun w hw => ⟨hm w hw, good_of_word (List.all_eq_true.mp h w hw)⟩
/-! ===== END ===== -/

/-! ===== BEGIN printed: names, fields, word lists, decode rows ===== -/
def RX0 : String := "BallotHouse$Air"
def TX0 : u_T := fun k => match k with
  | 0 => ("BallotHouse$Air", "kind", "[I", true)
  | 1 => ("BallotHouse$Air", "ballot", "[I", true)
  | 2 => ("BallotHouse$Air", "voter", "[I", true)
  | 3 => ("BallotHouse$Air", "place", "[I", true)
  | 4 => ("BallotHouse$Air", "votes", "[J", true)
  | 5 => ("BallotHouse$Air", "size", "I", false)
  | _ => ("BallotHouse$Air", "lost", "I", false)
def tyX0 : Nat → FieldType := fun k => match k with
  | 0 => .array .int
  | 1 => .array .int
  | 2 => .array .int
  | 3 => .array .int
  | 4 => .array .long
  | 5 => .int
  | _ => .int
abbrev wsX00 : List Cond := u_ws RX0 TX0 7
theorem nmX0 : ∀ a, a < 7 → ∀ b, b < 7 → a ≠ b → (TX0 a).2.1 ≠ (TX0 b).2.1 := by decide +kernel
theorem tyX0_ok : ∀ k, k < 7 → parseFieldDescriptor (TX0 k).2.2.1 = some (tyX0 k) := by decide +kernel
abbrev cX0_init : ByteArray := prog_2_method_1_code
def yX0_init : MethodName := ⟨RX0, "<init>", "()V"⟩
abbrev cX0_has : ByteArray := prog_2_method_2_code
def yX0_has : MethodName := ⟨RX0, "has", "(I)Z"⟩
abbrev cX0_send : ByteArray := prog_2_method_3_code
def yX0_send : MethodName := ⟨RX0, "send", "(IIIIJ)V"⟩
abbrev cX0_repeat : ByteArray := prog_2_method_4_code
def yX0_repeat : MethodName := ⟨RX0, "repeat", "(I)V"⟩
abbrev cX0_drop : ByteArray := prog_2_method_5_code
def yX0_drop : MethodName := ⟨RX0, "drop", "(I)V"⟩
def RX1 : String := "BallotHouse$Ballot"
def TX1 : u_T := fun k => match k with
  | 0 => ("BallotHouse$Ballot", "number", "I", true)
  | 1 => ("BallotHouse$Ballot", "members", "I", true)
  | 2 => ("BallotHouse$Ballot", "\x72", "I", true)
  | 3 => ("BallotHouse$Ballot", "w", "I", true)
  | 4 => ("BallotHouse$Ballot", "behind", "I", true)
  | 5 => ("BallotHouse$Ballot", "readers", "I", true)
  | 6 => ("BallotHouse$Ballot", "state", "I", false)
  | 7 => ("BallotHouse$Ballot", "readAnswers", "I", false)
  | 8 => ("BallotHouse$Ballot", "found", "I", false)
  | 9 => ("BallotHouse$Ballot", "proposed", "I", false)
  | 10 => ("BallotHouse$Ballot", "foundBy", "[I", true)
  | 11 => ("BallotHouse$Ballot", "words", "[J", true)
  | 12 => ("BallotHouse$Ballot", "voteAnswers", "[I", true)
  | _ => ("BallotHouse$Ballot", "everVoted", "[I", true)
def tyX1 : Nat → FieldType := fun k => match k with
  | 0 => .int
  | 1 => .int
  | 2 => .int
  | 3 => .int
  | 4 => .int
  | 5 => .int
  | 6 => .int
  | 7 => .int
  | 8 => .int
  | 9 => .int
  | 10 => .array .int
  | 11 => .array .long
  | 12 => .array .int
  | _ => .array .int
abbrev wsX10 : List Cond := u_ws RX1 TX1 14
theorem nmX1 : ∀ a, a < 14 → ∀ b, b < 14 → a ≠ b → (TX1 a).2.1 ≠ (TX1 b).2.1 := by decide +kernel
theorem tyX1_ok : ∀ k, k < 14 → parseFieldDescriptor (TX1 k).2.2.1 = some (tyX1 k) := by decide +kernel
abbrev cX1_init : ByteArray := prog_3_method_1_code
def yX1_init : MethodName := ⟨RX1, "<init>", "(IIIIII)V"⟩
abbrev cX1_hasWord : ByteArray := prog_3_method_2_code
def yX1_hasWord : MethodName := ⟨RX1, "hasWord", "(I)Z"⟩
abbrev cX1_knows : ByteArray := prog_3_method_3_code
def yX1_knows : MethodName := ⟨RX1, "knows", "(I)Z"⟩
abbrev cX1_hasChosen : ByteArray := prog_3_method_4_code
def yX1_hasChosen : MethodName := ⟨RX1, "hasChosen", "(I)Z"⟩
abbrev cX1_knownPlaces : ByteArray := prog_3_method_5_code
def yX1_knownPlaces : MethodName := ⟨RX1, "knownPlaces", "()I"⟩
def RX2 : String := "BallotHouse$Votes"
def TX2 : u_T := fun k => match k with
  | _ => ("", "", "", false)
def tyX2 : Nat → FieldType := fun k => match k with
  | _ => .int
abbrev wsX20 : List Cond := u_ws RX2 TX2 0
theorem nmX2 : ∀ a, a < 0 → ∀ b, b < 0 → a ≠ b → (TX2 a).2.1 ≠ (TX2 b).2.1 := by decide +kernel
theorem tyX2_ok : ∀ k, k < 0 → parseFieldDescriptor (TX2 k).2.2.1 = some (tyX2 k) := by decide +kernel
abbrev cX2_at : ByteArray := prog_4_method_2_code
def yX2_at : MethodName := ⟨RX2, "at", "(JI)I"⟩
abbrev cX2_with : ByteArray := prog_4_method_3_code
def yX2_with : MethodName := ⟨RX2, "with", "(JII)J"⟩
abbrev cX2_places : ByteArray := prog_4_method_4_code
def yX2_places : MethodName := ⟨RX2, "places", "(J)I"⟩
def RX3 : String := "BallotHouse"
def TX3 : u_T := fun k => match k with
  | 0 => ("BallotHouse", "voters", "I", true)
  | 1 => ("BallotHouse", "promises", "[I", true)
  | 2 => ("BallotHouse", "votes", "[J", true)
  | 3 => ("BallotHouse", "silentVoters", "I", false)
  | 4 => ("BallotHouse", "ballots", "[LBallotHouse$Ballot;", true)
  | 5 => ("BallotHouse", "made", "I", false)
  | 6 => ("BallotHouse", "complete", "I", false)
  | _ => ("BallotHouse", "letters", "LBallotHouse$Air;", true)
def tyX3 : Nat → FieldType := fun k => match k with
  | 0 => .int
  | 1 => .array .int
  | 2 => .array .long
  | 3 => .int
  | 4 => .array (.object "BallotHouse$Ballot")
  | 5 => .int
  | 6 => .int
  | _ => .object "BallotHouse$Air"
abbrev wsX30 : List Cond := u_ws RX3 TX3 8
theorem nmX3 : ∀ a, a < 8 → ∀ b, b < 8 → a ≠ b → (TX3 a).2.1 ≠ (TX3 b).2.1 := by decide +kernel
theorem tyX3_ok : ∀ k, k < 8 → parseFieldDescriptor (TX3 k).2.2.1 = some (tyX3 k) := by decide +kernel
abbrev cX3_init : ByteArray := prog_1_method_1_code
def yX3_init : MethodName := ⟨RX3, "<init>", "(I)V"⟩
abbrev cX3_ballot : ByteArray := prog_1_method_2_code
def yX3_ballot : MethodName := ⟨RX3, "ballot", "(III)I"⟩
abbrev cX3_propose : ByteArray := prog_1_method_3_code
def yX3_propose : MethodName := ⟨RX3, "propose", "(IIJ)Z"⟩
abbrev cX3_again : ByteArray := prog_1_method_4_code
def yX3_again : MethodName := ⟨RX3, "again", "(I)I"⟩
abbrev cX3_deliver : ByteArray := prog_1_method_5_code
def yX3_deliver : MethodName := ⟨RX3, "deliver", "(I)Z"⟩
abbrev cX3_settle : ByteArray := prog_1_method_6_code
def yX3_settle : MethodName := ⟨RX3, "settle", "(I)I"⟩
abbrev cX3_lose : ByteArray := prog_1_method_7_code
def yX3_lose : MethodName := ⟨RX3, "lose", "(I)Z"⟩
abbrev cX3_twice : ByteArray := prog_1_method_8_code
def yX3_twice : MethodName := ⟨RX3, "twice", "(I)Z"⟩
abbrev cX3_silent : ByteArray := prog_1_method_9_code
def yX3_silent : MethodName := ⟨RX3, "silent", "(IZ)Z"⟩
abbrev cX3_promise : ByteArray := prog_1_method_10_code
def yX3_promise : MethodName := ⟨RX3, "promise", "(I)I"⟩
abbrev cX3_vote : ByteArray := prog_1_method_11_code
def yX3_vote : MethodName := ⟨RX3, "vote", "(II)I"⟩
abbrev cX3_value : ByteArray := prog_1_method_12_code
def yX3_value : MethodName := ⟨RX3, "value", "(II)J"⟩
abbrev cX3_of : ByteArray := prog_1_method_13_code
def yX3_of : MethodName := ⟨RX3, "of", "(II)I"⟩
abbrev cX3_answered : ByteArray := prog_1_method_14_code
def yX3_answered : MethodName := ⟨RX3, "answered", "(II)I"⟩
abbrev cX3_said : ByteArray := prog_1_method_15_code
def yX3_said : MethodName := ⟨RX3, "said", "(II)J"⟩
abbrev cX3_chosen : ByteArray := prog_1_method_16_code
def yX3_chosen : MethodName := ⟨RX3, "chosen", "(I)I"⟩
abbrev cX3_chosenValue : ByteArray := prog_1_method_17_code
def yX3_chosenValue : MethodName := ⟨RX3, "chosenValue", "(I)J"⟩
abbrev cX3_isOne : ByteArray := prog_1_method_18_code
def yX3_isOne : MethodName := ⟨RX3, "isOne", "(I)Z"⟩
abbrev cX3_air : ByteArray := prog_1_method_19_code
def yX3_air : MethodName := ⟨RX3, "air", "(II)I"⟩
abbrev cX3_about : ByteArray := prog_1_method_20_code
def yX3_about : MethodName := ⟨RX3, "about", "(I)I"⟩
abbrev cX3_isVoter : ByteArray := prog_1_method_21_code
def yX3_isVoter : MethodName := ⟨RX3, "isVoter", "(I)Z"⟩
abbrev cX3_isPlace : ByteArray := prog_1_method_22_code
def yX3_isPlace : MethodName := ⟨RX3, "isPlace", "(I)Z"⟩
abbrev cX3_find : ByteArray := prog_1_method_23_code
def yX3_find : MethodName := ⟨RX3, "find", "(I)LBallotHouse$Ballot;"⟩
abbrev cX3_canBe : ByteArray := prog_1_method_24_code
def yX3_canBe : MethodName := ⟨RX3, "canBe", "(III)Z"⟩
abbrev cX3_membersFrom : ByteArray := prog_1_method_25_code
def yX3_membersFrom : MethodName := ⟨RX3, "membersFrom", "(I)I"⟩
abbrev cX3_firstThatChose : ByteArray := prog_1_method_26_code
def yX3_firstThatChose : MethodName := ⟨RX3, "firstThatChose", "(I)LBallotHouse$Ballot;"⟩
abbrev cX3_sendToEach : ByteArray := prog_1_method_27_code
def yX3_sendToEach : MethodName := ⟨RX3, "sendToEach", "(IILBallotHouse$Ballot;I)I"⟩
abbrev cX3_sendMissingVotes : ByteArray := prog_1_method_28_code
def yX3_sendMissingVotes : MethodName := ⟨RX3, "sendMissingVotes", "(LBallotHouse$Ballot;)I"⟩
abbrev cX3_isForSilent : ByteArray := prog_1_method_29_code
def yX3_isForSilent : MethodName := ⟨RX3, "isForSilent", "(I)Z"⟩
abbrev cX3_firstDeliverable : ByteArray := prog_1_method_30_code
def yX3_firstDeliverable : MethodName := ⟨RX3, "firstDeliverable", "()I"⟩
abbrev cX3_handOver : ByteArray := prog_1_method_31_code
def yX3_handOver : MethodName := ⟨RX3, "handOver", "(I)V"⟩
abbrev cX3_newComes : ByteArray := prog_1_method_32_code
def yX3_newComes : MethodName := ⟨RX3, "newComes", "(LBallotHouse$Ballot;)V"⟩
abbrev cX3_readComes : ByteArray := prog_1_method_33_code
def yX3_readComes : MethodName := ⟨RX3, "readComes", "(LBallotHouse$Ballot;I)V"⟩
abbrev cX3_readAnswerComes : ByteArray := prog_1_method_34_code
def yX3_readAnswerComes : MethodName := ⟨RX3, "readAnswerComes", "(LBallotHouse$Ballot;IJ)V"⟩
abbrev cX3_takeFound : ByteArray := prog_1_method_35_code
def yX3_takeFound : MethodName := ⟨RX3, "takeFound", "(LBallotHouse$Ballot;J)V"⟩
abbrev cX3_voteComes : ByteArray := prog_1_method_36_code
def yX3_voteComes : MethodName := ⟨RX3, "voteComes", "(LBallotHouse$Ballot;II)V"⟩
abbrev cX3_voteAnswerComes : ByteArray := prog_1_method_37_code
def yX3_voteAnswerComes : MethodName := ⟨RX3, "voteAnswerComes", "(LBallotHouse$Ballot;II)V"⟩
abbrev cX3_completeComes : ByteArray := prog_1_method_38_code
def yX3_completeComes : MethodName := ⟨RX3, "completeComes", "(LBallotHouse$Ballot;)V"⟩
abbrev cX3_activeComes : ByteArray := prog_1_method_39_code
def yX3_activeComes : MethodName := ⟨RX3, "activeComes", "(LBallotHouse$Ballot;)V"⟩
abbrev cX3_goOn : ByteArray := prog_1_method_40_code
def yX3_goOn : MethodName := ⟨RX3, "goOn", "(LBallotHouse$Ballot;)V"⟩
abbrev cX3_isReadingOver : ByteArray := prog_1_method_41_code
def yX3_isReadingOver : MethodName := ⟨RX3, "isReadingOver", "(LBallotHouse$Ballot;)Z"⟩
def RX4 : String := "BallotHouseModel"
def TX4 : u_T := fun k => match k with
  | 0 => ("BallotHouseModel", "voters", "I", true)
  | 1 => ("BallotHouseModel", "promise", "[I", true)
  | 2 => ("BallotHouseModel", "vote", "[I", true)
  | 3 => ("BallotHouseModel", "value", "[J", true)
  | 4 => ("BallotHouseModel", "silent", "[Z", true)
  | 5 => ("BallotHouseModel", "state", "[I", true)
  | 6 => ("BallotHouseModel", "members", "[I", true)
  | 7 => ("BallotHouseModel", "reads", "[I", true)
  | 8 => ("BallotHouseModel", "writes", "[I", true)
  | 9 => ("BallotHouseModel", "behind", "[I", true)
  | 10 => ("BallotHouseModel", "readers", "[I", true)
  | 11 => ("BallotHouseModel", "found", "[I", true)
  | 12 => ("BallotHouseModel", "proposed", "[I", true)
  | 13 => ("BallotHouseModel", "known", "[I", true)
  | 14 => ("BallotHouseModel", "foundBy", "[I", true)
  | 15 => ("BallotHouseModel", "answers", "[I", true)
  | 16 => ("BallotHouseModel", "voted", "[I", true)
  | 17 => ("BallotHouseModel", "says", "[J", true)
  | 18 => ("BallotHouseModel", "ballots", "I", false)
  | 19 => ("BallotHouseModel", "complete", "I", false)
  | 20 => ("BallotHouseModel", "lost", "I", false)
  | 21 => ("BallotHouseModel", "airKind", "[I", true)
  | 22 => ("BallotHouseModel", "airBallot", "[I", true)
  | 23 => ("BallotHouseModel", "airVoter", "[I", true)
  | 24 => ("BallotHouseModel", "airPlace", "[I", true)
  | 25 => ("BallotHouseModel", "airVote", "[I", true)
  | 26 => ("BallotHouseModel", "airValue", "[J", true)
  | 27 => ("BallotHouseModel", "airValues", "[J", true)
  | 28 => ("BallotHouseModel", "air", "I", false)
  | 29 => ("BallotHouseModel", "gotVote", "[I", true)
  | _ => ("BallotHouseModel", "gotValue", "[J", true)
def tyX4 : Nat → FieldType := fun k => match k with
  | 0 => .int
  | 1 => .array .int
  | 2 => .array .int
  | 3 => .array .long
  | 4 => .array .boolean
  | 5 => .array .int
  | 6 => .array .int
  | 7 => .array .int
  | 8 => .array .int
  | 9 => .array .int
  | 10 => .array .int
  | 11 => .array .int
  | 12 => .array .int
  | 13 => .array .int
  | 14 => .array .int
  | 15 => .array .int
  | 16 => .array .int
  | 17 => .array .long
  | 18 => .int
  | 19 => .int
  | 20 => .int
  | 21 => .array .int
  | 22 => .array .int
  | 23 => .array .int
  | 24 => .array .int
  | 25 => .array .int
  | 26 => .array .long
  | 27 => .array .long
  | 28 => .int
  | 29 => .array .int
  | _ => .array .long
abbrev wsX40 : List Cond := u_ws RX4 TX4 31
theorem nmX4 : ∀ a, a < 31 → ∀ b, b < 31 → a ≠ b → (TX4 a).2.1 ≠ (TX4 b).2.1 := by decide +kernel
theorem tyX4_ok : ∀ k, k < 31 → parseFieldDescriptor (TX4 k).2.2.1 = some (tyX4 k) := by decide +kernel
abbrev cX4_init : ByteArray := prog_6_method_1_code
def yX4_init : MethodName := ⟨RX4, "<init>", "(I)V"⟩
abbrev cX4_isVoter : ByteArray := prog_6_method_2_code
def yX4_isVoter : MethodName := ⟨RX4, "isVoter", "(I)Z"⟩
abbrev cX4_isBallot : ByteArray := prog_6_method_3_code
def yX4_isBallot : MethodName := ⟨RX4, "isBallot", "(I)Z"⟩
abbrev cX4_isPlace : ByteArray := prog_6_method_4_code
def yX4_isPlace : MethodName := ⟨RX4, "isPlace", "(I)Z"⟩
abbrev cX4_many : ByteArray := prog_6_method_5_code
def yX4_many : MethodName := ⟨RX4, "many", "(I)I"⟩
abbrev cX4_put : ByteArray := prog_6_method_6_code
def yX4_put : MethodName := ⟨RX4, "put", "(IIIIJ)V"⟩
abbrev cX4_copy : ByteArray := prog_6_method_7_code
def yX4_copy : MethodName := ⟨RX4, "copy", "(II)V"⟩
abbrev cX4_take : ByteArray := prog_6_method_8_code
def yX4_take : MethodName := ⟨RX4, "take", "(I)V"⟩
abbrev cX4_ballot : ByteArray := prog_6_method_9_code
def yX4_ballot : MethodName := ⟨RX4, "ballot", "(III)I"⟩
abbrev cX4_firstRead : ByteArray := prog_6_method_10_code
def yX4_firstRead : MethodName := ⟨RX4, "firstRead", "(I)I"⟩
abbrev cX4_asked : ByteArray := prog_6_method_11_code
def yX4_asked : MethodName := ⟨RX4, "asked", "(I)I"⟩
abbrev cX4_sendReads : ByteArray := prog_6_method_12_code
def yX4_sendReads : MethodName := ⟨RX4, "sendReads", "(I)I"⟩
abbrev cX4_sendVotes : ByteArray := prog_6_method_13_code
def yX4_sendVotes : MethodName := ⟨RX4, "sendVotes", "(II)I"⟩
abbrev cX4_isRead : ByteArray := prog_6_method_14_code
def yX4_isRead : MethodName := ⟨RX4, "isRead", "(I)Z"⟩
abbrev cX4_isMoved : ByteArray := prog_6_method_15_code
def yX4_isMoved : MethodName := ⟨RX4, "isMoved", "(I)Z"⟩
abbrev cX4_beginReading : ByteArray := prog_6_method_16_code
def yX4_beginReading : MethodName := ⟨RX4, "beginReading", "(I)V"⟩
abbrev cX4_beginMoving : ByteArray := prog_6_method_17_code
def yX4_beginMoving : MethodName := ⟨RX4, "beginMoving", "(I)V"⟩
abbrev cX4_beginAsking : ByteArray := prog_6_method_18_code
def yX4_beginAsking : MethodName := ⟨RX4, "beginAsking", "(I)V"⟩
abbrev cX4_propose : ByteArray := prog_6_method_19_code
def yX4_propose : MethodName := ⟨RX4, "propose", "(IIJ)Z"⟩
abbrev cX4_again : ByteArray := prog_6_method_20_code
def yX4_again : MethodName := ⟨RX4, "again", "(I)I"⟩
abbrev cX4_comesRead : ByteArray := prog_6_method_21_code
def yX4_comesRead : MethodName := ⟨RX4, "comesRead", "(II)V"⟩
abbrev cX4_comesVote : ByteArray := prog_6_method_22_code
def yX4_comesVote : MethodName := ⟨RX4, "comesVote", "(IIIJ)V"⟩
abbrev cX4_comesReadAnswer : ByteArray := prog_6_method_23_code
def yX4_comesReadAnswer : MethodName := ⟨RX4, "comesReadAnswer", "(II)V"⟩
abbrev cX4_comesVoteAnswer : ByteArray := prog_6_method_24_code
def yX4_comesVoteAnswer : MethodName := ⟨RX4, "comesVoteAnswer", "(III)V"⟩
abbrev cX4_canBe : ByteArray := prog_6_method_25_code
def yX4_canBe : MethodName := ⟨RX4, "canBe", "(I)Z"⟩
abbrev cX4_deliver : ByteArray := prog_6_method_26_code
def yX4_deliver : MethodName := ⟨RX4, "deliver", "(I)Z"⟩
abbrev cX4_settle : ByteArray := prog_6_method_27_code
def yX4_settle : MethodName := ⟨RX4, "settle", "(I)I"⟩
abbrev cX4_lose : ByteArray := prog_6_method_28_code
def yX4_lose : MethodName := ⟨RX4, "lose", "(I)Z"⟩
abbrev cX4_twice : ByteArray := prog_6_method_29_code
def yX4_twice : MethodName := ⟨RX4, "twice", "(I)Z"⟩
abbrev cX4_silent : ByteArray := prog_6_method_30_code
def yX4_silent : MethodName := ⟨RX4, "silent", "(IZ)Z"⟩
abbrev cX4_promise : ByteArray := prog_6_method_31_code
def yX4_promise : MethodName := ⟨RX4, "promise", "(I)I"⟩
abbrev cX4_vote : ByteArray := prog_6_method_32_code
def yX4_vote : MethodName := ⟨RX4, "vote", "(II)I"⟩
abbrev cX4_value : ByteArray := prog_6_method_33_code
def yX4_value : MethodName := ⟨RX4, "value", "(II)J"⟩
abbrev cX4_of : ByteArray := prog_6_method_34_code
def yX4_of : MethodName := ⟨RX4, "of", "(II)I"⟩
abbrev cX4_answered : ByteArray := prog_6_method_35_code
def yX4_answered : MethodName := ⟨RX4, "answered", "(II)I"⟩
abbrev cX4_said : ByteArray := prog_6_method_36_code
def yX4_said : MethodName := ⟨RX4, "said", "(II)J"⟩
abbrev cX4_isChosen : ByteArray := prog_6_method_37_code
def yX4_isChosen : MethodName := ⟨RX4, "isChosen", "(II)Z"⟩
abbrev cX4_chosen : ByteArray := prog_6_method_38_code
def yX4_chosen : MethodName := ⟨RX4, "chosen", "(I)I"⟩
abbrev cX4_chosenValue : ByteArray := prog_6_method_39_code
def yX4_chosenValue : MethodName := ⟨RX4, "chosenValue", "(I)J"⟩
abbrev cX4_isOne : ByteArray := prog_6_method_40_code
def yX4_isOne : MethodName := ⟨RX4, "isOne", "(I)Z"⟩
abbrev cX4_air : ByteArray := prog_6_method_41_code
def yX4_air : MethodName := ⟨RX4, "air", "(II)I"⟩
abbrev cX4_about : ByteArray := prog_6_method_42_code
def yX4_about : MethodName := ⟨RX4, "about", "(I)I"⟩
def RJ6 : String := "java/lang/Integer"
def TJ6 : u_T := fun k => match k with
  | _ => ("", "", "", false)
def tyJ6 : Nat → FieldType := fun k => match k with
  | _ => .int
abbrev wsJ60 : List Cond := u_ws RJ6 TJ6 0
theorem nmJ6 : ∀ a, a < 0 → ∀ b, b < 0 → a ≠ b → (TJ6 a).2.1 ≠ (TJ6 b).2.1 := by decide +kernel
theorem tyJ6_ok : ∀ k, k < 0 → parseFieldDescriptor (TJ6 k).2.2.1 = some (tyJ6 k) := by decide +kernel
abbrev cJ6_bitCount_0f7a4 : ByteArray := prog_7_method_49_code
def yJ6_bitCount_0f7a4 : MethodName := ⟨RJ6, "bitCount", "(I)I"⟩
def RJ9 : String := "java/lang/Math"
def TJ9 : u_T := fun k => match k with
  | _ => ("", "", "", false)
def tyJ9 : Nat → FieldType := fun k => match k with
  | _ => .int
abbrev wsJ90 : List Cond := u_ws RJ9 TJ9 0
theorem nmJ9 : ∀ a, a < 0 → ∀ b, b < 0 → a ≠ b → (TJ9 a).2.1 ≠ (TJ9 b).2.1 := by decide +kernel
theorem tyJ9_ok : ∀ k, k < 0 → parseFieldDescriptor (TJ9 k).2.2.1 = some (tyJ9 k) := by decide +kernel
abbrev cJ9_max_7cf53 : ByteArray := prog_8_method_65_code
def yJ9_max_7cf53 : MethodName := ⟨RJ9, "max", "(II)I"⟩
abbrev cJ9_min_7cf53 : ByteArray := prog_8_method_69_code
def yJ9_min_7cf53 : MethodName := ⟨RJ9, "min", "(II)I"⟩
def RJ10 : String := "java/lang/System"
def TJ10 : u_T := fun k => match k with
  | _ => ("", "", "", false)
def tyJ10 : Nat → FieldType := fun k => match k with
  | _ => .int
abbrev wsJ100 : List Cond := u_ws RJ10 TJ10 0
theorem nmJ10 : ∀ a, a < 0 → ∀ b, b < 0 → a ≠ b → (TJ10 a).2.1 ≠ (TJ10 b).2.1 := by decide +kernel
theorem tyJ10_ok : ∀ k, k < 0 → parseFieldDescriptor (TJ10 k).2.2.1 = some (tyJ10 k) := by decide +kernel
def RL : String := "BallotHouseLaw"
abbrev cL_cell : ByteArray := method_2_code
def yL_cell : MethodName := ⟨RL, "cell", "([II)I"⟩
abbrev cL_law : ByteArray := code
def yL_law : MethodName := ⟨RL, "law", "([I)Z"⟩
def wsX0_init : List Cond := .code yX0_init cX0_init 1 none :: ([.methodLink RX0 3 objectInit, .instanceMethod objectInit, .code objectInit ⟨#[0xb1]⟩ 1 none, .arrayClass .int, .fieldLink RX0 9 "BallotHouse$Air" "kind" "[I", .fieldLink RX0 15 "BallotHouse$Air" "ballot" "[I", .fieldLink RX0 18 "BallotHouse$Air" "voter" "[I", .fieldLink RX0 21 "BallotHouse$Air" "place" "[I", .arrayClass .long, .fieldLink RX0 24 "BallotHouse$Air" "votes" "[J"] ++ wsX00)
def wsX0_has : List Cond := .code yX0_has cX0_has 2 (some .boolean) :: ([.fieldLink RX0 28 "BallotHouse$Air" "size" "I"] ++ wsX00)
def wsX0_send : List Cond := .code yX0_send cX0_send 7 none :: ([.fieldLink RX0 28 "BallotHouse$Air" "size" "I", .fieldLink RX0 32 "BallotHouse$Air" "lost" "I", .fieldLink RX0 9 "BallotHouse$Air" "kind" "[I", .fieldLink RX0 15 "BallotHouse$Air" "ballot" "[I", .fieldLink RX0 18 "BallotHouse$Air" "voter" "[I", .fieldLink RX0 21 "BallotHouse$Air" "place" "[I", .fieldLink RX0 24 "BallotHouse$Air" "votes" "[J"] ++ wsX00)
def wsX0_repeat : List Cond := .code yX0_repeat cX0_repeat 2 none :: ([.fieldLink RX0 9 "BallotHouse$Air" "kind" "[I", .fieldLink RX0 15 "BallotHouse$Air" "ballot" "[I", .fieldLink RX0 18 "BallotHouse$Air" "voter" "[I", .fieldLink RX0 21 "BallotHouse$Air" "place" "[I", .fieldLink RX0 24 "BallotHouse$Air" "votes" "[J", .methodLink RX0 35 yX0_has, .instanceMethod yX0_has, .selects RX0 yX0_has yX0_has, .initialized RX0, .code yX0_has cX0_has 2 (some .boolean), .fieldLink RX0 28 "BallotHouse$Air" "size" "I", .methodLink RX0 39 yX0_send, .instanceMethod yX0_send, .selects RX0 yX0_send yX0_send, .code yX0_send cX0_send 7 none, .fieldLink RX0 32 "BallotHouse$Air" "lost" "I"] ++ wsX00)
def wsX0_drop : List Cond := .code yX0_drop cX0_drop 3 none :: ([.fieldLink RX0 28 "BallotHouse$Air" "size" "I", .fieldLink RX0 9 "BallotHouse$Air" "kind" "[I", .methodLink RX0 43 arraycopyName, .native arraycopyName, .static arraycopyName, .initialized "java/lang/System", .fieldLink RX0 15 "BallotHouse$Air" "ballot" "[I", .fieldLink RX0 18 "BallotHouse$Air" "voter" "[I", .fieldLink RX0 21 "BallotHouse$Air" "place" "[I", .fieldLink RX0 24 "BallotHouse$Air" "votes" "[J", .methodLink RX0 35 yX0_has, .instanceMethod yX0_has, .selects RX0 yX0_has yX0_has, .initialized RX0, .code yX0_has cX0_has 2 (some .boolean)] ++ wsX00)
def wsX1_init : List Cond := .code yX1_init cX1_init 7 none :: ([.methodLink RX1 3 objectInit, .instanceMethod objectInit, .code objectInit ⟨#[0xb1]⟩ 1 none, .fieldLink RX1 9 "BallotHouse$Ballot" "state" "I", .arrayClass .int, .fieldLink RX1 15 "BallotHouse$Ballot" "foundBy" "[I", .arrayClass .long, .fieldLink RX1 19 "BallotHouse$Ballot" "words" "[J", .fieldLink RX1 23 "BallotHouse$Ballot" "voteAnswers" "[I", .fieldLink RX1 26 "BallotHouse$Ballot" "everVoted" "[I", .fieldLink RX1 29 "BallotHouse$Ballot" "number" "I", .fieldLink RX1 32 "BallotHouse$Ballot" "members" "I", .fieldLink RX1 35 "BallotHouse$Ballot" "\x72" "I", .fieldLink RX1 38 "BallotHouse$Ballot" "w" "I", .fieldLink RX1 41 "BallotHouse$Ballot" "behind" "I", .fieldLink RX1 44 "BallotHouse$Ballot" "readers" "I"] ++ wsX10)
def wsX1_hasWord : List Cond := .code yX1_hasWord cX1_hasWord 2 (some .boolean) :: ([.fieldLink RX1 47 "BallotHouse$Ballot" "found" "I", .fieldLink RX1 50 "BallotHouse$Ballot" "proposed" "I"] ++ wsX10)
def wsX3_isPlace : List Cond := .code yX3_isPlace cX3_isPlace 1 (some .boolean) :: ([])
def wsJ6_bitCount_0f7a4 : List Cond := .code yJ6_bitCount_0f7a4 cJ6_bitCount_0f7a4 1 (some .int) :: ([.constant RJ6 265 (1431655765), .constant RJ6 266 (858993459), .constant RJ6 267 (252645135)])
def wsX1_knows : List Cond := .code yX1_knows cX1_knows 2 (some .boolean) :: ([.fieldLink RX1 23 "BallotHouse$Ballot" "voteAnswers" "[I", .fieldLink RX1 38 "BallotHouse$Ballot" "w" "I", .static yX3_isPlace, .initialized RX3, .code yX3_isPlace cX3_isPlace 1 (some .boolean), .methodLink RX1 57 yJ6_bitCount_0f7a4, .static yJ6_bitCount_0f7a4, .initialized RJ6, .code yJ6_bitCount_0f7a4 cJ6_bitCount_0f7a4 1 (some .int), .constant RJ6 265 (1431655765), .constant RJ6 266 (858993459), .constant RJ6 267 (252645135)] ++ wsX10)
def wsX1_hasChosen : List Cond := .code yX1_hasChosen cX1_hasChosen 2 (some .boolean) :: ([.fieldLink RX1 26 "BallotHouse$Ballot" "everVoted" "[I", .fieldLink RX1 38 "BallotHouse$Ballot" "w" "I", .static yX3_isPlace, .initialized RX3, .code yX3_isPlace cX3_isPlace 1 (some .boolean), .methodLink RX1 57 yJ6_bitCount_0f7a4, .static yJ6_bitCount_0f7a4, .initialized RJ6, .code yJ6_bitCount_0f7a4 cJ6_bitCount_0f7a4 1 (some .int), .constant RJ6 265 (1431655765), .constant RJ6 266 (858993459), .constant RJ6 267 (252645135)] ++ wsX10)
def wsX1_knownPlaces : List Cond := .code yX1_knownPlaces cX1_knownPlaces 3 (some .int) :: ([.methodLink RX1 63 yX1_knows, .instanceMethod yX1_knows, .selects RX1 yX1_knows yX1_knows, .initialized RX1, .code yX1_knows cX1_knows 2 (some .boolean), .fieldLink RX1 23 "BallotHouse$Ballot" "voteAnswers" "[I", .fieldLink RX1 38 "BallotHouse$Ballot" "w" "I", .static yX3_isPlace, .initialized RX3, .code yX3_isPlace cX3_isPlace 1 (some .boolean), .methodLink RX1 57 yJ6_bitCount_0f7a4, .static yJ6_bitCount_0f7a4, .initialized RJ6, .code yJ6_bitCount_0f7a4 cJ6_bitCount_0f7a4 1 (some .int), .constant RJ6 265 (1431655765), .constant RJ6 266 (858993459), .constant RJ6 267 (252645135)] ++ wsX10)
def wsX2_at : List Cond := .code yX2_at cX2_at 3 (some .int) :: ([.constantLong RX2 11 (255)])
def wsX2_with : List Cond := .code yX2_with cX2_with 5 (some .long) :: ([.constantLong RX2 11 (255), .constantLong RX2 13 (-1)])
def wsX2_places : List Cond := .code yX2_places cX2_places 4 (some .int) :: ([.methodLink RX2 15 yX2_at, .static yX2_at, .initialized RX2, .code yX2_at cX2_at 3 (some .int), .constantLong RX2 11 (255)])
def wsX3_init_r1 : List Cond := [Cond.methodLink RX3 1 objectInit, Cond.instanceMethod objectInit, Cond.code objectInit ⟨#[0xb1]⟩ 1 none, Cond.methodLink RX3 9 Lib.Math.min.name, Cond.static Lib.Math.min.name, Cond.initialized "java/lang/Math", Cond.code Lib.Math.min.name Lib.Math.min.code 2 (some .int), Cond.methodLink RX3 15 Lib.Math.max.name, Cond.static Lib.Math.max.name, Cond.code Lib.Math.max.name Lib.Math.max.code 2 (some .int), Cond.fieldLink RX3 18 "BallotHouse" "voters" "I", Cond.arrayClass .int, Cond.fieldLink RX3 22 "BallotHouse" "promises" "[I", Cond.arrayClass .long, Cond.fieldLink RX3 26 "BallotHouse" "votes" "[J", Cond.classLink RX3 30 RX1, Cond.fieldLink RX3 32 "BallotHouse" "ballots" "[LBallotHouse$Ballot;", Cond.classLink RX3 36 RX0, Cond.instantiable RX0 7, Cond.initialized RX0, Cond.fieldLink RX3 39 "BallotHouse" "letters" "LBallotHouse$Air;", Cond.instanceMethod yX0_init, Cond.code yX0_init cX0_init 1 none, Cond.methodLink RX0 3 objectInit]
def wsX3_init_r2 : List Cond := [Cond.fieldLink RX0 9 "BallotHouse$Air" "kind" "[I", Cond.fieldLink RX0 15 "BallotHouse$Air" "ballot" "[I", Cond.fieldLink RX0 18 "BallotHouse$Air" "voter" "[I", Cond.fieldLink RX0 21 "BallotHouse$Air" "place" "[I", Cond.fieldLink RX0 24 "BallotHouse$Air" "votes" "[J"]
def wsX3_init : List Cond := .code yX3_init cX3_init 2 none :: ((wsX3_init_r1 ++ wsX3_init_r2) ++ wsX30 ++ wsX00)
def wsX3_canBe : List Cond := .code yX3_canBe cX3_canBe 5 (some .boolean) :: ([.fieldLink RX3 18 "BallotHouse" "voters" "I", .methodLink RX3 183 yJ6_bitCount_0f7a4, .static yJ6_bitCount_0f7a4, .initialized RJ6, .code yJ6_bitCount_0f7a4 cJ6_bitCount_0f7a4 1 (some .int), .constant RJ6 265 (1431655765), .constant RJ6 266 (858993459), .constant RJ6 267 (252645135)] ++ wsX30)
def wsX3_find : List Cond := .code yX3_find cX3_find 2 (some (.object "BallotHouse$Ballot")) :: ([.fieldLink RX3 43 "BallotHouse" "made" "I", .fieldLink RX3 32 "BallotHouse" "ballots" "[LBallotHouse$Ballot;"] ++ wsX30)
def wsX3_membersFrom : List Cond := .code yX3_membersFrom cX3_membersFrom 5 (some .int) :: ([.fieldLink RX3 43 "BallotHouse" "made" "I", .fieldLink RX3 84 "BallotHouse$Ballot" "members" "I", .methodLink RX3 64 yX3_find, .instanceMethod yX3_find, .selects RX3 yX3_find yX3_find, .initialized RX3, .code yX3_find cX3_find 2 (some (.object "BallotHouse$Ballot")), .fieldLink RX3 32 "BallotHouse" "ballots" "[LBallotHouse$Ballot;"] ++ wsX30 ++ wsX10)
def wsX3_ballot_r1 : List Cond := [Cond.fieldLink RX3 43 "BallotHouse" "made" "I", Cond.fieldLink RX3 50 "BallotHouse" "complete" "I", Cond.methodLink RX3 15 Lib.Math.max.name, Cond.static Lib.Math.max.name, Cond.initialized "java/lang/Math", Cond.code Lib.Math.max.name Lib.Math.max.code 2 (some .int), Cond.classLink RX3 30 RX1, Cond.instantiable RX1 14, Cond.initialized RX1, Cond.fieldLink RX3 32 "BallotHouse" "ballots" "[LBallotHouse$Ballot;", Cond.fieldLink RX3 39 "BallotHouse" "letters" "LBallotHouse$Air;", Cond.methodLink RX3 46 yX3_canBe, Cond.instanceMethod yX3_canBe, Cond.selects RX3 yX3_canBe yX3_canBe, Cond.initialized RX3, Cond.code yX3_canBe cX3_canBe 5 (some .boolean), Cond.fieldLink RX3 18 "BallotHouse" "voters" "I", Cond.methodLink RX3 183 yJ6_bitCount_0f7a4, Cond.static yJ6_bitCount_0f7a4, Cond.initialized RJ6, Cond.code yJ6_bitCount_0f7a4 cJ6_bitCount_0f7a4 1 (some .int), Cond.constant RJ6 265 (1431655765), Cond.constant RJ6 266 (858993459), Cond.constant RJ6 267 (252645135)]
def wsX3_ballot_r2 : List Cond := [Cond.methodLink RX3 53 yX3_membersFrom, Cond.instanceMethod yX3_membersFrom, Cond.selects RX3 yX3_membersFrom yX3_membersFrom, Cond.code yX3_membersFrom cX3_membersFrom 5 (some .int), Cond.fieldLink RX3 84 "BallotHouse$Ballot" "members" "I", Cond.methodLink RX3 64 yX3_find, Cond.instanceMethod yX3_find, Cond.selects RX3 yX3_find yX3_find, Cond.code yX3_find cX3_find 2 (some (.object "BallotHouse$Ballot")), Cond.methodLink RX3 57 yX1_init, Cond.instanceMethod yX1_init, Cond.code yX1_init cX1_init 7 none, Cond.methodLink RX1 3 objectInit, Cond.instanceMethod objectInit, Cond.code objectInit ⟨#[0xb1]⟩ 1 none, Cond.fieldLink RX1 9 "BallotHouse$Ballot" "state" "I", Cond.arrayClass .int, Cond.fieldLink RX1 15 "BallotHouse$Ballot" "foundBy" "[I", Cond.arrayClass .long, Cond.fieldLink RX1 19 "BallotHouse$Ballot" "words" "[J", Cond.fieldLink RX1 23 "BallotHouse$Ballot" "voteAnswers" "[I", Cond.fieldLink RX1 26 "BallotHouse$Ballot" "everVoted" "[I", Cond.fieldLink RX1 29 "BallotHouse$Ballot" "number" "I", Cond.fieldLink RX1 32 "BallotHouse$Ballot" "members" "I"]
def wsX3_ballot_r3 : List Cond := [Cond.fieldLink RX1 35 "BallotHouse$Ballot" "\x72" "I", Cond.fieldLink RX1 38 "BallotHouse$Ballot" "w" "I", Cond.fieldLink RX1 41 "BallotHouse$Ballot" "behind" "I", Cond.fieldLink RX1 44 "BallotHouse$Ballot" "readers" "I", Cond.methodLink RX3 60 yX0_send, Cond.instanceMethod yX0_send, Cond.selects RX0 yX0_send yX0_send, Cond.initialized RX0, Cond.code yX0_send cX0_send 7 none, Cond.fieldLink RX0 28 "BallotHouse$Air" "size" "I", Cond.fieldLink RX0 32 "BallotHouse$Air" "lost" "I", Cond.fieldLink RX0 9 "BallotHouse$Air" "kind" "[I", Cond.fieldLink RX0 15 "BallotHouse$Air" "ballot" "[I", Cond.fieldLink RX0 18 "BallotHouse$Air" "voter" "[I", Cond.fieldLink RX0 21 "BallotHouse$Air" "place" "[I", Cond.fieldLink RX0 24 "BallotHouse$Air" "votes" "[J"]
def wsX3_ballot : List Cond := .code yX3_ballot cX3_ballot 7 (some .int) :: ((wsX3_ballot_r1 ++ (wsX3_ballot_r2 ++ wsX3_ballot_r3)) ++ wsX30 ++ wsX10 ++ wsX00)
def wsX3_sendToEach : List Cond := .code yX3_sendToEach cX3_sendToEach 6 (some .int) :: ([.fieldLink RX3 18 "BallotHouse" "voters" "I", .fieldLink RX3 39 "BallotHouse" "letters" "LBallotHouse$Air;", .fieldLink RX3 91 "BallotHouse$Ballot" "number" "I", .methodLink RX3 60 yX0_send, .instanceMethod yX0_send, .selects RX0 yX0_send yX0_send, .initialized RX0, .code yX0_send cX0_send 7 none, .fieldLink RX0 28 "BallotHouse$Air" "size" "I", .fieldLink RX0 32 "BallotHouse$Air" "lost" "I", .fieldLink RX0 9 "BallotHouse$Air" "kind" "[I", .fieldLink RX0 15 "BallotHouse$Air" "ballot" "[I", .fieldLink RX0 18 "BallotHouse$Air" "voter" "[I", .fieldLink RX0 21 "BallotHouse$Air" "place" "[I", .fieldLink RX0 24 "BallotHouse$Air" "votes" "[J", .methodLink RX3 183 yJ6_bitCount_0f7a4, .static yJ6_bitCount_0f7a4, .initialized RJ6, .code yJ6_bitCount_0f7a4 cJ6_bitCount_0f7a4 1 (some .int), .constant RJ6 265 (1431655765), .constant RJ6 266 (858993459), .constant RJ6 267 (252645135)] ++ wsX30 ++ wsX10 ++ wsX00)
def wsX3_propose_r1 : List Cond := [Cond.fieldLink RX3 72 "BallotHouse$Ballot" "state" "I", Cond.fieldLink RX3 78 "BallotHouse$Ballot" "proposed" "I", Cond.fieldLink RX3 81 "BallotHouse$Ballot" "words" "[J", Cond.fieldLink RX3 84 "BallotHouse$Ballot" "members" "I", Cond.methodLink RX3 64 yX3_find, Cond.instanceMethod yX3_find, Cond.selects RX3 yX3_find yX3_find, Cond.initialized RX3, Cond.code yX3_find cX3_find 2 (some (.object "BallotHouse$Ballot")), Cond.fieldLink RX3 43 "BallotHouse" "made" "I", Cond.fieldLink RX3 32 "BallotHouse" "ballots" "[LBallotHouse$Ballot;", Cond.methodLink RX3 68 yX3_isPlace, Cond.static yX3_isPlace, Cond.code yX3_isPlace cX3_isPlace 1 (some .boolean), Cond.methodLink RX3 75 yX1_hasWord, Cond.instanceMethod yX1_hasWord, Cond.selects RX1 yX1_hasWord yX1_hasWord, Cond.initialized RX1, Cond.code yX1_hasWord cX1_hasWord 2 (some .boolean), Cond.fieldLink RX1 47 "BallotHouse$Ballot" "found" "I", Cond.fieldLink RX1 50 "BallotHouse$Ballot" "proposed" "I", Cond.methodLink RX3 87 yX3_sendToEach, Cond.instanceMethod yX3_sendToEach, Cond.selects RX3 yX3_sendToEach yX3_sendToEach]
def wsX3_propose_r2 : List Cond := [Cond.code yX3_sendToEach cX3_sendToEach 6 (some .int), Cond.fieldLink RX3 18 "BallotHouse" "voters" "I", Cond.fieldLink RX3 39 "BallotHouse" "letters" "LBallotHouse$Air;", Cond.fieldLink RX3 91 "BallotHouse$Ballot" "number" "I", Cond.methodLink RX3 60 yX0_send, Cond.instanceMethod yX0_send, Cond.selects RX0 yX0_send yX0_send, Cond.initialized RX0, Cond.code yX0_send cX0_send 7 none, Cond.fieldLink RX0 28 "BallotHouse$Air" "size" "I", Cond.fieldLink RX0 32 "BallotHouse$Air" "lost" "I", Cond.fieldLink RX0 9 "BallotHouse$Air" "kind" "[I", Cond.fieldLink RX0 15 "BallotHouse$Air" "ballot" "[I", Cond.fieldLink RX0 18 "BallotHouse$Air" "voter" "[I", Cond.fieldLink RX0 21 "BallotHouse$Air" "place" "[I", Cond.fieldLink RX0 24 "BallotHouse$Air" "votes" "[J", Cond.methodLink RX3 183 yJ6_bitCount_0f7a4, Cond.static yJ6_bitCount_0f7a4, Cond.initialized RJ6, Cond.code yJ6_bitCount_0f7a4 cJ6_bitCount_0f7a4 1 (some .int), Cond.constant RJ6 265 (1431655765), Cond.constant RJ6 266 (858993459), Cond.constant RJ6 267 (252645135)]
def wsX3_propose : List Cond := .code yX3_propose cX3_propose 6 (some .boolean) :: ((wsX3_propose_r1 ++ wsX3_propose_r2) ++ wsX10 ++ wsX30 ++ wsX00)
def wsX3_sendMissingVotes_r1 : List Cond := [Cond.fieldLink RX3 84 "BallotHouse$Ballot" "members" "I", Cond.fieldLink RX3 154 "BallotHouse$Ballot" "voteAnswers" "[I", Cond.methodLink RX3 75 yX1_hasWord, Cond.instanceMethod yX1_hasWord, Cond.selects RX1 yX1_hasWord yX1_hasWord, Cond.initialized RX1, Cond.code yX1_hasWord cX1_hasWord 2 (some .boolean), Cond.fieldLink RX1 47 "BallotHouse$Ballot" "found" "I", Cond.fieldLink RX1 50 "BallotHouse$Ballot" "proposed" "I", Cond.methodLink RX3 188 yX1_knows, Cond.instanceMethod yX1_knows, Cond.selects RX1 yX1_knows yX1_knows, Cond.code yX1_knows cX1_knows 2 (some .boolean), Cond.fieldLink RX1 23 "BallotHouse$Ballot" "voteAnswers" "[I", Cond.fieldLink RX1 38 "BallotHouse$Ballot" "w" "I", Cond.static yX3_isPlace, Cond.initialized RX3, Cond.code yX3_isPlace cX3_isPlace 1 (some .boolean), Cond.methodLink RX1 57 yJ6_bitCount_0f7a4, Cond.static yJ6_bitCount_0f7a4, Cond.initialized RJ6, Cond.code yJ6_bitCount_0f7a4 cJ6_bitCount_0f7a4 1 (some .int), Cond.constant RJ6 265 (1431655765), Cond.constant RJ6 266 (858993459)]
def wsX3_sendMissingVotes_r2 : List Cond := [Cond.constant RJ6 267 (252645135), Cond.methodLink RX3 87 yX3_sendToEach, Cond.instanceMethod yX3_sendToEach, Cond.selects RX3 yX3_sendToEach yX3_sendToEach, Cond.code yX3_sendToEach cX3_sendToEach 6 (some .int), Cond.fieldLink RX3 18 "BallotHouse" "voters" "I", Cond.fieldLink RX3 39 "BallotHouse" "letters" "LBallotHouse$Air;", Cond.fieldLink RX3 91 "BallotHouse$Ballot" "number" "I", Cond.methodLink RX3 60 yX0_send, Cond.instanceMethod yX0_send, Cond.selects RX0 yX0_send yX0_send, Cond.initialized RX0, Cond.code yX0_send cX0_send 7 none, Cond.fieldLink RX0 28 "BallotHouse$Air" "size" "I", Cond.fieldLink RX0 32 "BallotHouse$Air" "lost" "I", Cond.fieldLink RX0 9 "BallotHouse$Air" "kind" "[I", Cond.fieldLink RX0 15 "BallotHouse$Air" "ballot" "[I", Cond.fieldLink RX0 18 "BallotHouse$Air" "voter" "[I", Cond.fieldLink RX0 21 "BallotHouse$Air" "place" "[I", Cond.fieldLink RX0 24 "BallotHouse$Air" "votes" "[J", Cond.methodLink RX3 183 yJ6_bitCount_0f7a4]
def wsX3_sendMissingVotes : List Cond := .code yX3_sendMissingVotes cX3_sendMissingVotes 4 (some .int) :: ((wsX3_sendMissingVotes_r1 ++ wsX3_sendMissingVotes_r2) ++ wsX10 ++ wsX30 ++ wsX00)
def wsX3_again_r1 : List Cond := [Cond.fieldLink RX3 72 "BallotHouse$Ballot" "state" "I", Cond.fieldLink RX3 39 "BallotHouse" "letters" "LBallotHouse$Air;", Cond.fieldLink RX3 91 "BallotHouse$Ballot" "number" "I", Cond.fieldLink RX3 94 "BallotHouse$Ballot" "readers" "I", Cond.fieldLink RX3 97 "BallotHouse$Ballot" "readAnswers" "I", Cond.methodLink RX3 64 yX3_find, Cond.instanceMethod yX3_find, Cond.selects RX3 yX3_find yX3_find, Cond.initialized RX3, Cond.code yX3_find cX3_find 2 (some (.object "BallotHouse$Ballot")), Cond.fieldLink RX3 43 "BallotHouse" "made" "I", Cond.fieldLink RX3 32 "BallotHouse" "ballots" "[LBallotHouse$Ballot;", Cond.methodLink RX3 60 yX0_send, Cond.instanceMethod yX0_send, Cond.selects RX0 yX0_send yX0_send, Cond.initialized RX0, Cond.code yX0_send cX0_send 7 none, Cond.fieldLink RX0 28 "BallotHouse$Air" "size" "I", Cond.fieldLink RX0 32 "BallotHouse$Air" "lost" "I", Cond.fieldLink RX0 9 "BallotHouse$Air" "kind" "[I", Cond.fieldLink RX0 15 "BallotHouse$Air" "ballot" "[I", Cond.fieldLink RX0 18 "BallotHouse$Air" "voter" "[I", Cond.fieldLink RX0 21 "BallotHouse$Air" "place" "[I", Cond.fieldLink RX0 24 "BallotHouse$Air" "votes" "[J"]
def wsX3_again_r2 : List Cond := [Cond.methodLink RX3 87 yX3_sendToEach, Cond.instanceMethod yX3_sendToEach, Cond.selects RX3 yX3_sendToEach yX3_sendToEach, Cond.code yX3_sendToEach cX3_sendToEach 6 (some .int), Cond.fieldLink RX3 18 "BallotHouse" "voters" "I", Cond.methodLink RX3 183 yJ6_bitCount_0f7a4, Cond.static yJ6_bitCount_0f7a4, Cond.initialized RJ6, Cond.code yJ6_bitCount_0f7a4 cJ6_bitCount_0f7a4 1 (some .int), Cond.constant RJ6 265 (1431655765), Cond.constant RJ6 266 (858993459), Cond.constant RJ6 267 (252645135), Cond.methodLink RX3 100 yX3_sendMissingVotes, Cond.instanceMethod yX3_sendMissingVotes, Cond.selects RX3 yX3_sendMissingVotes yX3_sendMissingVotes, Cond.code yX3_sendMissingVotes cX3_sendMissingVotes 4 (some .int), Cond.fieldLink RX3 84 "BallotHouse$Ballot" "members" "I", Cond.fieldLink RX3 154 "BallotHouse$Ballot" "voteAnswers" "[I", Cond.methodLink RX3 75 yX1_hasWord, Cond.instanceMethod yX1_hasWord, Cond.selects RX1 yX1_hasWord yX1_hasWord, Cond.initialized RX1, Cond.code yX1_hasWord cX1_hasWord 2 (some .boolean), Cond.fieldLink RX1 47 "BallotHouse$Ballot" "found" "I"]
def wsX3_again_r3 : List Cond := [Cond.fieldLink RX1 50 "BallotHouse$Ballot" "proposed" "I", Cond.methodLink RX3 188 yX1_knows, Cond.instanceMethod yX1_knows, Cond.selects RX1 yX1_knows yX1_knows, Cond.code yX1_knows cX1_knows 2 (some .boolean), Cond.fieldLink RX1 23 "BallotHouse$Ballot" "voteAnswers" "[I", Cond.fieldLink RX1 38 "BallotHouse$Ballot" "w" "I", Cond.static yX3_isPlace, Cond.code yX3_isPlace cX3_isPlace 1 (some .boolean), Cond.methodLink RX1 57 yJ6_bitCount_0f7a4]
def wsX3_again : List Cond := .code yX3_again cX3_again 3 (some .int) :: ((wsX3_again_r1 ++ (wsX3_again_r2 ++ wsX3_again_r3)) ++ wsX10 ++ wsX30 ++ wsX00)
def wsX3_isForSilent : List Cond := .code yX3_isForSilent cX3_isForSilent 4 (some .boolean) :: ([.fieldLink RX3 39 "BallotHouse" "letters" "LBallotHouse$Air;", .fieldLink RX3 163 "BallotHouse$Air" "kind" "[I", .fieldLink RX3 130 "BallotHouse" "silentVoters" "I", .fieldLink RX3 169 "BallotHouse$Air" "voter" "[I"] ++ wsX30 ++ wsX00)
def wsX3_isReadingOver : List Cond := .code yX3_isReadingOver cX3_isReadingOver 4 (some .boolean) :: ([.fieldLink RX3 145 "BallotHouse$Ballot" "behind" "I", .methodLink RX3 15 Lib.Math.max.name, .static Lib.Math.max.name, .initialized "java/lang/Math", .code Lib.Math.max.name Lib.Math.max.code 2 (some .int), .fieldLink RX3 91 "BallotHouse$Ballot" "number" "I", .fieldLink RX3 84 "BallotHouse$Ballot" "members" "I", .fieldLink RX3 97 "BallotHouse$Ballot" "readAnswers" "I", .fieldLink RX3 139 "BallotHouse$Ballot" "\x72" "I", .methodLink RX3 64 yX3_find, .instanceMethod yX3_find, .selects RX3 yX3_find yX3_find, .initialized RX3, .code yX3_find cX3_find 2 (some (.object "BallotHouse$Ballot")), .fieldLink RX3 43 "BallotHouse" "made" "I", .fieldLink RX3 32 "BallotHouse" "ballots" "[LBallotHouse$Ballot;", .methodLink RX3 183 yJ6_bitCount_0f7a4, .static yJ6_bitCount_0f7a4, .initialized RJ6, .code yJ6_bitCount_0f7a4 cJ6_bitCount_0f7a4 1 (some .int), .constant RJ6 265 (1431655765), .constant RJ6 266 (858993459), .constant RJ6 267 (252645135)] ++ wsX10 ++ wsX30)
def wsX3_goOn_r1 : List Cond := [Cond.fieldLink RX3 72 "BallotHouse$Ballot" "state" "I", Cond.fieldLink RX3 148 "BallotHouse$Ballot" "found" "I", Cond.fieldLink RX3 39 "BallotHouse" "letters" "LBallotHouse$Air;", Cond.fieldLink RX3 91 "BallotHouse$Ballot" "number" "I", Cond.methodLink RX3 233 yX3_isReadingOver, Cond.instanceMethod yX3_isReadingOver, Cond.selects RX3 yX3_isReadingOver yX3_isReadingOver, Cond.initialized RX3, Cond.code yX3_isReadingOver cX3_isReadingOver 4 (some .boolean), Cond.fieldLink RX3 145 "BallotHouse$Ballot" "behind" "I", Cond.methodLink RX3 15 Lib.Math.max.name, Cond.static Lib.Math.max.name, Cond.initialized "java/lang/Math", Cond.code Lib.Math.max.name Lib.Math.max.code 2 (some .int), Cond.fieldLink RX3 84 "BallotHouse$Ballot" "members" "I", Cond.fieldLink RX3 97 "BallotHouse$Ballot" "readAnswers" "I", Cond.fieldLink RX3 139 "BallotHouse$Ballot" "\x72" "I", Cond.methodLink RX3 64 yX3_find, Cond.instanceMethod yX3_find, Cond.selects RX3 yX3_find yX3_find, Cond.code yX3_find cX3_find 2 (some (.object "BallotHouse$Ballot")), Cond.fieldLink RX3 43 "BallotHouse" "made" "I", Cond.fieldLink RX3 32 "BallotHouse" "ballots" "[LBallotHouse$Ballot;", Cond.methodLink RX3 183 yJ6_bitCount_0f7a4]
def wsX3_goOn_r2 : List Cond := [Cond.static yJ6_bitCount_0f7a4, Cond.initialized RJ6, Cond.code yJ6_bitCount_0f7a4 cJ6_bitCount_0f7a4 1 (some .int), Cond.constant RJ6 265 (1431655765), Cond.constant RJ6 266 (858993459), Cond.constant RJ6 267 (252645135), Cond.methodLink RX3 100 yX3_sendMissingVotes, Cond.instanceMethod yX3_sendMissingVotes, Cond.selects RX3 yX3_sendMissingVotes yX3_sendMissingVotes, Cond.code yX3_sendMissingVotes cX3_sendMissingVotes 4 (some .int), Cond.fieldLink RX3 154 "BallotHouse$Ballot" "voteAnswers" "[I", Cond.methodLink RX3 75 yX1_hasWord, Cond.instanceMethod yX1_hasWord, Cond.selects RX1 yX1_hasWord yX1_hasWord, Cond.initialized RX1, Cond.code yX1_hasWord cX1_hasWord 2 (some .boolean), Cond.fieldLink RX1 47 "BallotHouse$Ballot" "found" "I", Cond.fieldLink RX1 50 "BallotHouse$Ballot" "proposed" "I", Cond.methodLink RX3 188 yX1_knows, Cond.instanceMethod yX1_knows, Cond.selects RX1 yX1_knows yX1_knows, Cond.code yX1_knows cX1_knows 2 (some .boolean), Cond.fieldLink RX1 23 "BallotHouse$Ballot" "voteAnswers" "[I", Cond.fieldLink RX1 38 "BallotHouse$Ballot" "w" "I"]
def wsX3_goOn_r3 : List Cond := [Cond.static yX3_isPlace, Cond.code yX3_isPlace cX3_isPlace 1 (some .boolean), Cond.methodLink RX1 57 yJ6_bitCount_0f7a4, Cond.methodLink RX3 87 yX3_sendToEach, Cond.instanceMethod yX3_sendToEach, Cond.selects RX3 yX3_sendToEach yX3_sendToEach, Cond.code yX3_sendToEach cX3_sendToEach 6 (some .int), Cond.fieldLink RX3 18 "BallotHouse" "voters" "I", Cond.methodLink RX3 60 yX0_send, Cond.instanceMethod yX0_send, Cond.selects RX0 yX0_send yX0_send, Cond.initialized RX0, Cond.code yX0_send cX0_send 7 none, Cond.fieldLink RX0 28 "BallotHouse$Air" "size" "I", Cond.fieldLink RX0 32 "BallotHouse$Air" "lost" "I", Cond.fieldLink RX0 9 "BallotHouse$Air" "kind" "[I", Cond.fieldLink RX0 15 "BallotHouse$Air" "ballot" "[I", Cond.fieldLink RX0 18 "BallotHouse$Air" "voter" "[I", Cond.fieldLink RX0 21 "BallotHouse$Air" "place" "[I", Cond.fieldLink RX0 24 "BallotHouse$Air" "votes" "[J", Cond.methodLink RX3 151 yX1_knownPlaces, Cond.instanceMethod yX1_knownPlaces, Cond.selects RX1 yX1_knownPlaces yX1_knownPlaces, Cond.code yX1_knownPlaces cX1_knownPlaces 3 (some .int)]
def wsX3_goOn_r4 : List Cond := [Cond.methodLink RX1 63 yX1_knows]
def wsX3_goOn : List Cond := .code yX3_goOn cX3_goOn 2 none :: ((wsX3_goOn_r1 ++ (wsX3_goOn_r2 ++ (wsX3_goOn_r3 ++ wsX3_goOn_r4))) ++ wsX10 ++ wsX30 ++ wsX00)
def wsX3_newComes_r1 : List Cond := [Cond.fieldLink RX3 72 "BallotHouse$Ballot" "state" "I", Cond.fieldLink RX3 94 "BallotHouse$Ballot" "readers" "I", Cond.methodLink RX3 87 yX3_sendToEach, Cond.instanceMethod yX3_sendToEach, Cond.selects RX3 yX3_sendToEach yX3_sendToEach, Cond.initialized RX3, Cond.code yX3_sendToEach cX3_sendToEach 6 (some .int), Cond.fieldLink RX3 18 "BallotHouse" "voters" "I", Cond.fieldLink RX3 39 "BallotHouse" "letters" "LBallotHouse$Air;", Cond.fieldLink RX3 91 "BallotHouse$Ballot" "number" "I", Cond.methodLink RX3 60 yX0_send, Cond.instanceMethod yX0_send, Cond.selects RX0 yX0_send yX0_send, Cond.initialized RX0, Cond.code yX0_send cX0_send 7 none, Cond.fieldLink RX0 28 "BallotHouse$Air" "size" "I", Cond.fieldLink RX0 32 "BallotHouse$Air" "lost" "I", Cond.fieldLink RX0 9 "BallotHouse$Air" "kind" "[I", Cond.fieldLink RX0 15 "BallotHouse$Air" "ballot" "[I", Cond.fieldLink RX0 18 "BallotHouse$Air" "voter" "[I", Cond.fieldLink RX0 21 "BallotHouse$Air" "place" "[I", Cond.fieldLink RX0 24 "BallotHouse$Air" "votes" "[J", Cond.methodLink RX3 183 yJ6_bitCount_0f7a4, Cond.static yJ6_bitCount_0f7a4]
def wsX3_newComes_r2 : List Cond := [Cond.initialized RJ6, Cond.code yJ6_bitCount_0f7a4 cJ6_bitCount_0f7a4 1 (some .int), Cond.constant RJ6 265 (1431655765), Cond.constant RJ6 266 (858993459), Cond.constant RJ6 267 (252645135), Cond.methodLink RX3 216 yX3_goOn, Cond.instanceMethod yX3_goOn, Cond.selects RX3 yX3_goOn yX3_goOn, Cond.code yX3_goOn cX3_goOn 2 none, Cond.fieldLink RX3 148 "BallotHouse$Ballot" "found" "I", Cond.methodLink RX3 233 yX3_isReadingOver, Cond.instanceMethod yX3_isReadingOver, Cond.selects RX3 yX3_isReadingOver yX3_isReadingOver, Cond.code yX3_isReadingOver cX3_isReadingOver 4 (some .boolean), Cond.fieldLink RX3 145 "BallotHouse$Ballot" "behind" "I", Cond.methodLink RX3 15 Lib.Math.max.name, Cond.static Lib.Math.max.name, Cond.initialized "java/lang/Math", Cond.code Lib.Math.max.name Lib.Math.max.code 2 (some .int), Cond.fieldLink RX3 84 "BallotHouse$Ballot" "members" "I", Cond.fieldLink RX3 97 "BallotHouse$Ballot" "readAnswers" "I", Cond.fieldLink RX3 139 "BallotHouse$Ballot" "\x72" "I", Cond.methodLink RX3 64 yX3_find, Cond.instanceMethod yX3_find]
def wsX3_newComes_r3 : List Cond := [Cond.selects RX3 yX3_find yX3_find, Cond.code yX3_find cX3_find 2 (some (.object "BallotHouse$Ballot")), Cond.fieldLink RX3 43 "BallotHouse" "made" "I", Cond.fieldLink RX3 32 "BallotHouse" "ballots" "[LBallotHouse$Ballot;", Cond.methodLink RX3 100 yX3_sendMissingVotes, Cond.instanceMethod yX3_sendMissingVotes, Cond.selects RX3 yX3_sendMissingVotes yX3_sendMissingVotes, Cond.code yX3_sendMissingVotes cX3_sendMissingVotes 4 (some .int), Cond.fieldLink RX3 154 "BallotHouse$Ballot" "voteAnswers" "[I", Cond.methodLink RX3 75 yX1_hasWord, Cond.instanceMethod yX1_hasWord, Cond.selects RX1 yX1_hasWord yX1_hasWord, Cond.initialized RX1, Cond.code yX1_hasWord cX1_hasWord 2 (some .boolean), Cond.fieldLink RX1 47 "BallotHouse$Ballot" "found" "I", Cond.fieldLink RX1 50 "BallotHouse$Ballot" "proposed" "I", Cond.methodLink RX3 188 yX1_knows, Cond.instanceMethod yX1_knows, Cond.selects RX1 yX1_knows yX1_knows, Cond.code yX1_knows cX1_knows 2 (some .boolean), Cond.fieldLink RX1 23 "BallotHouse$Ballot" "voteAnswers" "[I", Cond.fieldLink RX1 38 "BallotHouse$Ballot" "w" "I", Cond.static yX3_isPlace, Cond.code yX3_isPlace cX3_isPlace 1 (some .boolean)]
def wsX3_newComes_r4 : List Cond := [Cond.methodLink RX1 57 yJ6_bitCount_0f7a4, Cond.methodLink RX3 151 yX1_knownPlaces, Cond.instanceMethod yX1_knownPlaces, Cond.selects RX1 yX1_knownPlaces yX1_knownPlaces, Cond.code yX1_knownPlaces cX1_knownPlaces 3 (some .int), Cond.methodLink RX1 63 yX1_knows]
def wsX3_newComes : List Cond := .code yX3_newComes cX3_newComes 2 none :: ((wsX3_newComes_r1 ++ (wsX3_newComes_r2 ++ (wsX3_newComes_r3 ++ wsX3_newComes_r4))) ++ wsX10 ++ wsX30 ++ wsX00)
def wsX3_isVoter : List Cond := .code yX3_isVoter cX3_isVoter 2 (some .boolean) :: ([.fieldLink RX3 18 "BallotHouse" "voters" "I"] ++ wsX30)
def wsX3_readComes : List Cond := .code yX3_readComes cX3_readComes 3 none :: ([.fieldLink RX3 22 "BallotHouse" "promises" "[I", .fieldLink RX3 91 "BallotHouse$Ballot" "number" "I", .fieldLink RX3 39 "BallotHouse" "letters" "LBallotHouse$Air;", .fieldLink RX3 26 "BallotHouse" "votes" "[J", .methodLink RX3 127 yX3_isVoter, .instanceMethod yX3_isVoter, .selects RX3 yX3_isVoter yX3_isVoter, .initialized RX3, .code yX3_isVoter cX3_isVoter 2 (some .boolean), .fieldLink RX3 18 "BallotHouse" "voters" "I", .methodLink RX3 60 yX0_send, .instanceMethod yX0_send, .selects RX0 yX0_send yX0_send, .initialized RX0, .code yX0_send cX0_send 7 none, .fieldLink RX0 28 "BallotHouse$Air" "size" "I", .fieldLink RX0 32 "BallotHouse$Air" "lost" "I", .fieldLink RX0 9 "BallotHouse$Air" "kind" "[I", .fieldLink RX0 15 "BallotHouse$Air" "ballot" "[I", .fieldLink RX0 18 "BallotHouse$Air" "voter" "[I", .fieldLink RX0 21 "BallotHouse$Air" "place" "[I", .fieldLink RX0 24 "BallotHouse$Air" "votes" "[J"] ++ wsX30 ++ wsX10 ++ wsX00)
def wsX3_takeFound : List Cond := .code yX3_takeFound cX3_takeFound 6 none :: ([.fieldLink RX3 91 "BallotHouse$Ballot" "number" "I", .fieldLink RX3 223 "BallotHouse$Ballot" "foundBy" "[I", .fieldLink RX3 148 "BallotHouse$Ballot" "found" "I", .fieldLink RX3 81 "BallotHouse$Ballot" "words" "[J", .methodLink RX3 133 yX2_at, .static yX2_at, .initialized RX2, .code yX2_at cX2_at 3 (some .int), .constantLong RX2 11 (255), .methodLink RX3 64 yX3_find, .instanceMethod yX3_find, .selects RX3 yX3_find yX3_find, .initialized RX3, .code yX3_find cX3_find 2 (some (.object "BallotHouse$Ballot")), .fieldLink RX3 43 "BallotHouse" "made" "I", .fieldLink RX3 32 "BallotHouse" "ballots" "[LBallotHouse$Ballot;"] ++ wsX10 ++ wsX30)
def wsX3_readAnswerComes_r1 : List Cond := [Cond.fieldLink RX3 72 "BallotHouse$Ballot" "state" "I", Cond.fieldLink RX3 97 "BallotHouse$Ballot" "readAnswers" "I", Cond.methodLink RX3 219 yX3_takeFound, Cond.instanceMethod yX3_takeFound, Cond.selects RX3 yX3_takeFound yX3_takeFound, Cond.initialized RX3, Cond.code yX3_takeFound cX3_takeFound 6 none, Cond.fieldLink RX3 91 "BallotHouse$Ballot" "number" "I", Cond.fieldLink RX3 223 "BallotHouse$Ballot" "foundBy" "[I", Cond.fieldLink RX3 148 "BallotHouse$Ballot" "found" "I", Cond.fieldLink RX3 81 "BallotHouse$Ballot" "words" "[J", Cond.methodLink RX3 133 yX2_at, Cond.static yX2_at, Cond.initialized RX2, Cond.code yX2_at cX2_at 3 (some .int), Cond.constantLong RX2 11 (255), Cond.methodLink RX3 64 yX3_find, Cond.instanceMethod yX3_find, Cond.selects RX3 yX3_find yX3_find, Cond.code yX3_find cX3_find 2 (some (.object "BallotHouse$Ballot")), Cond.fieldLink RX3 43 "BallotHouse" "made" "I", Cond.fieldLink RX3 32 "BallotHouse" "ballots" "[LBallotHouse$Ballot;", Cond.methodLink RX3 216 yX3_goOn, Cond.instanceMethod yX3_goOn]
def wsX3_readAnswerComes_r2 : List Cond := [Cond.selects RX3 yX3_goOn yX3_goOn, Cond.code yX3_goOn cX3_goOn 2 none, Cond.fieldLink RX3 39 "BallotHouse" "letters" "LBallotHouse$Air;", Cond.methodLink RX3 233 yX3_isReadingOver, Cond.instanceMethod yX3_isReadingOver, Cond.selects RX3 yX3_isReadingOver yX3_isReadingOver, Cond.code yX3_isReadingOver cX3_isReadingOver 4 (some .boolean), Cond.fieldLink RX3 145 "BallotHouse$Ballot" "behind" "I", Cond.methodLink RX3 15 Lib.Math.max.name, Cond.static Lib.Math.max.name, Cond.initialized "java/lang/Math", Cond.code Lib.Math.max.name Lib.Math.max.code 2 (some .int), Cond.fieldLink RX3 84 "BallotHouse$Ballot" "members" "I", Cond.fieldLink RX3 139 "BallotHouse$Ballot" "\x72" "I", Cond.methodLink RX3 183 yJ6_bitCount_0f7a4, Cond.static yJ6_bitCount_0f7a4, Cond.initialized RJ6, Cond.code yJ6_bitCount_0f7a4 cJ6_bitCount_0f7a4 1 (some .int), Cond.constant RJ6 265 (1431655765), Cond.constant RJ6 266 (858993459), Cond.constant RJ6 267 (252645135), Cond.methodLink RX3 100 yX3_sendMissingVotes, Cond.instanceMethod yX3_sendMissingVotes, Cond.selects RX3 yX3_sendMissingVotes yX3_sendMissingVotes]
def wsX3_readAnswerComes_r3 : List Cond := [Cond.code yX3_sendMissingVotes cX3_sendMissingVotes 4 (some .int), Cond.fieldLink RX3 154 "BallotHouse$Ballot" "voteAnswers" "[I", Cond.methodLink RX3 75 yX1_hasWord, Cond.instanceMethod yX1_hasWord, Cond.selects RX1 yX1_hasWord yX1_hasWord, Cond.initialized RX1, Cond.code yX1_hasWord cX1_hasWord 2 (some .boolean), Cond.fieldLink RX1 47 "BallotHouse$Ballot" "found" "I", Cond.fieldLink RX1 50 "BallotHouse$Ballot" "proposed" "I", Cond.methodLink RX3 188 yX1_knows, Cond.instanceMethod yX1_knows, Cond.selects RX1 yX1_knows yX1_knows, Cond.code yX1_knows cX1_knows 2 (some .boolean), Cond.fieldLink RX1 23 "BallotHouse$Ballot" "voteAnswers" "[I", Cond.fieldLink RX1 38 "BallotHouse$Ballot" "w" "I", Cond.static yX3_isPlace, Cond.code yX3_isPlace cX3_isPlace 1 (some .boolean), Cond.methodLink RX1 57 yJ6_bitCount_0f7a4, Cond.methodLink RX3 87 yX3_sendToEach, Cond.instanceMethod yX3_sendToEach, Cond.selects RX3 yX3_sendToEach yX3_sendToEach, Cond.code yX3_sendToEach cX3_sendToEach 6 (some .int), Cond.fieldLink RX3 18 "BallotHouse" "voters" "I", Cond.methodLink RX3 60 yX0_send]
def wsX3_readAnswerComes_r4 : List Cond := [Cond.instanceMethod yX0_send, Cond.selects RX0 yX0_send yX0_send, Cond.initialized RX0, Cond.code yX0_send cX0_send 7 none, Cond.fieldLink RX0 28 "BallotHouse$Air" "size" "I", Cond.fieldLink RX0 32 "BallotHouse$Air" "lost" "I", Cond.fieldLink RX0 9 "BallotHouse$Air" "kind" "[I", Cond.fieldLink RX0 15 "BallotHouse$Air" "ballot" "[I", Cond.fieldLink RX0 18 "BallotHouse$Air" "voter" "[I", Cond.fieldLink RX0 21 "BallotHouse$Air" "place" "[I", Cond.fieldLink RX0 24 "BallotHouse$Air" "votes" "[J", Cond.methodLink RX3 151 yX1_knownPlaces, Cond.instanceMethod yX1_knownPlaces, Cond.selects RX1 yX1_knownPlaces yX1_knownPlaces, Cond.code yX1_knownPlaces cX1_knownPlaces 3 (some .int), Cond.methodLink RX1 63 yX1_knows]
def wsX3_readAnswerComes : List Cond := .code yX3_readAnswerComes cX3_readAnswerComes 6 none :: ((wsX3_readAnswerComes_r1 ++ (wsX3_readAnswerComes_r2 ++ (wsX3_readAnswerComes_r3 ++ wsX3_readAnswerComes_r4))) ++ wsX10 ++ wsX30 ++ wsX00)
def wsX3_voteComes_r1 : List Cond := [Cond.fieldLink RX3 22 "BallotHouse" "promises" "[I", Cond.fieldLink RX3 91 "BallotHouse$Ballot" "number" "I", Cond.fieldLink RX3 26 "BallotHouse" "votes" "[J", Cond.fieldLink RX3 230 "BallotHouse$Ballot" "everVoted" "[I", Cond.fieldLink RX3 39 "BallotHouse" "letters" "LBallotHouse$Air;", Cond.methodLink RX3 127 yX3_isVoter, Cond.instanceMethod yX3_isVoter, Cond.selects RX3 yX3_isVoter yX3_isVoter, Cond.initialized RX3, Cond.code yX3_isVoter cX3_isVoter 2 (some .boolean), Cond.fieldLink RX3 18 "BallotHouse" "voters" "I", Cond.methodLink RX3 68 yX3_isPlace, Cond.static yX3_isPlace, Cond.code yX3_isPlace cX3_isPlace 1 (some .boolean), Cond.methodLink RX3 226 yX2_with, Cond.static yX2_with, Cond.initialized RX2, Cond.code yX2_with cX2_with 5 (some .long), Cond.constantLong RX2 11 (255), Cond.constantLong RX2 13 (-1), Cond.methodLink RX3 60 yX0_send, Cond.instanceMethod yX0_send, Cond.selects RX0 yX0_send yX0_send, Cond.initialized RX0]
def wsX3_voteComes_r2 : List Cond := [Cond.code yX0_send cX0_send 7 none, Cond.fieldLink RX0 28 "BallotHouse$Air" "size" "I", Cond.fieldLink RX0 32 "BallotHouse$Air" "lost" "I", Cond.fieldLink RX0 9 "BallotHouse$Air" "kind" "[I", Cond.fieldLink RX0 15 "BallotHouse$Air" "ballot" "[I", Cond.fieldLink RX0 18 "BallotHouse$Air" "voter" "[I", Cond.fieldLink RX0 21 "BallotHouse$Air" "place" "[I", Cond.fieldLink RX0 24 "BallotHouse$Air" "votes" "[J"]
def wsX3_voteComes : List Cond := .code yX3_voteComes cX3_voteComes 4 none :: ((wsX3_voteComes_r1 ++ wsX3_voteComes_r2) ++ wsX30 ++ wsX10 ++ wsX00)
def wsX3_voteAnswerComes_r1 : List Cond := [Cond.fieldLink RX3 72 "BallotHouse$Ballot" "state" "I", Cond.fieldLink RX3 154 "BallotHouse$Ballot" "voteAnswers" "[I", Cond.methodLink RX3 68 yX3_isPlace, Cond.static yX3_isPlace, Cond.initialized RX3, Cond.code yX3_isPlace cX3_isPlace 1 (some .boolean), Cond.methodLink RX3 216 yX3_goOn, Cond.instanceMethod yX3_goOn, Cond.selects RX3 yX3_goOn yX3_goOn, Cond.code yX3_goOn cX3_goOn 2 none, Cond.fieldLink RX3 148 "BallotHouse$Ballot" "found" "I", Cond.fieldLink RX3 39 "BallotHouse" "letters" "LBallotHouse$Air;", Cond.fieldLink RX3 91 "BallotHouse$Ballot" "number" "I", Cond.methodLink RX3 233 yX3_isReadingOver, Cond.instanceMethod yX3_isReadingOver, Cond.selects RX3 yX3_isReadingOver yX3_isReadingOver, Cond.code yX3_isReadingOver cX3_isReadingOver 4 (some .boolean), Cond.fieldLink RX3 145 "BallotHouse$Ballot" "behind" "I", Cond.methodLink RX3 15 Lib.Math.max.name, Cond.static Lib.Math.max.name, Cond.initialized "java/lang/Math", Cond.code Lib.Math.max.name Lib.Math.max.code 2 (some .int), Cond.fieldLink RX3 84 "BallotHouse$Ballot" "members" "I", Cond.fieldLink RX3 97 "BallotHouse$Ballot" "readAnswers" "I"]
def wsX3_voteAnswerComes_r2 : List Cond := [Cond.fieldLink RX3 139 "BallotHouse$Ballot" "\x72" "I", Cond.methodLink RX3 64 yX3_find, Cond.instanceMethod yX3_find, Cond.selects RX3 yX3_find yX3_find, Cond.code yX3_find cX3_find 2 (some (.object "BallotHouse$Ballot")), Cond.fieldLink RX3 43 "BallotHouse" "made" "I", Cond.fieldLink RX3 32 "BallotHouse" "ballots" "[LBallotHouse$Ballot;", Cond.methodLink RX3 183 yJ6_bitCount_0f7a4, Cond.static yJ6_bitCount_0f7a4, Cond.initialized RJ6, Cond.code yJ6_bitCount_0f7a4 cJ6_bitCount_0f7a4 1 (some .int), Cond.constant RJ6 265 (1431655765), Cond.constant RJ6 266 (858993459), Cond.constant RJ6 267 (252645135), Cond.methodLink RX3 100 yX3_sendMissingVotes, Cond.instanceMethod yX3_sendMissingVotes, Cond.selects RX3 yX3_sendMissingVotes yX3_sendMissingVotes, Cond.code yX3_sendMissingVotes cX3_sendMissingVotes 4 (some .int), Cond.methodLink RX3 75 yX1_hasWord, Cond.instanceMethod yX1_hasWord, Cond.selects RX1 yX1_hasWord yX1_hasWord, Cond.initialized RX1, Cond.code yX1_hasWord cX1_hasWord 2 (some .boolean), Cond.fieldLink RX1 47 "BallotHouse$Ballot" "found" "I"]
def wsX3_voteAnswerComes_r3 : List Cond := [Cond.fieldLink RX1 50 "BallotHouse$Ballot" "proposed" "I", Cond.methodLink RX3 188 yX1_knows, Cond.instanceMethod yX1_knows, Cond.selects RX1 yX1_knows yX1_knows, Cond.code yX1_knows cX1_knows 2 (some .boolean), Cond.fieldLink RX1 23 "BallotHouse$Ballot" "voteAnswers" "[I", Cond.fieldLink RX1 38 "BallotHouse$Ballot" "w" "I", Cond.methodLink RX1 57 yJ6_bitCount_0f7a4, Cond.methodLink RX3 87 yX3_sendToEach, Cond.instanceMethod yX3_sendToEach, Cond.selects RX3 yX3_sendToEach yX3_sendToEach, Cond.code yX3_sendToEach cX3_sendToEach 6 (some .int), Cond.fieldLink RX3 18 "BallotHouse" "voters" "I", Cond.methodLink RX3 60 yX0_send, Cond.instanceMethod yX0_send, Cond.selects RX0 yX0_send yX0_send, Cond.initialized RX0, Cond.code yX0_send cX0_send 7 none, Cond.fieldLink RX0 28 "BallotHouse$Air" "size" "I", Cond.fieldLink RX0 32 "BallotHouse$Air" "lost" "I", Cond.fieldLink RX0 9 "BallotHouse$Air" "kind" "[I", Cond.fieldLink RX0 15 "BallotHouse$Air" "ballot" "[I", Cond.fieldLink RX0 18 "BallotHouse$Air" "voter" "[I", Cond.fieldLink RX0 21 "BallotHouse$Air" "place" "[I"]
def wsX3_voteAnswerComes_r4 : List Cond := [Cond.fieldLink RX0 24 "BallotHouse$Air" "votes" "[J", Cond.methodLink RX3 151 yX1_knownPlaces, Cond.instanceMethod yX1_knownPlaces, Cond.selects RX1 yX1_knownPlaces yX1_knownPlaces, Cond.code yX1_knownPlaces cX1_knownPlaces 3 (some .int), Cond.methodLink RX1 63 yX1_knows]
def wsX3_voteAnswerComes : List Cond := .code yX3_voteAnswerComes cX3_voteAnswerComes 4 none :: ((wsX3_voteAnswerComes_r1 ++ (wsX3_voteAnswerComes_r2 ++ (wsX3_voteAnswerComes_r3 ++ wsX3_voteAnswerComes_r4))) ++ wsX10 ++ wsX30 ++ wsX00)
def wsX3_completeComes : List Cond := .code yX3_completeComes cX3_completeComes 2 none :: ([.fieldLink RX3 50 "BallotHouse" "complete" "I", .fieldLink RX3 145 "BallotHouse$Ballot" "behind" "I", .fieldLink RX3 91 "BallotHouse$Ballot" "number" "I", .fieldLink RX3 39 "BallotHouse" "letters" "LBallotHouse$Air;", .methodLink RX3 60 yX0_send, .instanceMethod yX0_send, .selects RX0 yX0_send yX0_send, .initialized RX0, .code yX0_send cX0_send 7 none, .fieldLink RX0 28 "BallotHouse$Air" "size" "I", .fieldLink RX0 32 "BallotHouse$Air" "lost" "I", .fieldLink RX0 9 "BallotHouse$Air" "kind" "[I", .fieldLink RX0 15 "BallotHouse$Air" "ballot" "[I", .fieldLink RX0 18 "BallotHouse$Air" "voter" "[I", .fieldLink RX0 21 "BallotHouse$Air" "place" "[I", .fieldLink RX0 24 "BallotHouse$Air" "votes" "[J"] ++ wsX30 ++ wsX10 ++ wsX00)
def wsX3_activeComes : List Cond := .code yX3_activeComes cX3_activeComes 2 none :: ([.fieldLink RX3 72 "BallotHouse$Ballot" "state" "I"] ++ wsX10)
def wsX3_handOver_r1 : List Cond := [Cond.fieldLink RX3 39 "BallotHouse" "letters" "LBallotHouse$Air;", Cond.fieldLink RX3 163 "BallotHouse$Air" "kind" "[I", Cond.fieldLink RX3 169 "BallotHouse$Air" "voter" "[I", Cond.fieldLink RX3 172 "BallotHouse$Air" "place" "[I", Cond.fieldLink RX3 175 "BallotHouse$Air" "votes" "[J", Cond.fieldLink RX3 166 "BallotHouse$Air" "ballot" "[I", Cond.methodLink RX3 64 yX3_find, Cond.instanceMethod yX3_find, Cond.selects RX3 yX3_find yX3_find, Cond.initialized RX3, Cond.code yX3_find cX3_find 2 (some (.object "BallotHouse$Ballot")), Cond.fieldLink RX3 43 "BallotHouse" "made" "I", Cond.fieldLink RX3 32 "BallotHouse" "ballots" "[LBallotHouse$Ballot;", Cond.methodLink RX3 118 yX0_drop, Cond.instanceMethod yX0_drop, Cond.selects RX0 yX0_drop yX0_drop, Cond.initialized RX0, Cond.code yX0_drop cX0_drop 3 none, Cond.fieldLink RX0 28 "BallotHouse$Air" "size" "I", Cond.fieldLink RX0 9 "BallotHouse$Air" "kind" "[I", Cond.methodLink RX0 43 arraycopyName, Cond.native arraycopyName, Cond.static arraycopyName, Cond.initialized "java/lang/System"]
def wsX3_handOver_r2 : List Cond := [Cond.fieldLink RX0 15 "BallotHouse$Air" "ballot" "[I", Cond.fieldLink RX0 18 "BallotHouse$Air" "voter" "[I", Cond.fieldLink RX0 21 "BallotHouse$Air" "place" "[I", Cond.fieldLink RX0 24 "BallotHouse$Air" "votes" "[J", Cond.methodLink RX0 35 yX0_has, Cond.instanceMethod yX0_has, Cond.selects RX0 yX0_has yX0_has, Cond.code yX0_has cX0_has 2 (some .boolean), Cond.methodLink RX3 191 yX3_newComes, Cond.instanceMethod yX3_newComes, Cond.selects RX3 yX3_newComes yX3_newComes, Cond.code yX3_newComes cX3_newComes 2 none, Cond.fieldLink RX3 72 "BallotHouse$Ballot" "state" "I", Cond.fieldLink RX3 94 "BallotHouse$Ballot" "readers" "I", Cond.methodLink RX3 87 yX3_sendToEach, Cond.instanceMethod yX3_sendToEach, Cond.selects RX3 yX3_sendToEach yX3_sendToEach, Cond.code yX3_sendToEach cX3_sendToEach 6 (some .int), Cond.fieldLink RX3 18 "BallotHouse" "voters" "I", Cond.fieldLink RX3 91 "BallotHouse$Ballot" "number" "I", Cond.methodLink RX3 60 yX0_send, Cond.instanceMethod yX0_send, Cond.selects RX0 yX0_send yX0_send, Cond.code yX0_send cX0_send 7 none]
def wsX3_handOver_r3 : List Cond := [Cond.fieldLink RX0 32 "BallotHouse$Air" "lost" "I", Cond.methodLink RX3 183 yJ6_bitCount_0f7a4, Cond.static yJ6_bitCount_0f7a4, Cond.initialized RJ6, Cond.code yJ6_bitCount_0f7a4 cJ6_bitCount_0f7a4 1 (some .int), Cond.constant RJ6 265 (1431655765), Cond.constant RJ6 266 (858993459), Cond.constant RJ6 267 (252645135), Cond.methodLink RX3 216 yX3_goOn, Cond.instanceMethod yX3_goOn, Cond.selects RX3 yX3_goOn yX3_goOn, Cond.code yX3_goOn cX3_goOn 2 none, Cond.fieldLink RX3 148 "BallotHouse$Ballot" "found" "I", Cond.methodLink RX3 233 yX3_isReadingOver, Cond.instanceMethod yX3_isReadingOver, Cond.selects RX3 yX3_isReadingOver yX3_isReadingOver, Cond.code yX3_isReadingOver cX3_isReadingOver 4 (some .boolean), Cond.fieldLink RX3 145 "BallotHouse$Ballot" "behind" "I", Cond.methodLink RX3 15 Lib.Math.max.name, Cond.static Lib.Math.max.name, Cond.initialized "java/lang/Math", Cond.code Lib.Math.max.name Lib.Math.max.code 2 (some .int), Cond.fieldLink RX3 84 "BallotHouse$Ballot" "members" "I", Cond.fieldLink RX3 97 "BallotHouse$Ballot" "readAnswers" "I"]
def wsX3_handOver_r4 : List Cond := [Cond.fieldLink RX3 139 "BallotHouse$Ballot" "\x72" "I", Cond.methodLink RX3 100 yX3_sendMissingVotes, Cond.instanceMethod yX3_sendMissingVotes, Cond.selects RX3 yX3_sendMissingVotes yX3_sendMissingVotes, Cond.code yX3_sendMissingVotes cX3_sendMissingVotes 4 (some .int), Cond.fieldLink RX3 154 "BallotHouse$Ballot" "voteAnswers" "[I", Cond.methodLink RX3 75 yX1_hasWord, Cond.instanceMethod yX1_hasWord, Cond.selects RX1 yX1_hasWord yX1_hasWord, Cond.initialized RX1, Cond.code yX1_hasWord cX1_hasWord 2 (some .boolean), Cond.fieldLink RX1 47 "BallotHouse$Ballot" "found" "I", Cond.fieldLink RX1 50 "BallotHouse$Ballot" "proposed" "I", Cond.methodLink RX3 188 yX1_knows, Cond.instanceMethod yX1_knows, Cond.selects RX1 yX1_knows yX1_knows, Cond.code yX1_knows cX1_knows 2 (some .boolean), Cond.fieldLink RX1 23 "BallotHouse$Ballot" "voteAnswers" "[I", Cond.fieldLink RX1 38 "BallotHouse$Ballot" "w" "I", Cond.static yX3_isPlace, Cond.code yX3_isPlace cX3_isPlace 1 (some .boolean), Cond.methodLink RX1 57 yJ6_bitCount_0f7a4, Cond.methodLink RX3 151 yX1_knownPlaces, Cond.instanceMethod yX1_knownPlaces]
def wsX3_handOver_r5 : List Cond := [Cond.selects RX1 yX1_knownPlaces yX1_knownPlaces, Cond.code yX1_knownPlaces cX1_knownPlaces 3 (some .int), Cond.methodLink RX1 63 yX1_knows, Cond.methodLink RX3 195 yX3_readComes, Cond.instanceMethod yX3_readComes, Cond.selects RX3 yX3_readComes yX3_readComes, Cond.code yX3_readComes cX3_readComes 3 none, Cond.fieldLink RX3 22 "BallotHouse" "promises" "[I", Cond.fieldLink RX3 26 "BallotHouse" "votes" "[J", Cond.methodLink RX3 127 yX3_isVoter, Cond.instanceMethod yX3_isVoter, Cond.selects RX3 yX3_isVoter yX3_isVoter, Cond.code yX3_isVoter cX3_isVoter 2 (some .boolean), Cond.methodLink RX3 199 yX3_readAnswerComes, Cond.instanceMethod yX3_readAnswerComes, Cond.selects RX3 yX3_readAnswerComes yX3_readAnswerComes, Cond.code yX3_readAnswerComes cX3_readAnswerComes 6 none, Cond.methodLink RX3 219 yX3_takeFound, Cond.instanceMethod yX3_takeFound, Cond.selects RX3 yX3_takeFound yX3_takeFound, Cond.code yX3_takeFound cX3_takeFound 6 none, Cond.fieldLink RX3 223 "BallotHouse$Ballot" "foundBy" "[I", Cond.fieldLink RX3 81 "BallotHouse$Ballot" "words" "[J", Cond.methodLink RX3 133 yX2_at]
def wsX3_handOver_r6 : List Cond := [Cond.static yX2_at, Cond.initialized RX2, Cond.code yX2_at cX2_at 3 (some .int), Cond.constantLong RX2 11 (255), Cond.methodLink RX3 203 yX3_voteComes, Cond.instanceMethod yX3_voteComes, Cond.selects RX3 yX3_voteComes yX3_voteComes, Cond.code yX3_voteComes cX3_voteComes 4 none, Cond.fieldLink RX3 230 "BallotHouse$Ballot" "everVoted" "[I", Cond.methodLink RX3 68 yX3_isPlace, Cond.methodLink RX3 226 yX2_with, Cond.static yX2_with, Cond.code yX2_with cX2_with 5 (some .long), Cond.constantLong RX2 13 (-1), Cond.methodLink RX3 207 yX3_voteAnswerComes, Cond.instanceMethod yX3_voteAnswerComes, Cond.selects RX3 yX3_voteAnswerComes yX3_voteAnswerComes, Cond.code yX3_voteAnswerComes cX3_voteAnswerComes 4 none, Cond.methodLink RX3 210 yX3_completeComes, Cond.instanceMethod yX3_completeComes, Cond.selects RX3 yX3_completeComes yX3_completeComes, Cond.code yX3_completeComes cX3_completeComes 2 none, Cond.fieldLink RX3 50 "BallotHouse" "complete" "I", Cond.methodLink RX3 213 yX3_activeComes]
def wsX3_handOver_r7 : List Cond := [Cond.instanceMethod yX3_activeComes, Cond.selects RX3 yX3_activeComes yX3_activeComes, Cond.code yX3_activeComes cX3_activeComes 2 none]
def wsX3_handOver : List Cond := .code yX3_handOver cX3_handOver 8 none :: ((wsX3_handOver_r1 ++ (wsX3_handOver_r2 ++ (wsX3_handOver_r3 ++ (wsX3_handOver_r4 ++ (wsX3_handOver_r5 ++ (wsX3_handOver_r6 ++ wsX3_handOver_r7)))))) ++ wsX30 ++ wsX00 ++ wsX10)
def wsX3_deliver_r1 : List Cond := [Cond.fieldLink RX3 39 "BallotHouse" "letters" "LBallotHouse$Air;", Cond.methodLink RX3 104 yX0_has, Cond.instanceMethod yX0_has, Cond.selects RX0 yX0_has yX0_has, Cond.initialized RX0, Cond.code yX0_has cX0_has 2 (some .boolean), Cond.fieldLink RX0 28 "BallotHouse$Air" "size" "I", Cond.methodLink RX3 107 yX3_isForSilent, Cond.instanceMethod yX3_isForSilent, Cond.selects RX3 yX3_isForSilent yX3_isForSilent, Cond.initialized RX3, Cond.code yX3_isForSilent cX3_isForSilent 4 (some .boolean), Cond.fieldLink RX3 163 "BallotHouse$Air" "kind" "[I", Cond.fieldLink RX3 130 "BallotHouse" "silentVoters" "I", Cond.fieldLink RX3 169 "BallotHouse$Air" "voter" "[I", Cond.methodLink RX3 110 yX3_handOver, Cond.instanceMethod yX3_handOver, Cond.selects RX3 yX3_handOver yX3_handOver, Cond.code yX3_handOver cX3_handOver 8 none, Cond.fieldLink RX3 172 "BallotHouse$Air" "place" "[I", Cond.fieldLink RX3 175 "BallotHouse$Air" "votes" "[J", Cond.fieldLink RX3 166 "BallotHouse$Air" "ballot" "[I", Cond.methodLink RX3 64 yX3_find, Cond.instanceMethod yX3_find]
def wsX3_deliver_r2 : List Cond := [Cond.selects RX3 yX3_find yX3_find, Cond.code yX3_find cX3_find 2 (some (.object "BallotHouse$Ballot")), Cond.fieldLink RX3 43 "BallotHouse" "made" "I", Cond.fieldLink RX3 32 "BallotHouse" "ballots" "[LBallotHouse$Ballot;", Cond.methodLink RX3 118 yX0_drop, Cond.instanceMethod yX0_drop, Cond.selects RX0 yX0_drop yX0_drop, Cond.code yX0_drop cX0_drop 3 none, Cond.fieldLink RX0 9 "BallotHouse$Air" "kind" "[I", Cond.methodLink RX0 43 arraycopyName, Cond.native arraycopyName, Cond.static arraycopyName, Cond.initialized "java/lang/System", Cond.fieldLink RX0 15 "BallotHouse$Air" "ballot" "[I", Cond.fieldLink RX0 18 "BallotHouse$Air" "voter" "[I", Cond.fieldLink RX0 21 "BallotHouse$Air" "place" "[I", Cond.fieldLink RX0 24 "BallotHouse$Air" "votes" "[J", Cond.methodLink RX0 35 yX0_has, Cond.methodLink RX3 191 yX3_newComes, Cond.instanceMethod yX3_newComes, Cond.selects RX3 yX3_newComes yX3_newComes, Cond.code yX3_newComes cX3_newComes 2 none, Cond.fieldLink RX3 72 "BallotHouse$Ballot" "state" "I", Cond.fieldLink RX3 94 "BallotHouse$Ballot" "readers" "I"]
def wsX3_deliver_r3 : List Cond := [Cond.methodLink RX3 87 yX3_sendToEach, Cond.instanceMethod yX3_sendToEach, Cond.selects RX3 yX3_sendToEach yX3_sendToEach, Cond.code yX3_sendToEach cX3_sendToEach 6 (some .int), Cond.fieldLink RX3 18 "BallotHouse" "voters" "I", Cond.fieldLink RX3 91 "BallotHouse$Ballot" "number" "I", Cond.methodLink RX3 60 yX0_send, Cond.instanceMethod yX0_send, Cond.selects RX0 yX0_send yX0_send, Cond.code yX0_send cX0_send 7 none, Cond.fieldLink RX0 32 "BallotHouse$Air" "lost" "I", Cond.methodLink RX3 183 yJ6_bitCount_0f7a4, Cond.static yJ6_bitCount_0f7a4, Cond.initialized RJ6, Cond.code yJ6_bitCount_0f7a4 cJ6_bitCount_0f7a4 1 (some .int), Cond.constant RJ6 265 (1431655765), Cond.constant RJ6 266 (858993459), Cond.constant RJ6 267 (252645135), Cond.methodLink RX3 216 yX3_goOn, Cond.instanceMethod yX3_goOn, Cond.selects RX3 yX3_goOn yX3_goOn, Cond.code yX3_goOn cX3_goOn 2 none, Cond.fieldLink RX3 148 "BallotHouse$Ballot" "found" "I", Cond.methodLink RX3 233 yX3_isReadingOver]
def wsX3_deliver_r4 : List Cond := [Cond.instanceMethod yX3_isReadingOver, Cond.selects RX3 yX3_isReadingOver yX3_isReadingOver, Cond.code yX3_isReadingOver cX3_isReadingOver 4 (some .boolean), Cond.fieldLink RX3 145 "BallotHouse$Ballot" "behind" "I", Cond.methodLink RX3 15 Lib.Math.max.name, Cond.static Lib.Math.max.name, Cond.initialized "java/lang/Math", Cond.code Lib.Math.max.name Lib.Math.max.code 2 (some .int), Cond.fieldLink RX3 84 "BallotHouse$Ballot" "members" "I", Cond.fieldLink RX3 97 "BallotHouse$Ballot" "readAnswers" "I", Cond.fieldLink RX3 139 "BallotHouse$Ballot" "\x72" "I", Cond.methodLink RX3 100 yX3_sendMissingVotes, Cond.instanceMethod yX3_sendMissingVotes, Cond.selects RX3 yX3_sendMissingVotes yX3_sendMissingVotes, Cond.code yX3_sendMissingVotes cX3_sendMissingVotes 4 (some .int), Cond.fieldLink RX3 154 "BallotHouse$Ballot" "voteAnswers" "[I", Cond.methodLink RX3 75 yX1_hasWord, Cond.instanceMethod yX1_hasWord, Cond.selects RX1 yX1_hasWord yX1_hasWord, Cond.initialized RX1, Cond.code yX1_hasWord cX1_hasWord 2 (some .boolean), Cond.fieldLink RX1 47 "BallotHouse$Ballot" "found" "I", Cond.fieldLink RX1 50 "BallotHouse$Ballot" "proposed" "I", Cond.methodLink RX3 188 yX1_knows]
def wsX3_deliver_r5 : List Cond := [Cond.instanceMethod yX1_knows, Cond.selects RX1 yX1_knows yX1_knows, Cond.code yX1_knows cX1_knows 2 (some .boolean), Cond.fieldLink RX1 23 "BallotHouse$Ballot" "voteAnswers" "[I", Cond.fieldLink RX1 38 "BallotHouse$Ballot" "w" "I", Cond.static yX3_isPlace, Cond.code yX3_isPlace cX3_isPlace 1 (some .boolean), Cond.methodLink RX1 57 yJ6_bitCount_0f7a4, Cond.methodLink RX3 151 yX1_knownPlaces, Cond.instanceMethod yX1_knownPlaces, Cond.selects RX1 yX1_knownPlaces yX1_knownPlaces, Cond.code yX1_knownPlaces cX1_knownPlaces 3 (some .int), Cond.methodLink RX1 63 yX1_knows, Cond.methodLink RX3 195 yX3_readComes, Cond.instanceMethod yX3_readComes, Cond.selects RX3 yX3_readComes yX3_readComes, Cond.code yX3_readComes cX3_readComes 3 none, Cond.fieldLink RX3 22 "BallotHouse" "promises" "[I", Cond.fieldLink RX3 26 "BallotHouse" "votes" "[J", Cond.methodLink RX3 127 yX3_isVoter, Cond.instanceMethod yX3_isVoter, Cond.selects RX3 yX3_isVoter yX3_isVoter, Cond.code yX3_isVoter cX3_isVoter 2 (some .boolean), Cond.methodLink RX3 199 yX3_readAnswerComes]
def wsX3_deliver_r6 : List Cond := [Cond.instanceMethod yX3_readAnswerComes, Cond.selects RX3 yX3_readAnswerComes yX3_readAnswerComes, Cond.code yX3_readAnswerComes cX3_readAnswerComes 6 none, Cond.methodLink RX3 219 yX3_takeFound, Cond.instanceMethod yX3_takeFound, Cond.selects RX3 yX3_takeFound yX3_takeFound, Cond.code yX3_takeFound cX3_takeFound 6 none, Cond.fieldLink RX3 223 "BallotHouse$Ballot" "foundBy" "[I", Cond.fieldLink RX3 81 "BallotHouse$Ballot" "words" "[J", Cond.methodLink RX3 133 yX2_at, Cond.static yX2_at, Cond.initialized RX2, Cond.code yX2_at cX2_at 3 (some .int), Cond.constantLong RX2 11 (255), Cond.methodLink RX3 203 yX3_voteComes, Cond.instanceMethod yX3_voteComes, Cond.selects RX3 yX3_voteComes yX3_voteComes, Cond.code yX3_voteComes cX3_voteComes 4 none, Cond.fieldLink RX3 230 "BallotHouse$Ballot" "everVoted" "[I", Cond.methodLink RX3 68 yX3_isPlace, Cond.methodLink RX3 226 yX2_with, Cond.static yX2_with, Cond.code yX2_with cX2_with 5 (some .long), Cond.constantLong RX2 13 (-1)]
def wsX3_deliver_r7 : List Cond := [Cond.methodLink RX3 207 yX3_voteAnswerComes, Cond.instanceMethod yX3_voteAnswerComes, Cond.selects RX3 yX3_voteAnswerComes yX3_voteAnswerComes, Cond.code yX3_voteAnswerComes cX3_voteAnswerComes 4 none, Cond.methodLink RX3 210 yX3_completeComes, Cond.instanceMethod yX3_completeComes, Cond.selects RX3 yX3_completeComes yX3_completeComes, Cond.code yX3_completeComes cX3_completeComes 2 none, Cond.fieldLink RX3 50 "BallotHouse" "complete" "I", Cond.methodLink RX3 213 yX3_activeComes, Cond.instanceMethod yX3_activeComes, Cond.selects RX3 yX3_activeComes yX3_activeComes, Cond.code yX3_activeComes cX3_activeComes 2 none]
def wsX3_deliver : List Cond := .code yX3_deliver cX3_deliver 2 (some .boolean) :: ((wsX3_deliver_r1 ++ (wsX3_deliver_r2 ++ (wsX3_deliver_r3 ++ (wsX3_deliver_r4 ++ (wsX3_deliver_r5 ++ (wsX3_deliver_r6 ++ wsX3_deliver_r7)))))) ++ wsX30 ++ wsX00 ++ wsX10)
def wsX3_firstDeliverable : List Cond := .code yX3_firstDeliverable cX3_firstDeliverable 2 (some .int) :: ([.fieldLink RX3 39 "BallotHouse" "letters" "LBallotHouse$Air;", .fieldLink RX3 121 "BallotHouse$Air" "size" "I", .methodLink RX3 107 yX3_isForSilent, .instanceMethod yX3_isForSilent, .selects RX3 yX3_isForSilent yX3_isForSilent, .initialized RX3, .code yX3_isForSilent cX3_isForSilent 4 (some .boolean), .fieldLink RX3 163 "BallotHouse$Air" "kind" "[I", .fieldLink RX3 130 "BallotHouse" "silentVoters" "I", .fieldLink RX3 169 "BallotHouse$Air" "voter" "[I"] ++ wsX30 ++ wsX00)
def wsX3_settle_r1 : List Cond := [Cond.methodLink RX3 114 yX3_firstDeliverable, Cond.instanceMethod yX3_firstDeliverable, Cond.selects RX3 yX3_firstDeliverable yX3_firstDeliverable, Cond.initialized RX3, Cond.code yX3_firstDeliverable cX3_firstDeliverable 2 (some .int), Cond.fieldLink RX3 39 "BallotHouse" "letters" "LBallotHouse$Air;", Cond.fieldLink RX3 121 "BallotHouse$Air" "size" "I", Cond.methodLink RX3 107 yX3_isForSilent, Cond.instanceMethod yX3_isForSilent, Cond.selects RX3 yX3_isForSilent yX3_isForSilent, Cond.code yX3_isForSilent cX3_isForSilent 4 (some .boolean), Cond.fieldLink RX3 163 "BallotHouse$Air" "kind" "[I", Cond.fieldLink RX3 130 "BallotHouse" "silentVoters" "I", Cond.fieldLink RX3 169 "BallotHouse$Air" "voter" "[I", Cond.methodLink RX3 110 yX3_handOver, Cond.instanceMethod yX3_handOver, Cond.selects RX3 yX3_handOver yX3_handOver, Cond.code yX3_handOver cX3_handOver 8 none, Cond.fieldLink RX3 172 "BallotHouse$Air" "place" "[I", Cond.fieldLink RX3 175 "BallotHouse$Air" "votes" "[J", Cond.fieldLink RX3 166 "BallotHouse$Air" "ballot" "[I", Cond.methodLink RX3 64 yX3_find, Cond.instanceMethod yX3_find, Cond.selects RX3 yX3_find yX3_find]
def wsX3_settle_r2 : List Cond := [Cond.code yX3_find cX3_find 2 (some (.object "BallotHouse$Ballot")), Cond.fieldLink RX3 43 "BallotHouse" "made" "I", Cond.fieldLink RX3 32 "BallotHouse" "ballots" "[LBallotHouse$Ballot;", Cond.methodLink RX3 118 yX0_drop, Cond.instanceMethod yX0_drop, Cond.selects RX0 yX0_drop yX0_drop, Cond.initialized RX0, Cond.code yX0_drop cX0_drop 3 none, Cond.fieldLink RX0 28 "BallotHouse$Air" "size" "I", Cond.fieldLink RX0 9 "BallotHouse$Air" "kind" "[I", Cond.methodLink RX0 43 arraycopyName, Cond.native arraycopyName, Cond.static arraycopyName, Cond.initialized "java/lang/System", Cond.fieldLink RX0 15 "BallotHouse$Air" "ballot" "[I", Cond.fieldLink RX0 18 "BallotHouse$Air" "voter" "[I", Cond.fieldLink RX0 21 "BallotHouse$Air" "place" "[I", Cond.fieldLink RX0 24 "BallotHouse$Air" "votes" "[J", Cond.methodLink RX0 35 yX0_has, Cond.instanceMethod yX0_has, Cond.selects RX0 yX0_has yX0_has, Cond.code yX0_has cX0_has 2 (some .boolean), Cond.methodLink RX3 191 yX3_newComes, Cond.instanceMethod yX3_newComes]
def wsX3_settle_r3 : List Cond := [Cond.selects RX3 yX3_newComes yX3_newComes, Cond.code yX3_newComes cX3_newComes 2 none, Cond.fieldLink RX3 72 "BallotHouse$Ballot" "state" "I", Cond.fieldLink RX3 94 "BallotHouse$Ballot" "readers" "I", Cond.methodLink RX3 87 yX3_sendToEach, Cond.instanceMethod yX3_sendToEach, Cond.selects RX3 yX3_sendToEach yX3_sendToEach, Cond.code yX3_sendToEach cX3_sendToEach 6 (some .int), Cond.fieldLink RX3 18 "BallotHouse" "voters" "I", Cond.fieldLink RX3 91 "BallotHouse$Ballot" "number" "I", Cond.methodLink RX3 60 yX0_send, Cond.instanceMethod yX0_send, Cond.selects RX0 yX0_send yX0_send, Cond.code yX0_send cX0_send 7 none, Cond.fieldLink RX0 32 "BallotHouse$Air" "lost" "I", Cond.methodLink RX3 183 yJ6_bitCount_0f7a4, Cond.static yJ6_bitCount_0f7a4, Cond.initialized RJ6, Cond.code yJ6_bitCount_0f7a4 cJ6_bitCount_0f7a4 1 (some .int), Cond.constant RJ6 265 (1431655765), Cond.constant RJ6 266 (858993459), Cond.constant RJ6 267 (252645135), Cond.methodLink RX3 216 yX3_goOn, Cond.instanceMethod yX3_goOn]
def wsX3_settle_r4 : List Cond := [Cond.selects RX3 yX3_goOn yX3_goOn, Cond.code yX3_goOn cX3_goOn 2 none, Cond.fieldLink RX3 148 "BallotHouse$Ballot" "found" "I", Cond.methodLink RX3 233 yX3_isReadingOver, Cond.instanceMethod yX3_isReadingOver, Cond.selects RX3 yX3_isReadingOver yX3_isReadingOver, Cond.code yX3_isReadingOver cX3_isReadingOver 4 (some .boolean), Cond.fieldLink RX3 145 "BallotHouse$Ballot" "behind" "I", Cond.methodLink RX3 15 Lib.Math.max.name, Cond.static Lib.Math.max.name, Cond.initialized "java/lang/Math", Cond.code Lib.Math.max.name Lib.Math.max.code 2 (some .int), Cond.fieldLink RX3 84 "BallotHouse$Ballot" "members" "I", Cond.fieldLink RX3 97 "BallotHouse$Ballot" "readAnswers" "I", Cond.fieldLink RX3 139 "BallotHouse$Ballot" "\x72" "I", Cond.methodLink RX3 100 yX3_sendMissingVotes, Cond.instanceMethod yX3_sendMissingVotes, Cond.selects RX3 yX3_sendMissingVotes yX3_sendMissingVotes, Cond.code yX3_sendMissingVotes cX3_sendMissingVotes 4 (some .int), Cond.fieldLink RX3 154 "BallotHouse$Ballot" "voteAnswers" "[I", Cond.methodLink RX3 75 yX1_hasWord, Cond.instanceMethod yX1_hasWord, Cond.selects RX1 yX1_hasWord yX1_hasWord, Cond.initialized RX1]
def wsX3_settle_r5 : List Cond := [Cond.code yX1_hasWord cX1_hasWord 2 (some .boolean), Cond.fieldLink RX1 47 "BallotHouse$Ballot" "found" "I", Cond.fieldLink RX1 50 "BallotHouse$Ballot" "proposed" "I", Cond.methodLink RX3 188 yX1_knows, Cond.instanceMethod yX1_knows, Cond.selects RX1 yX1_knows yX1_knows, Cond.code yX1_knows cX1_knows 2 (some .boolean), Cond.fieldLink RX1 23 "BallotHouse$Ballot" "voteAnswers" "[I", Cond.fieldLink RX1 38 "BallotHouse$Ballot" "w" "I", Cond.static yX3_isPlace, Cond.code yX3_isPlace cX3_isPlace 1 (some .boolean), Cond.methodLink RX1 57 yJ6_bitCount_0f7a4, Cond.methodLink RX3 151 yX1_knownPlaces, Cond.instanceMethod yX1_knownPlaces, Cond.selects RX1 yX1_knownPlaces yX1_knownPlaces, Cond.code yX1_knownPlaces cX1_knownPlaces 3 (some .int), Cond.methodLink RX1 63 yX1_knows, Cond.methodLink RX3 195 yX3_readComes, Cond.instanceMethod yX3_readComes, Cond.selects RX3 yX3_readComes yX3_readComes, Cond.code yX3_readComes cX3_readComes 3 none, Cond.fieldLink RX3 22 "BallotHouse" "promises" "[I", Cond.fieldLink RX3 26 "BallotHouse" "votes" "[J", Cond.methodLink RX3 127 yX3_isVoter]
def wsX3_settle_r6 : List Cond := [Cond.instanceMethod yX3_isVoter, Cond.selects RX3 yX3_isVoter yX3_isVoter, Cond.code yX3_isVoter cX3_isVoter 2 (some .boolean), Cond.methodLink RX3 199 yX3_readAnswerComes, Cond.instanceMethod yX3_readAnswerComes, Cond.selects RX3 yX3_readAnswerComes yX3_readAnswerComes, Cond.code yX3_readAnswerComes cX3_readAnswerComes 6 none, Cond.methodLink RX3 219 yX3_takeFound, Cond.instanceMethod yX3_takeFound, Cond.selects RX3 yX3_takeFound yX3_takeFound, Cond.code yX3_takeFound cX3_takeFound 6 none, Cond.fieldLink RX3 223 "BallotHouse$Ballot" "foundBy" "[I", Cond.fieldLink RX3 81 "BallotHouse$Ballot" "words" "[J", Cond.methodLink RX3 133 yX2_at, Cond.static yX2_at, Cond.initialized RX2, Cond.code yX2_at cX2_at 3 (some .int), Cond.constantLong RX2 11 (255), Cond.methodLink RX3 203 yX3_voteComes, Cond.instanceMethod yX3_voteComes, Cond.selects RX3 yX3_voteComes yX3_voteComes, Cond.code yX3_voteComes cX3_voteComes 4 none, Cond.fieldLink RX3 230 "BallotHouse$Ballot" "everVoted" "[I", Cond.methodLink RX3 68 yX3_isPlace]
def wsX3_settle_r7 : List Cond := [Cond.methodLink RX3 226 yX2_with, Cond.static yX2_with, Cond.code yX2_with cX2_with 5 (some .long), Cond.constantLong RX2 13 (-1), Cond.methodLink RX3 207 yX3_voteAnswerComes, Cond.instanceMethod yX3_voteAnswerComes, Cond.selects RX3 yX3_voteAnswerComes yX3_voteAnswerComes, Cond.code yX3_voteAnswerComes cX3_voteAnswerComes 4 none, Cond.methodLink RX3 210 yX3_completeComes, Cond.instanceMethod yX3_completeComes, Cond.selects RX3 yX3_completeComes yX3_completeComes, Cond.code yX3_completeComes cX3_completeComes 2 none, Cond.fieldLink RX3 50 "BallotHouse" "complete" "I", Cond.methodLink RX3 213 yX3_activeComes, Cond.instanceMethod yX3_activeComes, Cond.selects RX3 yX3_activeComes yX3_activeComes, Cond.code yX3_activeComes cX3_activeComes 2 none]
def wsX3_settle : List Cond := .code yX3_settle cX3_settle 4 (some .int) :: ((wsX3_settle_r1 ++ (wsX3_settle_r2 ++ (wsX3_settle_r3 ++ (wsX3_settle_r4 ++ (wsX3_settle_r5 ++ (wsX3_settle_r6 ++ wsX3_settle_r7)))))) ++ wsX30 ++ wsX00 ++ wsX10)
def wsX3_lose : List Cond := .code yX3_lose cX3_lose 2 (some .boolean) :: ([.fieldLink RX3 39 "BallotHouse" "letters" "LBallotHouse$Air;", .methodLink RX3 104 yX0_has, .instanceMethod yX0_has, .selects RX0 yX0_has yX0_has, .initialized RX0, .code yX0_has cX0_has 2 (some .boolean), .fieldLink RX0 28 "BallotHouse$Air" "size" "I", .methodLink RX3 118 yX0_drop, .instanceMethod yX0_drop, .selects RX0 yX0_drop yX0_drop, .code yX0_drop cX0_drop 3 none, .fieldLink RX0 9 "BallotHouse$Air" "kind" "[I", .methodLink RX0 43 arraycopyName, .native arraycopyName, .static arraycopyName, .initialized "java/lang/System", .fieldLink RX0 15 "BallotHouse$Air" "ballot" "[I", .fieldLink RX0 18 "BallotHouse$Air" "voter" "[I", .fieldLink RX0 21 "BallotHouse$Air" "place" "[I", .fieldLink RX0 24 "BallotHouse$Air" "votes" "[J", .methodLink RX0 35 yX0_has] ++ wsX30 ++ wsX00)
def wsX3_twice : List Cond := .code yX3_twice cX3_twice 2 (some .boolean) :: ([.fieldLink RX3 39 "BallotHouse" "letters" "LBallotHouse$Air;", .fieldLink RX3 121 "BallotHouse$Air" "size" "I", .methodLink RX3 104 yX0_has, .instanceMethod yX0_has, .selects RX0 yX0_has yX0_has, .initialized RX0, .code yX0_has cX0_has 2 (some .boolean), .fieldLink RX0 28 "BallotHouse$Air" "size" "I", .methodLink RX3 124 yX0_repeat, .instanceMethod yX0_repeat, .selects RX0 yX0_repeat yX0_repeat, .code yX0_repeat cX0_repeat 2 none, .fieldLink RX0 9 "BallotHouse$Air" "kind" "[I", .fieldLink RX0 15 "BallotHouse$Air" "ballot" "[I", .fieldLink RX0 18 "BallotHouse$Air" "voter" "[I", .fieldLink RX0 21 "BallotHouse$Air" "place" "[I", .fieldLink RX0 24 "BallotHouse$Air" "votes" "[J", .methodLink RX0 35 yX0_has, .methodLink RX0 39 yX0_send, .instanceMethod yX0_send, .selects RX0 yX0_send yX0_send, .code yX0_send cX0_send 7 none, .fieldLink RX0 32 "BallotHouse$Air" "lost" "I"] ++ wsX30 ++ wsX00)
def wsX3_silent : List Cond := .code yX3_silent cX3_silent 4 (some .boolean) :: ([.fieldLink RX3 130 "BallotHouse" "silentVoters" "I", .methodLink RX3 127 yX3_isVoter, .instanceMethod yX3_isVoter, .selects RX3 yX3_isVoter yX3_isVoter, .initialized RX3, .code yX3_isVoter cX3_isVoter 2 (some .boolean), .fieldLink RX3 18 "BallotHouse" "voters" "I"] ++ wsX30)
def wsX3_promise : List Cond := .code yX3_promise cX3_promise 2 (some .int) :: ([.fieldLink RX3 22 "BallotHouse" "promises" "[I", .methodLink RX3 127 yX3_isVoter, .instanceMethod yX3_isVoter, .selects RX3 yX3_isVoter yX3_isVoter, .initialized RX3, .code yX3_isVoter cX3_isVoter 2 (some .boolean), .fieldLink RX3 18 "BallotHouse" "voters" "I"] ++ wsX30)
def wsX3_vote : List Cond := .code yX3_vote cX3_vote 3 (some .int) :: ([.fieldLink RX3 26 "BallotHouse" "votes" "[J", .methodLink RX3 127 yX3_isVoter, .instanceMethod yX3_isVoter, .selects RX3 yX3_isVoter yX3_isVoter, .initialized RX3, .code yX3_isVoter cX3_isVoter 2 (some .boolean), .fieldLink RX3 18 "BallotHouse" "voters" "I", .methodLink RX3 68 yX3_isPlace, .static yX3_isPlace, .code yX3_isPlace cX3_isPlace 1 (some .boolean), .methodLink RX3 133 yX2_at, .static yX2_at, .initialized RX2, .code yX2_at cX2_at 3 (some .int), .constantLong RX2 11 (255)] ++ wsX30)
def wsX3_value : List Cond := .code yX3_value cX3_value 4 (some .long) :: ([.fieldLink RX3 26 "BallotHouse" "votes" "[J", .fieldLink RX3 81 "BallotHouse$Ballot" "words" "[J", .methodLink RX3 127 yX3_isVoter, .instanceMethod yX3_isVoter, .selects RX3 yX3_isVoter yX3_isVoter, .initialized RX3, .code yX3_isVoter cX3_isVoter 2 (some .boolean), .fieldLink RX3 18 "BallotHouse" "voters" "I", .methodLink RX3 68 yX3_isPlace, .static yX3_isPlace, .code yX3_isPlace cX3_isPlace 1 (some .boolean), .methodLink RX3 133 yX2_at, .static yX2_at, .initialized RX2, .code yX2_at cX2_at 3 (some .int), .constantLong RX2 11 (255), .methodLink RX3 64 yX3_find, .instanceMethod yX3_find, .selects RX3 yX3_find yX3_find, .code yX3_find cX3_find 2 (some (.object "BallotHouse$Ballot")), .fieldLink RX3 43 "BallotHouse" "made" "I", .fieldLink RX3 32 "BallotHouse" "ballots" "[LBallotHouse$Ballot;"] ++ wsX30 ++ wsX10)
def wsX3_of_r1 : List Cond := [Cond.fieldLink RX3 72 "BallotHouse$Ballot" "state" "I", Cond.fieldLink RX3 84 "BallotHouse$Ballot" "members" "I", Cond.fieldLink RX3 139 "BallotHouse$Ballot" "\x72" "I", Cond.fieldLink RX3 142 "BallotHouse$Ballot" "w" "I", Cond.fieldLink RX3 145 "BallotHouse$Ballot" "behind" "I", Cond.fieldLink RX3 97 "BallotHouse$Ballot" "readAnswers" "I", Cond.fieldLink RX3 148 "BallotHouse$Ballot" "found" "I", Cond.fieldLink RX3 78 "BallotHouse$Ballot" "proposed" "I", Cond.methodLink RX3 64 yX3_find, Cond.instanceMethod yX3_find, Cond.selects RX3 yX3_find yX3_find, Cond.initialized RX3, Cond.code yX3_find cX3_find 2 (some (.object "BallotHouse$Ballot")), Cond.fieldLink RX3 43 "BallotHouse" "made" "I", Cond.fieldLink RX3 32 "BallotHouse" "ballots" "[LBallotHouse$Ballot;", Cond.methodLink RX3 151 yX1_knownPlaces, Cond.instanceMethod yX1_knownPlaces, Cond.selects RX1 yX1_knownPlaces yX1_knownPlaces, Cond.initialized RX1, Cond.code yX1_knownPlaces cX1_knownPlaces 3 (some .int), Cond.methodLink RX1 63 yX1_knows, Cond.instanceMethod yX1_knows, Cond.selects RX1 yX1_knows yX1_knows, Cond.code yX1_knows cX1_knows 2 (some .boolean)]
def wsX3_of_r2 : List Cond := [Cond.fieldLink RX1 23 "BallotHouse$Ballot" "voteAnswers" "[I", Cond.fieldLink RX1 38 "BallotHouse$Ballot" "w" "I", Cond.static yX3_isPlace, Cond.code yX3_isPlace cX3_isPlace 1 (some .boolean), Cond.methodLink RX1 57 yJ6_bitCount_0f7a4, Cond.static yJ6_bitCount_0f7a4, Cond.initialized RJ6, Cond.code yJ6_bitCount_0f7a4 cJ6_bitCount_0f7a4 1 (some .int), Cond.constant RJ6 265 (1431655765), Cond.constant RJ6 266 (858993459), Cond.constant RJ6 267 (252645135)]
def wsX3_of : List Cond := .code yX3_of cX3_of 4 (some .int) :: ((wsX3_of_r1 ++ wsX3_of_r2) ++ wsX10 ++ wsX30)
def wsX3_answered : List Cond := .code yX3_answered cX3_answered 4 (some .int) :: ([.fieldLink RX3 154 "BallotHouse$Ballot" "voteAnswers" "[I", .methodLink RX3 64 yX3_find, .instanceMethod yX3_find, .selects RX3 yX3_find yX3_find, .initialized RX3, .code yX3_find cX3_find 2 (some (.object "BallotHouse$Ballot")), .fieldLink RX3 43 "BallotHouse" "made" "I", .fieldLink RX3 32 "BallotHouse" "ballots" "[LBallotHouse$Ballot;", .methodLink RX3 68 yX3_isPlace, .static yX3_isPlace, .code yX3_isPlace cX3_isPlace 1 (some .boolean)] ++ wsX10 ++ wsX30)
def wsX3_said : List Cond := .code yX3_said cX3_said 4 (some .long) :: ([.fieldLink RX3 81 "BallotHouse$Ballot" "words" "[J", .methodLink RX3 64 yX3_find, .instanceMethod yX3_find, .selects RX3 yX3_find yX3_find, .initialized RX3, .code yX3_find cX3_find 2 (some (.object "BallotHouse$Ballot")), .fieldLink RX3 43 "BallotHouse" "made" "I", .fieldLink RX3 32 "BallotHouse" "ballots" "[LBallotHouse$Ballot;", .methodLink RX3 68 yX3_isPlace, .static yX3_isPlace, .code yX3_isPlace cX3_isPlace 1 (some .boolean)] ++ wsX10 ++ wsX30)
def wsX3_firstThatChose : List Cond := .code yX3_firstThatChose cX3_firstThatChose 4 (some (.object "BallotHouse$Ballot")) :: ([.fieldLink RX3 43 "BallotHouse" "made" "I", .methodLink RX3 68 yX3_isPlace, .static yX3_isPlace, .initialized RX3, .code yX3_isPlace cX3_isPlace 1 (some .boolean), .methodLink RX3 64 yX3_find, .instanceMethod yX3_find, .selects RX3 yX3_find yX3_find, .code yX3_find cX3_find 2 (some (.object "BallotHouse$Ballot")), .fieldLink RX3 32 "BallotHouse" "ballots" "[LBallotHouse$Ballot;", .methodLink RX3 160 yX1_hasChosen, .instanceMethod yX1_hasChosen, .selects RX1 yX1_hasChosen yX1_hasChosen, .initialized RX1, .code yX1_hasChosen cX1_hasChosen 2 (some .boolean), .fieldLink RX1 26 "BallotHouse$Ballot" "everVoted" "[I", .fieldLink RX1 38 "BallotHouse$Ballot" "w" "I", .methodLink RX1 57 yJ6_bitCount_0f7a4, .static yJ6_bitCount_0f7a4, .initialized RJ6, .code yJ6_bitCount_0f7a4 cJ6_bitCount_0f7a4 1 (some .int), .constant RJ6 265 (1431655765), .constant RJ6 266 (858993459), .constant RJ6 267 (252645135)] ++ wsX30 ++ wsX10)
def wsX3_chosen_r1 : List Cond := [Cond.fieldLink RX3 91 "BallotHouse$Ballot" "number" "I", Cond.methodLink RX3 157 yX3_firstThatChose, Cond.instanceMethod yX3_firstThatChose, Cond.selects RX3 yX3_firstThatChose yX3_firstThatChose, Cond.initialized RX3, Cond.code yX3_firstThatChose cX3_firstThatChose 4 (some (.object "BallotHouse$Ballot")), Cond.fieldLink RX3 43 "BallotHouse" "made" "I", Cond.methodLink RX3 68 yX3_isPlace, Cond.static yX3_isPlace, Cond.code yX3_isPlace cX3_isPlace 1 (some .boolean), Cond.methodLink RX3 64 yX3_find, Cond.instanceMethod yX3_find, Cond.selects RX3 yX3_find yX3_find, Cond.code yX3_find cX3_find 2 (some (.object "BallotHouse$Ballot")), Cond.fieldLink RX3 32 "BallotHouse" "ballots" "[LBallotHouse$Ballot;", Cond.methodLink RX3 160 yX1_hasChosen, Cond.instanceMethod yX1_hasChosen, Cond.selects RX1 yX1_hasChosen yX1_hasChosen, Cond.initialized RX1, Cond.code yX1_hasChosen cX1_hasChosen 2 (some .boolean), Cond.fieldLink RX1 26 "BallotHouse$Ballot" "everVoted" "[I", Cond.fieldLink RX1 38 "BallotHouse$Ballot" "w" "I", Cond.methodLink RX1 57 yJ6_bitCount_0f7a4, Cond.static yJ6_bitCount_0f7a4]
def wsX3_chosen_r2 : List Cond := [Cond.initialized RJ6, Cond.code yJ6_bitCount_0f7a4 cJ6_bitCount_0f7a4 1 (some .int), Cond.constant RJ6 265 (1431655765), Cond.constant RJ6 266 (858993459), Cond.constant RJ6 267 (252645135)]
def wsX3_chosen : List Cond := .code yX3_chosen cX3_chosen 3 (some .int) :: ((wsX3_chosen_r1 ++ wsX3_chosen_r2) ++ wsX10 ++ wsX30)
def wsX3_chosenValue_r1 : List Cond := [Cond.fieldLink RX3 81 "BallotHouse$Ballot" "words" "[J", Cond.methodLink RX3 157 yX3_firstThatChose, Cond.instanceMethod yX3_firstThatChose, Cond.selects RX3 yX3_firstThatChose yX3_firstThatChose, Cond.initialized RX3, Cond.code yX3_firstThatChose cX3_firstThatChose 4 (some (.object "BallotHouse$Ballot")), Cond.fieldLink RX3 43 "BallotHouse" "made" "I", Cond.methodLink RX3 68 yX3_isPlace, Cond.static yX3_isPlace, Cond.code yX3_isPlace cX3_isPlace 1 (some .boolean), Cond.methodLink RX3 64 yX3_find, Cond.instanceMethod yX3_find, Cond.selects RX3 yX3_find yX3_find, Cond.code yX3_find cX3_find 2 (some (.object "BallotHouse$Ballot")), Cond.fieldLink RX3 32 "BallotHouse" "ballots" "[LBallotHouse$Ballot;", Cond.methodLink RX3 160 yX1_hasChosen, Cond.instanceMethod yX1_hasChosen, Cond.selects RX1 yX1_hasChosen yX1_hasChosen, Cond.initialized RX1, Cond.code yX1_hasChosen cX1_hasChosen 2 (some .boolean), Cond.fieldLink RX1 26 "BallotHouse$Ballot" "everVoted" "[I", Cond.fieldLink RX1 38 "BallotHouse$Ballot" "w" "I", Cond.methodLink RX1 57 yJ6_bitCount_0f7a4, Cond.static yJ6_bitCount_0f7a4]
def wsX3_chosenValue_r2 : List Cond := [Cond.initialized RJ6, Cond.code yJ6_bitCount_0f7a4 cJ6_bitCount_0f7a4 1 (some .int), Cond.constant RJ6 265 (1431655765), Cond.constant RJ6 266 (858993459), Cond.constant RJ6 267 (252645135)]
def wsX3_chosenValue : List Cond := .code yX3_chosenValue cX3_chosenValue 3 (some .long) :: ((wsX3_chosenValue_r1 ++ wsX3_chosenValue_r2) ++ wsX10 ++ wsX30)
def wsX3_isOne_r1 : List Cond := [Cond.fieldLink RX3 91 "BallotHouse$Ballot" "number" "I", Cond.fieldLink RX3 43 "BallotHouse" "made" "I", Cond.fieldLink RX3 81 "BallotHouse$Ballot" "words" "[J", Cond.methodLink RX3 157 yX3_firstThatChose, Cond.instanceMethod yX3_firstThatChose, Cond.selects RX3 yX3_firstThatChose yX3_firstThatChose, Cond.initialized RX3, Cond.code yX3_firstThatChose cX3_firstThatChose 4 (some (.object "BallotHouse$Ballot")), Cond.methodLink RX3 68 yX3_isPlace, Cond.static yX3_isPlace, Cond.code yX3_isPlace cX3_isPlace 1 (some .boolean), Cond.methodLink RX3 64 yX3_find, Cond.instanceMethod yX3_find, Cond.selects RX3 yX3_find yX3_find, Cond.code yX3_find cX3_find 2 (some (.object "BallotHouse$Ballot")), Cond.fieldLink RX3 32 "BallotHouse" "ballots" "[LBallotHouse$Ballot;", Cond.methodLink RX3 160 yX1_hasChosen, Cond.instanceMethod yX1_hasChosen, Cond.selects RX1 yX1_hasChosen yX1_hasChosen, Cond.initialized RX1, Cond.code yX1_hasChosen cX1_hasChosen 2 (some .boolean), Cond.fieldLink RX1 26 "BallotHouse$Ballot" "everVoted" "[I", Cond.fieldLink RX1 38 "BallotHouse$Ballot" "w" "I", Cond.methodLink RX1 57 yJ6_bitCount_0f7a4]
def wsX3_isOne_r2 : List Cond := [Cond.static yJ6_bitCount_0f7a4, Cond.initialized RJ6, Cond.code yJ6_bitCount_0f7a4 cJ6_bitCount_0f7a4 1 (some .int), Cond.constant RJ6 265 (1431655765), Cond.constant RJ6 266 (858993459), Cond.constant RJ6 267 (252645135)]
def wsX3_isOne : List Cond := .code yX3_isOne cX3_isOne 5 (some .boolean) :: ((wsX3_isOne_r1 ++ wsX3_isOne_r2) ++ wsX10 ++ wsX30)
def wsX3_air : List Cond := .code yX3_air cX3_air 3 (some .int) :: ([.fieldLink RX3 39 "BallotHouse" "letters" "LBallotHouse$Air;", .fieldLink RX3 163 "BallotHouse$Air" "kind" "[I", .fieldLink RX3 166 "BallotHouse$Air" "ballot" "[I", .fieldLink RX3 169 "BallotHouse$Air" "voter" "[I", .fieldLink RX3 172 "BallotHouse$Air" "place" "[I", .fieldLink RX3 175 "BallotHouse$Air" "votes" "[J", .methodLink RX3 104 yX0_has, .instanceMethod yX0_has, .selects RX0 yX0_has yX0_has, .initialized RX0, .code yX0_has cX0_has 2 (some .boolean), .fieldLink RX0 28 "BallotHouse$Air" "size" "I", .methodLink RX3 176 yX2_places, .static yX2_places, .initialized RX2, .code yX2_places cX2_places 4 (some .int), .methodLink RX2 15 yX2_at, .static yX2_at, .code yX2_at cX2_at 3 (some .int), .constantLong RX2 11 (255)] ++ wsX30 ++ wsX00)
def wsX3_about : List Cond := .code yX3_about cX3_about 2 (some .int) :: ([.fieldLink RX3 18 "BallotHouse" "voters" "I", .fieldLink RX3 43 "BallotHouse" "made" "I", .fieldLink RX3 50 "BallotHouse" "complete" "I", .fieldLink RX3 39 "BallotHouse" "letters" "LBallotHouse$Air;", .fieldLink RX3 121 "BallotHouse$Air" "size" "I", .fieldLink RX3 180 "BallotHouse$Air" "lost" "I"] ++ wsX30 ++ wsX00)
def wsX4_init_r1 : List Cond := [Cond.methodLink RX4 1 objectInit, Cond.instanceMethod objectInit, Cond.code objectInit ⟨#[0xb1]⟩ 1 none, Cond.arrayClass .int, Cond.fieldLink RX4 7 "BallotHouseModel" "promise" "[I", Cond.fieldLink RX4 13 "BallotHouseModel" "vote" "[I", Cond.arrayClass .long, Cond.fieldLink RX4 16 "BallotHouseModel" "value" "[J", Cond.arrayClass .boolean, Cond.fieldLink RX4 20 "BallotHouseModel" "silent" "[Z", Cond.fieldLink RX4 24 "BallotHouseModel" "state" "[I", Cond.fieldLink RX4 27 "BallotHouseModel" "members" "[I", Cond.fieldLink RX4 30 "BallotHouseModel" "reads" "[I", Cond.fieldLink RX4 33 "BallotHouseModel" "writes" "[I", Cond.fieldLink RX4 36 "BallotHouseModel" "behind" "[I", Cond.fieldLink RX4 39 "BallotHouseModel" "readers" "[I", Cond.fieldLink RX4 42 "BallotHouseModel" "found" "[I", Cond.fieldLink RX4 45 "BallotHouseModel" "proposed" "[I", Cond.fieldLink RX4 48 "BallotHouseModel" "known" "[I", Cond.fieldLink RX4 51 "BallotHouseModel" "foundBy" "[I", Cond.fieldLink RX4 54 "BallotHouseModel" "answers" "[I", Cond.fieldLink RX4 57 "BallotHouseModel" "voted" "[I", Cond.fieldLink RX4 60 "BallotHouseModel" "says" "[J", Cond.fieldLink RX4 63 "BallotHouseModel" "airKind" "[I"]
def wsX4_init_r2 : List Cond := [Cond.fieldLink RX4 66 "BallotHouseModel" "airBallot" "[I", Cond.fieldLink RX4 69 "BallotHouseModel" "airVoter" "[I", Cond.fieldLink RX4 72 "BallotHouseModel" "airPlace" "[I", Cond.fieldLink RX4 75 "BallotHouseModel" "airVote" "[I", Cond.fieldLink RX4 78 "BallotHouseModel" "airValue" "[J", Cond.fieldLink RX4 81 "BallotHouseModel" "airValues" "[J", Cond.fieldLink RX4 84 "BallotHouseModel" "gotVote" "[I", Cond.fieldLink RX4 87 "BallotHouseModel" "gotValue" "[J", Cond.fieldLink RX4 90 "BallotHouseModel" "voters" "I"]
def wsX4_init : List Cond := .code yX4_init cX4_init 2 none :: ((wsX4_init_r1 ++ wsX4_init_r2) ++ wsX40)
def wsX4_isVoter : List Cond := .code yX4_isVoter cX4_isVoter 2 (some .boolean) :: ([.fieldLink RX4 90 "BallotHouseModel" "voters" "I"] ++ wsX40)
def wsX4_isBallot : List Cond := .code yX4_isBallot cX4_isBallot 2 (some .boolean) :: ([.fieldLink RX4 94 "BallotHouseModel" "ballots" "I"] ++ wsX40)
def wsX4_isPlace : List Cond := .code yX4_isPlace cX4_isPlace 1 (some .boolean) :: ([])
def wsX4_many : List Cond := .code yX4_many cX4_many 3 (some .int) :: ([])
def wsX4_put : List Cond := .code yX4_put cX4_put 8 none :: ([.fieldLink RX4 97 "BallotHouseModel" "air" "I", .fieldLink RX4 100 "BallotHouseModel" "lost" "I", .fieldLink RX4 63 "BallotHouseModel" "airKind" "[I", .fieldLink RX4 66 "BallotHouseModel" "airBallot" "[I", .fieldLink RX4 69 "BallotHouseModel" "airVoter" "[I", .fieldLink RX4 72 "BallotHouseModel" "airPlace" "[I", .fieldLink RX4 78 "BallotHouseModel" "airValue" "[J", .fieldLink RX4 75 "BallotHouseModel" "airVote" "[I", .fieldLink RX4 13 "BallotHouseModel" "vote" "[I", .fieldLink RX4 81 "BallotHouseModel" "airValues" "[J", .fieldLink RX4 16 "BallotHouseModel" "value" "[J"] ++ wsX40)
def wsX4_copy : List Cond := .code yX4_copy cX4_copy 4 none :: ([.fieldLink RX4 63 "BallotHouseModel" "airKind" "[I", .fieldLink RX4 66 "BallotHouseModel" "airBallot" "[I", .fieldLink RX4 69 "BallotHouseModel" "airVoter" "[I", .fieldLink RX4 72 "BallotHouseModel" "airPlace" "[I", .fieldLink RX4 78 "BallotHouseModel" "airValue" "[J", .fieldLink RX4 75 "BallotHouseModel" "airVote" "[I", .fieldLink RX4 81 "BallotHouseModel" "airValues" "[J"] ++ wsX40)
def wsX4_take : List Cond := .code yX4_take cX4_take 3 none :: ([.fieldLink RX4 97 "BallotHouseModel" "air" "I", .methodLink RX4 103 yX4_copy, .instanceMethod yX4_copy, .selects RX4 yX4_copy yX4_copy, .initialized RX4, .code yX4_copy cX4_copy 4 none, .fieldLink RX4 63 "BallotHouseModel" "airKind" "[I", .fieldLink RX4 66 "BallotHouseModel" "airBallot" "[I", .fieldLink RX4 69 "BallotHouseModel" "airVoter" "[I", .fieldLink RX4 72 "BallotHouseModel" "airPlace" "[I", .fieldLink RX4 78 "BallotHouseModel" "airValue" "[J", .fieldLink RX4 75 "BallotHouseModel" "airVote" "[I", .fieldLink RX4 81 "BallotHouseModel" "airValues" "[J"] ++ wsX40)
def wsX4_ballot_r1 : List Cond := [Cond.fieldLink RX4 90 "BallotHouseModel" "voters" "I", Cond.fieldLink RX4 94 "BallotHouseModel" "ballots" "I", Cond.fieldLink RX4 27 "BallotHouseModel" "members" "[I", Cond.fieldLink RX4 30 "BallotHouseModel" "reads" "[I", Cond.fieldLink RX4 33 "BallotHouseModel" "writes" "[I", Cond.fieldLink RX4 36 "BallotHouseModel" "behind" "[I", Cond.fieldLink RX4 111 "BallotHouseModel" "complete" "I", Cond.methodLink RX4 107 yX4_many, Cond.static yX4_many, Cond.initialized RX4, Cond.code yX4_many cX4_many 3 (some .int), Cond.methodLink RX4 114 yX4_put, Cond.instanceMethod yX4_put, Cond.selects RX4 yX4_put yX4_put, Cond.code yX4_put cX4_put 8 none, Cond.fieldLink RX4 97 "BallotHouseModel" "air" "I", Cond.fieldLink RX4 100 "BallotHouseModel" "lost" "I", Cond.fieldLink RX4 63 "BallotHouseModel" "airKind" "[I", Cond.fieldLink RX4 66 "BallotHouseModel" "airBallot" "[I", Cond.fieldLink RX4 69 "BallotHouseModel" "airVoter" "[I", Cond.fieldLink RX4 72 "BallotHouseModel" "airPlace" "[I", Cond.fieldLink RX4 78 "BallotHouseModel" "airValue" "[J", Cond.fieldLink RX4 75 "BallotHouseModel" "airVote" "[I", Cond.fieldLink RX4 13 "BallotHouseModel" "vote" "[I"]
def wsX4_ballot_r2 : List Cond := [Cond.fieldLink RX4 81 "BallotHouseModel" "airValues" "[J", Cond.fieldLink RX4 16 "BallotHouseModel" "value" "[J"]
def wsX4_ballot : List Cond := .code yX4_ballot cX4_ballot 5 (some .int) :: ((wsX4_ballot_r1 ++ wsX4_ballot_r2) ++ wsX40)
def wsX4_firstRead : List Cond := .code yX4_firstRead cX4_firstRead 2 (some .int) :: ([.fieldLink RX4 36 "BallotHouseModel" "behind" "[I"] ++ wsX40)
def wsX4_asked : List Cond := .code yX4_asked cX4_asked 4 (some .int) :: ([.fieldLink RX4 27 "BallotHouseModel" "members" "[I", .methodLink RX4 118 yX4_firstRead, .instanceMethod yX4_firstRead, .selects RX4 yX4_firstRead yX4_firstRead, .initialized RX4, .code yX4_firstRead cX4_firstRead 2 (some .int), .fieldLink RX4 36 "BallotHouseModel" "behind" "[I"] ++ wsX40)
def wsX4_sendReads_r1 : List Cond := [Cond.fieldLink RX4 90 "BallotHouseModel" "voters" "I", Cond.fieldLink RX4 39 "BallotHouseModel" "readers" "[I", Cond.methodLink RX4 121 yX4_asked, Cond.instanceMethod yX4_asked, Cond.selects RX4 yX4_asked yX4_asked, Cond.initialized RX4, Cond.code yX4_asked cX4_asked 4 (some .int), Cond.fieldLink RX4 27 "BallotHouseModel" "members" "[I", Cond.methodLink RX4 118 yX4_firstRead, Cond.instanceMethod yX4_firstRead, Cond.selects RX4 yX4_firstRead yX4_firstRead, Cond.code yX4_firstRead cX4_firstRead 2 (some .int), Cond.fieldLink RX4 36 "BallotHouseModel" "behind" "[I", Cond.methodLink RX4 114 yX4_put, Cond.instanceMethod yX4_put, Cond.selects RX4 yX4_put yX4_put, Cond.code yX4_put cX4_put 8 none, Cond.fieldLink RX4 97 "BallotHouseModel" "air" "I", Cond.fieldLink RX4 100 "BallotHouseModel" "lost" "I", Cond.fieldLink RX4 63 "BallotHouseModel" "airKind" "[I", Cond.fieldLink RX4 66 "BallotHouseModel" "airBallot" "[I", Cond.fieldLink RX4 69 "BallotHouseModel" "airVoter" "[I", Cond.fieldLink RX4 72 "BallotHouseModel" "airPlace" "[I", Cond.fieldLink RX4 78 "BallotHouseModel" "airValue" "[J"]
def wsX4_sendReads_r2 : List Cond := [Cond.fieldLink RX4 75 "BallotHouseModel" "airVote" "[I", Cond.fieldLink RX4 13 "BallotHouseModel" "vote" "[I", Cond.fieldLink RX4 81 "BallotHouseModel" "airValues" "[J", Cond.fieldLink RX4 16 "BallotHouseModel" "value" "[J"]
def wsX4_sendReads : List Cond := .code yX4_sendReads cX4_sendReads 4 (some .int) :: ((wsX4_sendReads_r1 ++ wsX4_sendReads_r2) ++ wsX40)
def wsX4_sendVotes : List Cond := .code yX4_sendVotes cX4_sendVotes 5 (some .int) :: ([.fieldLink RX4 90 "BallotHouseModel" "voters" "I", .fieldLink RX4 27 "BallotHouseModel" "members" "[I", .fieldLink RX4 54 "BallotHouseModel" "answers" "[I", .fieldLink RX4 60 "BallotHouseModel" "says" "[J", .methodLink RX4 114 yX4_put, .instanceMethod yX4_put, .selects RX4 yX4_put yX4_put, .initialized RX4, .code yX4_put cX4_put 8 none, .fieldLink RX4 97 "BallotHouseModel" "air" "I", .fieldLink RX4 100 "BallotHouseModel" "lost" "I", .fieldLink RX4 63 "BallotHouseModel" "airKind" "[I", .fieldLink RX4 66 "BallotHouseModel" "airBallot" "[I", .fieldLink RX4 69 "BallotHouseModel" "airVoter" "[I", .fieldLink RX4 72 "BallotHouseModel" "airPlace" "[I", .fieldLink RX4 78 "BallotHouseModel" "airValue" "[J", .fieldLink RX4 75 "BallotHouseModel" "airVote" "[I", .fieldLink RX4 13 "BallotHouseModel" "vote" "[I", .fieldLink RX4 81 "BallotHouseModel" "airValues" "[J", .fieldLink RX4 16 "BallotHouseModel" "value" "[J"] ++ wsX40)
def wsX4_isRead : List Cond := .code yX4_isRead cX4_isRead 4 (some .boolean) :: ([.fieldLink RX4 39 "BallotHouseModel" "readers" "[I", .fieldLink RX4 27 "BallotHouseModel" "members" "[I", .fieldLink RX4 30 "BallotHouseModel" "reads" "[I", .methodLink RX4 118 yX4_firstRead, .instanceMethod yX4_firstRead, .selects RX4 yX4_firstRead yX4_firstRead, .initialized RX4, .code yX4_firstRead cX4_firstRead 2 (some .int), .fieldLink RX4 36 "BallotHouseModel" "behind" "[I", .methodLink RX4 107 yX4_many, .static yX4_many, .code yX4_many cX4_many 3 (some .int)] ++ wsX40)
def wsX4_isMoved : List Cond := .code yX4_isMoved cX4_isMoved 2 (some .boolean) :: ([.fieldLink RX4 42 "BallotHouseModel" "found" "[I", .fieldLink RX4 48 "BallotHouseModel" "known" "[I"] ++ wsX40)
def wsX4_beginAsking : List Cond := .code yX4_beginAsking cX4_beginAsking 2 none :: ([.fieldLink RX4 24 "BallotHouseModel" "state" "[I", .methodLink RX4 114 yX4_put, .instanceMethod yX4_put, .selects RX4 yX4_put yX4_put, .initialized RX4, .code yX4_put cX4_put 8 none, .fieldLink RX4 97 "BallotHouseModel" "air" "I", .fieldLink RX4 100 "BallotHouseModel" "lost" "I", .fieldLink RX4 63 "BallotHouseModel" "airKind" "[I", .fieldLink RX4 66 "BallotHouseModel" "airBallot" "[I", .fieldLink RX4 69 "BallotHouseModel" "airVoter" "[I", .fieldLink RX4 72 "BallotHouseModel" "airPlace" "[I", .fieldLink RX4 78 "BallotHouseModel" "airValue" "[J", .fieldLink RX4 75 "BallotHouseModel" "airVote" "[I", .fieldLink RX4 13 "BallotHouseModel" "vote" "[I", .fieldLink RX4 81 "BallotHouseModel" "airValues" "[J", .fieldLink RX4 16 "BallotHouseModel" "value" "[J"] ++ wsX40)
def wsX4_beginMoving_r1 : List Cond := [Cond.fieldLink RX4 24 "BallotHouseModel" "state" "[I", Cond.fieldLink RX4 42 "BallotHouseModel" "found" "[I", Cond.methodLink RX4 135 yX4_sendVotes, Cond.instanceMethod yX4_sendVotes, Cond.selects RX4 yX4_sendVotes yX4_sendVotes, Cond.initialized RX4, Cond.code yX4_sendVotes cX4_sendVotes 5 (some .int), Cond.fieldLink RX4 90 "BallotHouseModel" "voters" "I", Cond.fieldLink RX4 27 "BallotHouseModel" "members" "[I", Cond.fieldLink RX4 54 "BallotHouseModel" "answers" "[I", Cond.fieldLink RX4 60 "BallotHouseModel" "says" "[J", Cond.methodLink RX4 114 yX4_put, Cond.instanceMethod yX4_put, Cond.selects RX4 yX4_put yX4_put, Cond.code yX4_put cX4_put 8 none, Cond.fieldLink RX4 97 "BallotHouseModel" "air" "I", Cond.fieldLink RX4 100 "BallotHouseModel" "lost" "I", Cond.fieldLink RX4 63 "BallotHouseModel" "airKind" "[I", Cond.fieldLink RX4 66 "BallotHouseModel" "airBallot" "[I", Cond.fieldLink RX4 69 "BallotHouseModel" "airVoter" "[I", Cond.fieldLink RX4 72 "BallotHouseModel" "airPlace" "[I", Cond.fieldLink RX4 78 "BallotHouseModel" "airValue" "[J", Cond.fieldLink RX4 75 "BallotHouseModel" "airVote" "[I", Cond.fieldLink RX4 13 "BallotHouseModel" "vote" "[I"]
def wsX4_beginMoving_r2 : List Cond := [Cond.fieldLink RX4 81 "BallotHouseModel" "airValues" "[J", Cond.fieldLink RX4 16 "BallotHouseModel" "value" "[J", Cond.methodLink RX4 139 yX4_isMoved, Cond.instanceMethod yX4_isMoved, Cond.selects RX4 yX4_isMoved yX4_isMoved, Cond.code yX4_isMoved cX4_isMoved 2 (some .boolean), Cond.fieldLink RX4 48 "BallotHouseModel" "known" "[I", Cond.methodLink RX4 142 yX4_beginAsking, Cond.instanceMethod yX4_beginAsking, Cond.selects RX4 yX4_beginAsking yX4_beginAsking, Cond.code yX4_beginAsking cX4_beginAsking 2 none]
def wsX4_beginMoving : List Cond := .code yX4_beginMoving cX4_beginMoving 3 none :: ((wsX4_beginMoving_r1 ++ wsX4_beginMoving_r2) ++ wsX40)
def wsX4_beginReading_r1 : List Cond := [Cond.fieldLink RX4 24 "BallotHouseModel" "state" "[I", Cond.methodLink RX4 124 yX4_sendReads, Cond.instanceMethod yX4_sendReads, Cond.selects RX4 yX4_sendReads yX4_sendReads, Cond.initialized RX4, Cond.code yX4_sendReads cX4_sendReads 4 (some .int), Cond.fieldLink RX4 90 "BallotHouseModel" "voters" "I", Cond.fieldLink RX4 39 "BallotHouseModel" "readers" "[I", Cond.methodLink RX4 121 yX4_asked, Cond.instanceMethod yX4_asked, Cond.selects RX4 yX4_asked yX4_asked, Cond.code yX4_asked cX4_asked 4 (some .int), Cond.fieldLink RX4 27 "BallotHouseModel" "members" "[I", Cond.methodLink RX4 118 yX4_firstRead, Cond.instanceMethod yX4_firstRead, Cond.selects RX4 yX4_firstRead yX4_firstRead, Cond.code yX4_firstRead cX4_firstRead 2 (some .int), Cond.fieldLink RX4 36 "BallotHouseModel" "behind" "[I", Cond.methodLink RX4 114 yX4_put, Cond.instanceMethod yX4_put, Cond.selects RX4 yX4_put yX4_put, Cond.code yX4_put cX4_put 8 none, Cond.fieldLink RX4 97 "BallotHouseModel" "air" "I", Cond.fieldLink RX4 100 "BallotHouseModel" "lost" "I"]
def wsX4_beginReading_r2 : List Cond := [Cond.fieldLink RX4 63 "BallotHouseModel" "airKind" "[I", Cond.fieldLink RX4 66 "BallotHouseModel" "airBallot" "[I", Cond.fieldLink RX4 69 "BallotHouseModel" "airVoter" "[I", Cond.fieldLink RX4 72 "BallotHouseModel" "airPlace" "[I", Cond.fieldLink RX4 78 "BallotHouseModel" "airValue" "[J", Cond.fieldLink RX4 75 "BallotHouseModel" "airVote" "[I", Cond.fieldLink RX4 13 "BallotHouseModel" "vote" "[I", Cond.fieldLink RX4 81 "BallotHouseModel" "airValues" "[J", Cond.fieldLink RX4 16 "BallotHouseModel" "value" "[J", Cond.methodLink RX4 127 yX4_isRead, Cond.instanceMethod yX4_isRead, Cond.selects RX4 yX4_isRead yX4_isRead, Cond.code yX4_isRead cX4_isRead 4 (some .boolean), Cond.fieldLink RX4 30 "BallotHouseModel" "reads" "[I", Cond.methodLink RX4 107 yX4_many, Cond.static yX4_many, Cond.code yX4_many cX4_many 3 (some .int), Cond.methodLink RX4 131 yX4_beginMoving, Cond.instanceMethod yX4_beginMoving, Cond.selects RX4 yX4_beginMoving yX4_beginMoving, Cond.code yX4_beginMoving cX4_beginMoving 3 none, Cond.fieldLink RX4 42 "BallotHouseModel" "found" "[I", Cond.methodLink RX4 135 yX4_sendVotes, Cond.instanceMethod yX4_sendVotes]
def wsX4_beginReading_r3 : List Cond := [Cond.selects RX4 yX4_sendVotes yX4_sendVotes, Cond.code yX4_sendVotes cX4_sendVotes 5 (some .int), Cond.fieldLink RX4 54 "BallotHouseModel" "answers" "[I", Cond.fieldLink RX4 60 "BallotHouseModel" "says" "[J", Cond.methodLink RX4 139 yX4_isMoved, Cond.instanceMethod yX4_isMoved, Cond.selects RX4 yX4_isMoved yX4_isMoved, Cond.code yX4_isMoved cX4_isMoved 2 (some .boolean), Cond.fieldLink RX4 48 "BallotHouseModel" "known" "[I", Cond.methodLink RX4 142 yX4_beginAsking, Cond.instanceMethod yX4_beginAsking, Cond.selects RX4 yX4_beginAsking yX4_beginAsking, Cond.code yX4_beginAsking cX4_beginAsking 2 none]
def wsX4_beginReading : List Cond := .code yX4_beginReading cX4_beginReading 2 none :: ((wsX4_beginReading_r1 ++ (wsX4_beginReading_r2 ++ wsX4_beginReading_r3)) ++ wsX40)
def wsX4_propose_r1 : List Cond := [Cond.fieldLink RX4 24 "BallotHouseModel" "state" "[I", Cond.fieldLink RX4 42 "BallotHouseModel" "found" "[I", Cond.fieldLink RX4 45 "BallotHouseModel" "proposed" "[I", Cond.fieldLink RX4 60 "BallotHouseModel" "says" "[J", Cond.methodLink RX4 145 yX4_isBallot, Cond.instanceMethod yX4_isBallot, Cond.selects RX4 yX4_isBallot yX4_isBallot, Cond.initialized RX4, Cond.code yX4_isBallot cX4_isBallot 2 (some .boolean), Cond.fieldLink RX4 94 "BallotHouseModel" "ballots" "I", Cond.methodLink RX4 148 yX4_isPlace, Cond.static yX4_isPlace, Cond.code yX4_isPlace cX4_isPlace 1 (some .boolean), Cond.methodLink RX4 135 yX4_sendVotes, Cond.instanceMethod yX4_sendVotes, Cond.selects RX4 yX4_sendVotes yX4_sendVotes, Cond.code yX4_sendVotes cX4_sendVotes 5 (some .int), Cond.fieldLink RX4 90 "BallotHouseModel" "voters" "I", Cond.fieldLink RX4 27 "BallotHouseModel" "members" "[I", Cond.fieldLink RX4 54 "BallotHouseModel" "answers" "[I", Cond.methodLink RX4 114 yX4_put, Cond.instanceMethod yX4_put, Cond.selects RX4 yX4_put yX4_put, Cond.code yX4_put cX4_put 8 none]
def wsX4_propose_r2 : List Cond := [Cond.fieldLink RX4 97 "BallotHouseModel" "air" "I", Cond.fieldLink RX4 100 "BallotHouseModel" "lost" "I", Cond.fieldLink RX4 63 "BallotHouseModel" "airKind" "[I", Cond.fieldLink RX4 66 "BallotHouseModel" "airBallot" "[I", Cond.fieldLink RX4 69 "BallotHouseModel" "airVoter" "[I", Cond.fieldLink RX4 72 "BallotHouseModel" "airPlace" "[I", Cond.fieldLink RX4 78 "BallotHouseModel" "airValue" "[J", Cond.fieldLink RX4 75 "BallotHouseModel" "airVote" "[I", Cond.fieldLink RX4 13 "BallotHouseModel" "vote" "[I", Cond.fieldLink RX4 81 "BallotHouseModel" "airValues" "[J", Cond.fieldLink RX4 16 "BallotHouseModel" "value" "[J"]
def wsX4_propose : List Cond := .code yX4_propose cX4_propose 5 (some .boolean) :: ((wsX4_propose_r1 ++ wsX4_propose_r2) ++ wsX40)
def wsX4_again_r1 : List Cond := [Cond.fieldLink RX4 24 "BallotHouseModel" "state" "[I", Cond.fieldLink RX4 42 "BallotHouseModel" "found" "[I", Cond.fieldLink RX4 45 "BallotHouseModel" "proposed" "[I", Cond.fieldLink RX4 48 "BallotHouseModel" "known" "[I", Cond.methodLink RX4 145 yX4_isBallot, Cond.instanceMethod yX4_isBallot, Cond.selects RX4 yX4_isBallot yX4_isBallot, Cond.initialized RX4, Cond.code yX4_isBallot cX4_isBallot 2 (some .boolean), Cond.fieldLink RX4 94 "BallotHouseModel" "ballots" "I", Cond.methodLink RX4 114 yX4_put, Cond.instanceMethod yX4_put, Cond.selects RX4 yX4_put yX4_put, Cond.code yX4_put cX4_put 8 none, Cond.fieldLink RX4 97 "BallotHouseModel" "air" "I", Cond.fieldLink RX4 100 "BallotHouseModel" "lost" "I", Cond.fieldLink RX4 63 "BallotHouseModel" "airKind" "[I", Cond.fieldLink RX4 66 "BallotHouseModel" "airBallot" "[I", Cond.fieldLink RX4 69 "BallotHouseModel" "airVoter" "[I", Cond.fieldLink RX4 72 "BallotHouseModel" "airPlace" "[I", Cond.fieldLink RX4 78 "BallotHouseModel" "airValue" "[J", Cond.fieldLink RX4 75 "BallotHouseModel" "airVote" "[I", Cond.fieldLink RX4 13 "BallotHouseModel" "vote" "[I", Cond.fieldLink RX4 81 "BallotHouseModel" "airValues" "[J"]
def wsX4_again_r2 : List Cond := [Cond.fieldLink RX4 16 "BallotHouseModel" "value" "[J", Cond.methodLink RX4 124 yX4_sendReads, Cond.instanceMethod yX4_sendReads, Cond.selects RX4 yX4_sendReads yX4_sendReads, Cond.code yX4_sendReads cX4_sendReads 4 (some .int), Cond.fieldLink RX4 90 "BallotHouseModel" "voters" "I", Cond.fieldLink RX4 39 "BallotHouseModel" "readers" "[I", Cond.methodLink RX4 121 yX4_asked, Cond.instanceMethod yX4_asked, Cond.selects RX4 yX4_asked yX4_asked, Cond.code yX4_asked cX4_asked 4 (some .int), Cond.fieldLink RX4 27 "BallotHouseModel" "members" "[I", Cond.methodLink RX4 118 yX4_firstRead, Cond.instanceMethod yX4_firstRead, Cond.selects RX4 yX4_firstRead yX4_firstRead, Cond.code yX4_firstRead cX4_firstRead 2 (some .int), Cond.fieldLink RX4 36 "BallotHouseModel" "behind" "[I", Cond.methodLink RX4 135 yX4_sendVotes, Cond.instanceMethod yX4_sendVotes, Cond.selects RX4 yX4_sendVotes yX4_sendVotes, Cond.code yX4_sendVotes cX4_sendVotes 5 (some .int), Cond.fieldLink RX4 54 "BallotHouseModel" "answers" "[I", Cond.fieldLink RX4 60 "BallotHouseModel" "says" "[J"]
def wsX4_again : List Cond := .code yX4_again cX4_again 4 (some .int) :: ((wsX4_again_r1 ++ wsX4_again_r2) ++ wsX40)
def wsX4_comesRead : List Cond := .code yX4_comesRead cX4_comesRead 3 none :: ([.fieldLink RX4 7 "BallotHouseModel" "promise" "[I", .methodLink RX4 114 yX4_put, .instanceMethod yX4_put, .selects RX4 yX4_put yX4_put, .initialized RX4, .code yX4_put cX4_put 8 none, .fieldLink RX4 97 "BallotHouseModel" "air" "I", .fieldLink RX4 100 "BallotHouseModel" "lost" "I", .fieldLink RX4 63 "BallotHouseModel" "airKind" "[I", .fieldLink RX4 66 "BallotHouseModel" "airBallot" "[I", .fieldLink RX4 69 "BallotHouseModel" "airVoter" "[I", .fieldLink RX4 72 "BallotHouseModel" "airPlace" "[I", .fieldLink RX4 78 "BallotHouseModel" "airValue" "[J", .fieldLink RX4 75 "BallotHouseModel" "airVote" "[I", .fieldLink RX4 13 "BallotHouseModel" "vote" "[I", .fieldLink RX4 81 "BallotHouseModel" "airValues" "[J", .fieldLink RX4 16 "BallotHouseModel" "value" "[J"] ++ wsX40)
def wsX4_comesVote : List Cond := .code yX4_comesVote cX4_comesVote 6 none :: ([.fieldLink RX4 7 "BallotHouseModel" "promise" "[I", .fieldLink RX4 13 "BallotHouseModel" "vote" "[I", .fieldLink RX4 16 "BallotHouseModel" "value" "[J", .fieldLink RX4 57 "BallotHouseModel" "voted" "[I", .methodLink RX4 114 yX4_put, .instanceMethod yX4_put, .selects RX4 yX4_put yX4_put, .initialized RX4, .code yX4_put cX4_put 8 none, .fieldLink RX4 97 "BallotHouseModel" "air" "I", .fieldLink RX4 100 "BallotHouseModel" "lost" "I", .fieldLink RX4 63 "BallotHouseModel" "airKind" "[I", .fieldLink RX4 66 "BallotHouseModel" "airBallot" "[I", .fieldLink RX4 69 "BallotHouseModel" "airVoter" "[I", .fieldLink RX4 72 "BallotHouseModel" "airPlace" "[I", .fieldLink RX4 78 "BallotHouseModel" "airValue" "[J", .fieldLink RX4 75 "BallotHouseModel" "airVote" "[I", .fieldLink RX4 81 "BallotHouseModel" "airValues" "[J"] ++ wsX40)
def wsX4_comesReadAnswer_r1 : List Cond := [Cond.fieldLink RX4 24 "BallotHouseModel" "state" "[I", Cond.fieldLink RX4 39 "BallotHouseModel" "readers" "[I", Cond.fieldLink RX4 84 "BallotHouseModel" "gotVote" "[I", Cond.fieldLink RX4 51 "BallotHouseModel" "foundBy" "[I", Cond.fieldLink RX4 60 "BallotHouseModel" "says" "[J", Cond.fieldLink RX4 87 "BallotHouseModel" "gotValue" "[J", Cond.fieldLink RX4 42 "BallotHouseModel" "found" "[I", Cond.methodLink RX4 127 yX4_isRead, Cond.instanceMethod yX4_isRead, Cond.selects RX4 yX4_isRead yX4_isRead, Cond.initialized RX4, Cond.code yX4_isRead cX4_isRead 4 (some .boolean), Cond.fieldLink RX4 27 "BallotHouseModel" "members" "[I", Cond.fieldLink RX4 30 "BallotHouseModel" "reads" "[I", Cond.methodLink RX4 118 yX4_firstRead, Cond.instanceMethod yX4_firstRead, Cond.selects RX4 yX4_firstRead yX4_firstRead, Cond.code yX4_firstRead cX4_firstRead 2 (some .int), Cond.fieldLink RX4 36 "BallotHouseModel" "behind" "[I", Cond.methodLink RX4 107 yX4_many, Cond.static yX4_many, Cond.code yX4_many cX4_many 3 (some .int), Cond.methodLink RX4 131 yX4_beginMoving, Cond.instanceMethod yX4_beginMoving]
def wsX4_comesReadAnswer_r2 : List Cond := [Cond.selects RX4 yX4_beginMoving yX4_beginMoving, Cond.code yX4_beginMoving cX4_beginMoving 3 none, Cond.methodLink RX4 135 yX4_sendVotes, Cond.instanceMethod yX4_sendVotes, Cond.selects RX4 yX4_sendVotes yX4_sendVotes, Cond.code yX4_sendVotes cX4_sendVotes 5 (some .int), Cond.fieldLink RX4 90 "BallotHouseModel" "voters" "I", Cond.fieldLink RX4 54 "BallotHouseModel" "answers" "[I", Cond.methodLink RX4 114 yX4_put, Cond.instanceMethod yX4_put, Cond.selects RX4 yX4_put yX4_put, Cond.code yX4_put cX4_put 8 none, Cond.fieldLink RX4 97 "BallotHouseModel" "air" "I", Cond.fieldLink RX4 100 "BallotHouseModel" "lost" "I", Cond.fieldLink RX4 63 "BallotHouseModel" "airKind" "[I", Cond.fieldLink RX4 66 "BallotHouseModel" "airBallot" "[I", Cond.fieldLink RX4 69 "BallotHouseModel" "airVoter" "[I", Cond.fieldLink RX4 72 "BallotHouseModel" "airPlace" "[I", Cond.fieldLink RX4 78 "BallotHouseModel" "airValue" "[J", Cond.fieldLink RX4 75 "BallotHouseModel" "airVote" "[I", Cond.fieldLink RX4 13 "BallotHouseModel" "vote" "[I", Cond.fieldLink RX4 81 "BallotHouseModel" "airValues" "[J", Cond.fieldLink RX4 16 "BallotHouseModel" "value" "[J", Cond.methodLink RX4 139 yX4_isMoved]
def wsX4_comesReadAnswer_r3 : List Cond := [Cond.instanceMethod yX4_isMoved, Cond.selects RX4 yX4_isMoved yX4_isMoved, Cond.code yX4_isMoved cX4_isMoved 2 (some .boolean), Cond.fieldLink RX4 48 "BallotHouseModel" "known" "[I", Cond.methodLink RX4 142 yX4_beginAsking, Cond.instanceMethod yX4_beginAsking, Cond.selects RX4 yX4_beginAsking yX4_beginAsking, Cond.code yX4_beginAsking cX4_beginAsking 2 none]
def wsX4_comesReadAnswer : List Cond := .code yX4_comesReadAnswer cX4_comesReadAnswer 4 none :: ((wsX4_comesReadAnswer_r1 ++ (wsX4_comesReadAnswer_r2 ++ wsX4_comesReadAnswer_r3)) ++ wsX40)
def wsX4_comesVoteAnswer_r1 : List Cond := [Cond.fieldLink RX4 24 "BallotHouseModel" "state" "[I", Cond.fieldLink RX4 54 "BallotHouseModel" "answers" "[I", Cond.fieldLink RX4 33 "BallotHouseModel" "writes" "[I", Cond.fieldLink RX4 48 "BallotHouseModel" "known" "[I", Cond.methodLink RX4 107 yX4_many, Cond.static yX4_many, Cond.initialized RX4, Cond.code yX4_many cX4_many 3 (some .int), Cond.methodLink RX4 139 yX4_isMoved, Cond.instanceMethod yX4_isMoved, Cond.selects RX4 yX4_isMoved yX4_isMoved, Cond.code yX4_isMoved cX4_isMoved 2 (some .boolean), Cond.fieldLink RX4 42 "BallotHouseModel" "found" "[I", Cond.methodLink RX4 142 yX4_beginAsking, Cond.instanceMethod yX4_beginAsking, Cond.selects RX4 yX4_beginAsking yX4_beginAsking, Cond.code yX4_beginAsking cX4_beginAsking 2 none, Cond.methodLink RX4 114 yX4_put, Cond.instanceMethod yX4_put, Cond.selects RX4 yX4_put yX4_put, Cond.code yX4_put cX4_put 8 none, Cond.fieldLink RX4 97 "BallotHouseModel" "air" "I", Cond.fieldLink RX4 100 "BallotHouseModel" "lost" "I", Cond.fieldLink RX4 63 "BallotHouseModel" "airKind" "[I"]
def wsX4_comesVoteAnswer_r2 : List Cond := [Cond.fieldLink RX4 66 "BallotHouseModel" "airBallot" "[I", Cond.fieldLink RX4 69 "BallotHouseModel" "airVoter" "[I", Cond.fieldLink RX4 72 "BallotHouseModel" "airPlace" "[I", Cond.fieldLink RX4 78 "BallotHouseModel" "airValue" "[J", Cond.fieldLink RX4 75 "BallotHouseModel" "airVote" "[I", Cond.fieldLink RX4 13 "BallotHouseModel" "vote" "[I", Cond.fieldLink RX4 81 "BallotHouseModel" "airValues" "[J", Cond.fieldLink RX4 16 "BallotHouseModel" "value" "[J"]
def wsX4_comesVoteAnswer : List Cond := .code yX4_comesVoteAnswer cX4_comesVoteAnswer 4 none :: ((wsX4_comesVoteAnswer_r1 ++ wsX4_comesVoteAnswer_r2) ++ wsX40)
def wsX4_canBe : List Cond := .code yX4_canBe cX4_canBe 2 (some .boolean) :: ([.fieldLink RX4 63 "BallotHouseModel" "airKind" "[I", .fieldLink RX4 20 "BallotHouseModel" "silent" "[Z", .fieldLink RX4 69 "BallotHouseModel" "airVoter" "[I"] ++ wsX40)
def wsX4_deliver_r1 : List Cond := [Cond.fieldLink RX4 97 "BallotHouseModel" "air" "I", Cond.fieldLink RX4 63 "BallotHouseModel" "airKind" "[I", Cond.fieldLink RX4 66 "BallotHouseModel" "airBallot" "[I", Cond.fieldLink RX4 69 "BallotHouseModel" "airVoter" "[I", Cond.fieldLink RX4 72 "BallotHouseModel" "airPlace" "[I", Cond.fieldLink RX4 78 "BallotHouseModel" "airValue" "[J", Cond.fieldLink RX4 84 "BallotHouseModel" "gotVote" "[I", Cond.fieldLink RX4 75 "BallotHouseModel" "airVote" "[I", Cond.fieldLink RX4 87 "BallotHouseModel" "gotValue" "[J", Cond.fieldLink RX4 81 "BallotHouseModel" "airValues" "[J", Cond.fieldLink RX4 24 "BallotHouseModel" "state" "[I", Cond.fieldLink RX4 111 "BallotHouseModel" "complete" "I", Cond.fieldLink RX4 36 "BallotHouseModel" "behind" "[I", Cond.methodLink RX4 151 yX4_canBe, Cond.instanceMethod yX4_canBe, Cond.selects RX4 yX4_canBe yX4_canBe, Cond.initialized RX4, Cond.code yX4_canBe cX4_canBe 2 (some .boolean), Cond.fieldLink RX4 20 "BallotHouseModel" "silent" "[Z", Cond.methodLink RX4 154 yX4_take, Cond.instanceMethod yX4_take, Cond.selects RX4 yX4_take yX4_take, Cond.code yX4_take cX4_take 3 none, Cond.methodLink RX4 103 yX4_copy]
def wsX4_deliver_r2 : List Cond := [Cond.instanceMethod yX4_copy, Cond.selects RX4 yX4_copy yX4_copy, Cond.code yX4_copy cX4_copy 4 none, Cond.methodLink RX4 157 yX4_beginReading, Cond.instanceMethod yX4_beginReading, Cond.selects RX4 yX4_beginReading yX4_beginReading, Cond.code yX4_beginReading cX4_beginReading 2 none, Cond.methodLink RX4 124 yX4_sendReads, Cond.instanceMethod yX4_sendReads, Cond.selects RX4 yX4_sendReads yX4_sendReads, Cond.code yX4_sendReads cX4_sendReads 4 (some .int), Cond.fieldLink RX4 90 "BallotHouseModel" "voters" "I", Cond.fieldLink RX4 39 "BallotHouseModel" "readers" "[I", Cond.methodLink RX4 121 yX4_asked, Cond.instanceMethod yX4_asked, Cond.selects RX4 yX4_asked yX4_asked, Cond.code yX4_asked cX4_asked 4 (some .int), Cond.fieldLink RX4 27 "BallotHouseModel" "members" "[I", Cond.methodLink RX4 118 yX4_firstRead, Cond.instanceMethod yX4_firstRead, Cond.selects RX4 yX4_firstRead yX4_firstRead, Cond.code yX4_firstRead cX4_firstRead 2 (some .int), Cond.methodLink RX4 114 yX4_put, Cond.instanceMethod yX4_put]
def wsX4_deliver_r3 : List Cond := [Cond.selects RX4 yX4_put yX4_put, Cond.code yX4_put cX4_put 8 none, Cond.fieldLink RX4 100 "BallotHouseModel" "lost" "I", Cond.fieldLink RX4 13 "BallotHouseModel" "vote" "[I", Cond.fieldLink RX4 16 "BallotHouseModel" "value" "[J", Cond.methodLink RX4 127 yX4_isRead, Cond.instanceMethod yX4_isRead, Cond.selects RX4 yX4_isRead yX4_isRead, Cond.code yX4_isRead cX4_isRead 4 (some .boolean), Cond.fieldLink RX4 30 "BallotHouseModel" "reads" "[I", Cond.methodLink RX4 107 yX4_many, Cond.static yX4_many, Cond.code yX4_many cX4_many 3 (some .int), Cond.methodLink RX4 131 yX4_beginMoving, Cond.instanceMethod yX4_beginMoving, Cond.selects RX4 yX4_beginMoving yX4_beginMoving, Cond.code yX4_beginMoving cX4_beginMoving 3 none, Cond.fieldLink RX4 42 "BallotHouseModel" "found" "[I", Cond.methodLink RX4 135 yX4_sendVotes, Cond.instanceMethod yX4_sendVotes, Cond.selects RX4 yX4_sendVotes yX4_sendVotes, Cond.code yX4_sendVotes cX4_sendVotes 5 (some .int), Cond.fieldLink RX4 54 "BallotHouseModel" "answers" "[I", Cond.fieldLink RX4 60 "BallotHouseModel" "says" "[J"]
def wsX4_deliver_r4 : List Cond := [Cond.methodLink RX4 139 yX4_isMoved, Cond.instanceMethod yX4_isMoved, Cond.selects RX4 yX4_isMoved yX4_isMoved, Cond.code yX4_isMoved cX4_isMoved 2 (some .boolean), Cond.fieldLink RX4 48 "BallotHouseModel" "known" "[I", Cond.methodLink RX4 142 yX4_beginAsking, Cond.instanceMethod yX4_beginAsking, Cond.selects RX4 yX4_beginAsking yX4_beginAsking, Cond.code yX4_beginAsking cX4_beginAsking 2 none, Cond.methodLink RX4 160 yX4_comesRead, Cond.instanceMethod yX4_comesRead, Cond.selects RX4 yX4_comesRead yX4_comesRead, Cond.code yX4_comesRead cX4_comesRead 3 none, Cond.fieldLink RX4 7 "BallotHouseModel" "promise" "[I", Cond.methodLink RX4 163 yX4_comesReadAnswer, Cond.instanceMethod yX4_comesReadAnswer, Cond.selects RX4 yX4_comesReadAnswer yX4_comesReadAnswer, Cond.code yX4_comesReadAnswer cX4_comesReadAnswer 4 none, Cond.fieldLink RX4 51 "BallotHouseModel" "foundBy" "[I", Cond.methodLink RX4 166 yX4_comesVote, Cond.instanceMethod yX4_comesVote, Cond.selects RX4 yX4_comesVote yX4_comesVote, Cond.code yX4_comesVote cX4_comesVote 6 none, Cond.fieldLink RX4 57 "BallotHouseModel" "voted" "[I"]
def wsX4_deliver_r5 : List Cond := [Cond.methodLink RX4 170 yX4_comesVoteAnswer, Cond.instanceMethod yX4_comesVoteAnswer, Cond.selects RX4 yX4_comesVoteAnswer yX4_comesVoteAnswer, Cond.code yX4_comesVoteAnswer cX4_comesVoteAnswer 4 none, Cond.fieldLink RX4 33 "BallotHouseModel" "writes" "[I"]
def wsX4_deliver : List Cond := .code yX4_deliver cX4_deliver 9 (some .boolean) :: ((wsX4_deliver_r1 ++ (wsX4_deliver_r2 ++ (wsX4_deliver_r3 ++ (wsX4_deliver_r4 ++ wsX4_deliver_r5)))) ++ wsX40)
def wsX4_settle_r1 : List Cond := [Cond.fieldLink RX4 97 "BallotHouseModel" "air" "I", Cond.methodLink RX4 151 yX4_canBe, Cond.instanceMethod yX4_canBe, Cond.selects RX4 yX4_canBe yX4_canBe, Cond.initialized RX4, Cond.code yX4_canBe cX4_canBe 2 (some .boolean), Cond.fieldLink RX4 63 "BallotHouseModel" "airKind" "[I", Cond.fieldLink RX4 20 "BallotHouseModel" "silent" "[Z", Cond.fieldLink RX4 69 "BallotHouseModel" "airVoter" "[I", Cond.methodLink RX4 174 yX4_deliver, Cond.instanceMethod yX4_deliver, Cond.selects RX4 yX4_deliver yX4_deliver, Cond.code yX4_deliver cX4_deliver 9 (some .boolean), Cond.fieldLink RX4 66 "BallotHouseModel" "airBallot" "[I", Cond.fieldLink RX4 72 "BallotHouseModel" "airPlace" "[I", Cond.fieldLink RX4 78 "BallotHouseModel" "airValue" "[J", Cond.fieldLink RX4 84 "BallotHouseModel" "gotVote" "[I", Cond.fieldLink RX4 75 "BallotHouseModel" "airVote" "[I", Cond.fieldLink RX4 87 "BallotHouseModel" "gotValue" "[J", Cond.fieldLink RX4 81 "BallotHouseModel" "airValues" "[J", Cond.fieldLink RX4 24 "BallotHouseModel" "state" "[I", Cond.fieldLink RX4 111 "BallotHouseModel" "complete" "I", Cond.fieldLink RX4 36 "BallotHouseModel" "behind" "[I", Cond.methodLink RX4 154 yX4_take]
def wsX4_settle_r2 : List Cond := [Cond.instanceMethod yX4_take, Cond.selects RX4 yX4_take yX4_take, Cond.code yX4_take cX4_take 3 none, Cond.methodLink RX4 103 yX4_copy, Cond.instanceMethod yX4_copy, Cond.selects RX4 yX4_copy yX4_copy, Cond.code yX4_copy cX4_copy 4 none, Cond.methodLink RX4 157 yX4_beginReading, Cond.instanceMethod yX4_beginReading, Cond.selects RX4 yX4_beginReading yX4_beginReading, Cond.code yX4_beginReading cX4_beginReading 2 none, Cond.methodLink RX4 124 yX4_sendReads, Cond.instanceMethod yX4_sendReads, Cond.selects RX4 yX4_sendReads yX4_sendReads, Cond.code yX4_sendReads cX4_sendReads 4 (some .int), Cond.fieldLink RX4 90 "BallotHouseModel" "voters" "I", Cond.fieldLink RX4 39 "BallotHouseModel" "readers" "[I", Cond.methodLink RX4 121 yX4_asked, Cond.instanceMethod yX4_asked, Cond.selects RX4 yX4_asked yX4_asked, Cond.code yX4_asked cX4_asked 4 (some .int), Cond.fieldLink RX4 27 "BallotHouseModel" "members" "[I", Cond.methodLink RX4 118 yX4_firstRead, Cond.instanceMethod yX4_firstRead]
def wsX4_settle_r3 : List Cond := [Cond.selects RX4 yX4_firstRead yX4_firstRead, Cond.code yX4_firstRead cX4_firstRead 2 (some .int), Cond.methodLink RX4 114 yX4_put, Cond.instanceMethod yX4_put, Cond.selects RX4 yX4_put yX4_put, Cond.code yX4_put cX4_put 8 none, Cond.fieldLink RX4 100 "BallotHouseModel" "lost" "I", Cond.fieldLink RX4 13 "BallotHouseModel" "vote" "[I", Cond.fieldLink RX4 16 "BallotHouseModel" "value" "[J", Cond.methodLink RX4 127 yX4_isRead, Cond.instanceMethod yX4_isRead, Cond.selects RX4 yX4_isRead yX4_isRead, Cond.code yX4_isRead cX4_isRead 4 (some .boolean), Cond.fieldLink RX4 30 "BallotHouseModel" "reads" "[I", Cond.methodLink RX4 107 yX4_many, Cond.static yX4_many, Cond.code yX4_many cX4_many 3 (some .int), Cond.methodLink RX4 131 yX4_beginMoving, Cond.instanceMethod yX4_beginMoving, Cond.selects RX4 yX4_beginMoving yX4_beginMoving, Cond.code yX4_beginMoving cX4_beginMoving 3 none, Cond.fieldLink RX4 42 "BallotHouseModel" "found" "[I", Cond.methodLink RX4 135 yX4_sendVotes, Cond.instanceMethod yX4_sendVotes]
def wsX4_settle_r4 : List Cond := [Cond.selects RX4 yX4_sendVotes yX4_sendVotes, Cond.code yX4_sendVotes cX4_sendVotes 5 (some .int), Cond.fieldLink RX4 54 "BallotHouseModel" "answers" "[I", Cond.fieldLink RX4 60 "BallotHouseModel" "says" "[J", Cond.methodLink RX4 139 yX4_isMoved, Cond.instanceMethod yX4_isMoved, Cond.selects RX4 yX4_isMoved yX4_isMoved, Cond.code yX4_isMoved cX4_isMoved 2 (some .boolean), Cond.fieldLink RX4 48 "BallotHouseModel" "known" "[I", Cond.methodLink RX4 142 yX4_beginAsking, Cond.instanceMethod yX4_beginAsking, Cond.selects RX4 yX4_beginAsking yX4_beginAsking, Cond.code yX4_beginAsking cX4_beginAsking 2 none, Cond.methodLink RX4 160 yX4_comesRead, Cond.instanceMethod yX4_comesRead, Cond.selects RX4 yX4_comesRead yX4_comesRead, Cond.code yX4_comesRead cX4_comesRead 3 none, Cond.fieldLink RX4 7 "BallotHouseModel" "promise" "[I", Cond.methodLink RX4 163 yX4_comesReadAnswer, Cond.instanceMethod yX4_comesReadAnswer, Cond.selects RX4 yX4_comesReadAnswer yX4_comesReadAnswer, Cond.code yX4_comesReadAnswer cX4_comesReadAnswer 4 none, Cond.fieldLink RX4 51 "BallotHouseModel" "foundBy" "[I", Cond.methodLink RX4 166 yX4_comesVote]
def wsX4_settle_r5 : List Cond := [Cond.instanceMethod yX4_comesVote, Cond.selects RX4 yX4_comesVote yX4_comesVote, Cond.code yX4_comesVote cX4_comesVote 6 none, Cond.fieldLink RX4 57 "BallotHouseModel" "voted" "[I", Cond.methodLink RX4 170 yX4_comesVoteAnswer, Cond.instanceMethod yX4_comesVoteAnswer, Cond.selects RX4 yX4_comesVoteAnswer yX4_comesVoteAnswer, Cond.code yX4_comesVoteAnswer cX4_comesVoteAnswer 4 none, Cond.fieldLink RX4 33 "BallotHouseModel" "writes" "[I"]
def wsX4_settle : List Cond := .code yX4_settle cX4_settle 5 (some .int) :: ((wsX4_settle_r1 ++ (wsX4_settle_r2 ++ (wsX4_settle_r3 ++ (wsX4_settle_r4 ++ wsX4_settle_r5)))) ++ wsX40)
def wsX4_lose : List Cond := .code yX4_lose cX4_lose 2 (some .boolean) :: ([.fieldLink RX4 97 "BallotHouseModel" "air" "I", .methodLink RX4 154 yX4_take, .instanceMethod yX4_take, .selects RX4 yX4_take yX4_take, .initialized RX4, .code yX4_take cX4_take 3 none, .methodLink RX4 103 yX4_copy, .instanceMethod yX4_copy, .selects RX4 yX4_copy yX4_copy, .code yX4_copy cX4_copy 4 none, .fieldLink RX4 63 "BallotHouseModel" "airKind" "[I", .fieldLink RX4 66 "BallotHouseModel" "airBallot" "[I", .fieldLink RX4 69 "BallotHouseModel" "airVoter" "[I", .fieldLink RX4 72 "BallotHouseModel" "airPlace" "[I", .fieldLink RX4 78 "BallotHouseModel" "airValue" "[J", .fieldLink RX4 75 "BallotHouseModel" "airVote" "[I", .fieldLink RX4 81 "BallotHouseModel" "airValues" "[J"] ++ wsX40)
def wsX4_twice : List Cond := .code yX4_twice cX4_twice 2 (some .boolean) :: ([.fieldLink RX4 97 "BallotHouseModel" "air" "I", .methodLink RX4 103 yX4_copy, .instanceMethod yX4_copy, .selects RX4 yX4_copy yX4_copy, .initialized RX4, .code yX4_copy cX4_copy 4 none, .fieldLink RX4 63 "BallotHouseModel" "airKind" "[I", .fieldLink RX4 66 "BallotHouseModel" "airBallot" "[I", .fieldLink RX4 69 "BallotHouseModel" "airVoter" "[I", .fieldLink RX4 72 "BallotHouseModel" "airPlace" "[I", .fieldLink RX4 78 "BallotHouseModel" "airValue" "[J", .fieldLink RX4 75 "BallotHouseModel" "airVote" "[I", .fieldLink RX4 81 "BallotHouseModel" "airValues" "[J"] ++ wsX40)
def wsX4_silent : List Cond := .code yX4_silent cX4_silent 3 (some .boolean) :: ([.fieldLink RX4 20 "BallotHouseModel" "silent" "[Z", .methodLink RX4 177 yX4_isVoter, .instanceMethod yX4_isVoter, .selects RX4 yX4_isVoter yX4_isVoter, .initialized RX4, .code yX4_isVoter cX4_isVoter 2 (some .boolean), .fieldLink RX4 90 "BallotHouseModel" "voters" "I"] ++ wsX40)
def wsX4_promise : List Cond := .code yX4_promise cX4_promise 2 (some .int) :: ([.fieldLink RX4 7 "BallotHouseModel" "promise" "[I", .methodLink RX4 177 yX4_isVoter, .instanceMethod yX4_isVoter, .selects RX4 yX4_isVoter yX4_isVoter, .initialized RX4, .code yX4_isVoter cX4_isVoter 2 (some .boolean), .fieldLink RX4 90 "BallotHouseModel" "voters" "I"] ++ wsX40)
def wsX4_vote : List Cond := .code yX4_vote cX4_vote 3 (some .int) :: ([.fieldLink RX4 13 "BallotHouseModel" "vote" "[I", .methodLink RX4 177 yX4_isVoter, .instanceMethod yX4_isVoter, .selects RX4 yX4_isVoter yX4_isVoter, .initialized RX4, .code yX4_isVoter cX4_isVoter 2 (some .boolean), .fieldLink RX4 90 "BallotHouseModel" "voters" "I", .methodLink RX4 148 yX4_isPlace, .static yX4_isPlace, .code yX4_isPlace cX4_isPlace 1 (some .boolean)] ++ wsX40)
def wsX4_value : List Cond := .code yX4_value cX4_value 3 (some .long) :: ([.fieldLink RX4 16 "BallotHouseModel" "value" "[J", .methodLink RX4 177 yX4_isVoter, .instanceMethod yX4_isVoter, .selects RX4 yX4_isVoter yX4_isVoter, .initialized RX4, .code yX4_isVoter cX4_isVoter 2 (some .boolean), .fieldLink RX4 90 "BallotHouseModel" "voters" "I", .methodLink RX4 148 yX4_isPlace, .static yX4_isPlace, .code yX4_isPlace cX4_isPlace 1 (some .boolean)] ++ wsX40)
def wsX4_of : List Cond := .code yX4_of cX4_of 3 (some .int) :: ([.fieldLink RX4 24 "BallotHouseModel" "state" "[I", .fieldLink RX4 27 "BallotHouseModel" "members" "[I", .fieldLink RX4 30 "BallotHouseModel" "reads" "[I", .fieldLink RX4 33 "BallotHouseModel" "writes" "[I", .fieldLink RX4 36 "BallotHouseModel" "behind" "[I", .fieldLink RX4 39 "BallotHouseModel" "readers" "[I", .fieldLink RX4 42 "BallotHouseModel" "found" "[I", .fieldLink RX4 45 "BallotHouseModel" "proposed" "[I", .fieldLink RX4 48 "BallotHouseModel" "known" "[I", .methodLink RX4 145 yX4_isBallot, .instanceMethod yX4_isBallot, .selects RX4 yX4_isBallot yX4_isBallot, .initialized RX4, .code yX4_isBallot cX4_isBallot 2 (some .boolean), .fieldLink RX4 94 "BallotHouseModel" "ballots" "I"] ++ wsX40)
def wsX4_answered : List Cond := .code yX4_answered cX4_answered 3 (some .int) :: ([.fieldLink RX4 54 "BallotHouseModel" "answers" "[I", .methodLink RX4 145 yX4_isBallot, .instanceMethod yX4_isBallot, .selects RX4 yX4_isBallot yX4_isBallot, .initialized RX4, .code yX4_isBallot cX4_isBallot 2 (some .boolean), .fieldLink RX4 94 "BallotHouseModel" "ballots" "I", .methodLink RX4 148 yX4_isPlace, .static yX4_isPlace, .code yX4_isPlace cX4_isPlace 1 (some .boolean)] ++ wsX40)
def wsX4_said : List Cond := .code yX4_said cX4_said 3 (some .long) :: ([.fieldLink RX4 60 "BallotHouseModel" "says" "[J", .methodLink RX4 145 yX4_isBallot, .instanceMethod yX4_isBallot, .selects RX4 yX4_isBallot yX4_isBallot, .initialized RX4, .code yX4_isBallot cX4_isBallot 2 (some .boolean), .fieldLink RX4 94 "BallotHouseModel" "ballots" "I", .methodLink RX4 148 yX4_isPlace, .static yX4_isPlace, .code yX4_isPlace cX4_isPlace 1 (some .boolean)] ++ wsX40)
def wsX4_isChosen : List Cond := .code yX4_isChosen cX4_isChosen 3 (some .boolean) :: ([.fieldLink RX4 57 "BallotHouseModel" "voted" "[I", .fieldLink RX4 27 "BallotHouseModel" "members" "[I", .fieldLink RX4 33 "BallotHouseModel" "writes" "[I", .methodLink RX4 107 yX4_many, .static yX4_many, .initialized RX4, .code yX4_many cX4_many 3 (some .int)] ++ wsX40)
def wsX4_chosen : List Cond := .code yX4_chosen cX4_chosen 3 (some .int) :: ([.fieldLink RX4 94 "BallotHouseModel" "ballots" "I", .methodLink RX4 148 yX4_isPlace, .static yX4_isPlace, .initialized RX4, .code yX4_isPlace cX4_isPlace 1 (some .boolean), .methodLink RX4 180 yX4_isChosen, .instanceMethod yX4_isChosen, .selects RX4 yX4_isChosen yX4_isChosen, .code yX4_isChosen cX4_isChosen 3 (some .boolean), .fieldLink RX4 57 "BallotHouseModel" "voted" "[I", .fieldLink RX4 27 "BallotHouseModel" "members" "[I", .fieldLink RX4 33 "BallotHouseModel" "writes" "[I", .methodLink RX4 107 yX4_many, .static yX4_many, .code yX4_many cX4_many 3 (some .int)] ++ wsX40)
def wsX4_chosenValue : List Cond := .code yX4_chosenValue cX4_chosenValue 3 (some .long) :: ([.fieldLink RX4 60 "BallotHouseModel" "says" "[J", .methodLink RX4 184 yX4_chosen, .instanceMethod yX4_chosen, .selects RX4 yX4_chosen yX4_chosen, .initialized RX4, .code yX4_chosen cX4_chosen 3 (some .int), .fieldLink RX4 94 "BallotHouseModel" "ballots" "I", .methodLink RX4 148 yX4_isPlace, .static yX4_isPlace, .code yX4_isPlace cX4_isPlace 1 (some .boolean), .methodLink RX4 180 yX4_isChosen, .instanceMethod yX4_isChosen, .selects RX4 yX4_isChosen yX4_isChosen, .code yX4_isChosen cX4_isChosen 3 (some .boolean), .fieldLink RX4 57 "BallotHouseModel" "voted" "[I", .fieldLink RX4 27 "BallotHouseModel" "members" "[I", .fieldLink RX4 33 "BallotHouseModel" "writes" "[I", .methodLink RX4 107 yX4_many, .static yX4_many, .code yX4_many cX4_many 3 (some .int)] ++ wsX40)
def wsX4_isOne : List Cond := .code yX4_isOne cX4_isOne 4 (some .boolean) :: ([.fieldLink RX4 94 "BallotHouseModel" "ballots" "I", .fieldLink RX4 60 "BallotHouseModel" "says" "[J", .methodLink RX4 148 yX4_isPlace, .static yX4_isPlace, .initialized RX4, .code yX4_isPlace cX4_isPlace 1 (some .boolean), .methodLink RX4 180 yX4_isChosen, .instanceMethod yX4_isChosen, .selects RX4 yX4_isChosen yX4_isChosen, .code yX4_isChosen cX4_isChosen 3 (some .boolean), .fieldLink RX4 57 "BallotHouseModel" "voted" "[I", .fieldLink RX4 27 "BallotHouseModel" "members" "[I", .fieldLink RX4 33 "BallotHouseModel" "writes" "[I", .methodLink RX4 107 yX4_many, .static yX4_many, .code yX4_many cX4_many 3 (some .int), .methodLink RX4 187 yX4_chosenValue, .instanceMethod yX4_chosenValue, .selects RX4 yX4_chosenValue yX4_chosenValue, .code yX4_chosenValue cX4_chosenValue 3 (some .long), .methodLink RX4 184 yX4_chosen, .instanceMethod yX4_chosen, .selects RX4 yX4_chosen yX4_chosen, .code yX4_chosen cX4_chosen 3 (some .int)] ++ wsX40)
def wsX4_air : List Cond := .code yX4_air cX4_air 5 (some .int) :: ([.fieldLink RX4 97 "BallotHouseModel" "air" "I", .fieldLink RX4 63 "BallotHouseModel" "airKind" "[I", .fieldLink RX4 66 "BallotHouseModel" "airBallot" "[I", .fieldLink RX4 69 "BallotHouseModel" "airVoter" "[I", .fieldLink RX4 72 "BallotHouseModel" "airPlace" "[I", .fieldLink RX4 75 "BallotHouseModel" "airVote" "[I"] ++ wsX40)
def wsX4_about : List Cond := .code yX4_about cX4_about 2 (some .int) :: ([.fieldLink RX4 90 "BallotHouseModel" "voters" "I", .fieldLink RX4 94 "BallotHouseModel" "ballots" "I", .fieldLink RX4 111 "BallotHouseModel" "complete" "I", .fieldLink RX4 97 "BallotHouseModel" "air" "I", .fieldLink RX4 100 "BallotHouseModel" "lost" "I"] ++ wsX40)
def wsJ9_max_7cf53 : List Cond := .code yJ9_max_7cf53 cJ9_max_7cf53 2 (some .int) :: ([])
def wsJ9_min_7cf53 : List Cond := .code yJ9_min_7cf53 cJ9_min_7cf53 2 (some .int) :: ([])
def wsL_cell : List Cond := .code yL_cell cL_cell 2 (some .int) :: ([])
def wsL_law_r1 : List Cond := [Cond.classLink RL 7 RX3, Cond.instantiable RX3 8, Cond.initialized RX3, Cond.classLink RL 18 RX4, Cond.instantiable RX4 31, Cond.initialized RX4, Cond.constantLong RL 26 (4294967295), Cond.methodLink RL 9 yL_cell, Cond.static yL_cell, Cond.initialized RL, Cond.code yL_cell cL_cell 2 (some .int), Cond.methodLink RL 15 yX3_init, Cond.instanceMethod yX3_init, Cond.code yX3_init cX3_init 2 none, Cond.methodLink RX3 1 objectInit, Cond.instanceMethod objectInit, Cond.code objectInit ⟨#[0xb1]⟩ 1 none, Cond.methodLink RX3 9 Lib.Math.min.name, Cond.static Lib.Math.min.name, Cond.initialized "java/lang/Math", Cond.code Lib.Math.min.name Lib.Math.min.code 2 (some .int), Cond.methodLink RX3 15 Lib.Math.max.name, Cond.static Lib.Math.max.name, Cond.code Lib.Math.max.name Lib.Math.max.code 2 (some .int)]
def wsL_law_r2 : List Cond := [Cond.fieldLink RX3 18 "BallotHouse" "voters" "I", Cond.arrayClass .int, Cond.fieldLink RX3 22 "BallotHouse" "promises" "[I", Cond.arrayClass .long, Cond.fieldLink RX3 26 "BallotHouse" "votes" "[J", Cond.classLink RX3 30 RX1, Cond.fieldLink RX3 32 "BallotHouse" "ballots" "[LBallotHouse$Ballot;", Cond.classLink RX3 36 RX0, Cond.instantiable RX0 7, Cond.initialized RX0, Cond.fieldLink RX3 39 "BallotHouse" "letters" "LBallotHouse$Air;", Cond.instanceMethod yX0_init, Cond.code yX0_init cX0_init 1 none, Cond.methodLink RX0 3 objectInit, Cond.fieldLink RX0 9 "BallotHouse$Air" "kind" "[I", Cond.fieldLink RX0 15 "BallotHouse$Air" "ballot" "[I", Cond.fieldLink RX0 18 "BallotHouse$Air" "voter" "[I", Cond.fieldLink RX0 21 "BallotHouse$Air" "place" "[I", Cond.fieldLink RX0 24 "BallotHouse$Air" "votes" "[J", Cond.methodLink RL 20 yX4_init, Cond.instanceMethod yX4_init, Cond.code yX4_init cX4_init 2 none, Cond.methodLink RX4 1 objectInit, Cond.fieldLink RX4 7 "BallotHouseModel" "promise" "[I"]
def wsL_law_r3 : List Cond := [Cond.fieldLink RX4 13 "BallotHouseModel" "vote" "[I", Cond.fieldLink RX4 16 "BallotHouseModel" "value" "[J", Cond.arrayClass .boolean, Cond.fieldLink RX4 20 "BallotHouseModel" "silent" "[Z", Cond.fieldLink RX4 24 "BallotHouseModel" "state" "[I", Cond.fieldLink RX4 27 "BallotHouseModel" "members" "[I", Cond.fieldLink RX4 30 "BallotHouseModel" "reads" "[I", Cond.fieldLink RX4 33 "BallotHouseModel" "writes" "[I", Cond.fieldLink RX4 36 "BallotHouseModel" "behind" "[I", Cond.fieldLink RX4 39 "BallotHouseModel" "readers" "[I", Cond.fieldLink RX4 42 "BallotHouseModel" "found" "[I", Cond.fieldLink RX4 45 "BallotHouseModel" "proposed" "[I", Cond.fieldLink RX4 48 "BallotHouseModel" "known" "[I", Cond.fieldLink RX4 51 "BallotHouseModel" "foundBy" "[I", Cond.fieldLink RX4 54 "BallotHouseModel" "answers" "[I", Cond.fieldLink RX4 57 "BallotHouseModel" "voted" "[I", Cond.fieldLink RX4 60 "BallotHouseModel" "says" "[J", Cond.fieldLink RX4 63 "BallotHouseModel" "airKind" "[I", Cond.fieldLink RX4 66 "BallotHouseModel" "airBallot" "[I", Cond.fieldLink RX4 69 "BallotHouseModel" "airVoter" "[I", Cond.fieldLink RX4 72 "BallotHouseModel" "airPlace" "[I", Cond.fieldLink RX4 75 "BallotHouseModel" "airVote" "[I", Cond.fieldLink RX4 78 "BallotHouseModel" "airValue" "[J", Cond.fieldLink RX4 81 "BallotHouseModel" "airValues" "[J"]
def wsL_law_r4 : List Cond := [Cond.fieldLink RX4 84 "BallotHouseModel" "gotVote" "[I", Cond.fieldLink RX4 87 "BallotHouseModel" "gotValue" "[J", Cond.fieldLink RX4 90 "BallotHouseModel" "voters" "I", Cond.methodLink RL 21 yX3_ballot, Cond.instanceMethod yX3_ballot, Cond.selects RX3 yX3_ballot yX3_ballot, Cond.code yX3_ballot cX3_ballot 7 (some .int), Cond.fieldLink RX3 43 "BallotHouse" "made" "I", Cond.fieldLink RX3 50 "BallotHouse" "complete" "I", Cond.instantiable RX1 14, Cond.initialized RX1, Cond.methodLink RX3 46 yX3_canBe, Cond.instanceMethod yX3_canBe, Cond.selects RX3 yX3_canBe yX3_canBe, Cond.code yX3_canBe cX3_canBe 5 (some .boolean), Cond.methodLink RX3 183 yJ6_bitCount_0f7a4, Cond.static yJ6_bitCount_0f7a4, Cond.initialized RJ6, Cond.code yJ6_bitCount_0f7a4 cJ6_bitCount_0f7a4 1 (some .int), Cond.constant RJ6 265 (1431655765), Cond.constant RJ6 266 (858993459), Cond.constant RJ6 267 (252645135), Cond.methodLink RX3 53 yX3_membersFrom, Cond.instanceMethod yX3_membersFrom]
def wsL_law_r5 : List Cond := [Cond.selects RX3 yX3_membersFrom yX3_membersFrom, Cond.code yX3_membersFrom cX3_membersFrom 5 (some .int), Cond.fieldLink RX3 84 "BallotHouse$Ballot" "members" "I", Cond.methodLink RX3 64 yX3_find, Cond.instanceMethod yX3_find, Cond.selects RX3 yX3_find yX3_find, Cond.code yX3_find cX3_find 2 (some (.object "BallotHouse$Ballot")), Cond.methodLink RX3 57 yX1_init, Cond.instanceMethod yX1_init, Cond.code yX1_init cX1_init 7 none, Cond.methodLink RX1 3 objectInit, Cond.fieldLink RX1 9 "BallotHouse$Ballot" "state" "I", Cond.fieldLink RX1 15 "BallotHouse$Ballot" "foundBy" "[I", Cond.fieldLink RX1 19 "BallotHouse$Ballot" "words" "[J", Cond.fieldLink RX1 23 "BallotHouse$Ballot" "voteAnswers" "[I", Cond.fieldLink RX1 26 "BallotHouse$Ballot" "everVoted" "[I", Cond.fieldLink RX1 29 "BallotHouse$Ballot" "number" "I", Cond.fieldLink RX1 32 "BallotHouse$Ballot" "members" "I", Cond.fieldLink RX1 35 "BallotHouse$Ballot" "\x72" "I", Cond.fieldLink RX1 38 "BallotHouse$Ballot" "w" "I", Cond.fieldLink RX1 41 "BallotHouse$Ballot" "behind" "I", Cond.fieldLink RX1 44 "BallotHouse$Ballot" "readers" "I", Cond.methodLink RX3 60 yX0_send, Cond.instanceMethod yX0_send]
def wsL_law_r6 : List Cond := [Cond.selects RX0 yX0_send yX0_send, Cond.code yX0_send cX0_send 7 none, Cond.fieldLink RX0 28 "BallotHouse$Air" "size" "I", Cond.fieldLink RX0 32 "BallotHouse$Air" "lost" "I", Cond.methodLink RL 25 yX4_ballot, Cond.instanceMethod yX4_ballot, Cond.selects RX4 yX4_ballot yX4_ballot, Cond.code yX4_ballot cX4_ballot 5 (some .int), Cond.fieldLink RX4 94 "BallotHouseModel" "ballots" "I", Cond.fieldLink RX4 111 "BallotHouseModel" "complete" "I", Cond.methodLink RX4 107 yX4_many, Cond.static yX4_many, Cond.code yX4_many cX4_many 3 (some .int), Cond.methodLink RX4 114 yX4_put, Cond.instanceMethod yX4_put, Cond.selects RX4 yX4_put yX4_put, Cond.code yX4_put cX4_put 8 none, Cond.fieldLink RX4 97 "BallotHouseModel" "air" "I", Cond.fieldLink RX4 100 "BallotHouseModel" "lost" "I", Cond.methodLink RL 28 yX3_propose, Cond.instanceMethod yX3_propose, Cond.selects RX3 yX3_propose yX3_propose, Cond.code yX3_propose cX3_propose 6 (some .boolean), Cond.fieldLink RX3 72 "BallotHouse$Ballot" "state" "I"]
def wsL_law_r7 : List Cond := [Cond.fieldLink RX3 78 "BallotHouse$Ballot" "proposed" "I", Cond.fieldLink RX3 81 "BallotHouse$Ballot" "words" "[J", Cond.methodLink RX3 68 yX3_isPlace, Cond.static yX3_isPlace, Cond.code yX3_isPlace cX3_isPlace 1 (some .boolean), Cond.methodLink RX3 75 yX1_hasWord, Cond.instanceMethod yX1_hasWord, Cond.selects RX1 yX1_hasWord yX1_hasWord, Cond.code yX1_hasWord cX1_hasWord 2 (some .boolean), Cond.fieldLink RX1 47 "BallotHouse$Ballot" "found" "I", Cond.fieldLink RX1 50 "BallotHouse$Ballot" "proposed" "I", Cond.methodLink RX3 87 yX3_sendToEach, Cond.instanceMethod yX3_sendToEach, Cond.selects RX3 yX3_sendToEach yX3_sendToEach, Cond.code yX3_sendToEach cX3_sendToEach 6 (some .int), Cond.fieldLink RX3 91 "BallotHouse$Ballot" "number" "I", Cond.methodLink RL 32 yX4_propose, Cond.instanceMethod yX4_propose, Cond.selects RX4 yX4_propose yX4_propose, Cond.code yX4_propose cX4_propose 5 (some .boolean), Cond.methodLink RX4 145 yX4_isBallot, Cond.instanceMethod yX4_isBallot, Cond.selects RX4 yX4_isBallot yX4_isBallot, Cond.code yX4_isBallot cX4_isBallot 2 (some .boolean)]
def wsL_law_r8 : List Cond := [Cond.methodLink RX4 148 yX4_isPlace, Cond.static yX4_isPlace, Cond.code yX4_isPlace cX4_isPlace 1 (some .boolean), Cond.methodLink RX4 135 yX4_sendVotes, Cond.instanceMethod yX4_sendVotes, Cond.selects RX4 yX4_sendVotes yX4_sendVotes, Cond.code yX4_sendVotes cX4_sendVotes 5 (some .int), Cond.methodLink RL 33 yX3_again, Cond.instanceMethod yX3_again, Cond.selects RX3 yX3_again yX3_again, Cond.code yX3_again cX3_again 3 (some .int), Cond.fieldLink RX3 94 "BallotHouse$Ballot" "readers" "I", Cond.fieldLink RX3 97 "BallotHouse$Ballot" "readAnswers" "I", Cond.methodLink RX3 100 yX3_sendMissingVotes, Cond.instanceMethod yX3_sendMissingVotes, Cond.selects RX3 yX3_sendMissingVotes yX3_sendMissingVotes, Cond.code yX3_sendMissingVotes cX3_sendMissingVotes 4 (some .int), Cond.fieldLink RX3 154 "BallotHouse$Ballot" "voteAnswers" "[I", Cond.methodLink RX3 188 yX1_knows, Cond.instanceMethod yX1_knows, Cond.selects RX1 yX1_knows yX1_knows, Cond.code yX1_knows cX1_knows 2 (some .boolean), Cond.methodLink RX1 57 yJ6_bitCount_0f7a4, Cond.methodLink RL 37 yX4_again]
def wsL_law_r9 : List Cond := [Cond.instanceMethod yX4_again, Cond.selects RX4 yX4_again yX4_again, Cond.code yX4_again cX4_again 4 (some .int), Cond.methodLink RX4 124 yX4_sendReads, Cond.instanceMethod yX4_sendReads, Cond.selects RX4 yX4_sendReads yX4_sendReads, Cond.code yX4_sendReads cX4_sendReads 4 (some .int), Cond.methodLink RX4 121 yX4_asked, Cond.instanceMethod yX4_asked, Cond.selects RX4 yX4_asked yX4_asked, Cond.code yX4_asked cX4_asked 4 (some .int), Cond.methodLink RX4 118 yX4_firstRead, Cond.instanceMethod yX4_firstRead, Cond.selects RX4 yX4_firstRead yX4_firstRead, Cond.code yX4_firstRead cX4_firstRead 2 (some .int), Cond.methodLink RL 38 yX3_deliver, Cond.instanceMethod yX3_deliver, Cond.selects RX3 yX3_deliver yX3_deliver, Cond.code yX3_deliver cX3_deliver 2 (some .boolean), Cond.methodLink RX3 104 yX0_has, Cond.instanceMethod yX0_has, Cond.selects RX0 yX0_has yX0_has, Cond.code yX0_has cX0_has 2 (some .boolean), Cond.methodLink RX3 107 yX3_isForSilent]
def wsL_law_r10 : List Cond := [Cond.instanceMethod yX3_isForSilent, Cond.selects RX3 yX3_isForSilent yX3_isForSilent, Cond.code yX3_isForSilent cX3_isForSilent 4 (some .boolean), Cond.fieldLink RX3 163 "BallotHouse$Air" "kind" "[I", Cond.fieldLink RX3 130 "BallotHouse" "silentVoters" "I", Cond.fieldLink RX3 169 "BallotHouse$Air" "voter" "[I", Cond.methodLink RX3 110 yX3_handOver, Cond.instanceMethod yX3_handOver, Cond.selects RX3 yX3_handOver yX3_handOver, Cond.code yX3_handOver cX3_handOver 8 none, Cond.fieldLink RX3 172 "BallotHouse$Air" "place" "[I", Cond.fieldLink RX3 175 "BallotHouse$Air" "votes" "[J", Cond.fieldLink RX3 166 "BallotHouse$Air" "ballot" "[I", Cond.methodLink RX3 118 yX0_drop, Cond.instanceMethod yX0_drop, Cond.selects RX0 yX0_drop yX0_drop, Cond.code yX0_drop cX0_drop 3 none, Cond.methodLink RX0 43 arraycopyName, Cond.native arraycopyName, Cond.static arraycopyName, Cond.initialized "java/lang/System", Cond.methodLink RX0 35 yX0_has, Cond.methodLink RX3 191 yX3_newComes, Cond.instanceMethod yX3_newComes]
def wsL_law_r11 : List Cond := [Cond.selects RX3 yX3_newComes yX3_newComes, Cond.code yX3_newComes cX3_newComes 2 none, Cond.methodLink RX3 216 yX3_goOn, Cond.instanceMethod yX3_goOn, Cond.selects RX3 yX3_goOn yX3_goOn, Cond.code yX3_goOn cX3_goOn 2 none, Cond.fieldLink RX3 148 "BallotHouse$Ballot" "found" "I", Cond.methodLink RX3 233 yX3_isReadingOver, Cond.instanceMethod yX3_isReadingOver, Cond.selects RX3 yX3_isReadingOver yX3_isReadingOver, Cond.code yX3_isReadingOver cX3_isReadingOver 4 (some .boolean), Cond.fieldLink RX3 145 "BallotHouse$Ballot" "behind" "I", Cond.fieldLink RX3 139 "BallotHouse$Ballot" "\x72" "I", Cond.methodLink RX3 151 yX1_knownPlaces, Cond.instanceMethod yX1_knownPlaces, Cond.selects RX1 yX1_knownPlaces yX1_knownPlaces, Cond.code yX1_knownPlaces cX1_knownPlaces 3 (some .int), Cond.methodLink RX1 63 yX1_knows, Cond.methodLink RX3 195 yX3_readComes, Cond.instanceMethod yX3_readComes, Cond.selects RX3 yX3_readComes yX3_readComes, Cond.code yX3_readComes cX3_readComes 3 none, Cond.methodLink RX3 127 yX3_isVoter, Cond.instanceMethod yX3_isVoter]
def wsL_law_r12 : List Cond := [Cond.selects RX3 yX3_isVoter yX3_isVoter, Cond.code yX3_isVoter cX3_isVoter 2 (some .boolean), Cond.methodLink RX3 199 yX3_readAnswerComes, Cond.instanceMethod yX3_readAnswerComes, Cond.selects RX3 yX3_readAnswerComes yX3_readAnswerComes, Cond.code yX3_readAnswerComes cX3_readAnswerComes 6 none, Cond.methodLink RX3 219 yX3_takeFound, Cond.instanceMethod yX3_takeFound, Cond.selects RX3 yX3_takeFound yX3_takeFound, Cond.code yX3_takeFound cX3_takeFound 6 none, Cond.fieldLink RX3 223 "BallotHouse$Ballot" "foundBy" "[I", Cond.methodLink RX3 133 yX2_at, Cond.static yX2_at, Cond.initialized RX2, Cond.code yX2_at cX2_at 3 (some .int), Cond.constantLong RX2 11 (255), Cond.methodLink RX3 203 yX3_voteComes, Cond.instanceMethod yX3_voteComes, Cond.selects RX3 yX3_voteComes yX3_voteComes, Cond.code yX3_voteComes cX3_voteComes 4 none, Cond.fieldLink RX3 230 "BallotHouse$Ballot" "everVoted" "[I", Cond.methodLink RX3 226 yX2_with, Cond.static yX2_with, Cond.code yX2_with cX2_with 5 (some .long)]
def wsL_law_r13 : List Cond := [Cond.constantLong RX2 13 (-1), Cond.methodLink RX3 207 yX3_voteAnswerComes, Cond.instanceMethod yX3_voteAnswerComes, Cond.selects RX3 yX3_voteAnswerComes yX3_voteAnswerComes, Cond.code yX3_voteAnswerComes cX3_voteAnswerComes 4 none, Cond.methodLink RX3 210 yX3_completeComes, Cond.instanceMethod yX3_completeComes, Cond.selects RX3 yX3_completeComes yX3_completeComes, Cond.code yX3_completeComes cX3_completeComes 2 none, Cond.methodLink RX3 213 yX3_activeComes, Cond.instanceMethod yX3_activeComes, Cond.selects RX3 yX3_activeComes yX3_activeComes, Cond.code yX3_activeComes cX3_activeComes 2 none, Cond.methodLink RL 42 yX4_deliver, Cond.instanceMethod yX4_deliver, Cond.selects RX4 yX4_deliver yX4_deliver, Cond.code yX4_deliver cX4_deliver 9 (some .boolean), Cond.methodLink RX4 151 yX4_canBe, Cond.instanceMethod yX4_canBe, Cond.selects RX4 yX4_canBe yX4_canBe, Cond.code yX4_canBe cX4_canBe 2 (some .boolean), Cond.methodLink RX4 154 yX4_take, Cond.instanceMethod yX4_take, Cond.selects RX4 yX4_take yX4_take]
def wsL_law_r14 : List Cond := [Cond.code yX4_take cX4_take 3 none, Cond.methodLink RX4 103 yX4_copy, Cond.instanceMethod yX4_copy, Cond.selects RX4 yX4_copy yX4_copy, Cond.code yX4_copy cX4_copy 4 none, Cond.methodLink RX4 157 yX4_beginReading, Cond.instanceMethod yX4_beginReading, Cond.selects RX4 yX4_beginReading yX4_beginReading, Cond.code yX4_beginReading cX4_beginReading 2 none, Cond.methodLink RX4 127 yX4_isRead, Cond.instanceMethod yX4_isRead, Cond.selects RX4 yX4_isRead yX4_isRead, Cond.code yX4_isRead cX4_isRead 4 (some .boolean), Cond.methodLink RX4 131 yX4_beginMoving, Cond.instanceMethod yX4_beginMoving, Cond.selects RX4 yX4_beginMoving yX4_beginMoving, Cond.code yX4_beginMoving cX4_beginMoving 3 none, Cond.methodLink RX4 139 yX4_isMoved, Cond.instanceMethod yX4_isMoved, Cond.selects RX4 yX4_isMoved yX4_isMoved, Cond.code yX4_isMoved cX4_isMoved 2 (some .boolean), Cond.methodLink RX4 142 yX4_beginAsking, Cond.instanceMethod yX4_beginAsking, Cond.selects RX4 yX4_beginAsking yX4_beginAsking]
def wsL_law_r15 : List Cond := [Cond.code yX4_beginAsking cX4_beginAsking 2 none, Cond.methodLink RX4 160 yX4_comesRead, Cond.instanceMethod yX4_comesRead, Cond.selects RX4 yX4_comesRead yX4_comesRead, Cond.code yX4_comesRead cX4_comesRead 3 none, Cond.methodLink RX4 163 yX4_comesReadAnswer, Cond.instanceMethod yX4_comesReadAnswer, Cond.selects RX4 yX4_comesReadAnswer yX4_comesReadAnswer, Cond.code yX4_comesReadAnswer cX4_comesReadAnswer 4 none, Cond.methodLink RX4 166 yX4_comesVote, Cond.instanceMethod yX4_comesVote, Cond.selects RX4 yX4_comesVote yX4_comesVote, Cond.code yX4_comesVote cX4_comesVote 6 none, Cond.methodLink RX4 170 yX4_comesVoteAnswer, Cond.instanceMethod yX4_comesVoteAnswer, Cond.selects RX4 yX4_comesVoteAnswer yX4_comesVoteAnswer, Cond.code yX4_comesVoteAnswer cX4_comesVoteAnswer 4 none, Cond.methodLink RL 43 yX3_settle, Cond.instanceMethod yX3_settle, Cond.selects RX3 yX3_settle yX3_settle, Cond.code yX3_settle cX3_settle 4 (some .int), Cond.methodLink RX3 114 yX3_firstDeliverable, Cond.instanceMethod yX3_firstDeliverable, Cond.selects RX3 yX3_firstDeliverable yX3_firstDeliverable]
def wsL_law_r16 : List Cond := [Cond.code yX3_firstDeliverable cX3_firstDeliverable 2 (some .int), Cond.fieldLink RX3 121 "BallotHouse$Air" "size" "I", Cond.methodLink RL 46 yX4_settle, Cond.instanceMethod yX4_settle, Cond.selects RX4 yX4_settle yX4_settle, Cond.code yX4_settle cX4_settle 5 (some .int), Cond.methodLink RX4 174 yX4_deliver, Cond.methodLink RL 47 yX3_lose, Cond.instanceMethod yX3_lose, Cond.selects RX3 yX3_lose yX3_lose, Cond.code yX3_lose cX3_lose 2 (some .boolean), Cond.methodLink RL 50 yX4_lose, Cond.instanceMethod yX4_lose, Cond.selects RX4 yX4_lose yX4_lose, Cond.code yX4_lose cX4_lose 2 (some .boolean), Cond.methodLink RL 51 yX3_twice, Cond.instanceMethod yX3_twice, Cond.selects RX3 yX3_twice yX3_twice, Cond.code yX3_twice cX3_twice 2 (some .boolean), Cond.methodLink RX3 124 yX0_repeat, Cond.instanceMethod yX0_repeat, Cond.selects RX0 yX0_repeat yX0_repeat, Cond.code yX0_repeat cX0_repeat 2 none, Cond.methodLink RX0 39 yX0_send]
def wsL_law_r17 : List Cond := [Cond.methodLink RL 54 yX4_twice, Cond.instanceMethod yX4_twice, Cond.selects RX4 yX4_twice yX4_twice, Cond.code yX4_twice cX4_twice 2 (some .boolean), Cond.methodLink RL 55 yX3_silent, Cond.instanceMethod yX3_silent, Cond.selects RX3 yX3_silent yX3_silent, Cond.code yX3_silent cX3_silent 4 (some .boolean), Cond.methodLink RL 59 yX4_silent, Cond.instanceMethod yX4_silent, Cond.selects RX4 yX4_silent yX4_silent, Cond.code yX4_silent cX4_silent 3 (some .boolean), Cond.methodLink RX4 177 yX4_isVoter, Cond.instanceMethod yX4_isVoter, Cond.selects RX4 yX4_isVoter yX4_isVoter, Cond.code yX4_isVoter cX4_isVoter 2 (some .boolean), Cond.methodLink RL 60 yX3_promise, Cond.instanceMethod yX3_promise, Cond.selects RX3 yX3_promise yX3_promise, Cond.code yX3_promise cX3_promise 2 (some .int), Cond.methodLink RL 63 yX4_promise, Cond.instanceMethod yX4_promise, Cond.selects RX4 yX4_promise yX4_promise, Cond.code yX4_promise cX4_promise 2 (some .int)]
def wsL_law_r18 : List Cond := [Cond.methodLink RL 64 yX3_vote, Cond.instanceMethod yX3_vote, Cond.selects RX3 yX3_vote yX3_vote, Cond.code yX3_vote cX3_vote 3 (some .int), Cond.methodLink RL 68 yX4_vote, Cond.instanceMethod yX4_vote, Cond.selects RX4 yX4_vote yX4_vote, Cond.code yX4_vote cX4_vote 3 (some .int), Cond.methodLink RL 69 yX3_value, Cond.instanceMethod yX3_value, Cond.selects RX3 yX3_value yX3_value, Cond.code yX3_value cX3_value 4 (some .long), Cond.methodLink RL 73 yX4_value, Cond.instanceMethod yX4_value, Cond.selects RX4 yX4_value yX4_value, Cond.code yX4_value cX4_value 3 (some .long), Cond.methodLink RL 74 yX3_of, Cond.instanceMethod yX3_of, Cond.selects RX3 yX3_of yX3_of, Cond.code yX3_of cX3_of 4 (some .int), Cond.fieldLink RX3 142 "BallotHouse$Ballot" "w" "I", Cond.methodLink RL 77 yX4_of, Cond.instanceMethod yX4_of, Cond.selects RX4 yX4_of yX4_of]
def wsL_law_r19 : List Cond := [Cond.code yX4_of cX4_of 3 (some .int), Cond.methodLink RL 78 yX3_answered, Cond.instanceMethod yX3_answered, Cond.selects RX3 yX3_answered yX3_answered, Cond.code yX3_answered cX3_answered 4 (some .int), Cond.methodLink RL 81 yX4_answered, Cond.instanceMethod yX4_answered, Cond.selects RX4 yX4_answered yX4_answered, Cond.code yX4_answered cX4_answered 3 (some .int), Cond.methodLink RL 82 yX3_said, Cond.instanceMethod yX3_said, Cond.selects RX3 yX3_said yX3_said, Cond.code yX3_said cX3_said 4 (some .long), Cond.methodLink RL 85 yX4_said, Cond.instanceMethod yX4_said, Cond.selects RX4 yX4_said yX4_said, Cond.code yX4_said cX4_said 3 (some .long), Cond.methodLink RL 86 yX3_chosen, Cond.instanceMethod yX3_chosen, Cond.selects RX3 yX3_chosen yX3_chosen, Cond.code yX3_chosen cX3_chosen 3 (some .int), Cond.methodLink RX3 157 yX3_firstThatChose, Cond.instanceMethod yX3_firstThatChose, Cond.selects RX3 yX3_firstThatChose yX3_firstThatChose]
def wsL_law_r20 : List Cond := [Cond.code yX3_firstThatChose cX3_firstThatChose 4 (some (.object "BallotHouse$Ballot")), Cond.methodLink RX3 160 yX1_hasChosen, Cond.instanceMethod yX1_hasChosen, Cond.selects RX1 yX1_hasChosen yX1_hasChosen, Cond.code yX1_hasChosen cX1_hasChosen 2 (some .boolean), Cond.methodLink RL 89 yX4_chosen, Cond.instanceMethod yX4_chosen, Cond.selects RX4 yX4_chosen yX4_chosen, Cond.code yX4_chosen cX4_chosen 3 (some .int), Cond.methodLink RX4 180 yX4_isChosen, Cond.instanceMethod yX4_isChosen, Cond.selects RX4 yX4_isChosen yX4_isChosen, Cond.code yX4_isChosen cX4_isChosen 3 (some .boolean), Cond.methodLink RL 90 yX3_chosenValue, Cond.instanceMethod yX3_chosenValue, Cond.selects RX3 yX3_chosenValue yX3_chosenValue, Cond.code yX3_chosenValue cX3_chosenValue 3 (some .long), Cond.methodLink RL 94 yX4_chosenValue, Cond.instanceMethod yX4_chosenValue, Cond.selects RX4 yX4_chosenValue yX4_chosenValue, Cond.code yX4_chosenValue cX4_chosenValue 3 (some .long), Cond.methodLink RX4 184 yX4_chosen, Cond.methodLink RL 95 yX3_isOne, Cond.instanceMethod yX3_isOne]
def wsL_law_r21 : List Cond := [Cond.selects RX3 yX3_isOne yX3_isOne, Cond.code yX3_isOne cX3_isOne 5 (some .boolean), Cond.methodLink RL 98 yX4_isOne, Cond.instanceMethod yX4_isOne, Cond.selects RX4 yX4_isOne yX4_isOne, Cond.code yX4_isOne cX4_isOne 4 (some .boolean), Cond.methodLink RX4 187 yX4_chosenValue, Cond.methodLink RL 99 yX3_air, Cond.instanceMethod yX3_air, Cond.selects RX3 yX3_air yX3_air, Cond.code yX3_air cX3_air 3 (some .int), Cond.methodLink RX3 176 yX2_places, Cond.static yX2_places, Cond.code yX2_places cX2_places 4 (some .int), Cond.methodLink RX2 15 yX2_at, Cond.methodLink RL 102 yX4_air, Cond.instanceMethod yX4_air, Cond.selects RX4 yX4_air yX4_air, Cond.code yX4_air cX4_air 5 (some .int), Cond.methodLink RL 103 yX3_about, Cond.instanceMethod yX3_about, Cond.selects RX3 yX3_about yX3_about, Cond.code yX3_about cX3_about 2 (some .int), Cond.fieldLink RX3 180 "BallotHouse$Air" "lost" "I"]
def wsL_law_r22 : List Cond := [Cond.methodLink RL 106 yX4_about, Cond.instanceMethod yX4_about, Cond.selects RX4 yX4_about yX4_about, Cond.code yX4_about cX4_about 2 (some .int)]
def wsL_law : List Cond := (wsL_law_r1 ++ (wsL_law_r2 ++ (wsL_law_r3 ++ (wsL_law_r4 ++ (wsL_law_r5 ++ (wsL_law_r6 ++ (wsL_law_r7 ++ (wsL_law_r8 ++ (wsL_law_r9 ++ (wsL_law_r10 ++ (wsL_law_r11 ++ (wsL_law_r12 ++ (wsL_law_r13 ++ (wsL_law_r14 ++ (wsL_law_r15 ++ (wsL_law_r16 ++ (wsL_law_r17 ++ (wsL_law_r18 ++ (wsL_law_r19 ++ (wsL_law_r20 ++ (wsL_law_r21 ++ wsL_law_r22))))))))))))))))))))) ++ wsX30 ++ wsX40 ++ wsX00 ++ wsX10 ++ ([] : List Cond)
abbrev vwCl : List vw_C := [(RX0, TX0, 7), (RX1, TX1, 14), (RX3, TX3, 8), (RX4, TX4, 31)]
end
section
set_option maxRecDepth 20000 in
theorem ggX0_repeat_X0_has : GoodIn wsX0_repeat wsX0_has := goodIn_r _ [10, 11, 17, 18, 19, 20, 21, 22, 23] (by decide +kernel) (by decide +kernel)
set_option maxRecDepth 20000 in
theorem gX0_repeat_X0_has : GoodIn wsX0_repeat (wsV RX0 35 RX0 yX0_has wsX0_has) := goodIn_app (goodIn_of _ (by decide +kernel)) ggX0_repeat_X0_has
set_option maxRecDepth 20000 in
theorem ggX0_repeat_X0_send : GoodIn wsX0_repeat wsX0_send := goodIn_r _ [15, 11, 16, 1, 2, 3, 4, 5, 17, 18, 19, 20, 21, 22, 23] (by decide +kernel) (by decide +kernel)
set_option maxRecDepth 20000 in
theorem gX0_repeat_X0_send : GoodIn wsX0_repeat (wsV RX0 39 RX0 yX0_send wsX0_send) := goodIn_app (goodIn_of _ (by decide +kernel)) ggX0_repeat_X0_send
set_option maxRecDepth 20000 in
theorem ggX0_drop_X0_has : GoodIn wsX0_drop wsX0_has := goodIn_r _ [15, 1, 16, 17, 18, 19, 20, 21, 22] (by decide +kernel) (by decide +kernel)
set_option maxRecDepth 20000 in
theorem gX0_drop_X0_has : GoodIn wsX0_drop (wsV RX0 35 RX0 yX0_has wsX0_has) := goodIn_app (goodIn_of _ (by decide +kernel)) ggX0_drop_X0_has
set_option maxRecDepth 20000 in
theorem ggX1_knows_X3_isPlace : GoodIn wsX1_knows wsX3_isPlace := goodIn_r _ [5] (by decide +kernel) (by decide +kernel)
set_option maxRecDepth 20000 in
theorem gX1_knows_X3_isPlace_n53 : GoodIn wsX1_knows (wsX3_isPlace) := ggX1_knows_X3_isPlace
set_option maxRecDepth 20000 in
theorem ggX1_knows_J6_bitCount_0f7a4 : GoodIn wsX1_knows wsJ6_bitCount_0f7a4 := goodIn_r _ [9, 10, 11, 12] (by decide +kernel) (by decide +kernel)
set_option maxRecDepth 20000 in
theorem gX1_knows_J6_bitCount_0f7a4 : GoodIn wsX1_knows (va_wsS RX1 57 yJ6_bitCount_0f7a4 wsJ6_bitCount_0f7a4) := goodIn_app (goodIn_of _ (by decide +kernel)) ggX1_knows_J6_bitCount_0f7a4
set_option maxRecDepth 20000 in
theorem ggX1_hasChosen_X3_isPlace : GoodIn wsX1_hasChosen wsX3_isPlace := goodIn_r _ [5] (by decide +kernel) (by decide +kernel)
set_option maxRecDepth 20000 in
theorem gX1_hasChosen_X3_isPlace_n53 : GoodIn wsX1_hasChosen (wsX3_isPlace) := ggX1_hasChosen_X3_isPlace
set_option maxRecDepth 20000 in
theorem ggX1_hasChosen_J6_bitCount_0f7a4 : GoodIn wsX1_hasChosen wsJ6_bitCount_0f7a4 := goodIn_r _ [9, 10, 11, 12] (by decide +kernel) (by decide +kernel)
set_option maxRecDepth 20000 in
theorem gX1_hasChosen_J6_bitCount_0f7a4 : GoodIn wsX1_hasChosen (va_wsS RX1 57 yJ6_bitCount_0f7a4 wsJ6_bitCount_0f7a4) := goodIn_app (goodIn_of _ (by decide +kernel)) ggX1_hasChosen_J6_bitCount_0f7a4
set_option maxRecDepth 20000 in
theorem ggX1_knownPlaces_X1_knows : GoodIn wsX1_knownPlaces wsX1_knows := goodIn_r _ [5, 6, 7, 8, 9, 10, 11, 12, 13, 14, 15, 16, 17, 18, 19, 20, 21, 22, 23, 24, 25, 26, 27, 28, 29, 30, 31] (by decide +kernel) (by decide +kernel)
set_option maxRecDepth 20000 in
theorem gX1_knownPlaces_X1_knows : GoodIn wsX1_knownPlaces (wsV RX1 63 RX1 yX1_knows wsX1_knows) := goodIn_app (goodIn_of _ (by decide +kernel)) ggX1_knownPlaces_X1_knows
set_option maxRecDepth 20000 in
theorem ggX2_places_X2_at : GoodIn wsX2_places wsX2_at := goodIn_r _ [4, 5] (by decide +kernel) (by decide +kernel)
set_option maxRecDepth 20000 in
theorem gX2_places_X2_at : GoodIn wsX2_places (va_wsS RX2 15 yX2_at wsX2_at) := goodIn_app (goodIn_of _ (by decide +kernel)) ggX2_places_X2_at
set_option maxRecDepth 20000 in
theorem ggX3_init_X0_init : GoodIn wsX3_init wsX0_init := goodIn_r _ [23, 24, 2, 3, 12, 25, 26, 27, 28, 14, 29, 38, 39, 40, 41, 42, 43, 44] (by decide +kernel) (by decide +kernel)
set_option maxRecDepth 20000 in
theorem gX3_init_X0_init_n38 : GoodIn wsX3_init (wsX0_init) := ggX3_init_X0_init
set_option maxRecDepth 20000 in
theorem ggX3_ballot_X3_canBe : GoodIn wsX3_ballot wsX3_canBe := goodIn_r _ [16, 17, 18, 19, 20, 21, 22, 23, 24, 65, 66, 67, 68, 69, 70, 71, 72] (by decide +kernel) (by decide +kernel)
set_option maxRecDepth 20000 in
theorem gX3_ballot_X3_canBe : GoodIn wsX3_ballot (wsV RX3 46 RX3 yX3_canBe wsX3_canBe) := goodIn_app (goodIn_of _ (by decide +kernel)) ggX3_ballot_X3_canBe
set_option maxRecDepth 20000 in
theorem ggX3_ballot_X3_membersFrom : GoodIn wsX3_ballot wsX3_membersFrom := goodIn_r _ [28, 1, 29, 30, 31, 32, 15, 33, 10, 65, 66, 67, 68, 69, 70, 71, 72, 73, 74, 75, 76, 77, 78, 79, 80, 81, 82, 83, 84, 85, 86] (by decide +kernel) (by decide +kernel)
set_option maxRecDepth 20000 in
theorem gX3_ballot_X3_membersFrom : GoodIn wsX3_ballot (wsV RX3 53 RX3 yX3_membersFrom wsX3_membersFrom) := goodIn_app (goodIn_of _ (by decide +kernel)) ggX3_ballot_X3_membersFrom
set_option maxRecDepth 20000 in
theorem ggX3_ballot_X1_init : GoodIn wsX3_ballot wsX1_init := goodIn_r _ [36, 37, 38, 39, 40, 41, 42, 43, 44, 45, 46, 47, 48, 49, 50, 51, 52, 73, 74, 75, 76, 77, 78, 79, 80, 81, 82, 83, 84, 85, 86] (by decide +kernel) (by decide +kernel)
set_option maxRecDepth 20000 in
theorem gX3_ballot_X1_init : GoodIn wsX3_ballot (wsX1_init) := ggX3_ballot_X1_init
set_option maxRecDepth 20000 in
theorem ggX3_ballot_X0_send : GoodIn wsX3_ballot wsX0_send := goodIn_r _ [57, 58, 59, 60, 61, 62, 63, 64, 87, 88, 89, 90, 91, 92, 93] (by decide +kernel) (by decide +kernel)
set_option maxRecDepth 20000 in
theorem gX3_ballot_X0_send : GoodIn wsX3_ballot (wsV RX3 60 RX0 yX0_send wsX0_send) := goodIn_app (goodIn_of _ (by decide +kernel)) ggX3_ballot_X0_send
set_option maxRecDepth 20000 in
theorem ggX3_propose_X3_find : GoodIn wsX3_propose wsX3_find := goodIn_r _ [9, 10, 11, 62, 63, 64, 65, 66, 67, 68, 69] (by decide +kernel) (by decide +kernel)
set_option maxRecDepth 20000 in
theorem gX3_propose_X3_find : GoodIn wsX3_propose (wsV RX3 64 RX3 yX3_find wsX3_find) := goodIn_app (goodIn_of _ (by decide +kernel)) ggX3_propose_X3_find
set_option maxRecDepth 20000 in
theorem ggX3_propose_X3_isPlace : GoodIn wsX3_propose wsX3_isPlace := goodIn_r _ [14] (by decide +kernel) (by decide +kernel)
set_option maxRecDepth 20000 in
theorem gX3_propose_X3_isPlace : GoodIn wsX3_propose (va_wsS RX3 68 yX3_isPlace wsX3_isPlace) := goodIn_app (goodIn_of _ (by decide +kernel)) ggX3_propose_X3_isPlace
set_option maxRecDepth 20000 in
theorem ggX3_propose_X1_hasWord : GoodIn wsX3_propose wsX1_hasWord := goodIn_r _ [19, 20, 21, 48, 49, 50, 51, 52, 53, 54, 55, 56, 57, 58, 59, 60, 61] (by decide +kernel) (by decide +kernel)
set_option maxRecDepth 20000 in
theorem gX3_propose_X1_hasWord : GoodIn wsX3_propose (wsV RX3 75 RX1 yX1_hasWord wsX1_hasWord) := goodIn_app (goodIn_of _ (by decide +kernel)) ggX3_propose_X1_hasWord
set_option maxRecDepth 20000 in
theorem ggX3_propose_X3_sendToEach : GoodIn wsX3_propose wsX3_sendToEach := goodIn_r _ [25, 26, 27, 28, 29, 30, 31, 32, 33, 34, 35, 36, 37, 38, 39, 40, 41, 42, 43, 44, 45, 46, 47, 62, 63, 64, 65, 66, 67, 68, 69, 48, 49, 50, 51, 52, 53, 54, 55, 56, 57, 58, 59, 60, 61, 70, 71, 72, 73, 74, 75, 76] (by decide +kernel) (by decide +kernel)
set_option maxRecDepth 20000 in
theorem gX3_propose_X3_sendToEach : GoodIn wsX3_propose (wsV RX3 87 RX3 yX3_sendToEach wsX3_sendToEach) := goodIn_app (goodIn_of _ (by decide +kernel)) ggX3_propose_X3_sendToEach
set_option maxRecDepth 20000 in
theorem ggX3_again_X3_find : GoodIn wsX3_again wsX3_find := goodIn_r _ [10, 11, 12, 73, 74, 75, 76, 77, 78, 79, 80] (by decide +kernel) (by decide +kernel)
set_option maxRecDepth 20000 in
theorem gX3_again_X3_find : GoodIn wsX3_again (wsV RX3 64 RX3 yX3_find wsX3_find) := goodIn_app (goodIn_of _ (by decide +kernel)) ggX3_again_X3_find
set_option maxRecDepth 20000 in
theorem ggX3_again_X0_send : GoodIn wsX3_again wsX0_send := goodIn_r _ [17, 18, 19, 20, 21, 22, 23, 24, 81, 82, 83, 84, 85, 86, 87] (by decide +kernel) (by decide +kernel)
set_option maxRecDepth 20000 in
theorem gX3_again_X0_send : GoodIn wsX3_again (wsV RX3 60 RX0 yX0_send wsX0_send) := goodIn_app (goodIn_of _ (by decide +kernel)) ggX3_again_X0_send
set_option maxRecDepth 20000 in
theorem ggX3_again_X3_sendToEach : GoodIn wsX3_again wsX3_sendToEach := goodIn_r _ [28, 29, 2, 3, 13, 14, 15, 16, 17, 18, 19, 20, 21, 22, 23, 24, 30, 31, 32, 33, 34, 35, 36, 73, 74, 75, 76, 77, 78, 79, 80, 59, 60, 61, 62, 63, 64, 65, 66, 67, 68, 69, 70, 71, 72, 81, 82, 83, 84, 85, 86, 87] (by decide +kernel) (by decide +kernel)
set_option maxRecDepth 20000 in
theorem gX3_again_X3_sendToEach : GoodIn wsX3_again (wsV RX3 87 RX3 yX3_sendToEach wsX3_sendToEach) := goodIn_app (goodIn_of _ (by decide +kernel)) ggX3_again_X3_sendToEach
set_option maxRecDepth 20000 in
theorem ggX3_again_X3_sendMissingVotes : GoodIn wsX3_again wsX3_sendMissingVotes := goodIn_r _ [40, 41, 42, 43, 44, 45, 46, 47, 48, 49, 50, 51, 52, 53, 54, 55, 56, 9, 57, 58, 31, 32, 33, 34, 35, 36, 25, 26, 27, 28, 29, 2, 3, 13, 14, 15, 16, 17, 18, 19, 20, 21, 22, 23, 24, 30, 59, 60, 61, 62, 63, 64, 65, 66, 67, 68, 69, 70, 71, 72, 73, 74, 75, 76, 77, 78, 79, 80, 81, 82, 83, 84, 85, 86, 87] (by decide +kernel) (by decide +kernel)
set_option maxRecDepth 20000 in
theorem gX3_again_X3_sendMissingVotes : GoodIn wsX3_again (wsV RX3 100 RX3 yX3_sendMissingVotes wsX3_sendMissingVotes) := goodIn_app (goodIn_of _ (by decide +kernel)) ggX3_again_X3_sendMissingVotes
set_option maxRecDepth 20000 in
theorem ggX3_deliver_X0_has : GoodIn wsX3_deliver wsX0_has := goodIn_r _ [6, 7, 166, 167, 168, 169, 170, 171, 172] (by decide +kernel) (by decide +kernel)
set_option maxRecDepth 20000 in
theorem gX3_deliver_X0_has : GoodIn wsX3_deliver (wsV RX3 104 RX0 yX0_has wsX0_has) := goodIn_app (goodIn_of _ (by decide +kernel)) ggX3_deliver_X0_has
set_option maxRecDepth 20000 in
theorem ggX3_deliver_X3_isForSilent : GoodIn wsX3_deliver wsX3_isForSilent := goodIn_r _ [12, 1, 13, 14, 15, 158, 159, 160, 161, 162, 163, 164, 165, 166, 167, 168, 169, 170, 171, 172] (by decide +kernel) (by decide +kernel)
set_option maxRecDepth 20000 in
theorem gX3_deliver_X3_isForSilent : GoodIn wsX3_deliver (wsV RX3 107 RX3 yX3_isForSilent wsX3_isForSilent) := goodIn_app (goodIn_of _ (by decide +kernel)) ggX3_deliver_X3_isForSilent
set_option maxRecDepth 20000 in
theorem ggX3_deliver_X3_handOver : GoodIn wsX3_deliver wsX3_handOver := goodIn_r _ [19, 1, 13, 15, 20, 21, 22, 23, 24, 25, 11, 26, 27, 28, 29, 30, 31, 5, 32, 7, 33, 34, 35, 36, 37, 38, 39, 40, 41, 42, 3, 4, 6, 43, 44, 45, 46, 47, 48, 49, 50, 51, 52, 53, 54, 55, 56, 57, 58, 59, 60, 61, 62, 63, 64, 65, 66, 67, 68, 69, 70, 71, 72, 73, 74, 75, 76, 77, 78, 79, 80, 81, 82, 83, 84, 85, 86, 87, 88, 89, 90, 91, 92, 93, 94, 95, 96, 97, 98, 99, 100, 101, 102, 103, 104, 105, 106, 107, 108, 109, 110, 111, 112, 113, 114, 115, 116, 117, 118, 119, 120, 121, 122, 123, 124, 125, 126, 127, 128, 129, 130, 131, 132, 133, 134, 135, 136, 137, 138, 139, 140, 141, 142, 143, 144, 145, 146, 147, 148, 149, 150, 151, 152, 153, 154, 155, 156, 157, 158, 159, 160, 161, 162, 163, 164, 165, 166, 167, 168, 169, 170, 171, 172, 173, 174, 175, 176, 177, 178, 179, 180, 181, 182, 183, 184, 185, 186] (by decide +kernel) (by decide +kernel)
set_option maxRecDepth 20000 in
theorem gX3_deliver_X3_handOver : GoodIn wsX3_deliver (wsV RX3 110 RX3 yX3_handOver wsX3_handOver) := goodIn_app (goodIn_of _ (by decide +kernel)) ggX3_deliver_X3_handOver
set_option maxRecDepth 20000 in
theorem ggX3_settle_X3_firstDeliverable : GoodIn wsX3_settle wsX3_firstDeliverable := goodIn_r _ [5, 6, 7, 8, 9, 10, 4, 11, 12, 13, 14, 162, 163, 164, 165, 166, 167, 168, 169, 170, 171, 172, 173, 174, 175, 176] (by decide +kernel) (by decide +kernel)
set_option maxRecDepth 20000 in
theorem gX3_settle_X3_firstDeliverable : GoodIn wsX3_settle (wsV RX3 114 RX3 yX3_firstDeliverable wsX3_firstDeliverable) := goodIn_app (goodIn_of _ (by decide +kernel)) ggX3_settle_X3_firstDeliverable
set_option maxRecDepth 20000 in
theorem ggX3_settle_X3_handOver : GoodIn wsX3_settle wsX3_handOver := goodIn_r _ [18, 6, 12, 14, 19, 20, 21, 22, 23, 24, 4, 25, 26, 27, 28, 29, 30, 31, 32, 33, 34, 35, 36, 37, 38, 39, 40, 41, 42, 43, 44, 45, 46, 47, 48, 49, 50, 51, 52, 53, 54, 55, 56, 57, 58, 59, 60, 61, 62, 63, 64, 65, 66, 67, 68, 69, 70, 71, 72, 73, 74, 75, 76, 77, 78, 79, 80, 81, 82, 83, 84, 85, 86, 87, 88, 89, 90, 91, 92, 93, 94, 95, 96, 97, 98, 99, 100, 101, 102, 103, 104, 105, 106, 107, 108, 109, 110, 111, 112, 113, 114, 115, 116, 117, 118, 119, 120, 121, 122, 123, 124, 125, 126, 127, 128, 129, 130, 131, 132, 133, 134, 135, 136, 137, 138, 139, 140, 141, 142, 143, 144, 145, 146, 147, 148, 149, 150, 151, 152, 153, 154, 155, 156, 157, 158, 159, 160, 161, 162, 163, 164, 165, 166, 167, 168, 169, 170, 171, 172, 173, 174, 175, 176, 177, 178, 179, 180, 181, 182, 183, 184, 185, 186, 187, 188, 189, 190] (by decide +kernel) (by decide +kernel)
set_option maxRecDepth 20000 in
theorem gX3_settle_X3_handOver : GoodIn wsX3_settle (wsV RX3 110 RX3 yX3_handOver wsX3_handOver) := goodIn_app (goodIn_of _ (by decide +kernel)) ggX3_settle_X3_handOver
set_option maxRecDepth 20000 in
theorem ggX3_lose_X0_has : GoodIn wsX3_lose wsX0_has := goodIn_r _ [6, 7, 30, 31, 32, 33, 34, 35, 36] (by decide +kernel) (by decide +kernel)
set_option maxRecDepth 20000 in
theorem gX3_lose_X0_has : GoodIn wsX3_lose (wsV RX3 104 RX0 yX0_has wsX0_has) := goodIn_app (goodIn_of _ (by decide +kernel)) ggX3_lose_X0_has
set_option maxRecDepth 20000 in
theorem ggX3_lose_X0_drop : GoodIn wsX3_lose wsX0_drop := goodIn_r _ [11, 7, 12, 13, 14, 15, 16, 17, 18, 19, 20, 21, 3, 4, 5, 6, 30, 31, 32, 33, 34, 35, 36] (by decide +kernel) (by decide +kernel)
set_option maxRecDepth 20000 in
theorem gX3_lose_X0_drop : GoodIn wsX3_lose (wsV RX3 118 RX0 yX0_drop wsX0_drop) := goodIn_app (goodIn_of _ (by decide +kernel)) ggX3_lose_X0_drop
set_option maxRecDepth 20000 in
theorem ggX3_twice_X0_has : GoodIn wsX3_twice wsX0_has := goodIn_r _ [7, 8, 32, 33, 34, 35, 36, 37, 38] (by decide +kernel) (by decide +kernel)
set_option maxRecDepth 20000 in
theorem gX3_twice_X0_has : GoodIn wsX3_twice (wsV RX3 104 RX0 yX0_has wsX0_has) := goodIn_app (goodIn_of _ (by decide +kernel)) ggX3_twice_X0_has
set_option maxRecDepth 20000 in
theorem ggX3_twice_X0_repeat : GoodIn wsX3_twice wsX0_repeat := goodIn_r _ [12, 13, 14, 15, 16, 17, 18, 4, 5, 6, 7, 8, 19, 20, 21, 22, 23, 32, 33, 34, 35, 36, 37, 38] (by decide +kernel) (by decide +kernel)
set_option maxRecDepth 20000 in
theorem gX3_twice_X0_repeat : GoodIn wsX3_twice (wsV RX3 124 RX0 yX0_repeat wsX0_repeat) := goodIn_app (goodIn_of _ (by decide +kernel)) ggX3_twice_X0_repeat
set_option maxRecDepth 20000 in
theorem ggX3_silent_X3_isVoter : GoodIn wsX3_silent wsX3_isVoter := goodIn_r _ [6, 7, 8, 9, 10, 11, 12, 13, 14, 15] (by decide +kernel) (by decide +kernel)
set_option maxRecDepth 20000 in
theorem gX3_silent_X3_isVoter : GoodIn wsX3_silent (wsV RX3 127 RX3 yX3_isVoter wsX3_isVoter) := goodIn_app (goodIn_of _ (by decide +kernel)) ggX3_silent_X3_isVoter
set_option maxRecDepth 20000 in
theorem ggX3_promise_X3_isVoter : GoodIn wsX3_promise wsX3_isVoter := goodIn_r _ [6, 7, 8, 9, 10, 11, 12, 13, 14, 15] (by decide +kernel) (by decide +kernel)
set_option maxRecDepth 20000 in
theorem gX3_promise_X3_isVoter : GoodIn wsX3_promise (wsV RX3 127 RX3 yX3_isVoter wsX3_isVoter) := goodIn_app (goodIn_of _ (by decide +kernel)) ggX3_promise_X3_isVoter
set_option maxRecDepth 20000 in
theorem ggX3_vote_X3_isVoter : GoodIn wsX3_vote wsX3_isVoter := goodIn_r _ [6, 7, 16, 17, 18, 19, 20, 21, 22, 23] (by decide +kernel) (by decide +kernel)
set_option maxRecDepth 20000 in
theorem gX3_vote_X3_isVoter : GoodIn wsX3_vote (wsV RX3 127 RX3 yX3_isVoter wsX3_isVoter) := goodIn_app (goodIn_of _ (by decide +kernel)) ggX3_vote_X3_isVoter
set_option maxRecDepth 20000 in
theorem ggX3_vote_X3_isPlace : GoodIn wsX3_vote wsX3_isPlace := goodIn_r _ [10] (by decide +kernel) (by decide +kernel)
set_option maxRecDepth 20000 in
theorem gX3_vote_X3_isPlace : GoodIn wsX3_vote (va_wsS RX3 68 yX3_isPlace wsX3_isPlace) := goodIn_app (goodIn_of _ (by decide +kernel)) ggX3_vote_X3_isPlace
set_option maxRecDepth 20000 in
theorem ggX3_vote_X2_at : GoodIn wsX3_vote wsX2_at := goodIn_r _ [14, 15] (by decide +kernel) (by decide +kernel)
set_option maxRecDepth 20000 in
theorem gX3_vote_X2_at : GoodIn wsX3_vote (va_wsS RX3 133 yX2_at wsX2_at) := goodIn_app (goodIn_of _ (by decide +kernel)) ggX3_vote_X2_at
set_option maxRecDepth 20000 in
theorem ggX3_value_X3_isVoter : GoodIn wsX3_value wsX3_isVoter := goodIn_r _ [7, 8, 23, 24, 25, 26, 27, 28, 29, 30] (by decide +kernel) (by decide +kernel)
set_option maxRecDepth 20000 in
theorem gX3_value_X3_isVoter : GoodIn wsX3_value (wsV RX3 127 RX3 yX3_isVoter wsX3_isVoter) := goodIn_app (goodIn_of _ (by decide +kernel)) ggX3_value_X3_isVoter
set_option maxRecDepth 20000 in
theorem ggX3_value_X3_isPlace : GoodIn wsX3_value wsX3_isPlace := goodIn_r _ [11] (by decide +kernel) (by decide +kernel)
set_option maxRecDepth 20000 in
theorem gX3_value_X3_isPlace : GoodIn wsX3_value (va_wsS RX3 68 yX3_isPlace wsX3_isPlace) := goodIn_app (goodIn_of _ (by decide +kernel)) ggX3_value_X3_isPlace
set_option maxRecDepth 20000 in
theorem ggX3_value_X2_at : GoodIn wsX3_value wsX2_at := goodIn_r _ [15, 16] (by decide +kernel) (by decide +kernel)
set_option maxRecDepth 20000 in
theorem gX3_value_X2_at : GoodIn wsX3_value (va_wsS RX3 133 yX2_at wsX2_at) := goodIn_app (goodIn_of _ (by decide +kernel)) ggX3_value_X2_at
set_option maxRecDepth 20000 in
theorem ggX3_value_X3_find : GoodIn wsX3_value wsX3_find := goodIn_r _ [20, 21, 22, 23, 24, 25, 26, 27, 28, 29, 30] (by decide +kernel) (by decide +kernel)
set_option maxRecDepth 20000 in
theorem gX3_value_X3_find : GoodIn wsX3_value (wsV RX3 64 RX3 yX3_find wsX3_find) := goodIn_app (goodIn_of _ (by decide +kernel)) ggX3_value_X3_find
set_option maxRecDepth 20000 in
theorem ggX3_of_X3_find : GoodIn wsX3_of wsX3_find := goodIn_r _ [13, 14, 15, 50, 51, 52, 53, 54, 55, 56, 57] (by decide +kernel) (by decide +kernel)
set_option maxRecDepth 20000 in
theorem gX3_of_X3_find : GoodIn wsX3_of (wsV RX3 64 RX3 yX3_find wsX3_find) := goodIn_app (goodIn_of _ (by decide +kernel)) ggX3_of_X3_find
set_option maxRecDepth 20000 in
theorem ggX3_of_X1_knownPlaces : GoodIn wsX3_of wsX1_knownPlaces := goodIn_r _ [20, 21, 22, 23, 19, 24, 25, 26, 27, 12, 28, 29, 30, 31, 32, 33, 34, 35, 36, 37, 38, 39, 40, 41, 42, 43, 44, 45, 46, 47, 48, 49] (by decide +kernel) (by decide +kernel)
set_option maxRecDepth 20000 in
theorem gX3_of_X1_knownPlaces : GoodIn wsX3_of (wsV RX3 151 RX1 yX1_knownPlaces wsX1_knownPlaces) := goodIn_app (goodIn_of _ (by decide +kernel)) ggX3_of_X1_knownPlaces
set_option maxRecDepth 20000 in
theorem ggX3_answered_X3_find : GoodIn wsX3_answered wsX3_find := goodIn_r _ [6, 7, 8, 26, 27, 28, 29, 30, 31, 32, 33] (by decide +kernel) (by decide +kernel)
set_option maxRecDepth 20000 in
theorem gX3_answered_X3_find : GoodIn wsX3_answered (wsV RX3 64 RX3 yX3_find wsX3_find) := goodIn_app (goodIn_of _ (by decide +kernel)) ggX3_answered_X3_find
set_option maxRecDepth 20000 in
theorem ggX3_answered_X3_isPlace : GoodIn wsX3_answered wsX3_isPlace := goodIn_r _ [11] (by decide +kernel) (by decide +kernel)
set_option maxRecDepth 20000 in
theorem gX3_answered_X3_isPlace : GoodIn wsX3_answered (va_wsS RX3 68 yX3_isPlace wsX3_isPlace) := goodIn_app (goodIn_of _ (by decide +kernel)) ggX3_answered_X3_isPlace
set_option maxRecDepth 20000 in
theorem ggX3_said_X3_find : GoodIn wsX3_said wsX3_find := goodIn_r _ [6, 7, 8, 26, 27, 28, 29, 30, 31, 32, 33] (by decide +kernel) (by decide +kernel)
set_option maxRecDepth 20000 in
theorem gX3_said_X3_find : GoodIn wsX3_said (wsV RX3 64 RX3 yX3_find wsX3_find) := goodIn_app (goodIn_of _ (by decide +kernel)) ggX3_said_X3_find
set_option maxRecDepth 20000 in
theorem ggX3_said_X3_isPlace : GoodIn wsX3_said wsX3_isPlace := goodIn_r _ [11] (by decide +kernel) (by decide +kernel)
set_option maxRecDepth 20000 in
theorem gX3_said_X3_isPlace : GoodIn wsX3_said (va_wsS RX3 68 yX3_isPlace wsX3_isPlace) := goodIn_app (goodIn_of _ (by decide +kernel)) ggX3_said_X3_isPlace
set_option maxRecDepth 20000 in
theorem ggX3_chosen_X3_firstThatChose : GoodIn wsX3_chosen wsX3_firstThatChose := goodIn_r _ [6, 7, 8, 9, 5, 10, 11, 12, 13, 14, 15, 16, 17, 18, 19, 20, 21, 22, 23, 24, 25, 26, 27, 28, 29, 44, 45, 46, 47, 48, 49, 50, 51, 30, 31, 32, 33, 34, 35, 36, 37, 38, 39, 40, 41, 42, 43] (by decide +kernel) (by decide +kernel)
set_option maxRecDepth 20000 in
theorem gX3_chosen_X3_firstThatChose : GoodIn wsX3_chosen (wsV RX3 157 RX3 yX3_firstThatChose wsX3_firstThatChose) := goodIn_app (goodIn_of _ (by decide +kernel)) ggX3_chosen_X3_firstThatChose
set_option maxRecDepth 20000 in
theorem ggX3_chosenValue_X3_firstThatChose : GoodIn wsX3_chosenValue wsX3_firstThatChose := goodIn_r _ [6, 7, 8, 9, 5, 10, 11, 12, 13, 14, 15, 16, 17, 18, 19, 20, 21, 22, 23, 24, 25, 26, 27, 28, 29, 44, 45, 46, 47, 48, 49, 50, 51, 30, 31, 32, 33, 34, 35, 36, 37, 38, 39, 40, 41, 42, 43] (by decide +kernel) (by decide +kernel)
set_option maxRecDepth 20000 in
theorem gX3_chosenValue_X3_firstThatChose : GoodIn wsX3_chosenValue (wsV RX3 157 RX3 yX3_firstThatChose wsX3_firstThatChose) := goodIn_app (goodIn_of _ (by decide +kernel)) ggX3_chosenValue_X3_firstThatChose
set_option maxRecDepth 20000 in
theorem ggX3_chosenValue_X3_isPlace : GoodIn wsX3_chosenValue wsX3_isPlace := goodIn_r _ [10] (by decide +kernel) (by decide +kernel)
set_option maxRecDepth 20000 in
theorem gX3_chosenValue_X3_isPlace : GoodIn wsX3_chosenValue (va_wsS RX3 68 yX3_isPlace wsX3_isPlace) := goodIn_app (goodIn_of _ (by decide +kernel)) ggX3_chosenValue_X3_isPlace
set_option maxRecDepth 20000 in
theorem ggX3_isOne_X3_firstThatChose : GoodIn wsX3_isOne wsX3_firstThatChose := goodIn_r _ [8, 2, 9, 10, 7, 11, 12, 13, 14, 15, 16, 17, 18, 19, 20, 21, 22, 23, 24, 25, 26, 27, 28, 29, 30, 45, 46, 47, 48, 49, 50, 51, 52, 31, 32, 33, 34, 35, 36, 37, 38, 39, 40, 41, 42, 43, 44] (by decide +kernel) (by decide +kernel)
set_option maxRecDepth 20000 in
theorem gX3_isOne_X3_firstThatChose : GoodIn wsX3_isOne (wsV RX3 157 RX3 yX3_firstThatChose wsX3_firstThatChose) := goodIn_app (goodIn_of _ (by decide +kernel)) ggX3_isOne_X3_firstThatChose
set_option maxRecDepth 20000 in
theorem ggX3_isOne_X3_isPlace : GoodIn wsX3_isOne wsX3_isPlace := goodIn_r _ [11] (by decide +kernel) (by decide +kernel)
set_option maxRecDepth 20000 in
theorem gX3_isOne_X3_isPlace : GoodIn wsX3_isOne (va_wsS RX3 68 yX3_isPlace wsX3_isPlace) := goodIn_app (goodIn_of _ (by decide +kernel)) ggX3_isOne_X3_isPlace
set_option maxRecDepth 20000 in
theorem ggX3_isOne_X3_find : GoodIn wsX3_isOne wsX3_find := goodIn_r _ [15, 2, 16, 45, 46, 47, 48, 49, 50, 51, 52] (by decide +kernel) (by decide +kernel)
set_option maxRecDepth 20000 in
theorem gX3_isOne_X3_find : GoodIn wsX3_isOne (wsV RX3 64 RX3 yX3_find wsX3_find) := goodIn_app (goodIn_of _ (by decide +kernel)) ggX3_isOne_X3_find
set_option maxRecDepth 20000 in
theorem ggX3_isOne_X1_hasChosen : GoodIn wsX3_isOne wsX1_hasChosen := goodIn_r _ [21, 22, 23, 10, 7, 11, 24, 25, 26, 27, 28, 29, 30, 31, 32, 33, 34, 35, 36, 37, 38, 39, 40, 41, 42, 43, 44] (by decide +kernel) (by decide +kernel)
set_option maxRecDepth 20000 in
theorem gX3_isOne_X1_hasChosen : GoodIn wsX3_isOne (wsV RX3 160 RX1 yX1_hasChosen wsX1_hasChosen) := goodIn_app (goodIn_of _ (by decide +kernel)) ggX3_isOne_X1_hasChosen
set_option maxRecDepth 20000 in
theorem ggX3_air_X0_has : GoodIn wsX3_air wsX0_has := goodIn_r _ [11, 12, 29, 30, 31, 32, 33, 34, 35] (by decide +kernel) (by decide +kernel)
set_option maxRecDepth 20000 in
theorem gX3_air_X0_has : GoodIn wsX3_air (wsV RX3 104 RX0 yX0_has wsX0_has) := goodIn_app (goodIn_of _ (by decide +kernel)) ggX3_air_X0_has
set_option maxRecDepth 20000 in
theorem ggX3_air_X2_places : GoodIn wsX3_air wsX2_places := goodIn_r _ [16, 17, 18, 15, 19, 20] (by decide +kernel) (by decide +kernel)
set_option maxRecDepth 20000 in
theorem gX3_air_X2_places : GoodIn wsX3_air (va_wsS RX3 176 yX2_places wsX2_places) := goodIn_app (goodIn_of _ (by decide +kernel)) ggX3_air_X2_places
set_option maxRecDepth 20000 in
theorem ggX3_canBe_J6_bitCount_0f7a4 : GoodIn wsX3_canBe wsJ6_bitCount_0f7a4 := goodIn_r _ [5, 6, 7, 8] (by decide +kernel) (by decide +kernel)
set_option maxRecDepth 20000 in
theorem gX3_canBe_J6_bitCount_0f7a4 : GoodIn wsX3_canBe (va_wsS RX3 183 yJ6_bitCount_0f7a4 wsJ6_bitCount_0f7a4) := goodIn_app (goodIn_of _ (by decide +kernel)) ggX3_canBe_J6_bitCount_0f7a4
set_option maxRecDepth 20000 in
theorem ggX3_membersFrom_X3_find : GoodIn wsX3_membersFrom wsX3_find := goodIn_r _ [7, 1, 8, 9, 10, 11, 12, 13, 14, 15, 16] (by decide +kernel) (by decide +kernel)
set_option maxRecDepth 20000 in
theorem gX3_membersFrom_X3_find : GoodIn wsX3_membersFrom (wsV RX3 64 RX3 yX3_find wsX3_find) := goodIn_app (goodIn_of _ (by decide +kernel)) ggX3_membersFrom_X3_find
set_option maxRecDepth 20000 in
theorem ggX3_firstThatChose_X3_isPlace : GoodIn wsX3_firstThatChose wsX3_isPlace := goodIn_r _ [5] (by decide +kernel) (by decide +kernel)
set_option maxRecDepth 20000 in
theorem gX3_firstThatChose_X3_isPlace : GoodIn wsX3_firstThatChose (va_wsS RX3 68 yX3_isPlace wsX3_isPlace) := goodIn_app (goodIn_of _ (by decide +kernel)) ggX3_firstThatChose_X3_isPlace
set_option maxRecDepth 20000 in
theorem ggX3_firstThatChose_X3_find : GoodIn wsX3_firstThatChose wsX3_find := goodIn_r _ [9, 1, 10, 25, 26, 27, 28, 29, 30, 31, 32] (by decide +kernel) (by decide +kernel)
set_option maxRecDepth 20000 in
theorem gX3_firstThatChose_X3_find : GoodIn wsX3_firstThatChose (wsV RX3 64 RX3 yX3_find wsX3_find) := goodIn_app (goodIn_of _ (by decide +kernel)) ggX3_firstThatChose_X3_find
set_option maxRecDepth 20000 in
theorem ggX3_firstThatChose_X1_hasChosen : GoodIn wsX3_firstThatChose wsX1_hasChosen := goodIn_r _ [15, 16, 17, 3, 4, 5, 18, 19, 20, 21, 22, 23, 24, 33, 34, 35, 36, 37, 38, 39, 40, 41, 42, 43, 44, 45, 46] (by decide +kernel) (by decide +kernel)
set_option maxRecDepth 20000 in
theorem gX3_firstThatChose_X1_hasChosen : GoodIn wsX3_firstThatChose (wsV RX3 160 RX1 yX1_hasChosen wsX1_hasChosen) := goodIn_app (goodIn_of _ (by decide +kernel)) ggX3_firstThatChose_X1_hasChosen
set_option maxRecDepth 20000 in
theorem ggX3_sendToEach_X0_send : GoodIn wsX3_sendToEach wsX0_send := goodIn_r _ [8, 9, 10, 11, 12, 13, 14, 15, 45, 46, 47, 48, 49, 50, 51] (by decide +kernel) (by decide +kernel)
set_option maxRecDepth 20000 in
theorem gX3_sendToEach_X0_send : GoodIn wsX3_sendToEach (wsV RX3 60 RX0 yX0_send wsX0_send) := goodIn_app (goodIn_of _ (by decide +kernel)) ggX3_sendToEach_X0_send
set_option maxRecDepth 20000 in
theorem ggX3_sendToEach_J6_bitCount_0f7a4 : GoodIn wsX3_sendToEach wsJ6_bitCount_0f7a4 := goodIn_r _ [19, 20, 21, 22] (by decide +kernel) (by decide +kernel)
set_option maxRecDepth 20000 in
theorem gX3_sendToEach_J6_bitCount_0f7a4 : GoodIn wsX3_sendToEach (va_wsS RX3 183 yJ6_bitCount_0f7a4 wsJ6_bitCount_0f7a4) := goodIn_app (goodIn_of _ (by decide +kernel)) ggX3_sendToEach_J6_bitCount_0f7a4
set_option maxRecDepth 20000 in
theorem ggX3_sendMissingVotes_X1_hasWord : GoodIn wsX3_sendMissingVotes wsX1_hasWord := goodIn_r _ [7, 8, 9, 46, 47, 48, 49, 50, 51, 52, 53, 54, 55, 56, 57, 58, 59] (by decide +kernel) (by decide +kernel)
set_option maxRecDepth 20000 in
theorem gX3_sendMissingVotes_X1_hasWord : GoodIn wsX3_sendMissingVotes (wsV RX3 75 RX1 yX1_hasWord wsX1_hasWord) := goodIn_app (goodIn_of _ (by decide +kernel)) ggX3_sendMissingVotes_X1_hasWord
set_option maxRecDepth 20000 in
theorem ggX3_sendMissingVotes_X1_knows : GoodIn wsX3_sendMissingVotes wsX1_knows := goodIn_r _ [13, 14, 15, 16, 17, 18, 19, 20, 21, 22, 23, 24, 25, 46, 47, 48, 49, 50, 51, 52, 53, 54, 55, 56, 57, 58, 59] (by decide +kernel) (by decide +kernel)
set_option maxRecDepth 20000 in
theorem gX3_sendMissingVotes_X1_knows : GoodIn wsX3_sendMissingVotes (wsV RX3 188 RX1 yX1_knows wsX1_knows) := goodIn_app (goodIn_of _ (by decide +kernel)) ggX3_sendMissingVotes_X1_knows
set_option maxRecDepth 20000 in
theorem ggX3_sendMissingVotes_X3_sendToEach : GoodIn wsX3_sendMissingVotes wsX3_sendToEach := goodIn_r _ [29, 30, 31, 32, 33, 34, 35, 36, 37, 38, 39, 40, 41, 42, 43, 44, 45, 20, 21, 22, 23, 24, 25, 60, 61, 62, 63, 64, 65, 66, 67, 46, 47, 48, 49, 50, 51, 52, 53, 54, 55, 56, 57, 58, 59, 68, 69, 70, 71, 72, 73, 74] (by decide +kernel) (by decide +kernel)
set_option maxRecDepth 20000 in
theorem gX3_sendMissingVotes_X3_sendToEach : GoodIn wsX3_sendMissingVotes (wsV RX3 87 RX3 yX3_sendToEach wsX3_sendToEach) := goodIn_app (goodIn_of _ (by decide +kernel)) ggX3_sendMissingVotes_X3_sendToEach
set_option maxRecDepth 20000 in
theorem ggX3_firstDeliverable_X3_isForSilent : GoodIn wsX3_firstDeliverable wsX3_isForSilent := goodIn_r _ [7, 1, 8, 9, 10, 11, 12, 13, 14, 15, 16, 17, 18, 19, 20, 21, 22, 23, 24, 25] (by decide +kernel) (by decide +kernel)
set_option maxRecDepth 20000 in
theorem gX3_firstDeliverable_X3_isForSilent : GoodIn wsX3_firstDeliverable (wsV RX3 107 RX3 yX3_isForSilent wsX3_isForSilent) := goodIn_app (goodIn_of _ (by decide +kernel)) ggX3_firstDeliverable_X3_isForSilent
set_option maxRecDepth 20000 in
theorem ggX3_handOver_X3_find : GoodIn wsX3_handOver wsX3_find := goodIn_r _ [11, 12, 13, 148, 149, 150, 151, 152, 153, 154, 155] (by decide +kernel) (by decide +kernel)
set_option maxRecDepth 20000 in
theorem gX3_handOver_X3_find : GoodIn wsX3_handOver (wsV RX3 64 RX3 yX3_find wsX3_find) := goodIn_app (goodIn_of _ (by decide +kernel)) ggX3_handOver_X3_find
set_option maxRecDepth 20000 in
theorem ggX3_handOver_X0_drop : GoodIn wsX3_handOver wsX0_drop := goodIn_r _ [18, 19, 20, 21, 22, 23, 24, 25, 26, 27, 28, 29, 30, 31, 17, 32, 156, 157, 158, 159, 160, 161, 162] (by decide +kernel) (by decide +kernel)
set_option maxRecDepth 20000 in
theorem gX3_handOver_X0_drop : GoodIn wsX3_handOver (wsV RX3 118 RX0 yX0_drop wsX0_drop) := goodIn_app (goodIn_of _ (by decide +kernel)) ggX3_handOver_X0_drop
set_option maxRecDepth 20000 in
theorem ggX3_handOver_X3_newComes : GoodIn wsX3_handOver wsX3_newComes := goodIn_r _ [36, 37, 38, 39, 40, 41, 10, 42, 43, 1, 44, 45, 46, 47, 17, 48, 19, 49, 20, 25, 26, 27, 28, 50, 51, 52, 53, 54, 55, 56, 57, 58, 59, 60, 61, 62, 63, 64, 65, 66, 67, 68, 69, 70, 71, 72, 73, 7, 8, 9, 11, 12, 13, 74, 75, 76, 77, 78, 79, 80, 81, 82, 83, 84, 85, 86, 87, 88, 89, 90, 91, 92, 93, 94, 95, 96, 97, 98, 99, 163, 164, 165, 166, 167, 168, 169, 170, 171, 172, 173, 174, 175, 176, 148, 149, 150, 151, 152, 153, 154, 155, 156, 157, 158, 159, 160, 161, 162] (by decide +kernel) (by decide +kernel)
set_option maxRecDepth 20000 in
theorem gX3_handOver_X3_newComes : GoodIn wsX3_handOver (wsV RX3 191 RX3 yX3_newComes wsX3_newComes) := goodIn_app (goodIn_of _ (by decide +kernel)) ggX3_handOver_X3_newComes
set_option maxRecDepth 20000 in
theorem ggX3_handOver_X3_readComes : GoodIn wsX3_handOver wsX3_readComes := goodIn_r _ [103, 104, 44, 1, 105, 106, 107, 108, 10, 109, 43, 45, 46, 47, 17, 48, 19, 49, 20, 25, 26, 27, 28, 148, 149, 150, 151, 152, 153, 154, 155, 163, 164, 165, 166, 167, 168, 169, 170, 171, 172, 173, 174, 175, 176, 156, 157, 158, 159, 160, 161, 162] (by decide +kernel) (by decide +kernel)
set_option maxRecDepth 20000 in
theorem gX3_handOver_X3_readComes : GoodIn wsX3_handOver (wsV RX3 195 RX3 yX3_readComes wsX3_readComes) := goodIn_app (goodIn_of _ (by decide +kernel)) ggX3_handOver_X3_readComes
set_option maxRecDepth 20000 in
theorem ggX3_handOver_X3_readAnswerComes : GoodIn wsX3_handOver wsX3_readAnswerComes := goodIn_r _ [113, 37, 72, 114, 115, 116, 10, 117, 44, 118, 61, 119, 120, 121, 122, 123, 124, 7, 8, 9, 11, 12, 13, 57, 58, 59, 60, 1, 62, 63, 64, 65, 66, 67, 68, 69, 70, 71, 73, 50, 51, 52, 53, 54, 55, 56, 74, 75, 76, 77, 78, 79, 80, 81, 82, 83, 84, 85, 86, 87, 88, 89, 90, 91, 92, 93, 94, 39, 40, 41, 42, 43, 45, 46, 47, 17, 48, 19, 49, 20, 25, 26, 27, 28, 95, 96, 97, 98, 99, 163, 164, 165, 166, 167, 168, 169, 170, 171, 172, 173, 174, 175, 176, 148, 149, 150, 151, 152, 153, 154, 155, 156, 157, 158, 159, 160, 161, 162] (by decide +kernel) (by decide +kernel)
set_option maxRecDepth 20000 in
theorem gX3_handOver_X3_readAnswerComes : GoodIn wsX3_handOver (wsV RX3 199 RX3 yX3_readAnswerComes wsX3_readAnswerComes) := goodIn_app (goodIn_of _ (by decide +kernel)) ggX3_handOver_X3_readAnswerComes
set_option maxRecDepth 20000 in
theorem ggX3_handOver_X3_voteComes : GoodIn wsX3_handOver wsX3_voteComes := goodIn_r _ [128, 104, 44, 105, 129, 1, 106, 107, 108, 10, 109, 43, 130, 92, 93, 131, 132, 122, 133, 124, 134, 45, 46, 47, 17, 48, 19, 49, 20, 25, 26, 27, 28, 148, 149, 150, 151, 152, 153, 154, 155, 163, 164, 165, 166, 167, 168, 169, 170, 171, 172, 173, 174, 175, 176, 156, 157, 158, 159, 160, 161, 162] (by decide +kernel) (by decide +kernel)
set_option maxRecDepth 20000 in
theorem gX3_handOver_X3_voteComes : GoodIn wsX3_handOver (wsV RX3 203 RX3 yX3_voteComes wsX3_voteComes) := goodIn_app (goodIn_of _ (by decide +kernel)) ggX3_handOver_X3_voteComes
set_option maxRecDepth 20000 in
theorem ggX3_handOver_X3_voteAnswerComes : GoodIn wsX3_handOver wsX3_voteAnswerComes := goodIn_r _ [138, 37, 78, 130, 92, 10, 93, 57, 58, 59, 60, 61, 1, 44, 62, 63, 64, 65, 66, 67, 68, 69, 70, 71, 72, 73, 7, 8, 9, 11, 12, 13, 50, 51, 52, 53, 54, 55, 56, 74, 75, 76, 77, 79, 80, 81, 82, 83, 84, 85, 86, 87, 88, 89, 90, 91, 94, 39, 40, 41, 42, 43, 45, 46, 47, 17, 48, 19, 49, 20, 25, 26, 27, 28, 95, 96, 97, 98, 99, 163, 164, 165, 166, 167, 168, 169, 170, 171, 172, 173, 174, 175, 176, 148, 149, 150, 151, 152, 153, 154, 155, 156, 157, 158, 159, 160, 161, 162] (by decide +kernel) (by decide +kernel)
set_option maxRecDepth 20000 in
theorem gX3_handOver_X3_voteAnswerComes : GoodIn wsX3_handOver (wsV RX3 207 RX3 yX3_voteAnswerComes wsX3_voteAnswerComes) := goodIn_app (goodIn_of _ (by decide +kernel)) ggX3_handOver_X3_voteAnswerComes
set_option maxRecDepth 20000 in
theorem ggX3_handOver_X3_completeComes : GoodIn wsX3_handOver wsX3_completeComes := goodIn_r _ [142, 143, 66, 44, 1, 45, 46, 47, 17, 48, 19, 49, 20, 25, 26, 27, 28, 148, 149, 150, 151, 152, 153, 154, 155, 163, 164, 165, 166, 167, 168, 169, 170, 171, 172, 173, 174, 175, 176, 156, 157, 158, 159, 160, 161, 162] (by decide +kernel) (by decide +kernel)
set_option maxRecDepth 20000 in
theorem gX3_handOver_X3_completeComes : GoodIn wsX3_handOver (wsV RX3 210 RX3 yX3_completeComes wsX3_completeComes) := goodIn_app (goodIn_of _ (by decide +kernel)) ggX3_handOver_X3_completeComes
set_option maxRecDepth 20000 in
theorem ggX3_handOver_X3_activeComes : GoodIn wsX3_handOver wsX3_activeComes := goodIn_r _ [147, 37, 163, 164, 165, 166, 167, 168, 169, 170, 171, 172, 173, 174, 175, 176] (by decide +kernel) (by decide +kernel)
set_option maxRecDepth 20000 in
theorem gX3_handOver_X3_activeComes : GoodIn wsX3_handOver (wsV RX3 213 RX3 yX3_activeComes wsX3_activeComes) := goodIn_app (goodIn_of _ (by decide +kernel)) ggX3_handOver_X3_activeComes
set_option maxRecDepth 20000 in
theorem ggX3_newComes_X3_sendToEach : GoodIn wsX3_newComes wsX3_sendToEach := goodIn_r _ [7, 8, 9, 10, 11, 12, 13, 14, 15, 16, 17, 18, 19, 20, 21, 22, 23, 24, 25, 26, 27, 28, 29, 93, 94, 95, 96, 97, 98, 99, 100, 79, 80, 81, 82, 83, 84, 85, 86, 87, 88, 89, 90, 91, 92, 101, 102, 103, 104, 105, 106, 107] (by decide +kernel) (by decide +kernel)
set_option maxRecDepth 20000 in
theorem gX3_newComes_X3_sendToEach : GoodIn wsX3_newComes (wsV RX3 87 RX3 yX3_sendToEach wsX3_sendToEach) := goodIn_app (goodIn_of _ (by decide +kernel)) ggX3_newComes_X3_sendToEach
set_option maxRecDepth 20000 in
theorem ggX3_newComes_X3_goOn : GoodIn wsX3_newComes wsX3_goOn := goodIn_r _ [33, 1, 34, 9, 10, 35, 36, 37, 6, 38, 39, 40, 41, 42, 43, 44, 45, 46, 47, 48, 49, 50, 51, 52, 23, 24, 25, 26, 27, 28, 29, 53, 54, 55, 56, 57, 58, 59, 60, 61, 62, 63, 64, 65, 66, 67, 68, 69, 70, 71, 72, 73, 3, 4, 5, 7, 8, 11, 12, 13, 14, 15, 16, 17, 18, 19, 20, 21, 22, 74, 75, 76, 77, 78, 79, 80, 81, 82, 83, 84, 85, 86, 87, 88, 89, 90, 91, 92, 93, 94, 95, 96, 97, 98, 99, 100, 101, 102, 103, 104, 105, 106, 107] (by decide +kernel) (by decide +kernel)
set_option maxRecDepth 20000 in
theorem gX3_newComes_X3_goOn : GoodIn wsX3_newComes (wsV RX3 216 RX3 yX3_goOn wsX3_goOn) := goodIn_app (goodIn_of _ (by decide +kernel)) ggX3_newComes_X3_goOn
set_option maxRecDepth 20000 in
theorem ggX3_readComes_X3_isVoter : GoodIn wsX3_readComes wsX3_isVoter := goodIn_r _ [9, 10, 23, 24, 25, 26, 27, 28, 29, 30] (by decide +kernel) (by decide +kernel)
set_option maxRecDepth 20000 in
theorem gX3_readComes_X3_isVoter : GoodIn wsX3_readComes (wsV RX3 127 RX3 yX3_isVoter wsX3_isVoter) := goodIn_app (goodIn_of _ (by decide +kernel)) ggX3_readComes_X3_isVoter
set_option maxRecDepth 20000 in
theorem ggX3_readComes_X0_send : GoodIn wsX3_readComes wsX0_send := goodIn_r _ [15, 16, 17, 18, 19, 20, 21, 22, 45, 46, 47, 48, 49, 50, 51] (by decide +kernel) (by decide +kernel)
set_option maxRecDepth 20000 in
theorem gX3_readComes_X0_send : GoodIn wsX3_readComes (wsV RX3 60 RX0 yX0_send wsX0_send) := goodIn_app (goodIn_of _ (by decide +kernel)) ggX3_readComes_X0_send
set_option maxRecDepth 20000 in
theorem ggX3_readAnswerComes_X3_takeFound : GoodIn wsX3_readAnswerComes wsX3_takeFound := goodIn_r _ [7, 8, 9, 10, 11, 12, 13, 14, 15, 16, 17, 18, 19, 6, 20, 21, 22, 89, 90, 91, 92, 93, 94, 95, 96, 97, 98, 99, 100, 101, 102, 103, 104, 105, 106, 107, 108, 109, 110] (by decide +kernel) (by decide +kernel)
set_option maxRecDepth 20000 in
theorem gX3_readAnswerComes_X3_takeFound : GoodIn wsX3_readAnswerComes (wsV RX3 219 RX3 yX3_takeFound wsX3_takeFound) := goodIn_app (goodIn_of _ (by decide +kernel)) ggX3_readAnswerComes_X3_takeFound
set_option maxRecDepth 20000 in
theorem ggX3_readAnswerComes_X3_goOn : GoodIn wsX3_readAnswerComes wsX3_goOn := goodIn_r _ [26, 1, 10, 27, 8, 28, 29, 30, 6, 31, 32, 33, 34, 35, 36, 37, 2, 38, 17, 18, 19, 20, 21, 22, 39, 40, 41, 42, 43, 44, 45, 46, 47, 48, 49, 50, 51, 52, 53, 54, 55, 56, 57, 58, 59, 60, 61, 62, 63, 64, 65, 66, 67, 68, 69, 70, 71, 72, 73, 74, 75, 76, 77, 78, 79, 80, 81, 82, 83, 84, 85, 86, 87, 88, 89, 90, 91, 92, 93, 94, 95, 96, 97, 98, 99, 100, 101, 102, 103, 104, 105, 106, 107, 108, 109, 110, 111, 112, 113, 114, 115, 116, 117] (by decide +kernel) (by decide +kernel)
set_option maxRecDepth 20000 in
theorem gX3_readAnswerComes_X3_goOn : GoodIn wsX3_readAnswerComes (wsV RX3 216 RX3 yX3_goOn wsX3_goOn) := goodIn_app (goodIn_of _ (by decide +kernel)) ggX3_readAnswerComes_X3_goOn
set_option maxRecDepth 20000 in
theorem ggX3_takeFound_X2_at : GoodIn wsX3_takeFound wsX2_at := goodIn_r _ [8, 9] (by decide +kernel) (by decide +kernel)
set_option maxRecDepth 20000 in
theorem gX3_takeFound_X2_at : GoodIn wsX3_takeFound (va_wsS RX3 133 yX2_at wsX2_at) := goodIn_app (goodIn_of _ (by decide +kernel)) ggX3_takeFound_X2_at
set_option maxRecDepth 20000 in
theorem ggX3_takeFound_X3_find : GoodIn wsX3_takeFound wsX3_find := goodIn_r _ [14, 15, 16, 31, 32, 33, 34, 35, 36, 37, 38] (by decide +kernel) (by decide +kernel)
set_option maxRecDepth 20000 in
theorem gX3_takeFound_X3_find : GoodIn wsX3_takeFound (wsV RX3 64 RX3 yX3_find wsX3_find) := goodIn_app (goodIn_of _ (by decide +kernel)) ggX3_takeFound_X3_find
set_option maxRecDepth 20000 in
theorem ggX3_voteComes_X3_isVoter : GoodIn wsX3_voteComes wsX3_isVoter := goodIn_r _ [10, 11, 33, 34, 35, 36, 37, 38, 39, 40] (by decide +kernel) (by decide +kernel)
set_option maxRecDepth 20000 in
theorem gX3_voteComes_X3_isVoter : GoodIn wsX3_voteComes (wsV RX3 127 RX3 yX3_isVoter wsX3_isVoter) := goodIn_app (goodIn_of _ (by decide +kernel)) ggX3_voteComes_X3_isVoter
set_option maxRecDepth 20000 in
theorem ggX3_voteComes_X3_isPlace : GoodIn wsX3_voteComes wsX3_isPlace := goodIn_r _ [14] (by decide +kernel) (by decide +kernel)
set_option maxRecDepth 20000 in
theorem gX3_voteComes_X3_isPlace : GoodIn wsX3_voteComes (va_wsS RX3 68 yX3_isPlace wsX3_isPlace) := goodIn_app (goodIn_of _ (by decide +kernel)) ggX3_voteComes_X3_isPlace
set_option maxRecDepth 20000 in
theorem ggX3_voteComes_X2_with : GoodIn wsX3_voteComes wsX2_with := goodIn_r _ [18, 19, 20] (by decide +kernel) (by decide +kernel)
set_option maxRecDepth 20000 in
theorem gX3_voteComes_X2_with : GoodIn wsX3_voteComes (va_wsS RX3 226 yX2_with wsX2_with) := goodIn_app (goodIn_of _ (by decide +kernel)) ggX3_voteComes_X2_with
set_option maxRecDepth 20000 in
theorem ggX3_voteComes_X0_send : GoodIn wsX3_voteComes wsX0_send := goodIn_r _ [25, 26, 27, 28, 29, 30, 31, 32, 55, 56, 57, 58, 59, 60, 61] (by decide +kernel) (by decide +kernel)
set_option maxRecDepth 20000 in
theorem gX3_voteComes_X0_send : GoodIn wsX3_voteComes (wsV RX3 60 RX0 yX0_send wsX0_send) := goodIn_app (goodIn_of _ (by decide +kernel)) ggX3_voteComes_X0_send
set_option maxRecDepth 20000 in
theorem ggX3_voteAnswerComes_X3_isPlace : GoodIn wsX3_voteAnswerComes wsX3_isPlace := goodIn_r _ [6] (by decide +kernel) (by decide +kernel)
set_option maxRecDepth 20000 in
theorem gX3_voteAnswerComes_X3_isPlace : GoodIn wsX3_voteAnswerComes (va_wsS RX3 68 yX3_isPlace wsX3_isPlace) := goodIn_app (goodIn_of _ (by decide +kernel)) ggX3_voteAnswerComes_X3_isPlace
set_option maxRecDepth 20000 in
theorem ggX3_voteAnswerComes_X3_goOn : GoodIn wsX3_voteAnswerComes wsX3_goOn := goodIn_r _ [10, 1, 11, 12, 13, 14, 15, 16, 5, 17, 18, 19, 20, 21, 22, 23, 24, 25, 26, 27, 28, 29, 30, 31, 32, 33, 34, 35, 36, 37, 38, 39, 40, 41, 42, 2, 43, 44, 45, 46, 47, 48, 49, 50, 51, 52, 53, 54, 55, 4, 6, 56, 57, 58, 59, 60, 61, 62, 63, 64, 65, 66, 67, 68, 69, 70, 71, 72, 73, 74, 75, 76, 77, 78, 79, 80, 81, 82, 83, 84, 85, 86, 87, 88, 89, 90, 91, 92, 93, 94, 95, 96, 97, 98, 99, 100, 101, 102, 103, 104, 105, 106, 107] (by decide +kernel) (by decide +kernel)
set_option maxRecDepth 20000 in
theorem gX3_voteAnswerComes_X3_goOn : GoodIn wsX3_voteAnswerComes (wsV RX3 216 RX3 yX3_goOn wsX3_goOn) := goodIn_app (goodIn_of _ (by decide +kernel)) ggX3_voteAnswerComes_X3_goOn
set_option maxRecDepth 20000 in
theorem ggX3_completeComes_X0_send : GoodIn wsX3_completeComes wsX0_send := goodIn_r _ [9, 10, 11, 12, 13, 14, 15, 16, 39, 40, 41, 42, 43, 44, 45] (by decide +kernel) (by decide +kernel)
set_option maxRecDepth 20000 in
theorem gX3_completeComes_X0_send : GoodIn wsX3_completeComes (wsV RX3 60 RX0 yX0_send wsX0_send) := goodIn_app (goodIn_of _ (by decide +kernel)) ggX3_completeComes_X0_send
set_option maxRecDepth 20000 in
theorem ggX3_goOn_X3_isReadingOver : GoodIn wsX3_goOn wsX3_isReadingOver := goodIn_r _ [9, 10, 11, 12, 13, 14, 4, 15, 16, 17, 18, 19, 20, 8, 21, 22, 23, 24, 25, 26, 27, 28, 29, 30, 74, 75, 76, 77, 78, 79, 80, 81, 82, 83, 84, 85, 86, 87, 88, 89, 90, 91, 92, 93, 94, 95] (by decide +kernel) (by decide +kernel)
set_option maxRecDepth 20000 in
theorem gX3_goOn_X3_isReadingOver : GoodIn wsX3_goOn (wsV RX3 233 RX3 yX3_isReadingOver wsX3_isReadingOver) := goodIn_app (goodIn_of _ (by decide +kernel)) ggX3_goOn_X3_isReadingOver
set_option maxRecDepth 20000 in
theorem ggX3_goOn_X3_sendMissingVotes : GoodIn wsX3_goOn wsX3_sendMissingVotes := goodIn_r _ [34, 15, 35, 36, 37, 38, 39, 40, 41, 42, 43, 44, 45, 46, 47, 48, 49, 8, 50, 51, 25, 26, 27, 28, 29, 30, 52, 53, 54, 55, 56, 3, 4, 57, 58, 59, 60, 61, 62, 63, 64, 65, 66, 67, 68, 24, 74, 75, 76, 77, 78, 79, 80, 81, 82, 83, 84, 85, 86, 87, 88, 89, 90, 91, 92, 93, 94, 95, 96, 97, 98, 99, 100, 101, 102] (by decide +kernel) (by decide +kernel)
set_option maxRecDepth 20000 in
theorem gX3_goOn_X3_sendMissingVotes : GoodIn wsX3_goOn (wsV RX3 100 RX3 yX3_sendMissingVotes wsX3_sendMissingVotes) := goodIn_app (goodIn_of _ (by decide +kernel)) ggX3_goOn_X3_sendMissingVotes
set_option maxRecDepth 20000 in
theorem ggX3_goOn_X1_knownPlaces : GoodIn wsX3_goOn wsX1_knownPlaces := goodIn_r _ [72, 73, 44, 45, 39, 46, 47, 48, 49, 8, 50, 51, 25, 26, 27, 28, 29, 30, 74, 75, 76, 77, 78, 79, 80, 81, 82, 83, 84, 85, 86, 87] (by decide +kernel) (by decide +kernel)
set_option maxRecDepth 20000 in
theorem gX3_goOn_X1_knownPlaces : GoodIn wsX3_goOn (wsV RX3 151 RX1 yX1_knownPlaces wsX1_knownPlaces) := goodIn_app (goodIn_of _ (by decide +kernel)) ggX3_goOn_X1_knownPlaces
set_option maxRecDepth 20000 in
theorem ggX3_goOn_X0_send : GoodIn wsX3_goOn wsX0_send := goodIn_r _ [61, 62, 63, 64, 65, 66, 67, 68, 96, 97, 98, 99, 100, 101, 102] (by decide +kernel) (by decide +kernel)
set_option maxRecDepth 20000 in
theorem gX3_goOn_X0_send : GoodIn wsX3_goOn (wsV RX3 60 RX0 yX0_send wsX0_send) := goodIn_app (goodIn_of _ (by decide +kernel)) ggX3_goOn_X0_send
set_option maxRecDepth 20000 in
theorem ggX3_isReadingOver_X3_find : GoodIn wsX3_isReadingOver wsX3_find := goodIn_r _ [14, 15, 16, 38, 39, 40, 41, 42, 43, 44, 45] (by decide +kernel) (by decide +kernel)
set_option maxRecDepth 20000 in
theorem gX3_isReadingOver_X3_find : GoodIn wsX3_isReadingOver (wsV RX3 64 RX3 yX3_find wsX3_find) := goodIn_app (goodIn_of _ (by decide +kernel)) ggX3_isReadingOver_X3_find
set_option maxRecDepth 20000 in
theorem ggX3_isReadingOver_J6_bitCount_0f7a4 : GoodIn wsX3_isReadingOver wsJ6_bitCount_0f7a4 := goodIn_r _ [20, 21, 22, 23] (by decide +kernel) (by decide +kernel)
set_option maxRecDepth 20000 in
theorem gX3_isReadingOver_J6_bitCount_0f7a4 : GoodIn wsX3_isReadingOver (va_wsS RX3 183 yJ6_bitCount_0f7a4 wsJ6_bitCount_0f7a4) := goodIn_app (goodIn_of _ (by decide +kernel)) ggX3_isReadingOver_J6_bitCount_0f7a4
set_option maxRecDepth 20000 in
theorem ggX4_take_X4_copy : GoodIn wsX4_take wsX4_copy := goodIn_r _ [6, 7, 8, 9, 10, 11, 12, 13, 14, 15, 16, 17, 18, 19, 20, 21, 22, 23, 24, 25, 26, 27, 28, 29, 30, 31, 32, 33, 34, 35, 36, 37, 38, 39, 40, 41, 42, 43, 44] (by decide +kernel) (by decide +kernel)
set_option maxRecDepth 20000 in
theorem gX4_take_X4_copy : GoodIn wsX4_take (wsV RX4 103 RX4 yX4_copy wsX4_copy) := goodIn_app (goodIn_of _ (by decide +kernel)) ggX4_take_X4_copy
set_option maxRecDepth 20000 in
theorem ggX4_ballot_X4_many : GoodIn wsX4_ballot wsX4_many := goodIn_r _ [11] (by decide +kernel) (by decide +kernel)
set_option maxRecDepth 20000 in
theorem gX4_ballot_X4_many : GoodIn wsX4_ballot (va_wsS RX4 107 yX4_many wsX4_many) := goodIn_app (goodIn_of _ (by decide +kernel)) ggX4_ballot_X4_many
set_option maxRecDepth 20000 in
theorem ggX4_ballot_X4_put : GoodIn wsX4_ballot wsX4_put := goodIn_r _ [15, 16, 17, 18, 19, 20, 21, 22, 23, 24, 25, 26, 27, 28, 29, 30, 31, 32, 33, 34, 35, 36, 37, 38, 39, 40, 41, 42, 43, 44, 45, 46, 47, 48, 49, 50, 51, 52, 53, 54, 55, 56, 57] (by decide +kernel) (by decide +kernel)
set_option maxRecDepth 20000 in
theorem gX4_ballot_X4_put : GoodIn wsX4_ballot (wsV RX4 114 RX4 yX4_put wsX4_put) := goodIn_app (goodIn_of _ (by decide +kernel)) ggX4_ballot_X4_put
set_option maxRecDepth 20000 in
theorem ggX4_asked_X4_firstRead : GoodIn wsX4_asked wsX4_firstRead := goodIn_r _ [6, 7, 8, 9, 10, 11, 12, 13, 14, 15, 16, 17, 18, 19, 20, 21, 22, 23, 24, 25, 26, 27, 28, 29, 30, 31, 32, 33, 34, 35, 36, 37, 38] (by decide +kernel) (by decide +kernel)
set_option maxRecDepth 20000 in
theorem gX4_asked_X4_firstRead : GoodIn wsX4_asked (wsV RX4 118 RX4 yX4_firstRead wsX4_firstRead) := goodIn_app (goodIn_of _ (by decide +kernel)) ggX4_asked_X4_firstRead
set_option maxRecDepth 20000 in
theorem ggX4_sendReads_X4_asked : GoodIn wsX4_sendReads wsX4_asked := goodIn_r _ [7, 8, 9, 10, 11, 6, 12, 13, 29, 30, 31, 32, 33, 34, 35, 36, 37, 38, 39, 40, 41, 42, 43, 44, 45, 46, 47, 48, 49, 50, 51, 52, 53, 54, 55, 56, 57, 58, 59] (by decide +kernel) (by decide +kernel)
set_option maxRecDepth 20000 in
theorem gX4_sendReads_X4_asked : GoodIn wsX4_sendReads (wsV RX4 121 RX4 yX4_asked wsX4_asked) := goodIn_app (goodIn_of _ (by decide +kernel)) ggX4_sendReads_X4_asked
set_option maxRecDepth 20000 in
theorem ggX4_sendReads_X4_put : GoodIn wsX4_sendReads wsX4_put := goodIn_r _ [17, 18, 19, 20, 21, 22, 23, 24, 25, 26, 27, 28, 29, 30, 31, 32, 33, 34, 35, 36, 37, 38, 39, 40, 41, 42, 43, 44, 45, 46, 47, 48, 49, 50, 51, 52, 53, 54, 55, 56, 57, 58, 59] (by decide +kernel) (by decide +kernel)
set_option maxRecDepth 20000 in
theorem gX4_sendReads_X4_put : GoodIn wsX4_sendReads (wsV RX4 114 RX4 yX4_put wsX4_put) := goodIn_app (goodIn_of _ (by decide +kernel)) ggX4_sendReads_X4_put
set_option maxRecDepth 20000 in
theorem ggX4_sendVotes_X4_put : GoodIn wsX4_sendVotes wsX4_put := goodIn_r _ [9, 10, 11, 12, 13, 14, 15, 16, 17, 18, 19, 20, 21, 22, 23, 24, 25, 26, 27, 28, 29, 30, 31, 32, 33, 34, 35, 36, 37, 38, 39, 40, 41, 42, 43, 44, 45, 46, 47, 48, 49, 50, 51] (by decide +kernel) (by decide +kernel)
set_option maxRecDepth 20000 in
theorem gX4_sendVotes_X4_put : GoodIn wsX4_sendVotes (wsV RX4 114 RX4 yX4_put wsX4_put) := goodIn_app (goodIn_of _ (by decide +kernel)) ggX4_sendVotes_X4_put
set_option maxRecDepth 20000 in
theorem ggX4_isRead_X4_firstRead : GoodIn wsX4_isRead wsX4_firstRead := goodIn_r _ [8, 9, 13, 14, 15, 16, 17, 18, 19, 20, 21, 22, 23, 24, 25, 26, 27, 28, 29, 30, 31, 32, 33, 34, 35, 36, 37, 38, 39, 40, 41, 42, 43] (by decide +kernel) (by decide +kernel)
set_option maxRecDepth 20000 in
theorem gX4_isRead_X4_firstRead : GoodIn wsX4_isRead (wsV RX4 118 RX4 yX4_firstRead wsX4_firstRead) := goodIn_app (goodIn_of _ (by decide +kernel)) ggX4_isRead_X4_firstRead
set_option maxRecDepth 20000 in
theorem ggX4_isRead_X4_many : GoodIn wsX4_isRead wsX4_many := goodIn_r _ [12] (by decide +kernel) (by decide +kernel)
set_option maxRecDepth 20000 in
theorem gX4_isRead_X4_many : GoodIn wsX4_isRead (va_wsS RX4 107 yX4_many wsX4_many) := goodIn_app (goodIn_of _ (by decide +kernel)) ggX4_isRead_X4_many
set_option maxRecDepth 20000 in
theorem ggX4_beginReading_X4_sendReads : GoodIn wsX4_beginReading wsX4_sendReads := goodIn_r _ [6, 7, 8, 9, 10, 11, 5, 12, 13, 14, 15, 16, 17, 18, 19, 20, 21, 22, 23, 24, 25, 26, 27, 28, 29, 30, 31, 32, 33, 62, 63, 64, 65, 66, 67, 68, 69, 70, 71, 72, 73, 74, 75, 76, 77, 78, 79, 80, 81, 82, 83, 84, 85, 86, 87, 88, 89, 90, 91, 92] (by decide +kernel) (by decide +kernel)
set_option maxRecDepth 20000 in
theorem gX4_beginReading_X4_sendReads : GoodIn wsX4_beginReading (wsV RX4 124 RX4 yX4_sendReads wsX4_sendReads) := goodIn_app (goodIn_of _ (by decide +kernel)) ggX4_beginReading_X4_sendReads
set_option maxRecDepth 20000 in
theorem ggX4_beginReading_X4_isRead : GoodIn wsX4_beginReading wsX4_isRead := goodIn_r _ [37, 8, 13, 38, 14, 15, 16, 5, 17, 18, 39, 40, 41, 62, 63, 64, 65, 66, 67, 68, 69, 70, 71, 72, 73, 74, 75, 76, 77, 78, 79, 80, 81, 82, 83, 84, 85, 86, 87, 88, 89, 90, 91, 92] (by decide +kernel) (by decide +kernel)
set_option maxRecDepth 20000 in
theorem gX4_beginReading_X4_isRead : GoodIn wsX4_beginReading (wsV RX4 127 RX4 yX4_isRead wsX4_isRead) := goodIn_app (goodIn_of _ (by decide +kernel)) ggX4_beginReading_X4_isRead
set_option maxRecDepth 20000 in
theorem ggX4_beginReading_X4_beginMoving : GoodIn wsX4_beginReading wsX4_beginMoving := goodIn_r _ [45, 1, 46, 47, 48, 49, 5, 50, 7, 13, 51, 52, 19, 20, 21, 22, 23, 24, 25, 26, 27, 28, 29, 30, 31, 32, 33, 53, 54, 55, 56, 57, 58, 59, 60, 61, 62, 63, 64, 65, 66, 67, 68, 69, 70, 71, 72, 73, 74, 75, 76, 77, 78, 79, 80, 81, 82, 83, 84, 85, 86, 87, 88, 89, 90, 91, 92] (by decide +kernel) (by decide +kernel)
set_option maxRecDepth 20000 in
theorem gX4_beginReading_X4_beginMoving : GoodIn wsX4_beginReading (wsV RX4 131 RX4 yX4_beginMoving wsX4_beginMoving) := goodIn_app (goodIn_of _ (by decide +kernel)) ggX4_beginReading_X4_beginMoving
set_option maxRecDepth 20000 in
theorem ggX4_beginMoving_X4_sendVotes : GoodIn wsX4_beginMoving wsX4_sendVotes := goodIn_r _ [7, 8, 9, 10, 11, 12, 13, 14, 6, 15, 16, 17, 18, 19, 20, 21, 22, 23, 24, 25, 26, 36, 37, 38, 39, 40, 41, 42, 43, 44, 45, 46, 47, 48, 49, 50, 51, 52, 53, 54, 55, 56, 57, 58, 59, 60, 61, 62, 63, 64, 65, 66] (by decide +kernel) (by decide +kernel)
set_option maxRecDepth 20000 in
theorem gX4_beginMoving_X4_sendVotes : GoodIn wsX4_beginMoving (wsV RX4 135 RX4 yX4_sendVotes wsX4_sendVotes) := goodIn_app (goodIn_of _ (by decide +kernel)) ggX4_beginMoving_X4_sendVotes
set_option maxRecDepth 20000 in
theorem ggX4_beginMoving_X4_isMoved : GoodIn wsX4_beginMoving wsX4_isMoved := goodIn_r _ [30, 2, 31, 36, 37, 38, 39, 40, 41, 42, 43, 44, 45, 46, 47, 48, 49, 50, 51, 52, 53, 54, 55, 56, 57, 58, 59, 60, 61, 62, 63, 64, 65, 66] (by decide +kernel) (by decide +kernel)
set_option maxRecDepth 20000 in
theorem gX4_beginMoving_X4_isMoved : GoodIn wsX4_beginMoving (wsV RX4 139 RX4 yX4_isMoved wsX4_isMoved) := goodIn_app (goodIn_of _ (by decide +kernel)) ggX4_beginMoving_X4_isMoved
set_option maxRecDepth 20000 in
theorem ggX4_beginMoving_X4_beginAsking : GoodIn wsX4_beginMoving wsX4_beginAsking := goodIn_r _ [35, 1, 12, 13, 14, 6, 15, 16, 17, 18, 19, 20, 21, 22, 23, 24, 25, 26, 36, 37, 38, 39, 40, 41, 42, 43, 44, 45, 46, 47, 48, 49, 50, 51, 52, 53, 54, 55, 56, 57, 58, 59, 60, 61, 62, 63, 64, 65, 66] (by decide +kernel) (by decide +kernel)
set_option maxRecDepth 20000 in
theorem gX4_beginMoving_X4_beginAsking : GoodIn wsX4_beginMoving (wsV RX4 142 RX4 yX4_beginAsking wsX4_beginAsking) := goodIn_app (goodIn_of _ (by decide +kernel)) ggX4_beginMoving_X4_beginAsking
set_option maxRecDepth 20000 in
theorem ggX4_beginAsking_X4_put : GoodIn wsX4_beginAsking wsX4_put := goodIn_r _ [6, 7, 8, 9, 10, 11, 12, 13, 14, 15, 16, 17, 18, 19, 20, 21, 22, 23, 24, 25, 26, 27, 28, 29, 30, 31, 32, 33, 34, 35, 36, 37, 38, 39, 40, 41, 42, 43, 44, 45, 46, 47, 48] (by decide +kernel) (by decide +kernel)
set_option maxRecDepth 20000 in
theorem gX4_beginAsking_X4_put : GoodIn wsX4_beginAsking (wsV RX4 114 RX4 yX4_put wsX4_put) := goodIn_app (goodIn_of _ (by decide +kernel)) ggX4_beginAsking_X4_put
set_option maxRecDepth 20000 in
theorem ggX4_propose_X4_isBallot : GoodIn wsX4_propose wsX4_isBallot := goodIn_r _ [9, 10, 36, 37, 38, 39, 40, 41, 42, 43, 44, 45, 46, 47, 48, 49, 50, 51, 52, 53, 54, 55, 56, 57, 58, 59, 60, 61, 62, 63, 64, 65, 66] (by decide +kernel) (by decide +kernel)
set_option maxRecDepth 20000 in
theorem gX4_propose_X4_isBallot : GoodIn wsX4_propose (wsV RX4 145 RX4 yX4_isBallot wsX4_isBallot) := goodIn_app (goodIn_of _ (by decide +kernel)) ggX4_propose_X4_isBallot
set_option maxRecDepth 20000 in
theorem ggX4_propose_X4_isPlace : GoodIn wsX4_propose wsX4_isPlace := goodIn_r _ [13] (by decide +kernel) (by decide +kernel)
set_option maxRecDepth 20000 in
theorem gX4_propose_X4_isPlace : GoodIn wsX4_propose (va_wsS RX4 148 yX4_isPlace wsX4_isPlace) := goodIn_app (goodIn_of _ (by decide +kernel)) ggX4_propose_X4_isPlace
set_option maxRecDepth 20000 in
theorem ggX4_propose_X4_sendVotes : GoodIn wsX4_propose wsX4_sendVotes := goodIn_r _ [17, 18, 19, 20, 4, 21, 22, 23, 8, 24, 25, 26, 27, 28, 29, 30, 31, 32, 33, 34, 35, 36, 37, 38, 39, 40, 41, 42, 43, 44, 45, 46, 47, 48, 49, 50, 51, 52, 53, 54, 55, 56, 57, 58, 59, 60, 61, 62, 63, 64, 65, 66] (by decide +kernel) (by decide +kernel)
set_option maxRecDepth 20000 in
theorem gX4_propose_X4_sendVotes : GoodIn wsX4_propose (wsV RX4 135 RX4 yX4_sendVotes wsX4_sendVotes) := goodIn_app (goodIn_of _ (by decide +kernel)) ggX4_propose_X4_sendVotes
set_option maxRecDepth 20000 in
theorem ggX4_again_X4_isBallot : GoodIn wsX4_again wsX4_isBallot := goodIn_r _ [9, 10, 48, 49, 50, 51, 52, 53, 54, 55, 56, 57, 58, 59, 60, 61, 62, 63, 64, 65, 66, 67, 68, 69, 70, 71, 72, 73, 74, 75, 76, 77, 78] (by decide +kernel) (by decide +kernel)
set_option maxRecDepth 20000 in
theorem gX4_again_X4_isBallot : GoodIn wsX4_again (wsV RX4 145 RX4 yX4_isBallot wsX4_isBallot) := goodIn_app (goodIn_of _ (by decide +kernel)) ggX4_again_X4_isBallot
set_option maxRecDepth 20000 in
theorem ggX4_again_X4_put : GoodIn wsX4_again wsX4_put := goodIn_r _ [14, 15, 16, 17, 18, 19, 20, 21, 22, 23, 24, 25, 48, 49, 50, 51, 52, 53, 54, 55, 56, 57, 58, 59, 60, 61, 62, 63, 64, 65, 66, 67, 68, 69, 70, 71, 72, 73, 74, 75, 76, 77, 78] (by decide +kernel) (by decide +kernel)
set_option maxRecDepth 20000 in
theorem gX4_again_X4_put : GoodIn wsX4_again (wsV RX4 114 RX4 yX4_put wsX4_put) := goodIn_app (goodIn_of _ (by decide +kernel)) ggX4_again_X4_put
set_option maxRecDepth 20000 in
theorem ggX4_again_X4_sendReads : GoodIn wsX4_again wsX4_sendReads := goodIn_r _ [29, 30, 31, 32, 33, 34, 8, 35, 36, 37, 38, 39, 40, 41, 11, 12, 13, 14, 15, 16, 17, 18, 19, 20, 21, 22, 23, 24, 25, 48, 49, 50, 51, 52, 53, 54, 55, 56, 57, 58, 59, 60, 61, 62, 63, 64, 65, 66, 67, 68, 69, 70, 71, 72, 73, 74, 75, 76, 77, 78] (by decide +kernel) (by decide +kernel)
set_option maxRecDepth 20000 in
theorem gX4_again_X4_sendReads : GoodIn wsX4_again (wsV RX4 124 RX4 yX4_sendReads wsX4_sendReads) := goodIn_app (goodIn_of _ (by decide +kernel)) ggX4_again_X4_sendReads
set_option maxRecDepth 20000 in
theorem ggX4_again_X4_sendVotes : GoodIn wsX4_again wsX4_sendVotes := goodIn_r _ [45, 30, 36, 46, 47, 11, 12, 13, 8, 14, 15, 16, 17, 18, 19, 20, 21, 22, 23, 24, 25, 48, 49, 50, 51, 52, 53, 54, 55, 56, 57, 58, 59, 60, 61, 62, 63, 64, 65, 66, 67, 68, 69, 70, 71, 72, 73, 74, 75, 76, 77, 78] (by decide +kernel) (by decide +kernel)
set_option maxRecDepth 20000 in
theorem gX4_again_X4_sendVotes : GoodIn wsX4_again (wsV RX4 135 RX4 yX4_sendVotes wsX4_sendVotes) := goodIn_app (goodIn_of _ (by decide +kernel)) ggX4_again_X4_sendVotes
set_option maxRecDepth 20000 in
theorem ggX4_comesRead_X4_put : GoodIn wsX4_comesRead wsX4_put := goodIn_r _ [6, 7, 8, 9, 10, 11, 12, 13, 14, 15, 16, 17, 18, 19, 20, 21, 22, 23, 24, 25, 26, 27, 28, 29, 30, 31, 32, 33, 34, 35, 36, 37, 38, 39, 40, 41, 42, 43, 44, 45, 46, 47, 48] (by decide +kernel) (by decide +kernel)
set_option maxRecDepth 20000 in
theorem gX4_comesRead_X4_put : GoodIn wsX4_comesRead (wsV RX4 114 RX4 yX4_put wsX4_put) := goodIn_app (goodIn_of _ (by decide +kernel)) ggX4_comesRead_X4_put
set_option maxRecDepth 20000 in
theorem ggX4_comesVote_X4_put : GoodIn wsX4_comesVote wsX4_put := goodIn_r _ [9, 10, 11, 12, 13, 14, 15, 16, 17, 2, 18, 3, 19, 20, 21, 22, 23, 24, 25, 26, 27, 28, 29, 30, 31, 32, 33, 34, 35, 36, 37, 38, 39, 40, 41, 42, 43, 44, 45, 46, 47, 48, 49] (by decide +kernel) (by decide +kernel)
set_option maxRecDepth 20000 in
theorem gX4_comesVote_X4_put : GoodIn wsX4_comesVote (wsV RX4 114 RX4 yX4_put wsX4_put) := goodIn_app (goodIn_of _ (by decide +kernel)) ggX4_comesVote_X4_put
set_option maxRecDepth 20000 in
theorem ggX4_comesReadAnswer_X4_isRead : GoodIn wsX4_comesReadAnswer wsX4_isRead := goodIn_r _ [12, 2, 13, 14, 15, 16, 17, 11, 18, 19, 20, 21, 22, 57, 58, 59, 60, 61, 62, 63, 64, 65, 66, 67, 68, 69, 70, 71, 72, 73, 74, 75, 76, 77, 78, 79, 80, 81, 82, 83, 84, 85, 86, 87] (by decide +kernel) (by decide +kernel)
set_option maxRecDepth 20000 in
theorem gX4_comesReadAnswer_X4_isRead : GoodIn wsX4_comesReadAnswer (wsV RX4 127 RX4 yX4_isRead wsX4_isRead) := goodIn_app (goodIn_of _ (by decide +kernel)) ggX4_comesReadAnswer_X4_isRead
set_option maxRecDepth 20000 in
theorem ggX4_comesReadAnswer_X4_beginMoving : GoodIn wsX4_comesReadAnswer wsX4_beginMoving := goodIn_r _ [26, 1, 7, 27, 28, 29, 11, 30, 31, 13, 32, 5, 33, 34, 35, 36, 37, 38, 39, 40, 41, 42, 43, 44, 45, 46, 47, 48, 49, 50, 51, 52, 53, 54, 55, 56, 57, 58, 59, 60, 61, 62, 63, 64, 65, 66, 67, 68, 69, 70, 71, 72, 73, 74, 75, 76, 77, 78, 79, 80, 81, 82, 83, 84, 85, 86, 87] (by decide +kernel) (by decide +kernel)
set_option maxRecDepth 20000 in
theorem gX4_comesReadAnswer_X4_beginMoving : GoodIn wsX4_comesReadAnswer (wsV RX4 131 RX4 yX4_beginMoving wsX4_beginMoving) := goodIn_app (goodIn_of _ (by decide +kernel)) ggX4_comesReadAnswer_X4_beginMoving
set_option maxRecDepth 20000 in
theorem ggX4_comesVoteAnswer_X4_many : GoodIn wsX4_comesVoteAnswer wsX4_many := goodIn_r _ [8] (by decide +kernel) (by decide +kernel)
set_option maxRecDepth 20000 in
theorem gX4_comesVoteAnswer_X4_many : GoodIn wsX4_comesVoteAnswer (va_wsS RX4 107 yX4_many wsX4_many) := goodIn_app (goodIn_of _ (by decide +kernel)) ggX4_comesVoteAnswer_X4_many
set_option maxRecDepth 20000 in
theorem ggX4_comesVoteAnswer_X4_isMoved : GoodIn wsX4_comesVoteAnswer wsX4_isMoved := goodIn_r _ [12, 13, 4, 33, 34, 35, 36, 37, 38, 39, 40, 41, 42, 43, 44, 45, 46, 47, 48, 49, 50, 51, 52, 53, 54, 55, 56, 57, 58, 59, 60, 61, 62, 63] (by decide +kernel) (by decide +kernel)
set_option maxRecDepth 20000 in
theorem gX4_comesVoteAnswer_X4_isMoved : GoodIn wsX4_comesVoteAnswer (wsV RX4 139 RX4 yX4_isMoved wsX4_isMoved) := goodIn_app (goodIn_of _ (by decide +kernel)) ggX4_comesVoteAnswer_X4_isMoved
set_option maxRecDepth 20000 in
theorem ggX4_comesVoteAnswer_X4_beginAsking : GoodIn wsX4_comesVoteAnswer wsX4_beginAsking := goodIn_r _ [17, 1, 18, 19, 20, 7, 21, 22, 23, 24, 25, 26, 27, 28, 29, 30, 31, 32, 33, 34, 35, 36, 37, 38, 39, 40, 41, 42, 43, 44, 45, 46, 47, 48, 49, 50, 51, 52, 53, 54, 55, 56, 57, 58, 59, 60, 61, 62, 63] (by decide +kernel) (by decide +kernel)
set_option maxRecDepth 20000 in
theorem gX4_comesVoteAnswer_X4_beginAsking : GoodIn wsX4_comesVoteAnswer (wsV RX4 142 RX4 yX4_beginAsking wsX4_beginAsking) := goodIn_app (goodIn_of _ (by decide +kernel)) ggX4_comesVoteAnswer_X4_beginAsking
set_option maxRecDepth 20000 in
theorem ggX4_deliver_X4_canBe : GoodIn wsX4_deliver wsX4_canBe := goodIn_r _ [18, 2, 19, 4, 102, 103, 104, 105, 106, 107, 108, 109, 110, 111, 112, 113, 114, 115, 116, 117, 118, 119, 120, 121, 122, 123, 124, 125, 126, 127, 128, 129, 130, 131, 132] (by decide +kernel) (by decide +kernel)
set_option maxRecDepth 20000 in
theorem gX4_deliver_X4_canBe : GoodIn wsX4_deliver (wsV RX4 151 RX4 yX4_canBe wsX4_canBe) := goodIn_app (goodIn_of _ (by decide +kernel)) ggX4_deliver_X4_canBe
set_option maxRecDepth 20000 in
theorem ggX4_deliver_X4_take : GoodIn wsX4_deliver wsX4_take := goodIn_r _ [23, 1, 24, 25, 26, 17, 27, 2, 3, 4, 5, 6, 8, 10, 102, 103, 104, 105, 106, 107, 108, 109, 110, 111, 112, 113, 114, 115, 116, 117, 118, 119, 120, 121, 122, 123, 124, 125, 126, 127, 128, 129, 130, 131, 132] (by decide +kernel) (by decide +kernel)
set_option maxRecDepth 20000 in
theorem gX4_deliver_X4_take : GoodIn wsX4_deliver (wsV RX4 154 RX4 yX4_take wsX4_take) := goodIn_app (goodIn_of _ (by decide +kernel)) ggX4_deliver_X4_take
set_option maxRecDepth 20000 in
theorem ggX4_deliver_X4_beginReading : GoodIn wsX4_deliver wsX4_beginReading := goodIn_r _ [31, 11, 32, 33, 34, 17, 35, 36, 37, 38, 39, 40, 41, 42, 43, 44, 45, 46, 13, 47, 48, 49, 50, 1, 51, 2, 3, 4, 5, 6, 8, 52, 10, 53, 54, 55, 56, 57, 58, 59, 60, 61, 62, 63, 64, 65, 66, 67, 68, 69, 70, 71, 72, 73, 74, 75, 76, 77, 78, 79, 80, 81, 102, 103, 104, 105, 106, 107, 108, 109, 110, 111, 112, 113, 114, 115, 116, 117, 118, 119, 120, 121, 122, 123, 124, 125, 126, 127, 128, 129, 130, 131, 132] (by decide +kernel) (by decide +kernel)
set_option maxRecDepth 20000 in
theorem gX4_deliver_X4_beginReading : GoodIn wsX4_deliver (wsV RX4 157 RX4 yX4_beginReading wsX4_beginReading) := goodIn_app (goodIn_of _ (by decide +kernel)) ggX4_deliver_X4_beginReading
set_option maxRecDepth 20000 in
theorem ggX4_deliver_X4_comesRead : GoodIn wsX4_deliver wsX4_comesRead := goodIn_r _ [85, 86, 47, 48, 49, 17, 50, 1, 51, 2, 3, 4, 5, 6, 8, 52, 10, 53, 102, 103, 104, 105, 106, 107, 108, 109, 110, 111, 112, 113, 114, 115, 116, 117, 118, 119, 120, 121, 122, 123, 124, 125, 126, 127, 128, 129, 130, 131, 132] (by decide +kernel) (by decide +kernel)
set_option maxRecDepth 20000 in
theorem gX4_deliver_X4_comesRead : GoodIn wsX4_deliver (wsV RX4 160 RX4 yX4_comesRead wsX4_comesRead) := goodIn_app (goodIn_of _ (by decide +kernel)) ggX4_deliver_X4_comesRead
set_option maxRecDepth 20000 in
theorem ggX4_deliver_X4_comesReadAnswer : GoodIn wsX4_deliver wsX4_comesReadAnswer := goodIn_r _ [90, 11, 37, 7, 91, 72, 9, 66, 54, 55, 56, 17, 57, 42, 58, 43, 44, 45, 46, 13, 59, 60, 61, 62, 63, 64, 65, 67, 68, 69, 70, 36, 71, 47, 48, 49, 50, 1, 51, 2, 3, 4, 5, 6, 8, 52, 10, 53, 73, 74, 75, 76, 77, 78, 79, 80, 81, 102, 103, 104, 105, 106, 107, 108, 109, 110, 111, 112, 113, 114, 115, 116, 117, 118, 119, 120, 121, 122, 123, 124, 125, 126, 127, 128, 129, 130, 131, 132] (by decide +kernel) (by decide +kernel)
set_option maxRecDepth 20000 in
theorem gX4_deliver_X4_comesReadAnswer : GoodIn wsX4_deliver (wsV RX4 163 RX4 yX4_comesReadAnswer wsX4_comesReadAnswer) := goodIn_app (goodIn_of _ (by decide +kernel)) ggX4_deliver_X4_comesReadAnswer
set_option maxRecDepth 20000 in
theorem ggX4_deliver_X4_comesVote : GoodIn wsX4_deliver wsX4_comesVote := goodIn_r _ [95, 86, 52, 53, 96, 47, 48, 49, 17, 50, 1, 51, 2, 3, 4, 5, 6, 8, 10, 102, 103, 104, 105, 106, 107, 108, 109, 110, 111, 112, 113, 114, 115, 116, 117, 118, 119, 120, 121, 122, 123, 124, 125, 126, 127, 128, 129, 130, 131, 132] (by decide +kernel) (by decide +kernel)
set_option maxRecDepth 20000 in
theorem gX4_deliver_X4_comesVote : GoodIn wsX4_deliver (wsV RX4 166 RX4 yX4_comesVote wsX4_comesVote) := goodIn_app (goodIn_of _ (by decide +kernel)) ggX4_deliver_X4_comesVote
set_option maxRecDepth 20000 in
theorem ggX4_deliver_X4_comesVoteAnswer : GoodIn wsX4_deliver wsX4_comesVoteAnswer := goodIn_r _ [100, 11, 71, 101, 77, 59, 60, 17, 61, 73, 74, 75, 76, 66, 78, 79, 80, 81, 47, 48, 49, 50, 1, 51, 2, 3, 4, 5, 6, 8, 52, 10, 53, 102, 103, 104, 105, 106, 107, 108, 109, 110, 111, 112, 113, 114, 115, 116, 117, 118, 119, 120, 121, 122, 123, 124, 125, 126, 127, 128, 129, 130, 131, 132] (by decide +kernel) (by decide +kernel)
set_option maxRecDepth 20000 in
theorem gX4_deliver_X4_comesVoteAnswer : GoodIn wsX4_deliver (wsV RX4 170 RX4 yX4_comesVoteAnswer wsX4_comesVoteAnswer) := goodIn_app (goodIn_of _ (by decide +kernel)) ggX4_deliver_X4_comesVoteAnswer
set_option maxRecDepth 20000 in
theorem ggX4_deliver_X4_put : GoodIn wsX4_deliver wsX4_put := goodIn_r _ [50, 1, 51, 2, 3, 4, 5, 6, 8, 52, 10, 53, 102, 103, 104, 105, 106, 107, 108, 109, 110, 111, 112, 113, 114, 115, 116, 117, 118, 119, 120, 121, 122, 123, 124, 125, 126, 127, 128, 129, 130, 131, 132] (by decide +kernel) (by decide +kernel)
set_option maxRecDepth 20000 in
theorem gX4_deliver_X4_put : GoodIn wsX4_deliver (wsV RX4 114 RX4 yX4_put wsX4_put) := goodIn_app (goodIn_of _ (by decide +kernel)) ggX4_deliver_X4_put
set_option maxRecDepth 20000 in
theorem ggX4_settle_X4_canBe : GoodIn wsX4_settle wsX4_canBe := goodIn_r _ [6, 7, 8, 9, 106, 107, 108, 109, 110, 111, 112, 113, 114, 115, 116, 117, 118, 119, 120, 121, 122, 123, 124, 125, 126, 127, 128, 129, 130, 131, 132, 133, 134, 135, 136] (by decide +kernel) (by decide +kernel)
set_option maxRecDepth 20000 in
theorem gX4_settle_X4_canBe : GoodIn wsX4_settle (wsV RX4 151 RX4 yX4_canBe wsX4_canBe) := goodIn_app (goodIn_of _ (by decide +kernel)) ggX4_settle_X4_canBe
set_option maxRecDepth 20000 in
theorem ggX4_settle_X4_deliver : GoodIn wsX4_settle wsX4_deliver := goodIn_r _ [13, 1, 7, 14, 9, 15, 16, 17, 18, 19, 20, 21, 22, 23, 2, 3, 4, 5, 6, 8, 24, 25, 26, 27, 28, 29, 30, 31, 32, 33, 34, 35, 36, 37, 38, 39, 40, 41, 42, 43, 44, 45, 46, 47, 48, 49, 50, 51, 52, 53, 54, 55, 56, 57, 58, 59, 60, 61, 62, 63, 64, 65, 66, 67, 68, 69, 70, 71, 72, 73, 74, 75, 76, 77, 78, 79, 80, 81, 82, 83, 84, 85, 86, 87, 88, 89, 90, 91, 92, 93, 94, 95, 96, 97, 98, 99, 100, 101, 102, 103, 104, 105, 106, 107, 108, 109, 110, 111, 112, 113, 114, 115, 116, 117, 118, 119, 120, 121, 122, 123, 124, 125, 126, 127, 128, 129, 130, 131, 132, 133, 134, 135, 136] (by decide +kernel) (by decide +kernel)
set_option maxRecDepth 20000 in
theorem gX4_settle_X4_deliver : GoodIn wsX4_settle (wsV RX4 174 RX4 yX4_deliver wsX4_deliver) := goodIn_app (goodIn_of _ (by decide +kernel)) ggX4_settle_X4_deliver
set_option maxRecDepth 20000 in
theorem ggX4_lose_X4_take : GoodIn wsX4_lose wsX4_take := goodIn_r _ [6, 1, 7, 8, 9, 5, 10, 11, 12, 13, 14, 15, 16, 17, 18, 19, 20, 21, 22, 23, 24, 25, 26, 27, 28, 29, 30, 31, 32, 33, 34, 35, 36, 37, 38, 39, 40, 41, 42, 43, 44, 45, 46, 47, 48] (by decide +kernel) (by decide +kernel)
set_option maxRecDepth 20000 in
theorem gX4_lose_X4_take : GoodIn wsX4_lose (wsV RX4 154 RX4 yX4_take wsX4_take) := goodIn_app (goodIn_of _ (by decide +kernel)) ggX4_lose_X4_take
set_option maxRecDepth 20000 in
theorem ggX4_twice_X4_copy : GoodIn wsX4_twice wsX4_copy := goodIn_r _ [6, 7, 8, 9, 10, 11, 12, 13, 14, 15, 16, 17, 18, 19, 20, 21, 22, 23, 24, 25, 26, 27, 28, 29, 30, 31, 32, 33, 34, 35, 36, 37, 38, 39, 40, 41, 42, 43, 44] (by decide +kernel) (by decide +kernel)
set_option maxRecDepth 20000 in
theorem gX4_twice_X4_copy : GoodIn wsX4_twice (wsV RX4 103 RX4 yX4_copy wsX4_copy) := goodIn_app (goodIn_of _ (by decide +kernel)) ggX4_twice_X4_copy
set_option maxRecDepth 20000 in
theorem ggX4_silent_X4_isVoter : GoodIn wsX4_silent wsX4_isVoter := goodIn_r _ [6, 7, 8, 9, 10, 11, 12, 13, 14, 15, 16, 17, 18, 19, 20, 21, 22, 23, 24, 25, 26, 27, 28, 29, 30, 31, 32, 33, 34, 35, 36, 37, 38] (by decide +kernel) (by decide +kernel)
set_option maxRecDepth 20000 in
theorem gX4_silent_X4_isVoter : GoodIn wsX4_silent (wsV RX4 177 RX4 yX4_isVoter wsX4_isVoter) := goodIn_app (goodIn_of _ (by decide +kernel)) ggX4_silent_X4_isVoter
set_option maxRecDepth 20000 in
theorem ggX4_promise_X4_isVoter : GoodIn wsX4_promise wsX4_isVoter := goodIn_r _ [6, 7, 8, 9, 10, 11, 12, 13, 14, 15, 16, 17, 18, 19, 20, 21, 22, 23, 24, 25, 26, 27, 28, 29, 30, 31, 32, 33, 34, 35, 36, 37, 38] (by decide +kernel) (by decide +kernel)
set_option maxRecDepth 20000 in
theorem gX4_promise_X4_isVoter : GoodIn wsX4_promise (wsV RX4 177 RX4 yX4_isVoter wsX4_isVoter) := goodIn_app (goodIn_of _ (by decide +kernel)) ggX4_promise_X4_isVoter
set_option maxRecDepth 20000 in
theorem ggX4_vote_X4_isVoter : GoodIn wsX4_vote wsX4_isVoter := goodIn_r _ [6, 7, 11, 12, 13, 14, 15, 16, 17, 18, 19, 20, 21, 22, 23, 24, 25, 26, 27, 28, 29, 30, 31, 32, 33, 34, 35, 36, 37, 38, 39, 40, 41] (by decide +kernel) (by decide +kernel)
set_option maxRecDepth 20000 in
theorem gX4_vote_X4_isVoter : GoodIn wsX4_vote (wsV RX4 177 RX4 yX4_isVoter wsX4_isVoter) := goodIn_app (goodIn_of _ (by decide +kernel)) ggX4_vote_X4_isVoter
set_option maxRecDepth 20000 in
theorem ggX4_vote_X4_isPlace : GoodIn wsX4_vote wsX4_isPlace := goodIn_r _ [10] (by decide +kernel) (by decide +kernel)
set_option maxRecDepth 20000 in
theorem gX4_vote_X4_isPlace : GoodIn wsX4_vote (va_wsS RX4 148 yX4_isPlace wsX4_isPlace) := goodIn_app (goodIn_of _ (by decide +kernel)) ggX4_vote_X4_isPlace
set_option maxRecDepth 20000 in
theorem ggX4_value_X4_isVoter : GoodIn wsX4_value wsX4_isVoter := goodIn_r _ [6, 7, 11, 12, 13, 14, 15, 16, 17, 18, 19, 20, 21, 22, 23, 24, 25, 26, 27, 28, 29, 30, 31, 32, 33, 34, 35, 36, 37, 38, 39, 40, 41] (by decide +kernel) (by decide +kernel)
set_option maxRecDepth 20000 in
theorem gX4_value_X4_isVoter : GoodIn wsX4_value (wsV RX4 177 RX4 yX4_isVoter wsX4_isVoter) := goodIn_app (goodIn_of _ (by decide +kernel)) ggX4_value_X4_isVoter
set_option maxRecDepth 20000 in
theorem ggX4_value_X4_isPlace : GoodIn wsX4_value wsX4_isPlace := goodIn_r _ [10] (by decide +kernel) (by decide +kernel)
set_option maxRecDepth 20000 in
theorem gX4_value_X4_isPlace : GoodIn wsX4_value (va_wsS RX4 148 yX4_isPlace wsX4_isPlace) := goodIn_app (goodIn_of _ (by decide +kernel)) ggX4_value_X4_isPlace
set_option maxRecDepth 20000 in
theorem ggX4_of_X4_isBallot : GoodIn wsX4_of wsX4_isBallot := goodIn_r _ [14, 15, 16, 17, 18, 19, 20, 21, 22, 23, 24, 25, 26, 27, 28, 29, 30, 31, 32, 33, 34, 35, 36, 37, 38, 39, 40, 41, 42, 43, 44, 45, 46] (by decide +kernel) (by decide +kernel)
set_option maxRecDepth 20000 in
theorem gX4_of_X4_isBallot : GoodIn wsX4_of (wsV RX4 145 RX4 yX4_isBallot wsX4_isBallot) := goodIn_app (goodIn_of _ (by decide +kernel)) ggX4_of_X4_isBallot
set_option maxRecDepth 20000 in
theorem ggX4_answered_X4_isBallot : GoodIn wsX4_answered wsX4_isBallot := goodIn_r _ [6, 7, 11, 12, 13, 14, 15, 16, 17, 18, 19, 20, 21, 22, 23, 24, 25, 26, 27, 28, 29, 30, 31, 32, 33, 34, 35, 36, 37, 38, 39, 40, 41] (by decide +kernel) (by decide +kernel)
set_option maxRecDepth 20000 in
theorem gX4_answered_X4_isBallot : GoodIn wsX4_answered (wsV RX4 145 RX4 yX4_isBallot wsX4_isBallot) := goodIn_app (goodIn_of _ (by decide +kernel)) ggX4_answered_X4_isBallot
set_option maxRecDepth 20000 in
theorem ggX4_answered_X4_isPlace : GoodIn wsX4_answered wsX4_isPlace := goodIn_r _ [10] (by decide +kernel) (by decide +kernel)
set_option maxRecDepth 20000 in
theorem gX4_answered_X4_isPlace : GoodIn wsX4_answered (va_wsS RX4 148 yX4_isPlace wsX4_isPlace) := goodIn_app (goodIn_of _ (by decide +kernel)) ggX4_answered_X4_isPlace
set_option maxRecDepth 20000 in
theorem ggX4_said_X4_isBallot : GoodIn wsX4_said wsX4_isBallot := goodIn_r _ [6, 7, 11, 12, 13, 14, 15, 16, 17, 18, 19, 20, 21, 22, 23, 24, 25, 26, 27, 28, 29, 30, 31, 32, 33, 34, 35, 36, 37, 38, 39, 40, 41] (by decide +kernel) (by decide +kernel)
set_option maxRecDepth 20000 in
theorem gX4_said_X4_isBallot : GoodIn wsX4_said (wsV RX4 145 RX4 yX4_isBallot wsX4_isBallot) := goodIn_app (goodIn_of _ (by decide +kernel)) ggX4_said_X4_isBallot
set_option maxRecDepth 20000 in
theorem ggX4_said_X4_isPlace : GoodIn wsX4_said wsX4_isPlace := goodIn_r _ [10] (by decide +kernel) (by decide +kernel)
set_option maxRecDepth 20000 in
theorem gX4_said_X4_isPlace : GoodIn wsX4_said (va_wsS RX4 148 yX4_isPlace wsX4_isPlace) := goodIn_app (goodIn_of _ (by decide +kernel)) ggX4_said_X4_isPlace
set_option maxRecDepth 20000 in
theorem ggX4_isChosen_X4_many : GoodIn wsX4_isChosen wsX4_many := goodIn_r _ [7] (by decide +kernel) (by decide +kernel)
set_option maxRecDepth 20000 in
theorem gX4_isChosen_X4_many : GoodIn wsX4_isChosen (va_wsS RX4 107 yX4_many wsX4_many) := goodIn_app (goodIn_of _ (by decide +kernel)) ggX4_isChosen_X4_many
set_option maxRecDepth 20000 in
theorem ggX4_chosen_X4_isPlace : GoodIn wsX4_chosen wsX4_isPlace := goodIn_r _ [5] (by decide +kernel) (by decide +kernel)
set_option maxRecDepth 20000 in
theorem gX4_chosen_X4_isPlace : GoodIn wsX4_chosen (va_wsS RX4 148 yX4_isPlace wsX4_isPlace) := goodIn_app (goodIn_of _ (by decide +kernel)) ggX4_chosen_X4_isPlace
set_option maxRecDepth 20000 in
theorem ggX4_chosen_X4_isChosen : GoodIn wsX4_chosen wsX4_isChosen := goodIn_r _ [9, 10, 11, 12, 13, 14, 4, 15, 16, 17, 18, 19, 20, 21, 22, 23, 24, 25, 26, 27, 28, 29, 30, 31, 32, 33, 34, 35, 36, 37, 38, 39, 40, 41, 42, 43, 44, 45, 46] (by decide +kernel) (by decide +kernel)
set_option maxRecDepth 20000 in
theorem gX4_chosen_X4_isChosen : GoodIn wsX4_chosen (wsV RX4 180 RX4 yX4_isChosen wsX4_isChosen) := goodIn_app (goodIn_of _ (by decide +kernel)) ggX4_chosen_X4_isChosen
set_option maxRecDepth 20000 in
theorem ggX4_chosenValue_X4_chosen : GoodIn wsX4_chosenValue wsX4_chosen := goodIn_r _ [6, 7, 8, 9, 5, 10, 11, 12, 13, 14, 15, 16, 17, 18, 19, 20, 21, 22, 23, 24, 25, 26, 27, 28, 29, 30, 31, 32, 33, 34, 35, 36, 37, 38, 39, 40, 41, 42, 43, 44, 45, 46, 47, 48, 49, 50, 51] (by decide +kernel) (by decide +kernel)
set_option maxRecDepth 20000 in
theorem gX4_chosenValue_X4_chosen : GoodIn wsX4_chosenValue (wsV RX4 184 RX4 yX4_chosen wsX4_chosen) := goodIn_app (goodIn_of _ (by decide +kernel)) ggX4_chosenValue_X4_chosen
set_option maxRecDepth 20000 in
theorem ggX4_isOne_X4_isPlace : GoodIn wsX4_isOne wsX4_isPlace := goodIn_r _ [6] (by decide +kernel) (by decide +kernel)
set_option maxRecDepth 20000 in
theorem gX4_isOne_X4_isPlace : GoodIn wsX4_isOne (va_wsS RX4 148 yX4_isPlace wsX4_isPlace) := goodIn_app (goodIn_of _ (by decide +kernel)) ggX4_isOne_X4_isPlace
set_option maxRecDepth 20000 in
theorem ggX4_isOne_X4_isChosen : GoodIn wsX4_isOne wsX4_isChosen := goodIn_r _ [10, 11, 12, 13, 14, 15, 5, 16, 25, 26, 27, 28, 29, 30, 31, 32, 33, 34, 35, 36, 37, 38, 39, 40, 41, 42, 43, 44, 45, 46, 47, 48, 49, 50, 51, 52, 53, 54, 55] (by decide +kernel) (by decide +kernel)
set_option maxRecDepth 20000 in
theorem gX4_isOne_X4_isChosen : GoodIn wsX4_isOne (wsV RX4 180 RX4 yX4_isChosen wsX4_isChosen) := goodIn_app (goodIn_of _ (by decide +kernel)) ggX4_isOne_X4_isChosen
set_option maxRecDepth 20000 in
theorem ggX4_isOne_X4_chosenValue : GoodIn wsX4_isOne wsX4_chosenValue := goodIn_r _ [20, 2, 21, 22, 23, 5, 24, 1, 3, 4, 6, 7, 8, 9, 10, 11, 12, 13, 14, 15, 16, 25, 26, 27, 28, 29, 30, 31, 32, 33, 34, 35, 36, 37, 38, 39, 40, 41, 42, 43, 44, 45, 46, 47, 48, 49, 50, 51, 52, 53, 54, 55] (by decide +kernel) (by decide +kernel)
set_option maxRecDepth 20000 in
theorem gX4_isOne_X4_chosenValue : GoodIn wsX4_isOne (wsV RX4 187 RX4 yX4_chosenValue wsX4_chosenValue) := goodIn_app (goodIn_of _ (by decide +kernel)) ggX4_isOne_X4_chosenValue
end
section
theorem dX0_init_0 : decode cX0_init 0 = .ok (.aload_n 0, 1) := by decide +kernel
theorem dX0_init_1 : decode cX0_init 1 = .ok (.invokespecial 3, 3) := by decide +kernel
theorem dX0_init_4 : decode cX0_init 4 = .ok (.aload_n 0, 1) := by decide +kernel
theorem dX0_init_5 : decode cX0_init 5 = .ok (.sipush 400, 3) := by decide +kernel
theorem dX0_init_8 : decode cX0_init 8 = .ok (.newarray .int, 2) := by decide +kernel
theorem dX0_init_10 : decode cX0_init 10 = .ok (.putfield 9, 3) := by decide +kernel
theorem dX0_init_13 : decode cX0_init 13 = .ok (.aload_n 0, 1) := by decide +kernel
theorem dX0_init_14 : decode cX0_init 14 = .ok (.sipush 400, 3) := by decide +kernel
theorem dX0_init_17 : decode cX0_init 17 = .ok (.newarray .int, 2) := by decide +kernel
theorem dX0_init_19 : decode cX0_init 19 = .ok (.putfield 15, 3) := by decide +kernel
theorem dX0_init_22 : decode cX0_init 22 = .ok (.aload_n 0, 1) := by decide +kernel
theorem dX0_init_23 : decode cX0_init 23 = .ok (.sipush 400, 3) := by decide +kernel
theorem dX0_init_26 : decode cX0_init 26 = .ok (.newarray .int, 2) := by decide +kernel
theorem dX0_init_28 : decode cX0_init 28 = .ok (.putfield 18, 3) := by decide +kernel
theorem dX0_init_31 : decode cX0_init 31 = .ok (.aload_n 0, 1) := by decide +kernel
theorem dX0_init_32 : decode cX0_init 32 = .ok (.sipush 400, 3) := by decide +kernel
theorem dX0_init_35 : decode cX0_init 35 = .ok (.newarray .int, 2) := by decide +kernel
theorem dX0_init_37 : decode cX0_init 37 = .ok (.putfield 21, 3) := by decide +kernel
theorem dX0_init_40 : decode cX0_init 40 = .ok (.aload_n 0, 1) := by decide +kernel
theorem dX0_init_41 : decode cX0_init 41 = .ok (.sipush 400, 3) := by decide +kernel
theorem dX0_init_44 : decode cX0_init 44 = .ok (.newarray .long, 2) := by decide +kernel
theorem dX0_init_46 : decode cX0_init 46 = .ok (.putfield 24, 3) := by decide +kernel
theorem dX0_init_49 : decode cX0_init 49 = .ok (.return_, 1) := by decide +kernel
theorem dX0_has_0 : decode cX0_has 0 = .ok (.iload_n 1, 1) := by decide +kernel
theorem dX0_has_1 : decode cX0_has 1 = .ok (.ifCond .lt 15, 3) := by decide +kernel
theorem dX0_has_4 : decode cX0_has 4 = .ok (.iload_n 1, 1) := by decide +kernel
theorem dX0_has_5 : decode cX0_has 5 = .ok (.aload_n 0, 1) := by decide +kernel
theorem dX0_has_6 : decode cX0_has 6 = .ok (.getfield 28, 3) := by decide +kernel
theorem dX0_has_9 : decode cX0_has 9 = .ok (.if_icmp .ge 7, 3) := by decide +kernel
theorem dX0_has_12 : decode cX0_has 12 = .ok (.iconst 1, 1) := by decide +kernel
theorem dX0_has_13 : decode cX0_has 13 = .ok (.goto 4, 3) := by decide +kernel
theorem dX0_has_16 : decode cX0_has 16 = .ok (.iconst 0, 1) := by decide +kernel
theorem dX0_has_17 : decode cX0_has 17 = .ok (.ireturn, 1) := by decide +kernel
theorem dX0_send_0 : decode cX0_send 0 = .ok (.aload_n 0, 1) := by decide +kernel
theorem dX0_send_1 : decode cX0_send 1 = .ok (.getfield 28, 3) := by decide +kernel
theorem dX0_send_4 : decode cX0_send 4 = .ok (.sipush 400, 3) := by decide +kernel
theorem dX0_send_7 : decode cX0_send 7 = .ok (.if_icmp .lt 14, 3) := by decide +kernel
theorem dX0_send_10 : decode cX0_send 10 = .ok (.aload_n 0, 1) := by decide +kernel
theorem dX0_send_11 : decode cX0_send 11 = .ok (.dup, 1) := by decide +kernel
theorem dX0_send_12 : decode cX0_send 12 = .ok (.getfield 32, 3) := by decide +kernel
theorem dX0_send_15 : decode cX0_send 15 = .ok (.iconst 1, 1) := by decide +kernel
theorem dX0_send_16 : decode cX0_send 16 = .ok (.iadd, 1) := by decide +kernel
theorem dX0_send_17 : decode cX0_send 17 = .ok (.putfield 32, 3) := by decide +kernel
theorem dX0_send_20 : decode cX0_send 20 = .ok (.return_, 1) := by decide +kernel
theorem dX0_send_21 : decode cX0_send 21 = .ok (.aload_n 0, 1) := by decide +kernel
theorem dX0_send_22 : decode cX0_send 22 = .ok (.getfield 9, 3) := by decide +kernel
theorem dX0_send_25 : decode cX0_send 25 = .ok (.aload_n 0, 1) := by decide +kernel
theorem dX0_send_26 : decode cX0_send 26 = .ok (.getfield 28, 3) := by decide +kernel
theorem dX0_send_29 : decode cX0_send 29 = .ok (.iload_n 1, 1) := by decide +kernel
theorem dX0_send_30 : decode cX0_send 30 = .ok (.iastore, 1) := by decide +kernel
theorem dX0_send_31 : decode cX0_send 31 = .ok (.aload_n 0, 1) := by decide +kernel
theorem dX0_send_32 : decode cX0_send 32 = .ok (.getfield 15, 3) := by decide +kernel
theorem dX0_send_35 : decode cX0_send 35 = .ok (.aload_n 0, 1) := by decide +kernel
theorem dX0_send_36 : decode cX0_send 36 = .ok (.getfield 28, 3) := by decide +kernel
theorem dX0_send_39 : decode cX0_send 39 = .ok (.iload_n 2, 1) := by decide +kernel
theorem dX0_send_40 : decode cX0_send 40 = .ok (.iastore, 1) := by decide +kernel
theorem dX0_send_41 : decode cX0_send 41 = .ok (.aload_n 0, 1) := by decide +kernel
theorem dX0_send_42 : decode cX0_send 42 = .ok (.getfield 18, 3) := by decide +kernel
theorem dX0_send_45 : decode cX0_send 45 = .ok (.aload_n 0, 1) := by decide +kernel
theorem dX0_send_46 : decode cX0_send 46 = .ok (.getfield 28, 3) := by decide +kernel
theorem dX0_send_49 : decode cX0_send 49 = .ok (.iload_n 3, 1) := by decide +kernel
theorem dX0_send_50 : decode cX0_send 50 = .ok (.iastore, 1) := by decide +kernel
theorem dX0_send_51 : decode cX0_send 51 = .ok (.aload_n 0, 1) := by decide +kernel
theorem dX0_send_52 : decode cX0_send 52 = .ok (.getfield 21, 3) := by decide +kernel
theorem dX0_send_55 : decode cX0_send 55 = .ok (.aload_n 0, 1) := by decide +kernel
theorem dX0_send_56 : decode cX0_send 56 = .ok (.getfield 28, 3) := by decide +kernel
theorem dX0_send_59 : decode cX0_send 59 = .ok (.iload 4, 2) := by decide +kernel
theorem dX0_send_61 : decode cX0_send 61 = .ok (.iastore, 1) := by decide +kernel
theorem dX0_send_62 : decode cX0_send 62 = .ok (.aload_n 0, 1) := by decide +kernel
theorem dX0_send_63 : decode cX0_send 63 = .ok (.getfield 24, 3) := by decide +kernel
theorem dX0_send_66 : decode cX0_send 66 = .ok (.aload_n 0, 1) := by decide +kernel
theorem dX0_send_67 : decode cX0_send 67 = .ok (.getfield 28, 3) := by decide +kernel
theorem dX0_send_70 : decode cX0_send 70 = .ok (.lload 5, 2) := by decide +kernel
theorem dX0_send_72 : decode cX0_send 72 = .ok (.lastore, 1) := by decide +kernel
theorem dX0_send_73 : decode cX0_send 73 = .ok (.aload_n 0, 1) := by decide +kernel
theorem dX0_send_74 : decode cX0_send 74 = .ok (.dup, 1) := by decide +kernel
theorem dX0_send_75 : decode cX0_send 75 = .ok (.getfield 28, 3) := by decide +kernel
theorem dX0_send_78 : decode cX0_send 78 = .ok (.iconst 1, 1) := by decide +kernel
theorem dX0_send_79 : decode cX0_send 79 = .ok (.iadd, 1) := by decide +kernel
theorem dX0_send_80 : decode cX0_send 80 = .ok (.putfield 28, 3) := by decide +kernel
theorem dX0_send_83 : decode cX0_send 83 = .ok (.return_, 1) := by decide +kernel
theorem dX0_repeat_0 : decode cX0_repeat 0 = .ok (.aload_n 0, 1) := by decide +kernel
theorem dX0_repeat_1 : decode cX0_repeat 1 = .ok (.iload_n 1, 1) := by decide +kernel
theorem dX0_repeat_2 : decode cX0_repeat 2 = .ok (.invokevirtual 35, 3) := by decide +kernel
theorem dX0_repeat_5 : decode cX0_repeat 5 = .ok (.ifCond .eq 37, 3) := by decide +kernel
theorem dX0_repeat_8 : decode cX0_repeat 8 = .ok (.aload_n 0, 1) := by decide +kernel
theorem dX0_repeat_9 : decode cX0_repeat 9 = .ok (.aload_n 0, 1) := by decide +kernel
theorem dX0_repeat_10 : decode cX0_repeat 10 = .ok (.getfield 9, 3) := by decide +kernel
theorem dX0_repeat_13 : decode cX0_repeat 13 = .ok (.iload_n 1, 1) := by decide +kernel
theorem dX0_repeat_14 : decode cX0_repeat 14 = .ok (.iaload, 1) := by decide +kernel
theorem dX0_repeat_15 : decode cX0_repeat 15 = .ok (.aload_n 0, 1) := by decide +kernel
theorem dX0_repeat_16 : decode cX0_repeat 16 = .ok (.getfield 15, 3) := by decide +kernel
theorem dX0_repeat_19 : decode cX0_repeat 19 = .ok (.iload_n 1, 1) := by decide +kernel
theorem dX0_repeat_20 : decode cX0_repeat 20 = .ok (.iaload, 1) := by decide +kernel
theorem dX0_repeat_21 : decode cX0_repeat 21 = .ok (.aload_n 0, 1) := by decide +kernel
theorem dX0_repeat_22 : decode cX0_repeat 22 = .ok (.getfield 18, 3) := by decide +kernel
theorem dX0_repeat_25 : decode cX0_repeat 25 = .ok (.iload_n 1, 1) := by decide +kernel
theorem dX0_repeat_26 : decode cX0_repeat 26 = .ok (.iaload, 1) := by decide +kernel
theorem dX0_repeat_27 : decode cX0_repeat 27 = .ok (.aload_n 0, 1) := by decide +kernel
theorem dX0_repeat_28 : decode cX0_repeat 28 = .ok (.getfield 21, 3) := by decide +kernel
theorem dX0_repeat_31 : decode cX0_repeat 31 = .ok (.iload_n 1, 1) := by decide +kernel
theorem dX0_repeat_32 : decode cX0_repeat 32 = .ok (.iaload, 1) := by decide +kernel
theorem dX0_repeat_33 : decode cX0_repeat 33 = .ok (.aload_n 0, 1) := by decide +kernel
theorem dX0_repeat_34 : decode cX0_repeat 34 = .ok (.getfield 24, 3) := by decide +kernel
theorem dX0_repeat_37 : decode cX0_repeat 37 = .ok (.iload_n 1, 1) := by decide +kernel
theorem dX0_repeat_38 : decode cX0_repeat 38 = .ok (.laload, 1) := by decide +kernel
theorem dX0_repeat_39 : decode cX0_repeat 39 = .ok (.invokevirtual 39, 3) := by decide +kernel
theorem dX0_repeat_42 : decode cX0_repeat 42 = .ok (.return_, 1) := by decide +kernel
theorem dX0_drop_0 : decode cX0_drop 0 = .ok (.aload_n 0, 1) := by decide +kernel
theorem dX0_drop_1 : decode cX0_drop 1 = .ok (.iload_n 1, 1) := by decide +kernel
theorem dX0_drop_2 : decode cX0_drop 2 = .ok (.invokevirtual 35, 3) := by decide +kernel
theorem dX0_drop_5 : decode cX0_drop 5 = .ok (.ifCond .ne 4, 3) := by decide +kernel
theorem dX0_drop_8 : decode cX0_drop 8 = .ok (.return_, 1) := by decide +kernel
theorem dX0_drop_9 : decode cX0_drop 9 = .ok (.aload_n 0, 1) := by decide +kernel
theorem dX0_drop_10 : decode cX0_drop 10 = .ok (.getfield 28, 3) := by decide +kernel
theorem dX0_drop_13 : decode cX0_drop 13 = .ok (.iload_n 1, 1) := by decide +kernel
theorem dX0_drop_14 : decode cX0_drop 14 = .ok (.isub, 1) := by decide +kernel
theorem dX0_drop_15 : decode cX0_drop 15 = .ok (.iconst 1, 1) := by decide +kernel
theorem dX0_drop_16 : decode cX0_drop 16 = .ok (.isub, 1) := by decide +kernel
theorem dX0_drop_17 : decode cX0_drop 17 = .ok (.istore_n 2, 1) := by decide +kernel
theorem dX0_drop_18 : decode cX0_drop 18 = .ok (.aload_n 0, 1) := by decide +kernel
theorem dX0_drop_19 : decode cX0_drop 19 = .ok (.getfield 9, 3) := by decide +kernel
theorem dX0_drop_22 : decode cX0_drop 22 = .ok (.iload_n 1, 1) := by decide +kernel
theorem dX0_drop_23 : decode cX0_drop 23 = .ok (.iconst 1, 1) := by decide +kernel
theorem dX0_drop_24 : decode cX0_drop 24 = .ok (.iadd, 1) := by decide +kernel
theorem dX0_drop_25 : decode cX0_drop 25 = .ok (.aload_n 0, 1) := by decide +kernel
theorem dX0_drop_26 : decode cX0_drop 26 = .ok (.getfield 9, 3) := by decide +kernel
theorem dX0_drop_29 : decode cX0_drop 29 = .ok (.iload_n 1, 1) := by decide +kernel
theorem dX0_drop_30 : decode cX0_drop 30 = .ok (.iload_n 2, 1) := by decide +kernel
theorem dX0_drop_31 : decode cX0_drop 31 = .ok (.invokestatic 43, 3) := by decide +kernel
theorem dX0_drop_34 : decode cX0_drop 34 = .ok (.aload_n 0, 1) := by decide +kernel
theorem dX0_drop_35 : decode cX0_drop 35 = .ok (.getfield 15, 3) := by decide +kernel
theorem dX0_drop_38 : decode cX0_drop 38 = .ok (.iload_n 1, 1) := by decide +kernel
theorem dX0_drop_39 : decode cX0_drop 39 = .ok (.iconst 1, 1) := by decide +kernel
theorem dX0_drop_40 : decode cX0_drop 40 = .ok (.iadd, 1) := by decide +kernel
theorem dX0_drop_41 : decode cX0_drop 41 = .ok (.aload_n 0, 1) := by decide +kernel
theorem dX0_drop_42 : decode cX0_drop 42 = .ok (.getfield 15, 3) := by decide +kernel
theorem dX0_drop_45 : decode cX0_drop 45 = .ok (.iload_n 1, 1) := by decide +kernel
theorem dX0_drop_46 : decode cX0_drop 46 = .ok (.iload_n 2, 1) := by decide +kernel
theorem dX0_drop_47 : decode cX0_drop 47 = .ok (.invokestatic 43, 3) := by decide +kernel
theorem dX0_drop_50 : decode cX0_drop 50 = .ok (.aload_n 0, 1) := by decide +kernel
theorem dX0_drop_51 : decode cX0_drop 51 = .ok (.getfield 18, 3) := by decide +kernel
theorem dX0_drop_54 : decode cX0_drop 54 = .ok (.iload_n 1, 1) := by decide +kernel
theorem dX0_drop_55 : decode cX0_drop 55 = .ok (.iconst 1, 1) := by decide +kernel
theorem dX0_drop_56 : decode cX0_drop 56 = .ok (.iadd, 1) := by decide +kernel
theorem dX0_drop_57 : decode cX0_drop 57 = .ok (.aload_n 0, 1) := by decide +kernel
theorem dX0_drop_58 : decode cX0_drop 58 = .ok (.getfield 18, 3) := by decide +kernel
theorem dX0_drop_61 : decode cX0_drop 61 = .ok (.iload_n 1, 1) := by decide +kernel
theorem dX0_drop_62 : decode cX0_drop 62 = .ok (.iload_n 2, 1) := by decide +kernel
theorem dX0_drop_63 : decode cX0_drop 63 = .ok (.invokestatic 43, 3) := by decide +kernel
theorem dX0_drop_66 : decode cX0_drop 66 = .ok (.aload_n 0, 1) := by decide +kernel
theorem dX0_drop_67 : decode cX0_drop 67 = .ok (.getfield 21, 3) := by decide +kernel
theorem dX0_drop_70 : decode cX0_drop 70 = .ok (.iload_n 1, 1) := by decide +kernel
theorem dX0_drop_71 : decode cX0_drop 71 = .ok (.iconst 1, 1) := by decide +kernel
theorem dX0_drop_72 : decode cX0_drop 72 = .ok (.iadd, 1) := by decide +kernel
theorem dX0_drop_73 : decode cX0_drop 73 = .ok (.aload_n 0, 1) := by decide +kernel
theorem dX0_drop_74 : decode cX0_drop 74 = .ok (.getfield 21, 3) := by decide +kernel
theorem dX0_drop_77 : decode cX0_drop 77 = .ok (.iload_n 1, 1) := by decide +kernel
theorem dX0_drop_78 : decode cX0_drop 78 = .ok (.iload_n 2, 1) := by decide +kernel
theorem dX0_drop_79 : decode cX0_drop 79 = .ok (.invokestatic 43, 3) := by decide +kernel
theorem dX0_drop_82 : decode cX0_drop 82 = .ok (.aload_n 0, 1) := by decide +kernel
theorem dX0_drop_83 : decode cX0_drop 83 = .ok (.getfield 24, 3) := by decide +kernel
theorem dX0_drop_86 : decode cX0_drop 86 = .ok (.iload_n 1, 1) := by decide +kernel
theorem dX0_drop_87 : decode cX0_drop 87 = .ok (.iconst 1, 1) := by decide +kernel
theorem dX0_drop_88 : decode cX0_drop 88 = .ok (.iadd, 1) := by decide +kernel
theorem dX0_drop_89 : decode cX0_drop 89 = .ok (.aload_n 0, 1) := by decide +kernel
theorem dX0_drop_90 : decode cX0_drop 90 = .ok (.getfield 24, 3) := by decide +kernel
theorem dX0_drop_93 : decode cX0_drop 93 = .ok (.iload_n 1, 1) := by decide +kernel
theorem dX0_drop_94 : decode cX0_drop 94 = .ok (.iload_n 2, 1) := by decide +kernel
theorem dX0_drop_95 : decode cX0_drop 95 = .ok (.invokestatic 43, 3) := by decide +kernel
theorem dX0_drop_98 : decode cX0_drop 98 = .ok (.aload_n 0, 1) := by decide +kernel
theorem dX0_drop_99 : decode cX0_drop 99 = .ok (.dup, 1) := by decide +kernel
theorem dX0_drop_100 : decode cX0_drop 100 = .ok (.getfield 28, 3) := by decide +kernel
theorem dX0_drop_103 : decode cX0_drop 103 = .ok (.iconst 1, 1) := by decide +kernel
theorem dX0_drop_104 : decode cX0_drop 104 = .ok (.isub, 1) := by decide +kernel
theorem dX0_drop_105 : decode cX0_drop 105 = .ok (.putfield 28, 3) := by decide +kernel
theorem dX0_drop_108 : decode cX0_drop 108 = .ok (.return_, 1) := by decide +kernel
theorem dX1_init_0 : decode cX1_init 0 = .ok (.aload_n 0, 1) := by decide +kernel
theorem dX1_init_1 : decode cX1_init 1 = .ok (.invokespecial 3, 3) := by decide +kernel
theorem dX1_init_4 : decode cX1_init 4 = .ok (.aload_n 0, 1) := by decide +kernel
theorem dX1_init_5 : decode cX1_init 5 = .ok (.iconst 0, 1) := by decide +kernel
theorem dX1_init_6 : decode cX1_init 6 = .ok (.putfield 9, 3) := by decide +kernel
theorem dX1_init_9 : decode cX1_init 9 = .ok (.aload_n 0, 1) := by decide +kernel
theorem dX1_init_10 : decode cX1_init 10 = .ok (.bipush 8, 2) := by decide +kernel
theorem dX1_init_12 : decode cX1_init 12 = .ok (.newarray .int, 2) := by decide +kernel
theorem dX1_init_14 : decode cX1_init 14 = .ok (.putfield 15, 3) := by decide +kernel
theorem dX1_init_17 : decode cX1_init 17 = .ok (.aload_n 0, 1) := by decide +kernel
theorem dX1_init_18 : decode cX1_init 18 = .ok (.bipush 8, 2) := by decide +kernel
theorem dX1_init_20 : decode cX1_init 20 = .ok (.newarray .long, 2) := by decide +kernel
theorem dX1_init_22 : decode cX1_init 22 = .ok (.putfield 19, 3) := by decide +kernel
theorem dX1_init_25 : decode cX1_init 25 = .ok (.aload_n 0, 1) := by decide +kernel
theorem dX1_init_26 : decode cX1_init 26 = .ok (.bipush 8, 2) := by decide +kernel
theorem dX1_init_28 : decode cX1_init 28 = .ok (.newarray .int, 2) := by decide +kernel
theorem dX1_init_30 : decode cX1_init 30 = .ok (.putfield 23, 3) := by decide +kernel
theorem dX1_init_33 : decode cX1_init 33 = .ok (.aload_n 0, 1) := by decide +kernel
theorem dX1_init_34 : decode cX1_init 34 = .ok (.bipush 8, 2) := by decide +kernel
theorem dX1_init_36 : decode cX1_init 36 = .ok (.newarray .int, 2) := by decide +kernel
theorem dX1_init_38 : decode cX1_init 38 = .ok (.putfield 26, 3) := by decide +kernel
theorem dX1_init_41 : decode cX1_init 41 = .ok (.aload_n 0, 1) := by decide +kernel
theorem dX1_init_42 : decode cX1_init 42 = .ok (.iload_n 1, 1) := by decide +kernel
theorem dX1_init_43 : decode cX1_init 43 = .ok (.putfield 29, 3) := by decide +kernel
theorem dX1_init_46 : decode cX1_init 46 = .ok (.aload_n 0, 1) := by decide +kernel
theorem dX1_init_47 : decode cX1_init 47 = .ok (.iload_n 2, 1) := by decide +kernel
theorem dX1_init_48 : decode cX1_init 48 = .ok (.putfield 32, 3) := by decide +kernel
theorem dX1_init_51 : decode cX1_init 51 = .ok (.aload_n 0, 1) := by decide +kernel
theorem dX1_init_52 : decode cX1_init 52 = .ok (.iload_n 3, 1) := by decide +kernel
theorem dX1_init_53 : decode cX1_init 53 = .ok (.putfield 35, 3) := by decide +kernel
theorem dX1_init_56 : decode cX1_init 56 = .ok (.aload_n 0, 1) := by decide +kernel
theorem dX1_init_57 : decode cX1_init 57 = .ok (.iload 4, 2) := by decide +kernel
theorem dX1_init_59 : decode cX1_init 59 = .ok (.putfield 38, 3) := by decide +kernel
theorem dX1_init_62 : decode cX1_init 62 = .ok (.aload_n 0, 1) := by decide +kernel
theorem dX1_init_63 : decode cX1_init 63 = .ok (.iload 5, 2) := by decide +kernel
theorem dX1_init_65 : decode cX1_init 65 = .ok (.putfield 41, 3) := by decide +kernel
theorem dX1_init_68 : decode cX1_init 68 = .ok (.aload_n 0, 1) := by decide +kernel
theorem dX1_init_69 : decode cX1_init 69 = .ok (.iload 6, 2) := by decide +kernel
theorem dX1_init_71 : decode cX1_init 71 = .ok (.putfield 44, 3) := by decide +kernel
theorem dX1_init_74 : decode cX1_init 74 = .ok (.return_, 1) := by decide +kernel
theorem dX1_hasWord_0 : decode cX1_hasWord 0 = .ok (.aload_n 0, 1) := by decide +kernel
theorem dX1_hasWord_1 : decode cX1_hasWord 1 = .ok (.getfield 47, 3) := by decide +kernel
theorem dX1_hasWord_4 : decode cX1_hasWord 4 = .ok (.aload_n 0, 1) := by decide +kernel
theorem dX1_hasWord_5 : decode cX1_hasWord 5 = .ok (.getfield 50, 3) := by decide +kernel
theorem dX1_hasWord_8 : decode cX1_hasWord 8 = .ok (.ior, 1) := by decide +kernel
theorem dX1_hasWord_9 : decode cX1_hasWord 9 = .ok (.iconst 1, 1) := by decide +kernel
theorem dX1_hasWord_10 : decode cX1_hasWord 10 = .ok (.iload_n 1, 1) := by decide +kernel
theorem dX1_hasWord_11 : decode cX1_hasWord 11 = .ok (.ishl, 1) := by decide +kernel
theorem dX1_hasWord_12 : decode cX1_hasWord 12 = .ok (.iand, 1) := by decide +kernel
theorem dX1_hasWord_13 : decode cX1_hasWord 13 = .ok (.ifCond .eq 7, 3) := by decide +kernel
theorem dX1_hasWord_16 : decode cX1_hasWord 16 = .ok (.iconst 1, 1) := by decide +kernel
theorem dX1_hasWord_17 : decode cX1_hasWord 17 = .ok (.goto 4, 3) := by decide +kernel
theorem dX1_hasWord_20 : decode cX1_hasWord 20 = .ok (.iconst 0, 1) := by decide +kernel
theorem dX1_hasWord_21 : decode cX1_hasWord 21 = .ok (.ireturn, 1) := by decide +kernel
theorem dX1_knows_0 : decode cX1_knows 0 = .ok (.iload_n 1, 1) := by decide +kernel
theorem dX1_knows_1 : decode cX1_knows 1 = .ok (.invokestatic 53, 3) := by decide +kernel
theorem dX1_knows_4 : decode cX1_knows 4 = .ok (.ifCond .eq 23, 3) := by decide +kernel
theorem dX1_knows_7 : decode cX1_knows 7 = .ok (.aload_n 0, 1) := by decide +kernel
theorem dX1_knows_8 : decode cX1_knows 8 = .ok (.getfield 23, 3) := by decide +kernel
theorem dX1_knows_11 : decode cX1_knows 11 = .ok (.iload_n 1, 1) := by decide +kernel
theorem dX1_knows_12 : decode cX1_knows 12 = .ok (.iaload, 1) := by decide +kernel
theorem dX1_knows_13 : decode cX1_knows 13 = .ok (.invokestatic 57, 3) := by decide +kernel
theorem dX1_knows_16 : decode cX1_knows 16 = .ok (.aload_n 0, 1) := by decide +kernel
theorem dX1_knows_17 : decode cX1_knows 17 = .ok (.getfield 38, 3) := by decide +kernel
theorem dX1_knows_20 : decode cX1_knows 20 = .ok (.if_icmp .lt 7, 3) := by decide +kernel
theorem dX1_knows_23 : decode cX1_knows 23 = .ok (.iconst 1, 1) := by decide +kernel
theorem dX1_knows_24 : decode cX1_knows 24 = .ok (.goto 4, 3) := by decide +kernel
theorem dX1_knows_27 : decode cX1_knows 27 = .ok (.iconst 0, 1) := by decide +kernel
theorem dX1_knows_28 : decode cX1_knows 28 = .ok (.ireturn, 1) := by decide +kernel
theorem dX1_hasChosen_0 : decode cX1_hasChosen 0 = .ok (.iload_n 1, 1) := by decide +kernel
theorem dX1_hasChosen_1 : decode cX1_hasChosen 1 = .ok (.invokestatic 53, 3) := by decide +kernel
theorem dX1_hasChosen_4 : decode cX1_hasChosen 4 = .ok (.ifCond .eq 23, 3) := by decide +kernel
theorem dX1_hasChosen_7 : decode cX1_hasChosen 7 = .ok (.aload_n 0, 1) := by decide +kernel
theorem dX1_hasChosen_8 : decode cX1_hasChosen 8 = .ok (.getfield 26, 3) := by decide +kernel
theorem dX1_hasChosen_11 : decode cX1_hasChosen 11 = .ok (.iload_n 1, 1) := by decide +kernel
theorem dX1_hasChosen_12 : decode cX1_hasChosen 12 = .ok (.iaload, 1) := by decide +kernel
theorem dX1_hasChosen_13 : decode cX1_hasChosen 13 = .ok (.invokestatic 57, 3) := by decide +kernel
theorem dX1_hasChosen_16 : decode cX1_hasChosen 16 = .ok (.aload_n 0, 1) := by decide +kernel
theorem dX1_hasChosen_17 : decode cX1_hasChosen 17 = .ok (.getfield 38, 3) := by decide +kernel
theorem dX1_hasChosen_20 : decode cX1_hasChosen 20 = .ok (.if_icmp .lt 7, 3) := by decide +kernel
theorem dX1_hasChosen_23 : decode cX1_hasChosen 23 = .ok (.iconst 1, 1) := by decide +kernel
theorem dX1_hasChosen_24 : decode cX1_hasChosen 24 = .ok (.goto 4, 3) := by decide +kernel
theorem dX1_hasChosen_27 : decode cX1_hasChosen 27 = .ok (.iconst 0, 1) := by decide +kernel
theorem dX1_hasChosen_28 : decode cX1_hasChosen 28 = .ok (.ireturn, 1) := by decide +kernel
theorem dX1_knownPlaces_0 : decode cX1_knownPlaces 0 = .ok (.iconst 0, 1) := by decide +kernel
theorem dX1_knownPlaces_1 : decode cX1_knownPlaces 1 = .ok (.istore_n 1, 1) := by decide +kernel
theorem dX1_knownPlaces_2 : decode cX1_knownPlaces 2 = .ok (.iconst 0, 1) := by decide +kernel
theorem dX1_knownPlaces_3 : decode cX1_knownPlaces 3 = .ok (.istore_n 2, 1) := by decide +kernel
theorem dX1_knownPlaces_4 : decode cX1_knownPlaces 4 = .ok (.iload_n 2, 1) := by decide +kernel
theorem dX1_knownPlaces_5 : decode cX1_knownPlaces 5 = .ok (.bipush 8, 2) := by decide +kernel
theorem dX1_knownPlaces_7 : decode cX1_knownPlaces 7 = .ok (.if_icmp .ge 23, 3) := by decide +kernel
theorem dX1_knownPlaces_10 : decode cX1_knownPlaces 10 = .ok (.aload_n 0, 1) := by decide +kernel
theorem dX1_knownPlaces_11 : decode cX1_knownPlaces 11 = .ok (.iload_n 2, 1) := by decide +kernel
theorem dX1_knownPlaces_12 : decode cX1_knownPlaces 12 = .ok (.invokevirtual 63, 3) := by decide +kernel
theorem dX1_knownPlaces_15 : decode cX1_knownPlaces 15 = .ok (.ifCond .eq 9, 3) := by decide +kernel
theorem dX1_knownPlaces_18 : decode cX1_knownPlaces 18 = .ok (.iload_n 1, 1) := by decide +kernel
theorem dX1_knownPlaces_19 : decode cX1_knownPlaces 19 = .ok (.iconst 1, 1) := by decide +kernel
theorem dX1_knownPlaces_20 : decode cX1_knownPlaces 20 = .ok (.iload_n 2, 1) := by decide +kernel
theorem dX1_knownPlaces_21 : decode cX1_knownPlaces 21 = .ok (.ishl, 1) := by decide +kernel
theorem dX1_knownPlaces_22 : decode cX1_knownPlaces 22 = .ok (.ior, 1) := by decide +kernel
theorem dX1_knownPlaces_23 : decode cX1_knownPlaces 23 = .ok (.istore_n 1, 1) := by decide +kernel
theorem dX1_knownPlaces_24 : decode cX1_knownPlaces 24 = .ok (.iinc 2 1, 3) := by decide +kernel
theorem dX1_knownPlaces_27 : decode cX1_knownPlaces 27 = .ok (.goto (-23), 3) := by decide +kernel
theorem dX1_knownPlaces_30 : decode cX1_knownPlaces 30 = .ok (.iload_n 1, 1) := by decide +kernel
theorem dX1_knownPlaces_31 : decode cX1_knownPlaces 31 = .ok (.ireturn, 1) := by decide +kernel
theorem dX2_at_0 : decode cX2_at 0 = .ok (.lload_n 0, 1) := by decide +kernel
theorem dX2_at_1 : decode cX2_at 1 = .ok (.iload_n 2, 1) := by decide +kernel
theorem dX2_at_2 : decode cX2_at 2 = .ok (.bipush 8, 2) := by decide +kernel
theorem dX2_at_4 : decode cX2_at 4 = .ok (.imul, 1) := by decide +kernel
theorem dX2_at_5 : decode cX2_at 5 = .ok (.lushr, 1) := by decide +kernel
theorem dX2_at_6 : decode cX2_at 6 = .ok (.ldc2_w 11, 3) := by decide +kernel
theorem dX2_at_9 : decode cX2_at 9 = .ok (.land, 1) := by decide +kernel
theorem dX2_at_10 : decode cX2_at 10 = .ok (.l2i, 1) := by decide +kernel
theorem dX2_at_11 : decode cX2_at 11 = .ok (.ireturn, 1) := by decide +kernel
theorem dX2_with_0 : decode cX2_with 0 = .ok (.iload_n 2, 1) := by decide +kernel
theorem dX2_with_1 : decode cX2_with 1 = .ok (.bipush 8, 2) := by decide +kernel
theorem dX2_with_3 : decode cX2_with 3 = .ok (.imul, 1) := by decide +kernel
theorem dX2_with_4 : decode cX2_with 4 = .ok (.istore 4, 2) := by decide +kernel
theorem dX2_with_6 : decode cX2_with 6 = .ok (.lload_n 0, 1) := by decide +kernel
theorem dX2_with_7 : decode cX2_with 7 = .ok (.ldc2_w 11, 3) := by decide +kernel
theorem dX2_with_10 : decode cX2_with 10 = .ok (.iload 4, 2) := by decide +kernel
theorem dX2_with_12 : decode cX2_with 12 = .ok (.lshl, 1) := by decide +kernel
theorem dX2_with_13 : decode cX2_with 13 = .ok (.ldc2_w 13, 3) := by decide +kernel
theorem dX2_with_16 : decode cX2_with 16 = .ok (.lxor, 1) := by decide +kernel
theorem dX2_with_17 : decode cX2_with 17 = .ok (.land, 1) := by decide +kernel
theorem dX2_with_18 : decode cX2_with 18 = .ok (.iload_n 3, 1) := by decide +kernel
theorem dX2_with_19 : decode cX2_with 19 = .ok (.i2l, 1) := by decide +kernel
theorem dX2_with_20 : decode cX2_with 20 = .ok (.iload 4, 2) := by decide +kernel
theorem dX2_with_22 : decode cX2_with 22 = .ok (.lshl, 1) := by decide +kernel
theorem dX2_with_23 : decode cX2_with 23 = .ok (.lor, 1) := by decide +kernel
theorem dX2_with_24 : decode cX2_with 24 = .ok (.lreturn, 1) := by decide +kernel
theorem dX2_places_0 : decode cX2_places 0 = .ok (.iconst 0, 1) := by decide +kernel
theorem dX2_places_1 : decode cX2_places 1 = .ok (.istore_n 2, 1) := by decide +kernel
theorem dX2_places_2 : decode cX2_places 2 = .ok (.iconst 0, 1) := by decide +kernel
theorem dX2_places_3 : decode cX2_places 3 = .ok (.istore_n 3, 1) := by decide +kernel
theorem dX2_places_4 : decode cX2_places 4 = .ok (.iload_n 3, 1) := by decide +kernel
theorem dX2_places_5 : decode cX2_places 5 = .ok (.bipush 8, 2) := by decide +kernel
theorem dX2_places_7 : decode cX2_places 7 = .ok (.if_icmp .ge 23, 3) := by decide +kernel
theorem dX2_places_10 : decode cX2_places 10 = .ok (.lload_n 0, 1) := by decide +kernel
theorem dX2_places_11 : decode cX2_places 11 = .ok (.iload_n 3, 1) := by decide +kernel
theorem dX2_places_12 : decode cX2_places 12 = .ok (.invokestatic 15, 3) := by decide +kernel
theorem dX2_places_15 : decode cX2_places 15 = .ok (.ifCond .eq 9, 3) := by decide +kernel
theorem dX2_places_18 : decode cX2_places 18 = .ok (.iload_n 2, 1) := by decide +kernel
theorem dX2_places_19 : decode cX2_places 19 = .ok (.iconst 1, 1) := by decide +kernel
theorem dX2_places_20 : decode cX2_places 20 = .ok (.iload_n 3, 1) := by decide +kernel
theorem dX2_places_21 : decode cX2_places 21 = .ok (.ishl, 1) := by decide +kernel
theorem dX2_places_22 : decode cX2_places 22 = .ok (.ior, 1) := by decide +kernel
theorem dX2_places_23 : decode cX2_places 23 = .ok (.istore_n 2, 1) := by decide +kernel
theorem dX2_places_24 : decode cX2_places 24 = .ok (.iinc 3 1, 3) := by decide +kernel
theorem dX2_places_27 : decode cX2_places 27 = .ok (.goto (-23), 3) := by decide +kernel
theorem dX2_places_30 : decode cX2_places 30 = .ok (.iload_n 2, 1) := by decide +kernel
theorem dX2_places_31 : decode cX2_places 31 = .ok (.ireturn, 1) := by decide +kernel
theorem dX3_init_0 : decode cX3_init 0 = .ok (.aload_n 0, 1) := by decide +kernel
theorem dX3_init_1 : decode cX3_init 1 = .ok (.invokespecial 1, 3) := by decide +kernel
theorem dX3_init_4 : decode cX3_init 4 = .ok (.aload_n 0, 1) := by decide +kernel
theorem dX3_init_5 : decode cX3_init 5 = .ok (.iconst 1, 1) := by decide +kernel
theorem dX3_init_6 : decode cX3_init 6 = .ok (.bipush 7, 2) := by decide +kernel
theorem dX3_init_8 : decode cX3_init 8 = .ok (.iload_n 1, 1) := by decide +kernel
theorem dX3_init_9 : decode cX3_init 9 = .ok (.invokestatic 9, 3) := by decide +kernel
theorem dX3_init_12 : decode cX3_init 12 = .ok (.invokestatic 15, 3) := by decide +kernel
theorem dX3_init_15 : decode cX3_init 15 = .ok (.putfield 18, 3) := by decide +kernel
theorem dX3_init_18 : decode cX3_init 18 = .ok (.aload_n 0, 1) := by decide +kernel
theorem dX3_init_19 : decode cX3_init 19 = .ok (.aload_n 0, 1) := by decide +kernel
theorem dX3_init_20 : decode cX3_init 20 = .ok (.getfield 18, 3) := by decide +kernel
theorem dX3_init_23 : decode cX3_init 23 = .ok (.newarray .int, 2) := by decide +kernel
theorem dX3_init_25 : decode cX3_init 25 = .ok (.putfield 22, 3) := by decide +kernel
theorem dX3_init_28 : decode cX3_init 28 = .ok (.aload_n 0, 1) := by decide +kernel
theorem dX3_init_29 : decode cX3_init 29 = .ok (.aload_n 0, 1) := by decide +kernel
theorem dX3_init_30 : decode cX3_init 30 = .ok (.getfield 18, 3) := by decide +kernel
theorem dX3_init_33 : decode cX3_init 33 = .ok (.newarray .long, 2) := by decide +kernel
theorem dX3_init_35 : decode cX3_init 35 = .ok (.putfield 26, 3) := by decide +kernel
theorem dX3_init_38 : decode cX3_init 38 = .ok (.aload_n 0, 1) := by decide +kernel
theorem dX3_init_39 : decode cX3_init 39 = .ok (.bipush 24, 2) := by decide +kernel
theorem dX3_init_41 : decode cX3_init 41 = .ok (.anewarray 30, 3) := by decide +kernel
theorem dX3_init_44 : decode cX3_init 44 = .ok (.putfield 32, 3) := by decide +kernel
theorem dX3_init_47 : decode cX3_init 47 = .ok (.aload_n 0, 1) := by decide +kernel
theorem dX3_init_48 : decode cX3_init 48 = .ok (.new 36, 3) := by decide +kernel
theorem dX3_init_51 : decode cX3_init 51 = .ok (.dup, 1) := by decide +kernel
theorem dX3_init_52 : decode cX3_init 52 = .ok (.invokespecial 38, 3) := by decide +kernel
theorem dX3_init_55 : decode cX3_init 55 = .ok (.putfield 39, 3) := by decide +kernel
theorem dX3_init_58 : decode cX3_init 58 = .ok (.return_, 1) := by decide +kernel
theorem dX3_ballot_0 : decode cX3_ballot 0 = .ok (.aload_n 0, 1) := by decide +kernel
theorem dX3_ballot_1 : decode cX3_ballot 1 = .ok (.getfield 43, 3) := by decide +kernel
theorem dX3_ballot_4 : decode cX3_ballot 4 = .ok (.bipush 24, 2) := by decide +kernel
theorem dX3_ballot_6 : decode cX3_ballot 6 = .ok (.if_icmp .ge 13, 3) := by decide +kernel
theorem dX3_ballot_9 : decode cX3_ballot 9 = .ok (.aload_n 0, 1) := by decide +kernel
theorem dX3_ballot_10 : decode cX3_ballot 10 = .ok (.iload_n 1, 1) := by decide +kernel
theorem dX3_ballot_11 : decode cX3_ballot 11 = .ok (.iload_n 2, 1) := by decide +kernel
theorem dX3_ballot_12 : decode cX3_ballot 12 = .ok (.iload_n 3, 1) := by decide +kernel
theorem dX3_ballot_13 : decode cX3_ballot 13 = .ok (.invokevirtual 46, 3) := by decide +kernel
theorem dX3_ballot_16 : decode cX3_ballot 16 = .ok (.ifCond .ne 5, 3) := by decide +kernel
theorem dX3_ballot_19 : decode cX3_ballot 19 = .ok (.iconst (-1), 1) := by decide +kernel
theorem dX3_ballot_20 : decode cX3_ballot 20 = .ok (.ireturn, 1) := by decide +kernel
theorem dX3_ballot_21 : decode cX3_ballot 21 = .ok (.aload_n 0, 1) := by decide +kernel
theorem dX3_ballot_22 : decode cX3_ballot 22 = .ok (.getfield 43, 3) := by decide +kernel
theorem dX3_ballot_25 : decode cX3_ballot 25 = .ok (.iconst 1, 1) := by decide +kernel
theorem dX3_ballot_26 : decode cX3_ballot 26 = .ok (.iadd, 1) := by decide +kernel
theorem dX3_ballot_27 : decode cX3_ballot 27 = .ok (.istore 4, 2) := by decide +kernel
theorem dX3_ballot_29 : decode cX3_ballot 29 = .ok (.iconst 1, 1) := by decide +kernel
theorem dX3_ballot_30 : decode cX3_ballot 30 = .ok (.aload_n 0, 1) := by decide +kernel
theorem dX3_ballot_31 : decode cX3_ballot 31 = .ok (.getfield 50, 3) := by decide +kernel
theorem dX3_ballot_34 : decode cX3_ballot 34 = .ok (.invokestatic 15, 3) := by decide +kernel
theorem dX3_ballot_37 : decode cX3_ballot 37 = .ok (.istore 5, 2) := by decide +kernel
theorem dX3_ballot_39 : decode cX3_ballot 39 = .ok (.new 30, 3) := by decide +kernel
theorem dX3_ballot_42 : decode cX3_ballot 42 = .ok (.dup, 1) := by decide +kernel
theorem dX3_ballot_43 : decode cX3_ballot 43 = .ok (.iload 4, 2) := by decide +kernel
theorem dX3_ballot_45 : decode cX3_ballot 45 = .ok (.iload_n 1, 1) := by decide +kernel
theorem dX3_ballot_46 : decode cX3_ballot 46 = .ok (.iload_n 2, 1) := by decide +kernel
theorem dX3_ballot_47 : decode cX3_ballot 47 = .ok (.iload_n 3, 1) := by decide +kernel
theorem dX3_ballot_48 : decode cX3_ballot 48 = .ok (.aload_n 0, 1) := by decide +kernel
theorem dX3_ballot_49 : decode cX3_ballot 49 = .ok (.getfield 50, 3) := by decide +kernel
theorem dX3_ballot_52 : decode cX3_ballot 52 = .ok (.aload_n 0, 1) := by decide +kernel
theorem dX3_ballot_53 : decode cX3_ballot 53 = .ok (.iload 5, 2) := by decide +kernel
theorem dX3_ballot_55 : decode cX3_ballot 55 = .ok (.invokevirtual 53, 3) := by decide +kernel
theorem dX3_ballot_58 : decode cX3_ballot 58 = .ok (.invokespecial 57, 3) := by decide +kernel
theorem dX3_ballot_61 : decode cX3_ballot 61 = .ok (.astore 6, 2) := by decide +kernel
theorem dX3_ballot_63 : decode cX3_ballot 63 = .ok (.aload_n 0, 1) := by decide +kernel
theorem dX3_ballot_64 : decode cX3_ballot 64 = .ok (.getfield 32, 3) := by decide +kernel
theorem dX3_ballot_67 : decode cX3_ballot 67 = .ok (.aload_n 0, 1) := by decide +kernel
theorem dX3_ballot_68 : decode cX3_ballot 68 = .ok (.getfield 43, 3) := by decide +kernel
theorem dX3_ballot_71 : decode cX3_ballot 71 = .ok (.aload 6, 2) := by decide +kernel
theorem dX3_ballot_73 : decode cX3_ballot 73 = .ok (.aastore, 1) := by decide +kernel
theorem dX3_ballot_74 : decode cX3_ballot 74 = .ok (.aload_n 0, 1) := by decide +kernel
theorem dX3_ballot_75 : decode cX3_ballot 75 = .ok (.iload 4, 2) := by decide +kernel
theorem dX3_ballot_77 : decode cX3_ballot 77 = .ok (.putfield 43, 3) := by decide +kernel
theorem dX3_ballot_80 : decode cX3_ballot 80 = .ok (.aload_n 0, 1) := by decide +kernel
theorem dX3_ballot_81 : decode cX3_ballot 81 = .ok (.getfield 39, 3) := by decide +kernel
theorem dX3_ballot_84 : decode cX3_ballot 84 = .ok (.iconst 1, 1) := by decide +kernel
theorem dX3_ballot_85 : decode cX3_ballot 85 = .ok (.iload 4, 2) := by decide +kernel
theorem dX3_ballot_87 : decode cX3_ballot 87 = .ok (.iconst (-1), 1) := by decide +kernel
theorem dX3_ballot_88 : decode cX3_ballot 88 = .ok (.iconst (-1), 1) := by decide +kernel
theorem dX3_ballot_89 : decode cX3_ballot 89 = .ok (.lconst 0, 1) := by decide +kernel
theorem dX3_ballot_90 : decode cX3_ballot 90 = .ok (.invokevirtual 60, 3) := by decide +kernel
theorem dX3_ballot_93 : decode cX3_ballot 93 = .ok (.iload 4, 2) := by decide +kernel
theorem dX3_ballot_95 : decode cX3_ballot 95 = .ok (.ireturn, 1) := by decide +kernel
theorem dX3_propose_0 : decode cX3_propose 0 = .ok (.aload_n 0, 1) := by decide +kernel
theorem dX3_propose_1 : decode cX3_propose 1 = .ok (.iload_n 1, 1) := by decide +kernel
theorem dX3_propose_2 : decode cX3_propose 2 = .ok (.invokevirtual 64, 3) := by decide +kernel
theorem dX3_propose_5 : decode cX3_propose 5 = .ok (.astore 5, 2) := by decide +kernel
theorem dX3_propose_7 : decode cX3_propose 7 = .ok (.aload 5, 2) := by decide +kernel
theorem dX3_propose_9 : decode cX3_propose 9 = .ok (.ifnull 28, 3) := by decide +kernel
theorem dX3_propose_12 : decode cX3_propose 12 = .ok (.iload_n 2, 1) := by decide +kernel
theorem dX3_propose_13 : decode cX3_propose 13 = .ok (.invokestatic 68, 3) := by decide +kernel
theorem dX3_propose_16 : decode cX3_propose 16 = .ok (.ifCond .eq 21, 3) := by decide +kernel
theorem dX3_propose_19 : decode cX3_propose 19 = .ok (.aload 5, 2) := by decide +kernel
theorem dX3_propose_21 : decode cX3_propose 21 = .ok (.getfield 72, 3) := by decide +kernel
theorem dX3_propose_24 : decode cX3_propose 24 = .ok (.iconst 4, 1) := by decide +kernel
theorem dX3_propose_25 : decode cX3_propose 25 = .ok (.if_icmp .ne 12, 3) := by decide +kernel
theorem dX3_propose_28 : decode cX3_propose 28 = .ok (.aload 5, 2) := by decide +kernel
theorem dX3_propose_30 : decode cX3_propose 30 = .ok (.iload_n 2, 1) := by decide +kernel
theorem dX3_propose_31 : decode cX3_propose 31 = .ok (.invokevirtual 75, 3) := by decide +kernel
theorem dX3_propose_34 : decode cX3_propose 34 = .ok (.ifCond .eq 5, 3) := by decide +kernel
theorem dX3_propose_37 : decode cX3_propose 37 = .ok (.iconst 0, 1) := by decide +kernel
theorem dX3_propose_38 : decode cX3_propose 38 = .ok (.ireturn, 1) := by decide +kernel
theorem dX3_propose_39 : decode cX3_propose 39 = .ok (.aload 5, 2) := by decide +kernel
theorem dX3_propose_41 : decode cX3_propose 41 = .ok (.dup, 1) := by decide +kernel
theorem dX3_propose_42 : decode cX3_propose 42 = .ok (.getfield 78, 3) := by decide +kernel
theorem dX3_propose_45 : decode cX3_propose 45 = .ok (.iconst 1, 1) := by decide +kernel
theorem dX3_propose_46 : decode cX3_propose 46 = .ok (.iload_n 2, 1) := by decide +kernel
theorem dX3_propose_47 : decode cX3_propose 47 = .ok (.ishl, 1) := by decide +kernel
theorem dX3_propose_48 : decode cX3_propose 48 = .ok (.ior, 1) := by decide +kernel
theorem dX3_propose_49 : decode cX3_propose 49 = .ok (.putfield 78, 3) := by decide +kernel
theorem dX3_propose_52 : decode cX3_propose 52 = .ok (.aload 5, 2) := by decide +kernel
theorem dX3_propose_54 : decode cX3_propose 54 = .ok (.getfield 81, 3) := by decide +kernel
theorem dX3_propose_57 : decode cX3_propose 57 = .ok (.iload_n 2, 1) := by decide +kernel
theorem dX3_propose_58 : decode cX3_propose 58 = .ok (.lload_n 3, 1) := by decide +kernel
theorem dX3_propose_59 : decode cX3_propose 59 = .ok (.lastore, 1) := by decide +kernel
theorem dX3_propose_60 : decode cX3_propose 60 = .ok (.aload_n 0, 1) := by decide +kernel
theorem dX3_propose_61 : decode cX3_propose 61 = .ok (.aload 5, 2) := by decide +kernel
theorem dX3_propose_63 : decode cX3_propose 63 = .ok (.getfield 84, 3) := by decide +kernel
theorem dX3_propose_66 : decode cX3_propose 66 = .ok (.iconst 4, 1) := by decide +kernel
theorem dX3_propose_67 : decode cX3_propose 67 = .ok (.aload 5, 2) := by decide +kernel
theorem dX3_propose_69 : decode cX3_propose 69 = .ok (.iload_n 2, 1) := by decide +kernel
theorem dX3_propose_70 : decode cX3_propose 70 = .ok (.invokevirtual 87, 3) := by decide +kernel
theorem dX3_propose_73 : decode cX3_propose 73 = .ok (.pop, 1) := by decide +kernel
theorem dX3_propose_74 : decode cX3_propose 74 = .ok (.iconst 1, 1) := by decide +kernel
theorem dX3_propose_75 : decode cX3_propose 75 = .ok (.ireturn, 1) := by decide +kernel
theorem dX3_again_0 : decode cX3_again 0 = .ok (.aload_n 0, 1) := by decide +kernel
theorem dX3_again_1 : decode cX3_again 1 = .ok (.iload_n 1, 1) := by decide +kernel
theorem dX3_again_2 : decode cX3_again 2 = .ok (.invokevirtual 64, 3) := by decide +kernel
theorem dX3_again_5 : decode cX3_again 5 = .ok (.astore_n 2, 1) := by decide +kernel
theorem dX3_again_6 : decode cX3_again 6 = .ok (.aload_n 2, 1) := by decide +kernel
theorem dX3_again_7 : decode cX3_again 7 = .ok (.ifnonnull 5, 3) := by decide +kernel
theorem dX3_again_10 : decode cX3_again 10 = .ok (.iconst (-1), 1) := by decide +kernel
theorem dX3_again_11 : decode cX3_again 11 = .ok (.ireturn, 1) := by decide +kernel
theorem dX3_again_12 : decode cX3_again 12 = .ok (.aload_n 2, 1) := by decide +kernel
theorem dX3_again_13 : decode cX3_again 13 = .ok (.getfield 72, 3) := by decide +kernel
theorem dX3_again_16 : decode cX3_again 16 = .ok (.tableswitch 86 0 3 #[32, 49, 86, 68], 32) := by decide +kernel
theorem dX3_again_48 : decode cX3_again 48 = .ok (.aload_n 0, 1) := by decide +kernel
theorem dX3_again_49 : decode cX3_again 49 = .ok (.getfield 39, 3) := by decide +kernel
theorem dX3_again_52 : decode cX3_again 52 = .ok (.iconst 1, 1) := by decide +kernel
theorem dX3_again_53 : decode cX3_again 53 = .ok (.aload_n 2, 1) := by decide +kernel
theorem dX3_again_54 : decode cX3_again 54 = .ok (.getfield 91, 3) := by decide +kernel
theorem dX3_again_57 : decode cX3_again 57 = .ok (.iconst (-1), 1) := by decide +kernel
theorem dX3_again_58 : decode cX3_again 58 = .ok (.iconst (-1), 1) := by decide +kernel
theorem dX3_again_59 : decode cX3_again 59 = .ok (.lconst 0, 1) := by decide +kernel
theorem dX3_again_60 : decode cX3_again 60 = .ok (.invokevirtual 60, 3) := by decide +kernel
theorem dX3_again_63 : decode cX3_again 63 = .ok (.iconst 1, 1) := by decide +kernel
theorem dX3_again_64 : decode cX3_again 64 = .ok (.ireturn, 1) := by decide +kernel
theorem dX3_again_65 : decode cX3_again 65 = .ok (.aload_n 0, 1) := by decide +kernel
theorem dX3_again_66 : decode cX3_again 66 = .ok (.aload_n 2, 1) := by decide +kernel
theorem dX3_again_67 : decode cX3_again 67 = .ok (.getfield 94, 3) := by decide +kernel
theorem dX3_again_70 : decode cX3_again 70 = .ok (.aload_n 2, 1) := by decide +kernel
theorem dX3_again_71 : decode cX3_again 71 = .ok (.getfield 97, 3) := by decide +kernel
theorem dX3_again_74 : decode cX3_again 74 = .ok (.iconst (-1), 1) := by decide +kernel
theorem dX3_again_75 : decode cX3_again 75 = .ok (.ixor, 1) := by decide +kernel
theorem dX3_again_76 : decode cX3_again 76 = .ok (.iand, 1) := by decide +kernel
theorem dX3_again_77 : decode cX3_again 77 = .ok (.iconst 2, 1) := by decide +kernel
theorem dX3_again_78 : decode cX3_again 78 = .ok (.aload_n 2, 1) := by decide +kernel
theorem dX3_again_79 : decode cX3_again 79 = .ok (.iconst (-1), 1) := by decide +kernel
theorem dX3_again_80 : decode cX3_again 80 = .ok (.invokevirtual 87, 3) := by decide +kernel
theorem dX3_again_83 : decode cX3_again 83 = .ok (.ireturn, 1) := by decide +kernel
theorem dX3_again_84 : decode cX3_again 84 = .ok (.aload_n 0, 1) := by decide +kernel
theorem dX3_again_85 : decode cX3_again 85 = .ok (.getfield 39, 3) := by decide +kernel
theorem dX3_again_88 : decode cX3_again 88 = .ok (.bipush 6, 2) := by decide +kernel
theorem dX3_again_90 : decode cX3_again 90 = .ok (.aload_n 2, 1) := by decide +kernel
theorem dX3_again_91 : decode cX3_again 91 = .ok (.getfield 91, 3) := by decide +kernel
theorem dX3_again_94 : decode cX3_again 94 = .ok (.iconst (-1), 1) := by decide +kernel
theorem dX3_again_95 : decode cX3_again 95 = .ok (.iconst (-1), 1) := by decide +kernel
theorem dX3_again_96 : decode cX3_again 96 = .ok (.lconst 0, 1) := by decide +kernel
theorem dX3_again_97 : decode cX3_again 97 = .ok (.invokevirtual 60, 3) := by decide +kernel
theorem dX3_again_100 : decode cX3_again 100 = .ok (.iconst 1, 1) := by decide +kernel
theorem dX3_again_101 : decode cX3_again 101 = .ok (.ireturn, 1) := by decide +kernel
theorem dX3_again_102 : decode cX3_again 102 = .ok (.aload_n 0, 1) := by decide +kernel
theorem dX3_again_103 : decode cX3_again 103 = .ok (.aload_n 2, 1) := by decide +kernel
theorem dX3_again_104 : decode cX3_again 104 = .ok (.invokevirtual 100, 3) := by decide +kernel
theorem dX3_again_107 : decode cX3_again 107 = .ok (.ireturn, 1) := by decide +kernel
theorem dX3_deliver_0 : decode cX3_deliver 0 = .ok (.aload_n 0, 1) := by decide +kernel
theorem dX3_deliver_1 : decode cX3_deliver 1 = .ok (.getfield 39, 3) := by decide +kernel
theorem dX3_deliver_4 : decode cX3_deliver 4 = .ok (.iload_n 1, 1) := by decide +kernel
theorem dX3_deliver_5 : decode cX3_deliver 5 = .ok (.invokevirtual 104, 3) := by decide +kernel
theorem dX3_deliver_8 : decode cX3_deliver 8 = .ok (.ifCond .eq 11, 3) := by decide +kernel
theorem dX3_deliver_11 : decode cX3_deliver 11 = .ok (.aload_n 0, 1) := by decide +kernel
theorem dX3_deliver_12 : decode cX3_deliver 12 = .ok (.iload_n 1, 1) := by decide +kernel
theorem dX3_deliver_13 : decode cX3_deliver 13 = .ok (.invokevirtual 107, 3) := by decide +kernel
theorem dX3_deliver_16 : decode cX3_deliver 16 = .ok (.ifCond .eq 5, 3) := by decide +kernel
theorem dX3_deliver_19 : decode cX3_deliver 19 = .ok (.iconst 0, 1) := by decide +kernel
theorem dX3_deliver_20 : decode cX3_deliver 20 = .ok (.ireturn, 1) := by decide +kernel
theorem dX3_deliver_21 : decode cX3_deliver 21 = .ok (.aload_n 0, 1) := by decide +kernel
theorem dX3_deliver_22 : decode cX3_deliver 22 = .ok (.iload_n 1, 1) := by decide +kernel
theorem dX3_deliver_23 : decode cX3_deliver 23 = .ok (.invokevirtual 110, 3) := by decide +kernel
theorem dX3_deliver_26 : decode cX3_deliver 26 = .ok (.iconst 1, 1) := by decide +kernel
theorem dX3_deliver_27 : decode cX3_deliver 27 = .ok (.ireturn, 1) := by decide +kernel
theorem dX3_settle_0 : decode cX3_settle 0 = .ok (.iload_n 1, 1) := by decide +kernel
theorem dX3_settle_1 : decode cX3_settle 1 = .ok (.ifCond .ge 5, 3) := by decide +kernel
theorem dX3_settle_4 : decode cX3_settle 4 = .ok (.iconst (-1), 1) := by decide +kernel
theorem dX3_settle_5 : decode cX3_settle 5 = .ok (.ireturn, 1) := by decide +kernel
theorem dX3_settle_6 : decode cX3_settle 6 = .ok (.iconst 0, 1) := by decide +kernel
theorem dX3_settle_7 : decode cX3_settle 7 = .ok (.istore_n 2, 1) := by decide +kernel
theorem dX3_settle_8 : decode cX3_settle 8 = .ok (.iload_n 2, 1) := by decide +kernel
theorem dX3_settle_9 : decode cX3_settle 9 = .ok (.iload_n 1, 1) := by decide +kernel
theorem dX3_settle_10 : decode cX3_settle 10 = .ok (.if_icmp .ge 26, 3) := by decide +kernel
theorem dX3_settle_13 : decode cX3_settle 13 = .ok (.aload_n 0, 1) := by decide +kernel
theorem dX3_settle_14 : decode cX3_settle 14 = .ok (.invokevirtual 114, 3) := by decide +kernel
theorem dX3_settle_17 : decode cX3_settle 17 = .ok (.istore_n 3, 1) := by decide +kernel
theorem dX3_settle_18 : decode cX3_settle 18 = .ok (.iload_n 3, 1) := by decide +kernel
theorem dX3_settle_19 : decode cX3_settle 19 = .ok (.iconst (-1), 1) := by decide +kernel
theorem dX3_settle_20 : decode cX3_settle 20 = .ok (.if_icmp .ne 5, 3) := by decide +kernel
theorem dX3_settle_23 : decode cX3_settle 23 = .ok (.iload_n 2, 1) := by decide +kernel
theorem dX3_settle_24 : decode cX3_settle 24 = .ok (.ireturn, 1) := by decide +kernel
theorem dX3_settle_25 : decode cX3_settle 25 = .ok (.aload_n 0, 1) := by decide +kernel
theorem dX3_settle_26 : decode cX3_settle 26 = .ok (.iload_n 3, 1) := by decide +kernel
theorem dX3_settle_27 : decode cX3_settle 27 = .ok (.invokevirtual 110, 3) := by decide +kernel
theorem dX3_settle_30 : decode cX3_settle 30 = .ok (.iinc 2 1, 3) := by decide +kernel
theorem dX3_settle_33 : decode cX3_settle 33 = .ok (.goto (-25), 3) := by decide +kernel
theorem dX3_settle_36 : decode cX3_settle 36 = .ok (.iload_n 2, 1) := by decide +kernel
theorem dX3_settle_37 : decode cX3_settle 37 = .ok (.ireturn, 1) := by decide +kernel
theorem dX3_lose_0 : decode cX3_lose 0 = .ok (.aload_n 0, 1) := by decide +kernel
theorem dX3_lose_1 : decode cX3_lose 1 = .ok (.getfield 39, 3) := by decide +kernel
theorem dX3_lose_4 : decode cX3_lose 4 = .ok (.iload_n 1, 1) := by decide +kernel
theorem dX3_lose_5 : decode cX3_lose 5 = .ok (.invokevirtual 104, 3) := by decide +kernel
theorem dX3_lose_8 : decode cX3_lose 8 = .ok (.ifCond .ne 5, 3) := by decide +kernel
theorem dX3_lose_11 : decode cX3_lose 11 = .ok (.iconst 0, 1) := by decide +kernel
theorem dX3_lose_12 : decode cX3_lose 12 = .ok (.ireturn, 1) := by decide +kernel
theorem dX3_lose_13 : decode cX3_lose 13 = .ok (.aload_n 0, 1) := by decide +kernel
theorem dX3_lose_14 : decode cX3_lose 14 = .ok (.getfield 39, 3) := by decide +kernel
theorem dX3_lose_17 : decode cX3_lose 17 = .ok (.iload_n 1, 1) := by decide +kernel
theorem dX3_lose_18 : decode cX3_lose 18 = .ok (.invokevirtual 118, 3) := by decide +kernel
theorem dX3_lose_21 : decode cX3_lose 21 = .ok (.iconst 1, 1) := by decide +kernel
theorem dX3_lose_22 : decode cX3_lose 22 = .ok (.ireturn, 1) := by decide +kernel
theorem dX3_twice_0 : decode cX3_twice 0 = .ok (.aload_n 0, 1) := by decide +kernel
theorem dX3_twice_1 : decode cX3_twice 1 = .ok (.getfield 39, 3) := by decide +kernel
theorem dX3_twice_4 : decode cX3_twice 4 = .ok (.iload_n 1, 1) := by decide +kernel
theorem dX3_twice_5 : decode cX3_twice 5 = .ok (.invokevirtual 104, 3) := by decide +kernel
theorem dX3_twice_8 : decode cX3_twice 8 = .ok (.ifCond .eq 16, 3) := by decide +kernel
theorem dX3_twice_11 : decode cX3_twice 11 = .ok (.aload_n 0, 1) := by decide +kernel
theorem dX3_twice_12 : decode cX3_twice 12 = .ok (.getfield 39, 3) := by decide +kernel
theorem dX3_twice_15 : decode cX3_twice 15 = .ok (.getfield 121, 3) := by decide +kernel
theorem dX3_twice_18 : decode cX3_twice 18 = .ok (.sipush 400, 3) := by decide +kernel
theorem dX3_twice_21 : decode cX3_twice 21 = .ok (.if_icmp .lt 5, 3) := by decide +kernel
theorem dX3_twice_24 : decode cX3_twice 24 = .ok (.iconst 0, 1) := by decide +kernel
theorem dX3_twice_25 : decode cX3_twice 25 = .ok (.ireturn, 1) := by decide +kernel
theorem dX3_twice_26 : decode cX3_twice 26 = .ok (.aload_n 0, 1) := by decide +kernel
theorem dX3_twice_27 : decode cX3_twice 27 = .ok (.getfield 39, 3) := by decide +kernel
theorem dX3_twice_30 : decode cX3_twice 30 = .ok (.iload_n 1, 1) := by decide +kernel
theorem dX3_twice_31 : decode cX3_twice 31 = .ok (.invokevirtual 124, 3) := by decide +kernel
theorem dX3_twice_34 : decode cX3_twice 34 = .ok (.iconst 1, 1) := by decide +kernel
theorem dX3_twice_35 : decode cX3_twice 35 = .ok (.ireturn, 1) := by decide +kernel
theorem dX3_silent_0 : decode cX3_silent 0 = .ok (.aload_n 0, 1) := by decide +kernel
theorem dX3_silent_1 : decode cX3_silent 1 = .ok (.iload_n 1, 1) := by decide +kernel
theorem dX3_silent_2 : decode cX3_silent 2 = .ok (.invokevirtual 127, 3) := by decide +kernel
theorem dX3_silent_5 : decode cX3_silent 5 = .ok (.ifCond .ne 5, 3) := by decide +kernel
theorem dX3_silent_8 : decode cX3_silent 8 = .ok (.iconst 0, 1) := by decide +kernel
theorem dX3_silent_9 : decode cX3_silent 9 = .ok (.ireturn, 1) := by decide +kernel
theorem dX3_silent_10 : decode cX3_silent 10 = .ok (.iconst 1, 1) := by decide +kernel
theorem dX3_silent_11 : decode cX3_silent 11 = .ok (.iload_n 1, 1) := by decide +kernel
theorem dX3_silent_12 : decode cX3_silent 12 = .ok (.ishl, 1) := by decide +kernel
theorem dX3_silent_13 : decode cX3_silent 13 = .ok (.istore_n 3, 1) := by decide +kernel
theorem dX3_silent_14 : decode cX3_silent 14 = .ok (.aload_n 0, 1) := by decide +kernel
theorem dX3_silent_15 : decode cX3_silent 15 = .ok (.iload_n 2, 1) := by decide +kernel
theorem dX3_silent_16 : decode cX3_silent 16 = .ok (.ifCond .eq 12, 3) := by decide +kernel
theorem dX3_silent_19 : decode cX3_silent 19 = .ok (.aload_n 0, 1) := by decide +kernel
theorem dX3_silent_20 : decode cX3_silent 20 = .ok (.getfield 130, 3) := by decide +kernel
theorem dX3_silent_23 : decode cX3_silent 23 = .ok (.iload_n 3, 1) := by decide +kernel
theorem dX3_silent_24 : decode cX3_silent 24 = .ok (.ior, 1) := by decide +kernel
theorem dX3_silent_25 : decode cX3_silent 25 = .ok (.goto 11, 3) := by decide +kernel
theorem dX3_silent_28 : decode cX3_silent 28 = .ok (.aload_n 0, 1) := by decide +kernel
theorem dX3_silent_29 : decode cX3_silent 29 = .ok (.getfield 130, 3) := by decide +kernel
theorem dX3_silent_32 : decode cX3_silent 32 = .ok (.iload_n 3, 1) := by decide +kernel
theorem dX3_silent_33 : decode cX3_silent 33 = .ok (.iconst (-1), 1) := by decide +kernel
theorem dX3_silent_34 : decode cX3_silent 34 = .ok (.ixor, 1) := by decide +kernel
theorem dX3_silent_35 : decode cX3_silent 35 = .ok (.iand, 1) := by decide +kernel
theorem dX3_silent_36 : decode cX3_silent 36 = .ok (.putfield 130, 3) := by decide +kernel
theorem dX3_silent_39 : decode cX3_silent 39 = .ok (.iconst 1, 1) := by decide +kernel
theorem dX3_silent_40 : decode cX3_silent 40 = .ok (.ireturn, 1) := by decide +kernel
theorem dX3_promise_0 : decode cX3_promise 0 = .ok (.aload_n 0, 1) := by decide +kernel
theorem dX3_promise_1 : decode cX3_promise 1 = .ok (.iload_n 1, 1) := by decide +kernel
theorem dX3_promise_2 : decode cX3_promise 2 = .ok (.invokevirtual 127, 3) := by decide +kernel
theorem dX3_promise_5 : decode cX3_promise 5 = .ok (.ifCond .eq 12, 3) := by decide +kernel
theorem dX3_promise_8 : decode cX3_promise 8 = .ok (.aload_n 0, 1) := by decide +kernel
theorem dX3_promise_9 : decode cX3_promise 9 = .ok (.getfield 22, 3) := by decide +kernel
theorem dX3_promise_12 : decode cX3_promise 12 = .ok (.iload_n 1, 1) := by decide +kernel
theorem dX3_promise_13 : decode cX3_promise 13 = .ok (.iaload, 1) := by decide +kernel
theorem dX3_promise_14 : decode cX3_promise 14 = .ok (.goto 4, 3) := by decide +kernel
theorem dX3_promise_17 : decode cX3_promise 17 = .ok (.iconst (-1), 1) := by decide +kernel
theorem dX3_promise_18 : decode cX3_promise 18 = .ok (.ireturn, 1) := by decide +kernel
theorem dX3_vote_0 : decode cX3_vote 0 = .ok (.aload_n 0, 1) := by decide +kernel
theorem dX3_vote_1 : decode cX3_vote 1 = .ok (.iload_n 1, 1) := by decide +kernel
theorem dX3_vote_2 : decode cX3_vote 2 = .ok (.invokevirtual 127, 3) := by decide +kernel
theorem dX3_vote_5 : decode cX3_vote 5 = .ok (.ifCond .eq 23, 3) := by decide +kernel
theorem dX3_vote_8 : decode cX3_vote 8 = .ok (.iload_n 2, 1) := by decide +kernel
theorem dX3_vote_9 : decode cX3_vote 9 = .ok (.invokestatic 68, 3) := by decide +kernel
theorem dX3_vote_12 : decode cX3_vote 12 = .ok (.ifCond .eq 16, 3) := by decide +kernel
theorem dX3_vote_15 : decode cX3_vote 15 = .ok (.aload_n 0, 1) := by decide +kernel
theorem dX3_vote_16 : decode cX3_vote 16 = .ok (.getfield 26, 3) := by decide +kernel
theorem dX3_vote_19 : decode cX3_vote 19 = .ok (.iload_n 1, 1) := by decide +kernel
theorem dX3_vote_20 : decode cX3_vote 20 = .ok (.laload, 1) := by decide +kernel
theorem dX3_vote_21 : decode cX3_vote 21 = .ok (.iload_n 2, 1) := by decide +kernel
theorem dX3_vote_22 : decode cX3_vote 22 = .ok (.invokestatic 133, 3) := by decide +kernel
theorem dX3_vote_25 : decode cX3_vote 25 = .ok (.goto 4, 3) := by decide +kernel
theorem dX3_vote_28 : decode cX3_vote 28 = .ok (.iconst (-1), 1) := by decide +kernel
theorem dX3_vote_29 : decode cX3_vote 29 = .ok (.ireturn, 1) := by decide +kernel
theorem dX3_value_0 : decode cX3_value 0 = .ok (.aload_n 0, 1) := by decide +kernel
theorem dX3_value_1 : decode cX3_value 1 = .ok (.iload_n 1, 1) := by decide +kernel
theorem dX3_value_2 : decode cX3_value 2 = .ok (.invokevirtual 127, 3) := by decide +kernel
theorem dX3_value_5 : decode cX3_value 5 = .ok (.ifCond .eq 10, 3) := by decide +kernel
theorem dX3_value_8 : decode cX3_value 8 = .ok (.iload_n 2, 1) := by decide +kernel
theorem dX3_value_9 : decode cX3_value 9 = .ok (.invokestatic 68, 3) := by decide +kernel
theorem dX3_value_12 : decode cX3_value 12 = .ok (.ifCond .ne 5, 3) := by decide +kernel
theorem dX3_value_15 : decode cX3_value 15 = .ok (.lconst 0, 1) := by decide +kernel
theorem dX3_value_16 : decode cX3_value 16 = .ok (.lreturn, 1) := by decide +kernel
theorem dX3_value_17 : decode cX3_value 17 = .ok (.aload_n 0, 1) := by decide +kernel
theorem dX3_value_18 : decode cX3_value 18 = .ok (.aload_n 0, 1) := by decide +kernel
theorem dX3_value_19 : decode cX3_value 19 = .ok (.getfield 26, 3) := by decide +kernel
theorem dX3_value_22 : decode cX3_value 22 = .ok (.iload_n 1, 1) := by decide +kernel
theorem dX3_value_23 : decode cX3_value 23 = .ok (.laload, 1) := by decide +kernel
theorem dX3_value_24 : decode cX3_value 24 = .ok (.iload_n 2, 1) := by decide +kernel
theorem dX3_value_25 : decode cX3_value 25 = .ok (.invokestatic 133, 3) := by decide +kernel
theorem dX3_value_28 : decode cX3_value 28 = .ok (.invokevirtual 64, 3) := by decide +kernel
theorem dX3_value_31 : decode cX3_value 31 = .ok (.astore_n 3, 1) := by decide +kernel
theorem dX3_value_32 : decode cX3_value 32 = .ok (.aload_n 3, 1) := by decide +kernel
theorem dX3_value_33 : decode cX3_value 33 = .ok (.ifnonnull 7, 3) := by decide +kernel
theorem dX3_value_36 : decode cX3_value 36 = .ok (.lconst 0, 1) := by decide +kernel
theorem dX3_value_37 : decode cX3_value 37 = .ok (.goto 9, 3) := by decide +kernel
theorem dX3_value_40 : decode cX3_value 40 = .ok (.aload_n 3, 1) := by decide +kernel
theorem dX3_value_41 : decode cX3_value 41 = .ok (.getfield 81, 3) := by decide +kernel
theorem dX3_value_44 : decode cX3_value 44 = .ok (.iload_n 2, 1) := by decide +kernel
theorem dX3_value_45 : decode cX3_value 45 = .ok (.laload, 1) := by decide +kernel
theorem dX3_value_46 : decode cX3_value 46 = .ok (.lreturn, 1) := by decide +kernel
theorem dX3_of_0 : decode cX3_of 0 = .ok (.aload_n 0, 1) := by decide +kernel
theorem dX3_of_1 : decode cX3_of 1 = .ok (.iload_n 1, 1) := by decide +kernel
theorem dX3_of_2 : decode cX3_of 2 = .ok (.invokevirtual 64, 3) := by decide +kernel
theorem dX3_of_5 : decode cX3_of 5 = .ok (.astore_n 3, 1) := by decide +kernel
theorem dX3_of_6 : decode cX3_of 6 = .ok (.aload_n 3, 1) := by decide +kernel
theorem dX3_of_7 : decode cX3_of 7 = .ok (.ifnonnull 5, 3) := by decide +kernel
theorem dX3_of_10 : decode cX3_of 10 = .ok (.iconst (-1), 1) := by decide +kernel
theorem dX3_of_11 : decode cX3_of 11 = .ok (.ireturn, 1) := by decide +kernel
theorem dX3_of_12 : decode cX3_of 12 = .ok (.iload_n 2, 1) := by decide +kernel
theorem dX3_of_13 : decode cX3_of 13 = .ok (.tableswitch 96 0 8 #[51, 56, 61, 66, 71, 76, 81, 86, 91], 51) := by decide +kernel
theorem dX3_of_64 : decode cX3_of 64 = .ok (.aload_n 3, 1) := by decide +kernel
theorem dX3_of_65 : decode cX3_of 65 = .ok (.getfield 72, 3) := by decide +kernel
theorem dX3_of_68 : decode cX3_of 68 = .ok (.ireturn, 1) := by decide +kernel
theorem dX3_of_69 : decode cX3_of 69 = .ok (.aload_n 3, 1) := by decide +kernel
theorem dX3_of_70 : decode cX3_of 70 = .ok (.getfield 84, 3) := by decide +kernel
theorem dX3_of_73 : decode cX3_of 73 = .ok (.ireturn, 1) := by decide +kernel
theorem dX3_of_74 : decode cX3_of 74 = .ok (.aload_n 3, 1) := by decide +kernel
theorem dX3_of_75 : decode cX3_of 75 = .ok (.getfield 139, 3) := by decide +kernel
theorem dX3_of_78 : decode cX3_of 78 = .ok (.ireturn, 1) := by decide +kernel
theorem dX3_of_79 : decode cX3_of 79 = .ok (.aload_n 3, 1) := by decide +kernel
theorem dX3_of_80 : decode cX3_of 80 = .ok (.getfield 142, 3) := by decide +kernel
theorem dX3_of_83 : decode cX3_of 83 = .ok (.ireturn, 1) := by decide +kernel
theorem dX3_of_84 : decode cX3_of 84 = .ok (.aload_n 3, 1) := by decide +kernel
theorem dX3_of_85 : decode cX3_of 85 = .ok (.getfield 145, 3) := by decide +kernel
theorem dX3_of_88 : decode cX3_of 88 = .ok (.ireturn, 1) := by decide +kernel
theorem dX3_of_89 : decode cX3_of 89 = .ok (.aload_n 3, 1) := by decide +kernel
theorem dX3_of_90 : decode cX3_of 90 = .ok (.getfield 97, 3) := by decide +kernel
theorem dX3_of_93 : decode cX3_of 93 = .ok (.ireturn, 1) := by decide +kernel
theorem dX3_of_94 : decode cX3_of 94 = .ok (.aload_n 3, 1) := by decide +kernel
theorem dX3_of_95 : decode cX3_of 95 = .ok (.getfield 148, 3) := by decide +kernel
theorem dX3_of_98 : decode cX3_of 98 = .ok (.ireturn, 1) := by decide +kernel
theorem dX3_of_99 : decode cX3_of 99 = .ok (.aload_n 3, 1) := by decide +kernel
theorem dX3_of_100 : decode cX3_of 100 = .ok (.getfield 78, 3) := by decide +kernel
theorem dX3_of_103 : decode cX3_of 103 = .ok (.ireturn, 1) := by decide +kernel
theorem dX3_of_104 : decode cX3_of 104 = .ok (.aload_n 3, 1) := by decide +kernel
theorem dX3_of_105 : decode cX3_of 105 = .ok (.invokevirtual 151, 3) := by decide +kernel
theorem dX3_of_108 : decode cX3_of 108 = .ok (.ireturn, 1) := by decide +kernel
theorem dX3_of_109 : decode cX3_of 109 = .ok (.iconst (-1), 1) := by decide +kernel
theorem dX3_of_110 : decode cX3_of 110 = .ok (.ireturn, 1) := by decide +kernel
theorem dX3_answered_0 : decode cX3_answered 0 = .ok (.aload_n 0, 1) := by decide +kernel
theorem dX3_answered_1 : decode cX3_answered 1 = .ok (.iload_n 1, 1) := by decide +kernel
theorem dX3_answered_2 : decode cX3_answered 2 = .ok (.invokevirtual 64, 3) := by decide +kernel
theorem dX3_answered_5 : decode cX3_answered 5 = .ok (.astore_n 3, 1) := by decide +kernel
theorem dX3_answered_6 : decode cX3_answered 6 = .ok (.aload_n 3, 1) := by decide +kernel
theorem dX3_answered_7 : decode cX3_answered 7 = .ok (.ifnull 19, 3) := by decide +kernel
theorem dX3_answered_10 : decode cX3_answered 10 = .ok (.iload_n 2, 1) := by decide +kernel
theorem dX3_answered_11 : decode cX3_answered 11 = .ok (.invokestatic 68, 3) := by decide +kernel
theorem dX3_answered_14 : decode cX3_answered 14 = .ok (.ifCond .eq 12, 3) := by decide +kernel
theorem dX3_answered_17 : decode cX3_answered 17 = .ok (.aload_n 3, 1) := by decide +kernel
theorem dX3_answered_18 : decode cX3_answered 18 = .ok (.getfield 154, 3) := by decide +kernel
theorem dX3_answered_21 : decode cX3_answered 21 = .ok (.iload_n 2, 1) := by decide +kernel
theorem dX3_answered_22 : decode cX3_answered 22 = .ok (.iaload, 1) := by decide +kernel
theorem dX3_answered_23 : decode cX3_answered 23 = .ok (.goto 4, 3) := by decide +kernel
theorem dX3_answered_26 : decode cX3_answered 26 = .ok (.iconst (-1), 1) := by decide +kernel
theorem dX3_answered_27 : decode cX3_answered 27 = .ok (.ireturn, 1) := by decide +kernel
theorem dX3_said_0 : decode cX3_said 0 = .ok (.aload_n 0, 1) := by decide +kernel
theorem dX3_said_1 : decode cX3_said 1 = .ok (.iload_n 1, 1) := by decide +kernel
theorem dX3_said_2 : decode cX3_said 2 = .ok (.invokevirtual 64, 3) := by decide +kernel
theorem dX3_said_5 : decode cX3_said 5 = .ok (.astore_n 3, 1) := by decide +kernel
theorem dX3_said_6 : decode cX3_said 6 = .ok (.aload_n 3, 1) := by decide +kernel
theorem dX3_said_7 : decode cX3_said 7 = .ok (.ifnull 19, 3) := by decide +kernel
theorem dX3_said_10 : decode cX3_said 10 = .ok (.iload_n 2, 1) := by decide +kernel
theorem dX3_said_11 : decode cX3_said 11 = .ok (.invokestatic 68, 3) := by decide +kernel
theorem dX3_said_14 : decode cX3_said 14 = .ok (.ifCond .eq 12, 3) := by decide +kernel
theorem dX3_said_17 : decode cX3_said 17 = .ok (.aload_n 3, 1) := by decide +kernel
theorem dX3_said_18 : decode cX3_said 18 = .ok (.getfield 81, 3) := by decide +kernel
theorem dX3_said_21 : decode cX3_said 21 = .ok (.iload_n 2, 1) := by decide +kernel
theorem dX3_said_22 : decode cX3_said 22 = .ok (.laload, 1) := by decide +kernel
theorem dX3_said_23 : decode cX3_said 23 = .ok (.goto 4, 3) := by decide +kernel
theorem dX3_said_26 : decode cX3_said 26 = .ok (.lconst 0, 1) := by decide +kernel
theorem dX3_said_27 : decode cX3_said 27 = .ok (.lreturn, 1) := by decide +kernel
theorem dX3_chosen_0 : decode cX3_chosen 0 = .ok (.aload_n 0, 1) := by decide +kernel
theorem dX3_chosen_1 : decode cX3_chosen 1 = .ok (.iload_n 1, 1) := by decide +kernel
theorem dX3_chosen_2 : decode cX3_chosen 2 = .ok (.invokevirtual 157, 3) := by decide +kernel
theorem dX3_chosen_5 : decode cX3_chosen 5 = .ok (.astore_n 2, 1) := by decide +kernel
theorem dX3_chosen_6 : decode cX3_chosen 6 = .ok (.aload_n 2, 1) := by decide +kernel
theorem dX3_chosen_7 : decode cX3_chosen 7 = .ok (.ifnonnull 7, 3) := by decide +kernel
theorem dX3_chosen_10 : decode cX3_chosen 10 = .ok (.iconst (-1), 1) := by decide +kernel
theorem dX3_chosen_11 : decode cX3_chosen 11 = .ok (.goto 7, 3) := by decide +kernel
theorem dX3_chosen_14 : decode cX3_chosen 14 = .ok (.aload_n 2, 1) := by decide +kernel
theorem dX3_chosen_15 : decode cX3_chosen 15 = .ok (.getfield 91, 3) := by decide +kernel
theorem dX3_chosen_18 : decode cX3_chosen 18 = .ok (.ireturn, 1) := by decide +kernel
theorem dX3_chosenValue_0 : decode cX3_chosenValue 0 = .ok (.aload_n 0, 1) := by decide +kernel
theorem dX3_chosenValue_1 : decode cX3_chosenValue 1 = .ok (.iload_n 1, 1) := by decide +kernel
theorem dX3_chosenValue_2 : decode cX3_chosenValue 2 = .ok (.invokevirtual 157, 3) := by decide +kernel
theorem dX3_chosenValue_5 : decode cX3_chosenValue 5 = .ok (.astore_n 2, 1) := by decide +kernel
theorem dX3_chosenValue_6 : decode cX3_chosenValue 6 = .ok (.aload_n 2, 1) := by decide +kernel
theorem dX3_chosenValue_7 : decode cX3_chosenValue 7 = .ok (.ifnull 10, 3) := by decide +kernel
theorem dX3_chosenValue_10 : decode cX3_chosenValue 10 = .ok (.iload_n 1, 1) := by decide +kernel
theorem dX3_chosenValue_11 : decode cX3_chosenValue 11 = .ok (.invokestatic 68, 3) := by decide +kernel
theorem dX3_chosenValue_14 : decode cX3_chosenValue 14 = .ok (.ifCond .ne 7, 3) := by decide +kernel
theorem dX3_chosenValue_17 : decode cX3_chosenValue 17 = .ok (.lconst 0, 1) := by decide +kernel
theorem dX3_chosenValue_18 : decode cX3_chosenValue 18 = .ok (.goto 9, 3) := by decide +kernel
theorem dX3_chosenValue_21 : decode cX3_chosenValue 21 = .ok (.aload_n 2, 1) := by decide +kernel
theorem dX3_chosenValue_22 : decode cX3_chosenValue 22 = .ok (.getfield 81, 3) := by decide +kernel
theorem dX3_chosenValue_25 : decode cX3_chosenValue 25 = .ok (.iload_n 1, 1) := by decide +kernel
theorem dX3_chosenValue_26 : decode cX3_chosenValue 26 = .ok (.laload, 1) := by decide +kernel
theorem dX3_chosenValue_27 : decode cX3_chosenValue 27 = .ok (.lreturn, 1) := by decide +kernel
theorem dX3_isOne_0 : decode cX3_isOne 0 = .ok (.aload_n 0, 1) := by decide +kernel
theorem dX3_isOne_1 : decode cX3_isOne 1 = .ok (.iload_n 1, 1) := by decide +kernel
theorem dX3_isOne_2 : decode cX3_isOne 2 = .ok (.invokevirtual 157, 3) := by decide +kernel
theorem dX3_isOne_5 : decode cX3_isOne 5 = .ok (.astore_n 2, 1) := by decide +kernel
theorem dX3_isOne_6 : decode cX3_isOne 6 = .ok (.aload_n 2, 1) := by decide +kernel
theorem dX3_isOne_7 : decode cX3_isOne 7 = .ok (.ifnull 10, 3) := by decide +kernel
theorem dX3_isOne_10 : decode cX3_isOne 10 = .ok (.iload_n 1, 1) := by decide +kernel
theorem dX3_isOne_11 : decode cX3_isOne 11 = .ok (.invokestatic 68, 3) := by decide +kernel
theorem dX3_isOne_14 : decode cX3_isOne 14 = .ok (.ifCond .ne 5, 3) := by decide +kernel
theorem dX3_isOne_17 : decode cX3_isOne 17 = .ok (.iconst 1, 1) := by decide +kernel
theorem dX3_isOne_18 : decode cX3_isOne 18 = .ok (.ireturn, 1) := by decide +kernel
theorem dX3_isOne_19 : decode cX3_isOne 19 = .ok (.aload_n 2, 1) := by decide +kernel
theorem dX3_isOne_20 : decode cX3_isOne 20 = .ok (.getfield 91, 3) := by decide +kernel
theorem dX3_isOne_23 : decode cX3_isOne 23 = .ok (.iconst 1, 1) := by decide +kernel
theorem dX3_isOne_24 : decode cX3_isOne 24 = .ok (.iadd, 1) := by decide +kernel
theorem dX3_isOne_25 : decode cX3_isOne 25 = .ok (.istore_n 3, 1) := by decide +kernel
theorem dX3_isOne_26 : decode cX3_isOne 26 = .ok (.iload_n 3, 1) := by decide +kernel
theorem dX3_isOne_27 : decode cX3_isOne 27 = .ok (.aload_n 0, 1) := by decide +kernel
theorem dX3_isOne_28 : decode cX3_isOne 28 = .ok (.getfield 43, 3) := by decide +kernel
theorem dX3_isOne_31 : decode cX3_isOne 31 = .ok (.if_icmp .gt 49, 3) := by decide +kernel
theorem dX3_isOne_34 : decode cX3_isOne 34 = .ok (.aload_n 0, 1) := by decide +kernel
theorem dX3_isOne_35 : decode cX3_isOne 35 = .ok (.iload_n 3, 1) := by decide +kernel
theorem dX3_isOne_36 : decode cX3_isOne 36 = .ok (.invokevirtual 64, 3) := by decide +kernel
theorem dX3_isOne_39 : decode cX3_isOne 39 = .ok (.astore 4, 2) := by decide +kernel
theorem dX3_isOne_41 : decode cX3_isOne 41 = .ok (.aload 4, 2) := by decide +kernel
theorem dX3_isOne_43 : decode cX3_isOne 43 = .ok (.ifnull 31, 3) := by decide +kernel
theorem dX3_isOne_46 : decode cX3_isOne 46 = .ok (.aload 4, 2) := by decide +kernel
theorem dX3_isOne_48 : decode cX3_isOne 48 = .ok (.iload_n 1, 1) := by decide +kernel
theorem dX3_isOne_49 : decode cX3_isOne 49 = .ok (.invokevirtual 160, 3) := by decide +kernel
theorem dX3_isOne_52 : decode cX3_isOne 52 = .ok (.ifCond .eq 22, 3) := by decide +kernel
theorem dX3_isOne_55 : decode cX3_isOne 55 = .ok (.aload 4, 2) := by decide +kernel
theorem dX3_isOne_57 : decode cX3_isOne 57 = .ok (.getfield 81, 3) := by decide +kernel
theorem dX3_isOne_60 : decode cX3_isOne 60 = .ok (.iload_n 1, 1) := by decide +kernel
theorem dX3_isOne_61 : decode cX3_isOne 61 = .ok (.laload, 1) := by decide +kernel
theorem dX3_isOne_62 : decode cX3_isOne 62 = .ok (.aload_n 2, 1) := by decide +kernel
theorem dX3_isOne_63 : decode cX3_isOne 63 = .ok (.getfield 81, 3) := by decide +kernel
theorem dX3_isOne_66 : decode cX3_isOne 66 = .ok (.iload_n 1, 1) := by decide +kernel
theorem dX3_isOne_67 : decode cX3_isOne 67 = .ok (.laload, 1) := by decide +kernel
theorem dX3_isOne_68 : decode cX3_isOne 68 = .ok (.lcmp, 1) := by decide +kernel
theorem dX3_isOne_69 : decode cX3_isOne 69 = .ok (.ifCond .eq 5, 3) := by decide +kernel
theorem dX3_isOne_72 : decode cX3_isOne 72 = .ok (.iconst 0, 1) := by decide +kernel
theorem dX3_isOne_73 : decode cX3_isOne 73 = .ok (.ireturn, 1) := by decide +kernel
theorem dX3_isOne_74 : decode cX3_isOne 74 = .ok (.iinc 3 1, 3) := by decide +kernel
theorem dX3_isOne_77 : decode cX3_isOne 77 = .ok (.goto (-51), 3) := by decide +kernel
theorem dX3_isOne_80 : decode cX3_isOne 80 = .ok (.iconst 1, 1) := by decide +kernel
theorem dX3_isOne_81 : decode cX3_isOne 81 = .ok (.ireturn, 1) := by decide +kernel
theorem dX3_air_0 : decode cX3_air 0 = .ok (.aload_n 0, 1) := by decide +kernel
theorem dX3_air_1 : decode cX3_air 1 = .ok (.getfield 39, 3) := by decide +kernel
theorem dX3_air_4 : decode cX3_air 4 = .ok (.iload_n 1, 1) := by decide +kernel
theorem dX3_air_5 : decode cX3_air 5 = .ok (.invokevirtual 104, 3) := by decide +kernel
theorem dX3_air_8 : decode cX3_air 8 = .ok (.ifCond .ne 5, 3) := by decide +kernel
theorem dX3_air_11 : decode cX3_air 11 = .ok (.iconst (-1), 1) := by decide +kernel
theorem dX3_air_12 : decode cX3_air 12 = .ok (.ireturn, 1) := by decide +kernel
theorem dX3_air_13 : decode cX3_air 13 = .ok (.iload_n 2, 1) := by decide +kernel
theorem dX3_air_14 : decode cX3_air 14 = .ok (.tableswitch 87 0 4 #[34, 44, 54, 64, 74], 34) := by decide +kernel
theorem dX3_air_48 : decode cX3_air 48 = .ok (.aload_n 0, 1) := by decide +kernel
theorem dX3_air_49 : decode cX3_air 49 = .ok (.getfield 39, 3) := by decide +kernel
theorem dX3_air_52 : decode cX3_air 52 = .ok (.getfield 163, 3) := by decide +kernel
theorem dX3_air_55 : decode cX3_air 55 = .ok (.iload_n 1, 1) := by decide +kernel
theorem dX3_air_56 : decode cX3_air 56 = .ok (.iaload, 1) := by decide +kernel
theorem dX3_air_57 : decode cX3_air 57 = .ok (.ireturn, 1) := by decide +kernel
theorem dX3_air_58 : decode cX3_air 58 = .ok (.aload_n 0, 1) := by decide +kernel
theorem dX3_air_59 : decode cX3_air 59 = .ok (.getfield 39, 3) := by decide +kernel
theorem dX3_air_62 : decode cX3_air 62 = .ok (.getfield 166, 3) := by decide +kernel
theorem dX3_air_65 : decode cX3_air 65 = .ok (.iload_n 1, 1) := by decide +kernel
theorem dX3_air_66 : decode cX3_air 66 = .ok (.iaload, 1) := by decide +kernel
theorem dX3_air_67 : decode cX3_air 67 = .ok (.ireturn, 1) := by decide +kernel
theorem dX3_air_68 : decode cX3_air 68 = .ok (.aload_n 0, 1) := by decide +kernel
theorem dX3_air_69 : decode cX3_air 69 = .ok (.getfield 39, 3) := by decide +kernel
theorem dX3_air_72 : decode cX3_air 72 = .ok (.getfield 169, 3) := by decide +kernel
theorem dX3_air_75 : decode cX3_air 75 = .ok (.iload_n 1, 1) := by decide +kernel
theorem dX3_air_76 : decode cX3_air 76 = .ok (.iaload, 1) := by decide +kernel
theorem dX3_air_77 : decode cX3_air 77 = .ok (.ireturn, 1) := by decide +kernel
theorem dX3_air_78 : decode cX3_air 78 = .ok (.aload_n 0, 1) := by decide +kernel
theorem dX3_air_79 : decode cX3_air 79 = .ok (.getfield 39, 3) := by decide +kernel
theorem dX3_air_82 : decode cX3_air 82 = .ok (.getfield 172, 3) := by decide +kernel
theorem dX3_air_85 : decode cX3_air 85 = .ok (.iload_n 1, 1) := by decide +kernel
theorem dX3_air_86 : decode cX3_air 86 = .ok (.iaload, 1) := by decide +kernel
theorem dX3_air_87 : decode cX3_air 87 = .ok (.ireturn, 1) := by decide +kernel
theorem dX3_air_88 : decode cX3_air 88 = .ok (.aload_n 0, 1) := by decide +kernel
theorem dX3_air_89 : decode cX3_air 89 = .ok (.getfield 39, 3) := by decide +kernel
theorem dX3_air_92 : decode cX3_air 92 = .ok (.getfield 175, 3) := by decide +kernel
theorem dX3_air_95 : decode cX3_air 95 = .ok (.iload_n 1, 1) := by decide +kernel
theorem dX3_air_96 : decode cX3_air 96 = .ok (.laload, 1) := by decide +kernel
theorem dX3_air_97 : decode cX3_air 97 = .ok (.invokestatic 176, 3) := by decide +kernel
theorem dX3_air_100 : decode cX3_air 100 = .ok (.ireturn, 1) := by decide +kernel
theorem dX3_air_101 : decode cX3_air 101 = .ok (.iconst (-1), 1) := by decide +kernel
theorem dX3_air_102 : decode cX3_air 102 = .ok (.ireturn, 1) := by decide +kernel
theorem dX3_about_0 : decode cX3_about 0 = .ok (.iload_n 1, 1) := by decide +kernel
theorem dX3_about_1 : decode cX3_about 1 = .ok (.tableswitch 66 0 4 #[35, 40, 45, 50, 58], 35) := by decide +kernel
theorem dX3_about_36 : decode cX3_about 36 = .ok (.aload_n 0, 1) := by decide +kernel
theorem dX3_about_37 : decode cX3_about 37 = .ok (.getfield 18, 3) := by decide +kernel
theorem dX3_about_40 : decode cX3_about 40 = .ok (.ireturn, 1) := by decide +kernel
theorem dX3_about_41 : decode cX3_about 41 = .ok (.aload_n 0, 1) := by decide +kernel
theorem dX3_about_42 : decode cX3_about 42 = .ok (.getfield 43, 3) := by decide +kernel
theorem dX3_about_45 : decode cX3_about 45 = .ok (.ireturn, 1) := by decide +kernel
theorem dX3_about_46 : decode cX3_about 46 = .ok (.aload_n 0, 1) := by decide +kernel
theorem dX3_about_47 : decode cX3_about 47 = .ok (.getfield 50, 3) := by decide +kernel
theorem dX3_about_50 : decode cX3_about 50 = .ok (.ireturn, 1) := by decide +kernel
theorem dX3_about_51 : decode cX3_about 51 = .ok (.aload_n 0, 1) := by decide +kernel
theorem dX3_about_52 : decode cX3_about 52 = .ok (.getfield 39, 3) := by decide +kernel
theorem dX3_about_55 : decode cX3_about 55 = .ok (.getfield 121, 3) := by decide +kernel
theorem dX3_about_58 : decode cX3_about 58 = .ok (.ireturn, 1) := by decide +kernel
theorem dX3_about_59 : decode cX3_about 59 = .ok (.aload_n 0, 1) := by decide +kernel
theorem dX3_about_60 : decode cX3_about 60 = .ok (.getfield 39, 3) := by decide +kernel
theorem dX3_about_63 : decode cX3_about 63 = .ok (.getfield 180, 3) := by decide +kernel
theorem dX3_about_66 : decode cX3_about 66 = .ok (.ireturn, 1) := by decide +kernel
theorem dX3_about_67 : decode cX3_about 67 = .ok (.iconst (-1), 1) := by decide +kernel
theorem dX3_about_68 : decode cX3_about 68 = .ok (.ireturn, 1) := by decide +kernel
theorem dX3_isVoter_0 : decode cX3_isVoter 0 = .ok (.iload_n 1, 1) := by decide +kernel
theorem dX3_isVoter_1 : decode cX3_isVoter 1 = .ok (.ifCond .lt 15, 3) := by decide +kernel
theorem dX3_isVoter_4 : decode cX3_isVoter 4 = .ok (.iload_n 1, 1) := by decide +kernel
theorem dX3_isVoter_5 : decode cX3_isVoter 5 = .ok (.aload_n 0, 1) := by decide +kernel
theorem dX3_isVoter_6 : decode cX3_isVoter 6 = .ok (.getfield 18, 3) := by decide +kernel
theorem dX3_isVoter_9 : decode cX3_isVoter 9 = .ok (.if_icmp .ge 7, 3) := by decide +kernel
theorem dX3_isVoter_12 : decode cX3_isVoter 12 = .ok (.iconst 1, 1) := by decide +kernel
theorem dX3_isVoter_13 : decode cX3_isVoter 13 = .ok (.goto 4, 3) := by decide +kernel
theorem dX3_isVoter_16 : decode cX3_isVoter 16 = .ok (.iconst 0, 1) := by decide +kernel
theorem dX3_isVoter_17 : decode cX3_isVoter 17 = .ok (.ireturn, 1) := by decide +kernel
theorem dX3_isPlace_0 : decode cX3_isPlace 0 = .ok (.iload_n 0, 1) := by decide +kernel
theorem dX3_isPlace_1 : decode cX3_isPlace 1 = .ok (.ifCond .lt 13, 3) := by decide +kernel
theorem dX3_isPlace_4 : decode cX3_isPlace 4 = .ok (.iload_n 0, 1) := by decide +kernel
theorem dX3_isPlace_5 : decode cX3_isPlace 5 = .ok (.bipush 8, 2) := by decide +kernel
theorem dX3_isPlace_7 : decode cX3_isPlace 7 = .ok (.if_icmp .ge 7, 3) := by decide +kernel
theorem dX3_isPlace_10 : decode cX3_isPlace 10 = .ok (.iconst 1, 1) := by decide +kernel
theorem dX3_isPlace_11 : decode cX3_isPlace 11 = .ok (.goto 4, 3) := by decide +kernel
theorem dX3_isPlace_14 : decode cX3_isPlace 14 = .ok (.iconst 0, 1) := by decide +kernel
theorem dX3_isPlace_15 : decode cX3_isPlace 15 = .ok (.ireturn, 1) := by decide +kernel
theorem dX3_find_0 : decode cX3_find 0 = .ok (.iload_n 1, 1) := by decide +kernel
theorem dX3_find_1 : decode cX3_find 1 = .ok (.iconst 1, 1) := by decide +kernel
theorem dX3_find_2 : decode cX3_find 2 = .ok (.if_icmp .lt 28, 3) := by decide +kernel
theorem dX3_find_5 : decode cX3_find 5 = .ok (.iload_n 1, 1) := by decide +kernel
theorem dX3_find_6 : decode cX3_find 6 = .ok (.aload_n 0, 1) := by decide +kernel
theorem dX3_find_7 : decode cX3_find 7 = .ok (.getfield 43, 3) := by decide +kernel
theorem dX3_find_10 : decode cX3_find 10 = .ok (.if_icmp .gt 20, 3) := by decide +kernel
theorem dX3_find_13 : decode cX3_find 13 = .ok (.iload_n 1, 1) := by decide +kernel
theorem dX3_find_14 : decode cX3_find 14 = .ok (.bipush 24, 2) := by decide +kernel
theorem dX3_find_16 : decode cX3_find 16 = .ok (.if_icmp .gt 14, 3) := by decide +kernel
theorem dX3_find_19 : decode cX3_find 19 = .ok (.aload_n 0, 1) := by decide +kernel
theorem dX3_find_20 : decode cX3_find 20 = .ok (.getfield 32, 3) := by decide +kernel
theorem dX3_find_23 : decode cX3_find 23 = .ok (.iload_n 1, 1) := by decide +kernel
theorem dX3_find_24 : decode cX3_find 24 = .ok (.iconst 1, 1) := by decide +kernel
theorem dX3_find_25 : decode cX3_find 25 = .ok (.isub, 1) := by decide +kernel
theorem dX3_find_26 : decode cX3_find 26 = .ok (.aaload, 1) := by decide +kernel
theorem dX3_find_27 : decode cX3_find 27 = .ok (.goto 4, 3) := by decide +kernel
theorem dX3_find_30 : decode cX3_find 30 = .ok (.aconst_null, 1) := by decide +kernel
theorem dX3_find_31 : decode cX3_find 31 = .ok (.areturn, 1) := by decide +kernel
theorem dX3_canBe_0 : decode cX3_canBe 0 = .ok (.iload_n 1, 1) := by decide +kernel
theorem dX3_canBe_1 : decode cX3_canBe 1 = .ok (.iconst 1, 1) := by decide +kernel
theorem dX3_canBe_2 : decode cX3_canBe 2 = .ok (.if_icmp .lt 13, 3) := by decide +kernel
theorem dX3_canBe_5 : decode cX3_canBe 5 = .ok (.iload_n 1, 1) := by decide +kernel
theorem dX3_canBe_6 : decode cX3_canBe 6 = .ok (.iconst 1, 1) := by decide +kernel
theorem dX3_canBe_7 : decode cX3_canBe 7 = .ok (.aload_n 0, 1) := by decide +kernel
theorem dX3_canBe_8 : decode cX3_canBe 8 = .ok (.getfield 18, 3) := by decide +kernel
theorem dX3_canBe_11 : decode cX3_canBe 11 = .ok (.ishl, 1) := by decide +kernel
theorem dX3_canBe_12 : decode cX3_canBe 12 = .ok (.if_icmp .lt 5, 3) := by decide +kernel
theorem dX3_canBe_15 : decode cX3_canBe 15 = .ok (.iconst 0, 1) := by decide +kernel
theorem dX3_canBe_16 : decode cX3_canBe 16 = .ok (.ireturn, 1) := by decide +kernel
theorem dX3_canBe_17 : decode cX3_canBe 17 = .ok (.iload_n 1, 1) := by decide +kernel
theorem dX3_canBe_18 : decode cX3_canBe 18 = .ok (.invokestatic 183, 3) := by decide +kernel
theorem dX3_canBe_21 : decode cX3_canBe 21 = .ok (.istore 4, 2) := by decide +kernel
theorem dX3_canBe_23 : decode cX3_canBe 23 = .ok (.iload_n 2, 1) := by decide +kernel
theorem dX3_canBe_24 : decode cX3_canBe 24 = .ok (.iconst 1, 1) := by decide +kernel
theorem dX3_canBe_25 : decode cX3_canBe 25 = .ok (.if_icmp .lt 32, 3) := by decide +kernel
theorem dX3_canBe_28 : decode cX3_canBe 28 = .ok (.iload_n 2, 1) := by decide +kernel
theorem dX3_canBe_29 : decode cX3_canBe 29 = .ok (.iload 4, 2) := by decide +kernel
theorem dX3_canBe_31 : decode cX3_canBe 31 = .ok (.if_icmp .gt 26, 3) := by decide +kernel
theorem dX3_canBe_34 : decode cX3_canBe 34 = .ok (.iload_n 3, 1) := by decide +kernel
theorem dX3_canBe_35 : decode cX3_canBe 35 = .ok (.iconst 1, 1) := by decide +kernel
theorem dX3_canBe_36 : decode cX3_canBe 36 = .ok (.if_icmp .lt 21, 3) := by decide +kernel
theorem dX3_canBe_39 : decode cX3_canBe 39 = .ok (.iload_n 3, 1) := by decide +kernel
theorem dX3_canBe_40 : decode cX3_canBe 40 = .ok (.iload 4, 2) := by decide +kernel
theorem dX3_canBe_42 : decode cX3_canBe 42 = .ok (.if_icmp .gt 15, 3) := by decide +kernel
theorem dX3_canBe_45 : decode cX3_canBe 45 = .ok (.iload_n 2, 1) := by decide +kernel
theorem dX3_canBe_46 : decode cX3_canBe 46 = .ok (.iload_n 3, 1) := by decide +kernel
theorem dX3_canBe_47 : decode cX3_canBe 47 = .ok (.iadd, 1) := by decide +kernel
theorem dX3_canBe_48 : decode cX3_canBe 48 = .ok (.iload 4, 2) := by decide +kernel
theorem dX3_canBe_50 : decode cX3_canBe 50 = .ok (.if_icmp .le 7, 3) := by decide +kernel
theorem dX3_canBe_53 : decode cX3_canBe 53 = .ok (.iconst 1, 1) := by decide +kernel
theorem dX3_canBe_54 : decode cX3_canBe 54 = .ok (.goto 4, 3) := by decide +kernel
theorem dX3_canBe_57 : decode cX3_canBe 57 = .ok (.iconst 0, 1) := by decide +kernel
theorem dX3_canBe_58 : decode cX3_canBe 58 = .ok (.ireturn, 1) := by decide +kernel
theorem dX3_membersFrom_0 : decode cX3_membersFrom 0 = .ok (.iconst 0, 1) := by decide +kernel
theorem dX3_membersFrom_1 : decode cX3_membersFrom 1 = .ok (.istore_n 2, 1) := by decide +kernel
theorem dX3_membersFrom_2 : decode cX3_membersFrom 2 = .ok (.iload_n 1, 1) := by decide +kernel
theorem dX3_membersFrom_3 : decode cX3_membersFrom 3 = .ok (.istore_n 3, 1) := by decide +kernel
theorem dX3_membersFrom_4 : decode cX3_membersFrom 4 = .ok (.iload_n 3, 1) := by decide +kernel
theorem dX3_membersFrom_5 : decode cX3_membersFrom 5 = .ok (.aload_n 0, 1) := by decide +kernel
theorem dX3_membersFrom_6 : decode cX3_membersFrom 6 = .ok (.getfield 43, 3) := by decide +kernel
theorem dX3_membersFrom_9 : decode cX3_membersFrom 9 = .ok (.if_icmp .gt 29, 3) := by decide +kernel
theorem dX3_membersFrom_12 : decode cX3_membersFrom 12 = .ok (.aload_n 0, 1) := by decide +kernel
theorem dX3_membersFrom_13 : decode cX3_membersFrom 13 = .ok (.iload_n 3, 1) := by decide +kernel
theorem dX3_membersFrom_14 : decode cX3_membersFrom 14 = .ok (.invokevirtual 64, 3) := by decide +kernel
theorem dX3_membersFrom_17 : decode cX3_membersFrom 17 = .ok (.astore 4, 2) := by decide +kernel
theorem dX3_membersFrom_19 : decode cX3_membersFrom 19 = .ok (.aload 4, 2) := by decide +kernel
theorem dX3_membersFrom_21 : decode cX3_membersFrom 21 = .ok (.ifnull 11, 3) := by decide +kernel
theorem dX3_membersFrom_24 : decode cX3_membersFrom 24 = .ok (.iload_n 2, 1) := by decide +kernel
theorem dX3_membersFrom_25 : decode cX3_membersFrom 25 = .ok (.aload 4, 2) := by decide +kernel
theorem dX3_membersFrom_27 : decode cX3_membersFrom 27 = .ok (.getfield 84, 3) := by decide +kernel
theorem dX3_membersFrom_30 : decode cX3_membersFrom 30 = .ok (.ior, 1) := by decide +kernel
theorem dX3_membersFrom_31 : decode cX3_membersFrom 31 = .ok (.istore_n 2, 1) := by decide +kernel
theorem dX3_membersFrom_32 : decode cX3_membersFrom 32 = .ok (.iinc 3 1, 3) := by decide +kernel
theorem dX3_membersFrom_35 : decode cX3_membersFrom 35 = .ok (.goto (-31), 3) := by decide +kernel
theorem dX3_membersFrom_38 : decode cX3_membersFrom 38 = .ok (.iload_n 2, 1) := by decide +kernel
theorem dX3_membersFrom_39 : decode cX3_membersFrom 39 = .ok (.ireturn, 1) := by decide +kernel
theorem dX3_firstThatChose_0 : decode cX3_firstThatChose 0 = .ok (.iload_n 1, 1) := by decide +kernel
theorem dX3_firstThatChose_1 : decode cX3_firstThatChose 1 = .ok (.invokestatic 68, 3) := by decide +kernel
theorem dX3_firstThatChose_4 : decode cX3_firstThatChose 4 = .ok (.ifCond .ne 5, 3) := by decide +kernel
theorem dX3_firstThatChose_7 : decode cX3_firstThatChose 7 = .ok (.aconst_null, 1) := by decide +kernel
theorem dX3_firstThatChose_8 : decode cX3_firstThatChose 8 = .ok (.areturn, 1) := by decide +kernel
theorem dX3_firstThatChose_9 : decode cX3_firstThatChose 9 = .ok (.iconst 1, 1) := by decide +kernel
theorem dX3_firstThatChose_10 : decode cX3_firstThatChose 10 = .ok (.istore_n 2, 1) := by decide +kernel
theorem dX3_firstThatChose_11 : decode cX3_firstThatChose 11 = .ok (.iload_n 2, 1) := by decide +kernel
theorem dX3_firstThatChose_12 : decode cX3_firstThatChose 12 = .ok (.aload_n 0, 1) := by decide +kernel
theorem dX3_firstThatChose_13 : decode cX3_firstThatChose 13 = .ok (.getfield 43, 3) := by decide +kernel
theorem dX3_firstThatChose_16 : decode cX3_firstThatChose 16 = .ok (.if_icmp .gt 29, 3) := by decide +kernel
theorem dX3_firstThatChose_19 : decode cX3_firstThatChose 19 = .ok (.aload_n 0, 1) := by decide +kernel
theorem dX3_firstThatChose_20 : decode cX3_firstThatChose 20 = .ok (.iload_n 2, 1) := by decide +kernel
theorem dX3_firstThatChose_21 : decode cX3_firstThatChose 21 = .ok (.invokevirtual 64, 3) := by decide +kernel
theorem dX3_firstThatChose_24 : decode cX3_firstThatChose 24 = .ok (.astore_n 3, 1) := by decide +kernel
theorem dX3_firstThatChose_25 : decode cX3_firstThatChose 25 = .ok (.aload_n 3, 1) := by decide +kernel
theorem dX3_firstThatChose_26 : decode cX3_firstThatChose 26 = .ok (.ifnull 13, 3) := by decide +kernel
theorem dX3_firstThatChose_29 : decode cX3_firstThatChose 29 = .ok (.aload_n 3, 1) := by decide +kernel
theorem dX3_firstThatChose_30 : decode cX3_firstThatChose 30 = .ok (.iload_n 1, 1) := by decide +kernel
theorem dX3_firstThatChose_31 : decode cX3_firstThatChose 31 = .ok (.invokevirtual 160, 3) := by decide +kernel
theorem dX3_firstThatChose_34 : decode cX3_firstThatChose 34 = .ok (.ifCond .eq 5, 3) := by decide +kernel
theorem dX3_firstThatChose_37 : decode cX3_firstThatChose 37 = .ok (.aload_n 3, 1) := by decide +kernel
theorem dX3_firstThatChose_38 : decode cX3_firstThatChose 38 = .ok (.areturn, 1) := by decide +kernel
theorem dX3_firstThatChose_39 : decode cX3_firstThatChose 39 = .ok (.iinc 2 1, 3) := by decide +kernel
theorem dX3_firstThatChose_42 : decode cX3_firstThatChose 42 = .ok (.goto (-31), 3) := by decide +kernel
theorem dX3_firstThatChose_45 : decode cX3_firstThatChose 45 = .ok (.aconst_null, 1) := by decide +kernel
theorem dX3_firstThatChose_46 : decode cX3_firstThatChose 46 = .ok (.areturn, 1) := by decide +kernel
theorem dX3_sendToEach_0 : decode cX3_sendToEach 0 = .ok (.iconst 0, 1) := by decide +kernel
theorem dX3_sendToEach_1 : decode cX3_sendToEach 1 = .ok (.istore 5, 2) := by decide +kernel
theorem dX3_sendToEach_3 : decode cX3_sendToEach 3 = .ok (.iload 5, 2) := by decide +kernel
theorem dX3_sendToEach_5 : decode cX3_sendToEach 5 = .ok (.aload_n 0, 1) := by decide +kernel
theorem dX3_sendToEach_6 : decode cX3_sendToEach 6 = .ok (.getfield 18, 3) := by decide +kernel
theorem dX3_sendToEach_9 : decode cX3_sendToEach 9 = .ok (.if_icmp .ge 35, 3) := by decide +kernel
theorem dX3_sendToEach_12 : decode cX3_sendToEach 12 = .ok (.iload_n 1, 1) := by decide +kernel
theorem dX3_sendToEach_13 : decode cX3_sendToEach 13 = .ok (.iconst 1, 1) := by decide +kernel
theorem dX3_sendToEach_14 : decode cX3_sendToEach 14 = .ok (.iload 5, 2) := by decide +kernel
theorem dX3_sendToEach_16 : decode cX3_sendToEach 16 = .ok (.ishl, 1) := by decide +kernel
theorem dX3_sendToEach_17 : decode cX3_sendToEach 17 = .ok (.iand, 1) := by decide +kernel
theorem dX3_sendToEach_18 : decode cX3_sendToEach 18 = .ok (.ifCond .eq 20, 3) := by decide +kernel
theorem dX3_sendToEach_21 : decode cX3_sendToEach 21 = .ok (.aload_n 0, 1) := by decide +kernel
theorem dX3_sendToEach_22 : decode cX3_sendToEach 22 = .ok (.getfield 39, 3) := by decide +kernel
theorem dX3_sendToEach_25 : decode cX3_sendToEach 25 = .ok (.iload_n 2, 1) := by decide +kernel
theorem dX3_sendToEach_26 : decode cX3_sendToEach 26 = .ok (.aload_n 3, 1) := by decide +kernel
theorem dX3_sendToEach_27 : decode cX3_sendToEach 27 = .ok (.getfield 91, 3) := by decide +kernel
theorem dX3_sendToEach_30 : decode cX3_sendToEach 30 = .ok (.iload 5, 2) := by decide +kernel
theorem dX3_sendToEach_32 : decode cX3_sendToEach 32 = .ok (.iload 4, 2) := by decide +kernel
theorem dX3_sendToEach_34 : decode cX3_sendToEach 34 = .ok (.lconst 0, 1) := by decide +kernel
theorem dX3_sendToEach_35 : decode cX3_sendToEach 35 = .ok (.invokevirtual 60, 3) := by decide +kernel
theorem dX3_sendToEach_38 : decode cX3_sendToEach 38 = .ok (.iinc 5 1, 3) := by decide +kernel
theorem dX3_sendToEach_41 : decode cX3_sendToEach 41 = .ok (.goto (-38), 3) := by decide +kernel
theorem dX3_sendToEach_44 : decode cX3_sendToEach 44 = .ok (.iload_n 1, 1) := by decide +kernel
theorem dX3_sendToEach_45 : decode cX3_sendToEach 45 = .ok (.invokestatic 183, 3) := by decide +kernel
theorem dX3_sendToEach_48 : decode cX3_sendToEach 48 = .ok (.ireturn, 1) := by decide +kernel
theorem dX3_sendMissingVotes_0 : decode cX3_sendMissingVotes 0 = .ok (.iconst 0, 1) := by decide +kernel
theorem dX3_sendMissingVotes_1 : decode cX3_sendMissingVotes 1 = .ok (.istore_n 2, 1) := by decide +kernel
theorem dX3_sendMissingVotes_2 : decode cX3_sendMissingVotes 2 = .ok (.iconst 0, 1) := by decide +kernel
theorem dX3_sendMissingVotes_3 : decode cX3_sendMissingVotes 3 = .ok (.istore_n 3, 1) := by decide +kernel
theorem dX3_sendMissingVotes_4 : decode cX3_sendMissingVotes 4 = .ok (.iload_n 3, 1) := by decide +kernel
theorem dX3_sendMissingVotes_5 : decode cX3_sendMissingVotes 5 = .ok (.bipush 8, 2) := by decide +kernel
theorem dX3_sendMissingVotes_7 : decode cX3_sendMissingVotes 7 = .ok (.if_icmp .ge 48, 3) := by decide +kernel
theorem dX3_sendMissingVotes_10 : decode cX3_sendMissingVotes 10 = .ok (.aload_n 1, 1) := by decide +kernel
theorem dX3_sendMissingVotes_11 : decode cX3_sendMissingVotes 11 = .ok (.iload_n 3, 1) := by decide +kernel
theorem dX3_sendMissingVotes_12 : decode cX3_sendMissingVotes 12 = .ok (.invokevirtual 75, 3) := by decide +kernel
theorem dX3_sendMissingVotes_15 : decode cX3_sendMissingVotes 15 = .ok (.ifCond .eq 34, 3) := by decide +kernel
theorem dX3_sendMissingVotes_18 : decode cX3_sendMissingVotes 18 = .ok (.aload_n 1, 1) := by decide +kernel
theorem dX3_sendMissingVotes_19 : decode cX3_sendMissingVotes 19 = .ok (.iload_n 3, 1) := by decide +kernel
theorem dX3_sendMissingVotes_20 : decode cX3_sendMissingVotes 20 = .ok (.invokevirtual 188, 3) := by decide +kernel
theorem dX3_sendMissingVotes_23 : decode cX3_sendMissingVotes 23 = .ok (.ifCond .ne 26, 3) := by decide +kernel
theorem dX3_sendMissingVotes_26 : decode cX3_sendMissingVotes 26 = .ok (.iload_n 2, 1) := by decide +kernel
theorem dX3_sendMissingVotes_27 : decode cX3_sendMissingVotes 27 = .ok (.aload_n 0, 1) := by decide +kernel
theorem dX3_sendMissingVotes_28 : decode cX3_sendMissingVotes 28 = .ok (.aload_n 1, 1) := by decide +kernel
theorem dX3_sendMissingVotes_29 : decode cX3_sendMissingVotes 29 = .ok (.getfield 84, 3) := by decide +kernel
theorem dX3_sendMissingVotes_32 : decode cX3_sendMissingVotes 32 = .ok (.aload_n 1, 1) := by decide +kernel
theorem dX3_sendMissingVotes_33 : decode cX3_sendMissingVotes 33 = .ok (.getfield 154, 3) := by decide +kernel
theorem dX3_sendMissingVotes_36 : decode cX3_sendMissingVotes 36 = .ok (.iload_n 3, 1) := by decide +kernel
theorem dX3_sendMissingVotes_37 : decode cX3_sendMissingVotes 37 = .ok (.iaload, 1) := by decide +kernel
theorem dX3_sendMissingVotes_38 : decode cX3_sendMissingVotes 38 = .ok (.iconst (-1), 1) := by decide +kernel
theorem dX3_sendMissingVotes_39 : decode cX3_sendMissingVotes 39 = .ok (.ixor, 1) := by decide +kernel
theorem dX3_sendMissingVotes_40 : decode cX3_sendMissingVotes 40 = .ok (.iand, 1) := by decide +kernel
theorem dX3_sendMissingVotes_41 : decode cX3_sendMissingVotes 41 = .ok (.iconst 4, 1) := by decide +kernel
theorem dX3_sendMissingVotes_42 : decode cX3_sendMissingVotes 42 = .ok (.aload_n 1, 1) := by decide +kernel
theorem dX3_sendMissingVotes_43 : decode cX3_sendMissingVotes 43 = .ok (.iload_n 3, 1) := by decide +kernel
theorem dX3_sendMissingVotes_44 : decode cX3_sendMissingVotes 44 = .ok (.invokevirtual 87, 3) := by decide +kernel
theorem dX3_sendMissingVotes_47 : decode cX3_sendMissingVotes 47 = .ok (.iadd, 1) := by decide +kernel
theorem dX3_sendMissingVotes_48 : decode cX3_sendMissingVotes 48 = .ok (.istore_n 2, 1) := by decide +kernel
theorem dX3_sendMissingVotes_49 : decode cX3_sendMissingVotes 49 = .ok (.iinc 3 1, 3) := by decide +kernel
theorem dX3_sendMissingVotes_52 : decode cX3_sendMissingVotes 52 = .ok (.goto (-48), 3) := by decide +kernel
theorem dX3_sendMissingVotes_55 : decode cX3_sendMissingVotes 55 = .ok (.iload_n 2, 1) := by decide +kernel
theorem dX3_sendMissingVotes_56 : decode cX3_sendMissingVotes 56 = .ok (.ireturn, 1) := by decide +kernel
theorem dX3_isForSilent_0 : decode cX3_isForSilent 0 = .ok (.aload_n 0, 1) := by decide +kernel
theorem dX3_isForSilent_1 : decode cX3_isForSilent 1 = .ok (.getfield 39, 3) := by decide +kernel
theorem dX3_isForSilent_4 : decode cX3_isForSilent 4 = .ok (.getfield 163, 3) := by decide +kernel
theorem dX3_isForSilent_7 : decode cX3_isForSilent 7 = .ok (.iload_n 1, 1) := by decide +kernel
theorem dX3_isForSilent_8 : decode cX3_isForSilent 8 = .ok (.iaload, 1) := by decide +kernel
theorem dX3_isForSilent_9 : decode cX3_isForSilent 9 = .ok (.istore_n 2, 1) := by decide +kernel
theorem dX3_isForSilent_10 : decode cX3_isForSilent 10 = .ok (.iload_n 2, 1) := by decide +kernel
theorem dX3_isForSilent_11 : decode cX3_isForSilent 11 = .ok (.iconst 2, 1) := by decide +kernel
theorem dX3_isForSilent_12 : decode cX3_isForSilent 12 = .ok (.if_icmp .eq 8, 3) := by decide +kernel
theorem dX3_isForSilent_15 : decode cX3_isForSilent 15 = .ok (.iload_n 2, 1) := by decide +kernel
theorem dX3_isForSilent_16 : decode cX3_isForSilent 16 = .ok (.iconst 4, 1) := by decide +kernel
theorem dX3_isForSilent_17 : decode cX3_isForSilent 17 = .ok (.if_icmp .ne 7, 3) := by decide +kernel
theorem dX3_isForSilent_20 : decode cX3_isForSilent 20 = .ok (.iconst 1, 1) := by decide +kernel
theorem dX3_isForSilent_21 : decode cX3_isForSilent 21 = .ok (.goto 4, 3) := by decide +kernel
theorem dX3_isForSilent_24 : decode cX3_isForSilent 24 = .ok (.iconst 0, 1) := by decide +kernel
theorem dX3_isForSilent_25 : decode cX3_isForSilent 25 = .ok (.istore_n 3, 1) := by decide +kernel
theorem dX3_isForSilent_26 : decode cX3_isForSilent 26 = .ok (.iload_n 3, 1) := by decide +kernel
theorem dX3_isForSilent_27 : decode cX3_isForSilent 27 = .ok (.ifCond .eq 26, 3) := by decide +kernel
theorem dX3_isForSilent_30 : decode cX3_isForSilent 30 = .ok (.aload_n 0, 1) := by decide +kernel
theorem dX3_isForSilent_31 : decode cX3_isForSilent 31 = .ok (.getfield 130, 3) := by decide +kernel
theorem dX3_isForSilent_34 : decode cX3_isForSilent 34 = .ok (.iconst 1, 1) := by decide +kernel
theorem dX3_isForSilent_35 : decode cX3_isForSilent 35 = .ok (.aload_n 0, 1) := by decide +kernel
theorem dX3_isForSilent_36 : decode cX3_isForSilent 36 = .ok (.getfield 39, 3) := by decide +kernel
theorem dX3_isForSilent_39 : decode cX3_isForSilent 39 = .ok (.getfield 169, 3) := by decide +kernel
theorem dX3_isForSilent_42 : decode cX3_isForSilent 42 = .ok (.iload_n 1, 1) := by decide +kernel
theorem dX3_isForSilent_43 : decode cX3_isForSilent 43 = .ok (.iaload, 1) := by decide +kernel
theorem dX3_isForSilent_44 : decode cX3_isForSilent 44 = .ok (.ishl, 1) := by decide +kernel
theorem dX3_isForSilent_45 : decode cX3_isForSilent 45 = .ok (.iand, 1) := by decide +kernel
theorem dX3_isForSilent_46 : decode cX3_isForSilent 46 = .ok (.ifCond .eq 7, 3) := by decide +kernel
theorem dX3_isForSilent_49 : decode cX3_isForSilent 49 = .ok (.iconst 1, 1) := by decide +kernel
theorem dX3_isForSilent_50 : decode cX3_isForSilent 50 = .ok (.goto 4, 3) := by decide +kernel
theorem dX3_isForSilent_53 : decode cX3_isForSilent 53 = .ok (.iconst 0, 1) := by decide +kernel
theorem dX3_isForSilent_54 : decode cX3_isForSilent 54 = .ok (.ireturn, 1) := by decide +kernel
theorem dX3_firstDeliverable_0 : decode cX3_firstDeliverable 0 = .ok (.iconst 0, 1) := by decide +kernel
theorem dX3_firstDeliverable_1 : decode cX3_firstDeliverable 1 = .ok (.istore_n 1, 1) := by decide +kernel
theorem dX3_firstDeliverable_2 : decode cX3_firstDeliverable 2 = .ok (.iload_n 1, 1) := by decide +kernel
theorem dX3_firstDeliverable_3 : decode cX3_firstDeliverable 3 = .ok (.aload_n 0, 1) := by decide +kernel
theorem dX3_firstDeliverable_4 : decode cX3_firstDeliverable 4 = .ok (.getfield 39, 3) := by decide +kernel
theorem dX3_firstDeliverable_7 : decode cX3_firstDeliverable 7 = .ok (.getfield 121, 3) := by decide +kernel
theorem dX3_firstDeliverable_10 : decode cX3_firstDeliverable 10 = .ok (.if_icmp .ge 19, 3) := by decide +kernel
theorem dX3_firstDeliverable_13 : decode cX3_firstDeliverable 13 = .ok (.aload_n 0, 1) := by decide +kernel
theorem dX3_firstDeliverable_14 : decode cX3_firstDeliverable 14 = .ok (.iload_n 1, 1) := by decide +kernel
theorem dX3_firstDeliverable_15 : decode cX3_firstDeliverable 15 = .ok (.invokevirtual 107, 3) := by decide +kernel
theorem dX3_firstDeliverable_18 : decode cX3_firstDeliverable 18 = .ok (.ifCond .ne 5, 3) := by decide +kernel
theorem dX3_firstDeliverable_21 : decode cX3_firstDeliverable 21 = .ok (.iload_n 1, 1) := by decide +kernel
theorem dX3_firstDeliverable_22 : decode cX3_firstDeliverable 22 = .ok (.ireturn, 1) := by decide +kernel
theorem dX3_firstDeliverable_23 : decode cX3_firstDeliverable 23 = .ok (.iinc 1 1, 3) := by decide +kernel
theorem dX3_firstDeliverable_26 : decode cX3_firstDeliverable 26 = .ok (.goto (-24), 3) := by decide +kernel
theorem dX3_firstDeliverable_29 : decode cX3_firstDeliverable 29 = .ok (.iconst (-1), 1) := by decide +kernel
theorem dX3_firstDeliverable_30 : decode cX3_firstDeliverable 30 = .ok (.ireturn, 1) := by decide +kernel
theorem dX3_handOver_0 : decode cX3_handOver 0 = .ok (.aload_n 0, 1) := by decide +kernel
theorem dX3_handOver_1 : decode cX3_handOver 1 = .ok (.getfield 39, 3) := by decide +kernel
theorem dX3_handOver_4 : decode cX3_handOver 4 = .ok (.getfield 163, 3) := by decide +kernel
theorem dX3_handOver_7 : decode cX3_handOver 7 = .ok (.iload_n 1, 1) := by decide +kernel
theorem dX3_handOver_8 : decode cX3_handOver 8 = .ok (.iaload, 1) := by decide +kernel
theorem dX3_handOver_9 : decode cX3_handOver 9 = .ok (.istore_n 2, 1) := by decide +kernel
theorem dX3_handOver_10 : decode cX3_handOver 10 = .ok (.aload_n 0, 1) := by decide +kernel
theorem dX3_handOver_11 : decode cX3_handOver 11 = .ok (.getfield 39, 3) := by decide +kernel
theorem dX3_handOver_14 : decode cX3_handOver 14 = .ok (.getfield 169, 3) := by decide +kernel
theorem dX3_handOver_17 : decode cX3_handOver 17 = .ok (.iload_n 1, 1) := by decide +kernel
theorem dX3_handOver_18 : decode cX3_handOver 18 = .ok (.iaload, 1) := by decide +kernel
theorem dX3_handOver_19 : decode cX3_handOver 19 = .ok (.istore_n 3, 1) := by decide +kernel
theorem dX3_handOver_20 : decode cX3_handOver 20 = .ok (.aload_n 0, 1) := by decide +kernel
theorem dX3_handOver_21 : decode cX3_handOver 21 = .ok (.getfield 39, 3) := by decide +kernel
theorem dX3_handOver_24 : decode cX3_handOver 24 = .ok (.getfield 172, 3) := by decide +kernel
theorem dX3_handOver_27 : decode cX3_handOver 27 = .ok (.iload_n 1, 1) := by decide +kernel
theorem dX3_handOver_28 : decode cX3_handOver 28 = .ok (.iaload, 1) := by decide +kernel
theorem dX3_handOver_29 : decode cX3_handOver 29 = .ok (.istore 4, 2) := by decide +kernel
theorem dX3_handOver_31 : decode cX3_handOver 31 = .ok (.aload_n 0, 1) := by decide +kernel
theorem dX3_handOver_32 : decode cX3_handOver 32 = .ok (.getfield 39, 3) := by decide +kernel
theorem dX3_handOver_35 : decode cX3_handOver 35 = .ok (.getfield 175, 3) := by decide +kernel
theorem dX3_handOver_38 : decode cX3_handOver 38 = .ok (.iload_n 1, 1) := by decide +kernel
theorem dX3_handOver_39 : decode cX3_handOver 39 = .ok (.laload, 1) := by decide +kernel
theorem dX3_handOver_40 : decode cX3_handOver 40 = .ok (.lstore 5, 2) := by decide +kernel
theorem dX3_handOver_42 : decode cX3_handOver 42 = .ok (.aload_n 0, 1) := by decide +kernel
theorem dX3_handOver_43 : decode cX3_handOver 43 = .ok (.aload_n 0, 1) := by decide +kernel
theorem dX3_handOver_44 : decode cX3_handOver 44 = .ok (.getfield 39, 3) := by decide +kernel
theorem dX3_handOver_47 : decode cX3_handOver 47 = .ok (.getfield 166, 3) := by decide +kernel
theorem dX3_handOver_50 : decode cX3_handOver 50 = .ok (.iload_n 1, 1) := by decide +kernel
theorem dX3_handOver_51 : decode cX3_handOver 51 = .ok (.iaload, 1) := by decide +kernel
theorem dX3_handOver_52 : decode cX3_handOver 52 = .ok (.invokevirtual 64, 3) := by decide +kernel
theorem dX3_handOver_55 : decode cX3_handOver 55 = .ok (.astore 7, 2) := by decide +kernel
theorem dX3_handOver_57 : decode cX3_handOver 57 = .ok (.aload_n 0, 1) := by decide +kernel
theorem dX3_handOver_58 : decode cX3_handOver 58 = .ok (.getfield 39, 3) := by decide +kernel
theorem dX3_handOver_61 : decode cX3_handOver 61 = .ok (.iload_n 1, 1) := by decide +kernel
theorem dX3_handOver_62 : decode cX3_handOver 62 = .ok (.invokevirtual 118, 3) := by decide +kernel
theorem dX3_handOver_65 : decode cX3_handOver 65 = .ok (.aload 7, 2) := by decide +kernel
theorem dX3_handOver_67 : decode cX3_handOver 67 = .ok (.ifnonnull 4, 3) := by decide +kernel
theorem dX3_handOver_70 : decode cX3_handOver 70 = .ok (.return_, 1) := by decide +kernel
theorem dX3_handOver_71 : decode cX3_handOver 71 = .ok (.iload_n 2, 1) := by decide +kernel
theorem dX3_handOver_72 : decode cX3_handOver 72 = .ok (.tableswitch 117 1 7 #[44, 53, 63, 75, 87, 99, 108], 44) := by decide +kernel
theorem dX3_handOver_116 : decode cX3_handOver 116 = .ok (.aload_n 0, 1) := by decide +kernel
theorem dX3_handOver_117 : decode cX3_handOver 117 = .ok (.aload 7, 2) := by decide +kernel
theorem dX3_handOver_119 : decode cX3_handOver 119 = .ok (.invokevirtual 191, 3) := by decide +kernel
theorem dX3_handOver_122 : decode cX3_handOver 122 = .ok (.goto 67, 3) := by decide +kernel
theorem dX3_handOver_125 : decode cX3_handOver 125 = .ok (.aload_n 0, 1) := by decide +kernel
theorem dX3_handOver_126 : decode cX3_handOver 126 = .ok (.aload 7, 2) := by decide +kernel
theorem dX3_handOver_128 : decode cX3_handOver 128 = .ok (.iload_n 3, 1) := by decide +kernel
theorem dX3_handOver_129 : decode cX3_handOver 129 = .ok (.invokevirtual 195, 3) := by decide +kernel
theorem dX3_handOver_132 : decode cX3_handOver 132 = .ok (.goto 57, 3) := by decide +kernel
theorem dX3_handOver_135 : decode cX3_handOver 135 = .ok (.aload_n 0, 1) := by decide +kernel
theorem dX3_handOver_136 : decode cX3_handOver 136 = .ok (.aload 7, 2) := by decide +kernel
theorem dX3_handOver_138 : decode cX3_handOver 138 = .ok (.iload_n 3, 1) := by decide +kernel
theorem dX3_handOver_139 : decode cX3_handOver 139 = .ok (.lload 5, 2) := by decide +kernel
theorem dX3_handOver_141 : decode cX3_handOver 141 = .ok (.invokevirtual 199, 3) := by decide +kernel
theorem dX3_handOver_144 : decode cX3_handOver 144 = .ok (.goto 45, 3) := by decide +kernel
theorem dX3_handOver_147 : decode cX3_handOver 147 = .ok (.aload_n 0, 1) := by decide +kernel
theorem dX3_handOver_148 : decode cX3_handOver 148 = .ok (.aload 7, 2) := by decide +kernel
theorem dX3_handOver_150 : decode cX3_handOver 150 = .ok (.iload_n 3, 1) := by decide +kernel
theorem dX3_handOver_151 : decode cX3_handOver 151 = .ok (.iload 4, 2) := by decide +kernel
theorem dX3_handOver_153 : decode cX3_handOver 153 = .ok (.invokevirtual 203, 3) := by decide +kernel
theorem dX3_handOver_156 : decode cX3_handOver 156 = .ok (.goto 33, 3) := by decide +kernel
theorem dX3_handOver_159 : decode cX3_handOver 159 = .ok (.aload_n 0, 1) := by decide +kernel
theorem dX3_handOver_160 : decode cX3_handOver 160 = .ok (.aload 7, 2) := by decide +kernel
theorem dX3_handOver_162 : decode cX3_handOver 162 = .ok (.iload_n 3, 1) := by decide +kernel
theorem dX3_handOver_163 : decode cX3_handOver 163 = .ok (.iload 4, 2) := by decide +kernel
theorem dX3_handOver_165 : decode cX3_handOver 165 = .ok (.invokevirtual 207, 3) := by decide +kernel
theorem dX3_handOver_168 : decode cX3_handOver 168 = .ok (.goto 21, 3) := by decide +kernel
theorem dX3_handOver_171 : decode cX3_handOver 171 = .ok (.aload_n 0, 1) := by decide +kernel
theorem dX3_handOver_172 : decode cX3_handOver 172 = .ok (.aload 7, 2) := by decide +kernel
theorem dX3_handOver_174 : decode cX3_handOver 174 = .ok (.invokevirtual 210, 3) := by decide +kernel
theorem dX3_handOver_177 : decode cX3_handOver 177 = .ok (.goto 12, 3) := by decide +kernel
theorem dX3_handOver_180 : decode cX3_handOver 180 = .ok (.aload_n 0, 1) := by decide +kernel
theorem dX3_handOver_181 : decode cX3_handOver 181 = .ok (.aload 7, 2) := by decide +kernel
theorem dX3_handOver_183 : decode cX3_handOver 183 = .ok (.invokevirtual 213, 3) := by decide +kernel
theorem dX3_handOver_186 : decode cX3_handOver 186 = .ok (.goto 3, 3) := by decide +kernel
theorem dX3_handOver_189 : decode cX3_handOver 189 = .ok (.return_, 1) := by decide +kernel
theorem dX3_newComes_0 : decode cX3_newComes 0 = .ok (.aload_n 1, 1) := by decide +kernel
theorem dX3_newComes_1 : decode cX3_newComes 1 = .ok (.getfield 72, 3) := by decide +kernel
theorem dX3_newComes_4 : decode cX3_newComes 4 = .ok (.ifCond .ne 25, 3) := by decide +kernel
theorem dX3_newComes_7 : decode cX3_newComes 7 = .ok (.aload_n 1, 1) := by decide +kernel
theorem dX3_newComes_8 : decode cX3_newComes 8 = .ok (.iconst 1, 1) := by decide +kernel
theorem dX3_newComes_9 : decode cX3_newComes 9 = .ok (.putfield 72, 3) := by decide +kernel
theorem dX3_newComes_12 : decode cX3_newComes 12 = .ok (.aload_n 0, 1) := by decide +kernel
theorem dX3_newComes_13 : decode cX3_newComes 13 = .ok (.aload_n 1, 1) := by decide +kernel
theorem dX3_newComes_14 : decode cX3_newComes 14 = .ok (.getfield 94, 3) := by decide +kernel
theorem dX3_newComes_17 : decode cX3_newComes 17 = .ok (.iconst 2, 1) := by decide +kernel
theorem dX3_newComes_18 : decode cX3_newComes 18 = .ok (.aload_n 1, 1) := by decide +kernel
theorem dX3_newComes_19 : decode cX3_newComes 19 = .ok (.iconst (-1), 1) := by decide +kernel
theorem dX3_newComes_20 : decode cX3_newComes 20 = .ok (.invokevirtual 87, 3) := by decide +kernel
theorem dX3_newComes_23 : decode cX3_newComes 23 = .ok (.pop, 1) := by decide +kernel
theorem dX3_newComes_24 : decode cX3_newComes 24 = .ok (.aload_n 0, 1) := by decide +kernel
theorem dX3_newComes_25 : decode cX3_newComes 25 = .ok (.aload_n 1, 1) := by decide +kernel
theorem dX3_newComes_26 : decode cX3_newComes 26 = .ok (.invokevirtual 216, 3) := by decide +kernel
theorem dX3_newComes_29 : decode cX3_newComes 29 = .ok (.return_, 1) := by decide +kernel
theorem dX3_readComes_0 : decode cX3_readComes 0 = .ok (.aload_n 0, 1) := by decide +kernel
theorem dX3_readComes_1 : decode cX3_readComes 1 = .ok (.iload_n 2, 1) := by decide +kernel
theorem dX3_readComes_2 : decode cX3_readComes 2 = .ok (.invokevirtual 127, 3) := by decide +kernel
theorem dX3_readComes_5 : decode cX3_readComes 5 = .ok (.ifCond .eq 46, 3) := by decide +kernel
theorem dX3_readComes_8 : decode cX3_readComes 8 = .ok (.aload_n 0, 1) := by decide +kernel
theorem dX3_readComes_9 : decode cX3_readComes 9 = .ok (.getfield 22, 3) := by decide +kernel
theorem dX3_readComes_12 : decode cX3_readComes 12 = .ok (.iload_n 2, 1) := by decide +kernel
theorem dX3_readComes_13 : decode cX3_readComes 13 = .ok (.iaload, 1) := by decide +kernel
theorem dX3_readComes_14 : decode cX3_readComes 14 = .ok (.aload_n 1, 1) := by decide +kernel
theorem dX3_readComes_15 : decode cX3_readComes 15 = .ok (.getfield 91, 3) := by decide +kernel
theorem dX3_readComes_18 : decode cX3_readComes 18 = .ok (.if_icmp .gt 33, 3) := by decide +kernel
theorem dX3_readComes_21 : decode cX3_readComes 21 = .ok (.aload_n 0, 1) := by decide +kernel
theorem dX3_readComes_22 : decode cX3_readComes 22 = .ok (.getfield 22, 3) := by decide +kernel
theorem dX3_readComes_25 : decode cX3_readComes 25 = .ok (.iload_n 2, 1) := by decide +kernel
theorem dX3_readComes_26 : decode cX3_readComes 26 = .ok (.aload_n 1, 1) := by decide +kernel
theorem dX3_readComes_27 : decode cX3_readComes 27 = .ok (.getfield 91, 3) := by decide +kernel
theorem dX3_readComes_30 : decode cX3_readComes 30 = .ok (.iastore, 1) := by decide +kernel
theorem dX3_readComes_31 : decode cX3_readComes 31 = .ok (.aload_n 0, 1) := by decide +kernel
theorem dX3_readComes_32 : decode cX3_readComes 32 = .ok (.getfield 39, 3) := by decide +kernel
theorem dX3_readComes_35 : decode cX3_readComes 35 = .ok (.iconst 3, 1) := by decide +kernel
theorem dX3_readComes_36 : decode cX3_readComes 36 = .ok (.aload_n 1, 1) := by decide +kernel
theorem dX3_readComes_37 : decode cX3_readComes 37 = .ok (.getfield 91, 3) := by decide +kernel
theorem dX3_readComes_40 : decode cX3_readComes 40 = .ok (.iload_n 2, 1) := by decide +kernel
theorem dX3_readComes_41 : decode cX3_readComes 41 = .ok (.iconst (-1), 1) := by decide +kernel
theorem dX3_readComes_42 : decode cX3_readComes 42 = .ok (.aload_n 0, 1) := by decide +kernel
theorem dX3_readComes_43 : decode cX3_readComes 43 = .ok (.getfield 26, 3) := by decide +kernel
theorem dX3_readComes_46 : decode cX3_readComes 46 = .ok (.iload_n 2, 1) := by decide +kernel
theorem dX3_readComes_47 : decode cX3_readComes 47 = .ok (.laload, 1) := by decide +kernel
theorem dX3_readComes_48 : decode cX3_readComes 48 = .ok (.invokevirtual 60, 3) := by decide +kernel
theorem dX3_readComes_51 : decode cX3_readComes 51 = .ok (.return_, 1) := by decide +kernel
theorem dX3_readAnswerComes_0 : decode cX3_readAnswerComes 0 = .ok (.iconst 1, 1) := by decide +kernel
theorem dX3_readAnswerComes_1 : decode cX3_readAnswerComes 1 = .ok (.iload_n 2, 1) := by decide +kernel
theorem dX3_readAnswerComes_2 : decode cX3_readAnswerComes 2 = .ok (.ishl, 1) := by decide +kernel
theorem dX3_readAnswerComes_3 : decode cX3_readAnswerComes 3 = .ok (.istore 5, 2) := by decide +kernel
theorem dX3_readAnswerComes_5 : decode cX3_readAnswerComes 5 = .ok (.aload_n 1, 1) := by decide +kernel
theorem dX3_readAnswerComes_6 : decode cX3_readAnswerComes 6 = .ok (.getfield 72, 3) := by decide +kernel
theorem dX3_readAnswerComes_9 : decode cX3_readAnswerComes 9 = .ok (.iconst 1, 1) := by decide +kernel
theorem dX3_readAnswerComes_10 : decode cX3_readAnswerComes 10 = .ok (.if_icmp .ne 35, 3) := by decide +kernel
theorem dX3_readAnswerComes_13 : decode cX3_readAnswerComes 13 = .ok (.aload_n 1, 1) := by decide +kernel
theorem dX3_readAnswerComes_14 : decode cX3_readAnswerComes 14 = .ok (.getfield 97, 3) := by decide +kernel
theorem dX3_readAnswerComes_17 : decode cX3_readAnswerComes 17 = .ok (.iload 5, 2) := by decide +kernel
theorem dX3_readAnswerComes_19 : decode cX3_readAnswerComes 19 = .ok (.iand, 1) := by decide +kernel
theorem dX3_readAnswerComes_20 : decode cX3_readAnswerComes 20 = .ok (.ifCond .ne 25, 3) := by decide +kernel
theorem dX3_readAnswerComes_23 : decode cX3_readAnswerComes 23 = .ok (.aload_n 1, 1) := by decide +kernel
theorem dX3_readAnswerComes_24 : decode cX3_readAnswerComes 24 = .ok (.dup, 1) := by decide +kernel
theorem dX3_readAnswerComes_25 : decode cX3_readAnswerComes 25 = .ok (.getfield 97, 3) := by decide +kernel
theorem dX3_readAnswerComes_28 : decode cX3_readAnswerComes 28 = .ok (.iload 5, 2) := by decide +kernel
theorem dX3_readAnswerComes_30 : decode cX3_readAnswerComes 30 = .ok (.ior, 1) := by decide +kernel
theorem dX3_readAnswerComes_31 : decode cX3_readAnswerComes 31 = .ok (.putfield 97, 3) := by decide +kernel
theorem dX3_readAnswerComes_34 : decode cX3_readAnswerComes 34 = .ok (.aload_n 0, 1) := by decide +kernel
theorem dX3_readAnswerComes_35 : decode cX3_readAnswerComes 35 = .ok (.aload_n 1, 1) := by decide +kernel
theorem dX3_readAnswerComes_36 : decode cX3_readAnswerComes 36 = .ok (.lload_n 3, 1) := by decide +kernel
theorem dX3_readAnswerComes_37 : decode cX3_readAnswerComes 37 = .ok (.invokevirtual 219, 3) := by decide +kernel
theorem dX3_readAnswerComes_40 : decode cX3_readAnswerComes 40 = .ok (.aload_n 0, 1) := by decide +kernel
theorem dX3_readAnswerComes_41 : decode cX3_readAnswerComes 41 = .ok (.aload_n 1, 1) := by decide +kernel
theorem dX3_readAnswerComes_42 : decode cX3_readAnswerComes 42 = .ok (.invokevirtual 216, 3) := by decide +kernel
theorem dX3_readAnswerComes_45 : decode cX3_readAnswerComes 45 = .ok (.return_, 1) := by decide +kernel
theorem dX3_takeFound_0 : decode cX3_takeFound 0 = .ok (.iconst 0, 1) := by decide +kernel
theorem dX3_takeFound_1 : decode cX3_takeFound 1 = .ok (.istore 4, 2) := by decide +kernel
theorem dX3_takeFound_3 : decode cX3_takeFound 3 = .ok (.iload 4, 2) := by decide +kernel
theorem dX3_takeFound_5 : decode cX3_takeFound 5 = .ok (.bipush 8, 2) := by decide +kernel
theorem dX3_takeFound_7 : decode cX3_takeFound 7 = .ok (.if_icmp .ge 81, 3) := by decide +kernel
theorem dX3_takeFound_10 : decode cX3_takeFound 10 = .ok (.aload_n 0, 1) := by decide +kernel
theorem dX3_takeFound_11 : decode cX3_takeFound 11 = .ok (.lload_n 2, 1) := by decide +kernel
theorem dX3_takeFound_12 : decode cX3_takeFound 12 = .ok (.iload 4, 2) := by decide +kernel
theorem dX3_takeFound_14 : decode cX3_takeFound 14 = .ok (.invokestatic 133, 3) := by decide +kernel
theorem dX3_takeFound_17 : decode cX3_takeFound 17 = .ok (.invokevirtual 64, 3) := by decide +kernel
theorem dX3_takeFound_20 : decode cX3_takeFound 20 = .ok (.astore 5, 2) := by decide +kernel
theorem dX3_takeFound_22 : decode cX3_takeFound 22 = .ok (.aload 5, 2) := by decide +kernel
theorem dX3_takeFound_24 : decode cX3_takeFound 24 = .ok (.ifnull 58, 3) := by decide +kernel
theorem dX3_takeFound_27 : decode cX3_takeFound 27 = .ok (.aload 5, 2) := by decide +kernel
theorem dX3_takeFound_29 : decode cX3_takeFound 29 = .ok (.getfield 91, 3) := by decide +kernel
theorem dX3_takeFound_32 : decode cX3_takeFound 32 = .ok (.aload_n 1, 1) := by decide +kernel
theorem dX3_takeFound_33 : decode cX3_takeFound 33 = .ok (.getfield 223, 3) := by decide +kernel
theorem dX3_takeFound_36 : decode cX3_takeFound 36 = .ok (.iload 4, 2) := by decide +kernel
theorem dX3_takeFound_38 : decode cX3_takeFound 38 = .ok (.iaload, 1) := by decide +kernel
theorem dX3_takeFound_39 : decode cX3_takeFound 39 = .ok (.if_icmp .le 43, 3) := by decide +kernel
theorem dX3_takeFound_42 : decode cX3_takeFound 42 = .ok (.aload_n 1, 1) := by decide +kernel
theorem dX3_takeFound_43 : decode cX3_takeFound 43 = .ok (.dup, 1) := by decide +kernel
theorem dX3_takeFound_44 : decode cX3_takeFound 44 = .ok (.getfield 148, 3) := by decide +kernel
theorem dX3_takeFound_47 : decode cX3_takeFound 47 = .ok (.iconst 1, 1) := by decide +kernel
theorem dX3_takeFound_48 : decode cX3_takeFound 48 = .ok (.iload 4, 2) := by decide +kernel
theorem dX3_takeFound_50 : decode cX3_takeFound 50 = .ok (.ishl, 1) := by decide +kernel
theorem dX3_takeFound_51 : decode cX3_takeFound 51 = .ok (.ior, 1) := by decide +kernel
theorem dX3_takeFound_52 : decode cX3_takeFound 52 = .ok (.putfield 148, 3) := by decide +kernel
theorem dX3_takeFound_55 : decode cX3_takeFound 55 = .ok (.aload_n 1, 1) := by decide +kernel
theorem dX3_takeFound_56 : decode cX3_takeFound 56 = .ok (.getfield 223, 3) := by decide +kernel
theorem dX3_takeFound_59 : decode cX3_takeFound 59 = .ok (.iload 4, 2) := by decide +kernel
theorem dX3_takeFound_61 : decode cX3_takeFound 61 = .ok (.aload 5, 2) := by decide +kernel
theorem dX3_takeFound_63 : decode cX3_takeFound 63 = .ok (.getfield 91, 3) := by decide +kernel
theorem dX3_takeFound_66 : decode cX3_takeFound 66 = .ok (.iastore, 1) := by decide +kernel
theorem dX3_takeFound_67 : decode cX3_takeFound 67 = .ok (.aload_n 1, 1) := by decide +kernel
theorem dX3_takeFound_68 : decode cX3_takeFound 68 = .ok (.getfield 81, 3) := by decide +kernel
theorem dX3_takeFound_71 : decode cX3_takeFound 71 = .ok (.iload 4, 2) := by decide +kernel
theorem dX3_takeFound_73 : decode cX3_takeFound 73 = .ok (.aload 5, 2) := by decide +kernel
theorem dX3_takeFound_75 : decode cX3_takeFound 75 = .ok (.getfield 81, 3) := by decide +kernel
theorem dX3_takeFound_78 : decode cX3_takeFound 78 = .ok (.iload 4, 2) := by decide +kernel
theorem dX3_takeFound_80 : decode cX3_takeFound 80 = .ok (.laload, 1) := by decide +kernel
theorem dX3_takeFound_81 : decode cX3_takeFound 81 = .ok (.lastore, 1) := by decide +kernel
theorem dX3_takeFound_82 : decode cX3_takeFound 82 = .ok (.iinc 4 1, 3) := by decide +kernel
theorem dX3_takeFound_85 : decode cX3_takeFound 85 = .ok (.goto (-82), 3) := by decide +kernel
theorem dX3_takeFound_88 : decode cX3_takeFound 88 = .ok (.return_, 1) := by decide +kernel
theorem dX3_voteComes_0 : decode cX3_voteComes 0 = .ok (.aload_n 0, 1) := by decide +kernel
theorem dX3_voteComes_1 : decode cX3_voteComes 1 = .ok (.iload_n 2, 1) := by decide +kernel
theorem dX3_voteComes_2 : decode cX3_voteComes 2 = .ok (.invokevirtual 127, 3) := by decide +kernel
theorem dX3_voteComes_5 : decode cX3_voteComes 5 = .ok (.ifCond .eq 80, 3) := by decide +kernel
theorem dX3_voteComes_8 : decode cX3_voteComes 8 = .ok (.iload_n 3, 1) := by decide +kernel
theorem dX3_voteComes_9 : decode cX3_voteComes 9 = .ok (.invokestatic 68, 3) := by decide +kernel
theorem dX3_voteComes_12 : decode cX3_voteComes 12 = .ok (.ifCond .eq 73, 3) := by decide +kernel
theorem dX3_voteComes_15 : decode cX3_voteComes 15 = .ok (.aload_n 0, 1) := by decide +kernel
theorem dX3_voteComes_16 : decode cX3_voteComes 16 = .ok (.getfield 22, 3) := by decide +kernel
theorem dX3_voteComes_19 : decode cX3_voteComes 19 = .ok (.iload_n 2, 1) := by decide +kernel
theorem dX3_voteComes_20 : decode cX3_voteComes 20 = .ok (.iaload, 1) := by decide +kernel
theorem dX3_voteComes_21 : decode cX3_voteComes 21 = .ok (.aload_n 1, 1) := by decide +kernel
theorem dX3_voteComes_22 : decode cX3_voteComes 22 = .ok (.getfield 91, 3) := by decide +kernel
theorem dX3_voteComes_25 : decode cX3_voteComes 25 = .ok (.if_icmp .gt 60, 3) := by decide +kernel
theorem dX3_voteComes_28 : decode cX3_voteComes 28 = .ok (.aload_n 0, 1) := by decide +kernel
theorem dX3_voteComes_29 : decode cX3_voteComes 29 = .ok (.getfield 22, 3) := by decide +kernel
theorem dX3_voteComes_32 : decode cX3_voteComes 32 = .ok (.iload_n 2, 1) := by decide +kernel
theorem dX3_voteComes_33 : decode cX3_voteComes 33 = .ok (.aload_n 1, 1) := by decide +kernel
theorem dX3_voteComes_34 : decode cX3_voteComes 34 = .ok (.getfield 91, 3) := by decide +kernel
theorem dX3_voteComes_37 : decode cX3_voteComes 37 = .ok (.iastore, 1) := by decide +kernel
theorem dX3_voteComes_38 : decode cX3_voteComes 38 = .ok (.aload_n 0, 1) := by decide +kernel
theorem dX3_voteComes_39 : decode cX3_voteComes 39 = .ok (.getfield 26, 3) := by decide +kernel
theorem dX3_voteComes_42 : decode cX3_voteComes 42 = .ok (.iload_n 2, 1) := by decide +kernel
theorem dX3_voteComes_43 : decode cX3_voteComes 43 = .ok (.aload_n 0, 1) := by decide +kernel
theorem dX3_voteComes_44 : decode cX3_voteComes 44 = .ok (.getfield 26, 3) := by decide +kernel
theorem dX3_voteComes_47 : decode cX3_voteComes 47 = .ok (.iload_n 2, 1) := by decide +kernel
theorem dX3_voteComes_48 : decode cX3_voteComes 48 = .ok (.laload, 1) := by decide +kernel
theorem dX3_voteComes_49 : decode cX3_voteComes 49 = .ok (.iload_n 3, 1) := by decide +kernel
theorem dX3_voteComes_50 : decode cX3_voteComes 50 = .ok (.aload_n 1, 1) := by decide +kernel
theorem dX3_voteComes_51 : decode cX3_voteComes 51 = .ok (.getfield 91, 3) := by decide +kernel
theorem dX3_voteComes_54 : decode cX3_voteComes 54 = .ok (.invokestatic 226, 3) := by decide +kernel
theorem dX3_voteComes_57 : decode cX3_voteComes 57 = .ok (.lastore, 1) := by decide +kernel
theorem dX3_voteComes_58 : decode cX3_voteComes 58 = .ok (.aload_n 1, 1) := by decide +kernel
theorem dX3_voteComes_59 : decode cX3_voteComes 59 = .ok (.getfield 230, 3) := by decide +kernel
theorem dX3_voteComes_62 : decode cX3_voteComes 62 = .ok (.iload_n 3, 1) := by decide +kernel
theorem dX3_voteComes_63 : decode cX3_voteComes 63 = .ok (.dup2, 1) := by decide +kernel
theorem dX3_voteComes_64 : decode cX3_voteComes 64 = .ok (.iaload, 1) := by decide +kernel
theorem dX3_voteComes_65 : decode cX3_voteComes 65 = .ok (.iconst 1, 1) := by decide +kernel
theorem dX3_voteComes_66 : decode cX3_voteComes 66 = .ok (.iload_n 2, 1) := by decide +kernel
theorem dX3_voteComes_67 : decode cX3_voteComes 67 = .ok (.ishl, 1) := by decide +kernel
theorem dX3_voteComes_68 : decode cX3_voteComes 68 = .ok (.ior, 1) := by decide +kernel
theorem dX3_voteComes_69 : decode cX3_voteComes 69 = .ok (.iastore, 1) := by decide +kernel
theorem dX3_voteComes_70 : decode cX3_voteComes 70 = .ok (.aload_n 0, 1) := by decide +kernel
theorem dX3_voteComes_71 : decode cX3_voteComes 71 = .ok (.getfield 39, 3) := by decide +kernel
theorem dX3_voteComes_74 : decode cX3_voteComes 74 = .ok (.iconst 5, 1) := by decide +kernel
theorem dX3_voteComes_75 : decode cX3_voteComes 75 = .ok (.aload_n 1, 1) := by decide +kernel
theorem dX3_voteComes_76 : decode cX3_voteComes 76 = .ok (.getfield 91, 3) := by decide +kernel
theorem dX3_voteComes_79 : decode cX3_voteComes 79 = .ok (.iload_n 2, 1) := by decide +kernel
theorem dX3_voteComes_80 : decode cX3_voteComes 80 = .ok (.iload_n 3, 1) := by decide +kernel
theorem dX3_voteComes_81 : decode cX3_voteComes 81 = .ok (.lconst 0, 1) := by decide +kernel
theorem dX3_voteComes_82 : decode cX3_voteComes 82 = .ok (.invokevirtual 60, 3) := by decide +kernel
theorem dX3_voteComes_85 : decode cX3_voteComes 85 = .ok (.return_, 1) := by decide +kernel
theorem dX3_voteAnswerComes_0 : decode cX3_voteAnswerComes 0 = .ok (.iload_n 3, 1) := by decide +kernel
theorem dX3_voteAnswerComes_1 : decode cX3_voteAnswerComes 1 = .ok (.invokestatic 68, 3) := by decide +kernel
theorem dX3_voteAnswerComes_4 : decode cX3_voteAnswerComes 4 = .ok (.ifCond .eq 28, 3) := by decide +kernel
theorem dX3_voteAnswerComes_7 : decode cX3_voteAnswerComes 7 = .ok (.aload_n 1, 1) := by decide +kernel
theorem dX3_voteAnswerComes_8 : decode cX3_voteAnswerComes 8 = .ok (.getfield 72, 3) := by decide +kernel
theorem dX3_voteAnswerComes_11 : decode cX3_voteAnswerComes 11 = .ok (.iconst 2, 1) := by decide +kernel
theorem dX3_voteAnswerComes_12 : decode cX3_voteAnswerComes 12 = .ok (.if_icmp .lt 20, 3) := by decide +kernel
theorem dX3_voteAnswerComes_15 : decode cX3_voteAnswerComes 15 = .ok (.aload_n 1, 1) := by decide +kernel
theorem dX3_voteAnswerComes_16 : decode cX3_voteAnswerComes 16 = .ok (.getfield 154, 3) := by decide +kernel
theorem dX3_voteAnswerComes_19 : decode cX3_voteAnswerComes 19 = .ok (.iload_n 3, 1) := by decide +kernel
theorem dX3_voteAnswerComes_20 : decode cX3_voteAnswerComes 20 = .ok (.dup2, 1) := by decide +kernel
theorem dX3_voteAnswerComes_21 : decode cX3_voteAnswerComes 21 = .ok (.iaload, 1) := by decide +kernel
theorem dX3_voteAnswerComes_22 : decode cX3_voteAnswerComes 22 = .ok (.iconst 1, 1) := by decide +kernel
theorem dX3_voteAnswerComes_23 : decode cX3_voteAnswerComes 23 = .ok (.iload_n 2, 1) := by decide +kernel
theorem dX3_voteAnswerComes_24 : decode cX3_voteAnswerComes 24 = .ok (.ishl, 1) := by decide +kernel
theorem dX3_voteAnswerComes_25 : decode cX3_voteAnswerComes 25 = .ok (.ior, 1) := by decide +kernel
theorem dX3_voteAnswerComes_26 : decode cX3_voteAnswerComes 26 = .ok (.iastore, 1) := by decide +kernel
theorem dX3_voteAnswerComes_27 : decode cX3_voteAnswerComes 27 = .ok (.aload_n 0, 1) := by decide +kernel
theorem dX3_voteAnswerComes_28 : decode cX3_voteAnswerComes 28 = .ok (.aload_n 1, 1) := by decide +kernel
theorem dX3_voteAnswerComes_29 : decode cX3_voteAnswerComes 29 = .ok (.invokevirtual 216, 3) := by decide +kernel
theorem dX3_voteAnswerComes_32 : decode cX3_voteAnswerComes 32 = .ok (.return_, 1) := by decide +kernel
theorem dX3_completeComes_0 : decode cX3_completeComes 0 = .ok (.aload_n 0, 1) := by decide +kernel
theorem dX3_completeComes_1 : decode cX3_completeComes 1 = .ok (.getfield 50, 3) := by decide +kernel
theorem dX3_completeComes_4 : decode cX3_completeComes 4 = .ok (.aload_n 1, 1) := by decide +kernel
theorem dX3_completeComes_5 : decode cX3_completeComes 5 = .ok (.getfield 145, 3) := by decide +kernel
theorem dX3_completeComes_8 : decode cX3_completeComes 8 = .ok (.if_icmp .eq 14, 3) := by decide +kernel
theorem dX3_completeComes_11 : decode cX3_completeComes 11 = .ok (.aload_n 0, 1) := by decide +kernel
theorem dX3_completeComes_12 : decode cX3_completeComes 12 = .ok (.getfield 50, 3) := by decide +kernel
theorem dX3_completeComes_15 : decode cX3_completeComes 15 = .ok (.aload_n 1, 1) := by decide +kernel
theorem dX3_completeComes_16 : decode cX3_completeComes 16 = .ok (.getfield 91, 3) := by decide +kernel
theorem dX3_completeComes_19 : decode cX3_completeComes 19 = .ok (.if_icmp .ne 27, 3) := by decide +kernel
theorem dX3_completeComes_22 : decode cX3_completeComes 22 = .ok (.aload_n 0, 1) := by decide +kernel
theorem dX3_completeComes_23 : decode cX3_completeComes 23 = .ok (.aload_n 1, 1) := by decide +kernel
theorem dX3_completeComes_24 : decode cX3_completeComes 24 = .ok (.getfield 91, 3) := by decide +kernel
theorem dX3_completeComes_27 : decode cX3_completeComes 27 = .ok (.putfield 50, 3) := by decide +kernel
theorem dX3_completeComes_30 : decode cX3_completeComes 30 = .ok (.aload_n 0, 1) := by decide +kernel
theorem dX3_completeComes_31 : decode cX3_completeComes 31 = .ok (.getfield 39, 3) := by decide +kernel
theorem dX3_completeComes_34 : decode cX3_completeComes 34 = .ok (.bipush 7, 2) := by decide +kernel
theorem dX3_completeComes_36 : decode cX3_completeComes 36 = .ok (.aload_n 1, 1) := by decide +kernel
theorem dX3_completeComes_37 : decode cX3_completeComes 37 = .ok (.getfield 91, 3) := by decide +kernel
theorem dX3_completeComes_40 : decode cX3_completeComes 40 = .ok (.iconst (-1), 1) := by decide +kernel
theorem dX3_completeComes_41 : decode cX3_completeComes 41 = .ok (.iconst (-1), 1) := by decide +kernel
theorem dX3_completeComes_42 : decode cX3_completeComes 42 = .ok (.lconst 0, 1) := by decide +kernel
theorem dX3_completeComes_43 : decode cX3_completeComes 43 = .ok (.invokevirtual 60, 3) := by decide +kernel
theorem dX3_completeComes_46 : decode cX3_completeComes 46 = .ok (.return_, 1) := by decide +kernel
theorem dX3_activeComes_0 : decode cX3_activeComes 0 = .ok (.aload_n 1, 1) := by decide +kernel
theorem dX3_activeComes_1 : decode cX3_activeComes 1 = .ok (.getfield 72, 3) := by decide +kernel
theorem dX3_activeComes_4 : decode cX3_activeComes 4 = .ok (.iconst 3, 1) := by decide +kernel
theorem dX3_activeComes_5 : decode cX3_activeComes 5 = .ok (.if_icmp .ne 8, 3) := by decide +kernel
theorem dX3_activeComes_8 : decode cX3_activeComes 8 = .ok (.aload_n 1, 1) := by decide +kernel
theorem dX3_activeComes_9 : decode cX3_activeComes 9 = .ok (.iconst 4, 1) := by decide +kernel
theorem dX3_activeComes_10 : decode cX3_activeComes 10 = .ok (.putfield 72, 3) := by decide +kernel
theorem dX3_activeComes_13 : decode cX3_activeComes 13 = .ok (.return_, 1) := by decide +kernel
theorem dX3_goOn_0 : decode cX3_goOn 0 = .ok (.aload_n 1, 1) := by decide +kernel
theorem dX3_goOn_1 : decode cX3_goOn 1 = .ok (.getfield 72, 3) := by decide +kernel
theorem dX3_goOn_4 : decode cX3_goOn 4 = .ok (.iconst 1, 1) := by decide +kernel
theorem dX3_goOn_5 : decode cX3_goOn 5 = .ok (.if_icmp .ne 22, 3) := by decide +kernel
theorem dX3_goOn_8 : decode cX3_goOn 8 = .ok (.aload_n 0, 1) := by decide +kernel
theorem dX3_goOn_9 : decode cX3_goOn 9 = .ok (.aload_n 1, 1) := by decide +kernel
theorem dX3_goOn_10 : decode cX3_goOn 10 = .ok (.invokevirtual 233, 3) := by decide +kernel
theorem dX3_goOn_13 : decode cX3_goOn 13 = .ok (.ifCond .eq 14, 3) := by decide +kernel
theorem dX3_goOn_16 : decode cX3_goOn 16 = .ok (.aload_n 1, 1) := by decide +kernel
theorem dX3_goOn_17 : decode cX3_goOn 17 = .ok (.iconst 2, 1) := by decide +kernel
theorem dX3_goOn_18 : decode cX3_goOn 18 = .ok (.putfield 72, 3) := by decide +kernel
theorem dX3_goOn_21 : decode cX3_goOn 21 = .ok (.aload_n 0, 1) := by decide +kernel
theorem dX3_goOn_22 : decode cX3_goOn 22 = .ok (.aload_n 1, 1) := by decide +kernel
theorem dX3_goOn_23 : decode cX3_goOn 23 = .ok (.invokevirtual 100, 3) := by decide +kernel
theorem dX3_goOn_26 : decode cX3_goOn 26 = .ok (.pop, 1) := by decide +kernel
theorem dX3_goOn_27 : decode cX3_goOn 27 = .ok (.aload_n 1, 1) := by decide +kernel
theorem dX3_goOn_28 : decode cX3_goOn 28 = .ok (.getfield 72, 3) := by decide +kernel
theorem dX3_goOn_31 : decode cX3_goOn 31 = .ok (.iconst 2, 1) := by decide +kernel
theorem dX3_goOn_32 : decode cX3_goOn 32 = .ok (.if_icmp .ne 38, 3) := by decide +kernel
theorem dX3_goOn_35 : decode cX3_goOn 35 = .ok (.aload_n 1, 1) := by decide +kernel
theorem dX3_goOn_36 : decode cX3_goOn 36 = .ok (.getfield 148, 3) := by decide +kernel
theorem dX3_goOn_39 : decode cX3_goOn 39 = .ok (.aload_n 1, 1) := by decide +kernel
theorem dX3_goOn_40 : decode cX3_goOn 40 = .ok (.invokevirtual 151, 3) := by decide +kernel
theorem dX3_goOn_43 : decode cX3_goOn 43 = .ok (.iconst (-1), 1) := by decide +kernel
theorem dX3_goOn_44 : decode cX3_goOn 44 = .ok (.ixor, 1) := by decide +kernel
theorem dX3_goOn_45 : decode cX3_goOn 45 = .ok (.iand, 1) := by decide +kernel
theorem dX3_goOn_46 : decode cX3_goOn 46 = .ok (.ifCond .ne 24, 3) := by decide +kernel
theorem dX3_goOn_49 : decode cX3_goOn 49 = .ok (.aload_n 1, 1) := by decide +kernel
theorem dX3_goOn_50 : decode cX3_goOn 50 = .ok (.iconst 3, 1) := by decide +kernel
theorem dX3_goOn_51 : decode cX3_goOn 51 = .ok (.putfield 72, 3) := by decide +kernel
theorem dX3_goOn_54 : decode cX3_goOn 54 = .ok (.aload_n 0, 1) := by decide +kernel
theorem dX3_goOn_55 : decode cX3_goOn 55 = .ok (.getfield 39, 3) := by decide +kernel
theorem dX3_goOn_58 : decode cX3_goOn 58 = .ok (.bipush 6, 2) := by decide +kernel
theorem dX3_goOn_60 : decode cX3_goOn 60 = .ok (.aload_n 1, 1) := by decide +kernel
theorem dX3_goOn_61 : decode cX3_goOn 61 = .ok (.getfield 91, 3) := by decide +kernel
theorem dX3_goOn_64 : decode cX3_goOn 64 = .ok (.iconst (-1), 1) := by decide +kernel
theorem dX3_goOn_65 : decode cX3_goOn 65 = .ok (.iconst (-1), 1) := by decide +kernel
theorem dX3_goOn_66 : decode cX3_goOn 66 = .ok (.lconst 0, 1) := by decide +kernel
theorem dX3_goOn_67 : decode cX3_goOn 67 = .ok (.invokevirtual 60, 3) := by decide +kernel
theorem dX3_goOn_70 : decode cX3_goOn 70 = .ok (.return_, 1) := by decide +kernel
theorem dX3_isReadingOver_0 : decode cX3_isReadingOver 0 = .ok (.iconst 1, 1) := by decide +kernel
theorem dX3_isReadingOver_1 : decode cX3_isReadingOver 1 = .ok (.aload_n 1, 1) := by decide +kernel
theorem dX3_isReadingOver_2 : decode cX3_isReadingOver 2 = .ok (.getfield 145, 3) := by decide +kernel
theorem dX3_isReadingOver_5 : decode cX3_isReadingOver 5 = .ok (.invokestatic 15, 3) := by decide +kernel
theorem dX3_isReadingOver_8 : decode cX3_isReadingOver 8 = .ok (.istore_n 2, 1) := by decide +kernel
theorem dX3_isReadingOver_9 : decode cX3_isReadingOver 9 = .ok (.iload_n 2, 1) := by decide +kernel
theorem dX3_isReadingOver_10 : decode cX3_isReadingOver 10 = .ok (.aload_n 1, 1) := by decide +kernel
theorem dX3_isReadingOver_11 : decode cX3_isReadingOver 11 = .ok (.getfield 91, 3) := by decide +kernel
theorem dX3_isReadingOver_14 : decode cX3_isReadingOver 14 = .ok (.if_icmp .ge 40, 3) := by decide +kernel
theorem dX3_isReadingOver_17 : decode cX3_isReadingOver 17 = .ok (.aload_n 0, 1) := by decide +kernel
theorem dX3_isReadingOver_18 : decode cX3_isReadingOver 18 = .ok (.iload_n 2, 1) := by decide +kernel
theorem dX3_isReadingOver_19 : decode cX3_isReadingOver 19 = .ok (.invokevirtual 64, 3) := by decide +kernel
theorem dX3_isReadingOver_22 : decode cX3_isReadingOver 22 = .ok (.astore_n 3, 1) := by decide +kernel
theorem dX3_isReadingOver_23 : decode cX3_isReadingOver 23 = .ok (.aload_n 3, 1) := by decide +kernel
theorem dX3_isReadingOver_24 : decode cX3_isReadingOver 24 = .ok (.ifnull 24, 3) := by decide +kernel
theorem dX3_isReadingOver_27 : decode cX3_isReadingOver 27 = .ok (.aload_n 3, 1) := by decide +kernel
theorem dX3_isReadingOver_28 : decode cX3_isReadingOver 28 = .ok (.getfield 84, 3) := by decide +kernel
theorem dX3_isReadingOver_31 : decode cX3_isReadingOver 31 = .ok (.aload_n 1, 1) := by decide +kernel
theorem dX3_isReadingOver_32 : decode cX3_isReadingOver 32 = .ok (.getfield 97, 3) := by decide +kernel
theorem dX3_isReadingOver_35 : decode cX3_isReadingOver 35 = .ok (.iand, 1) := by decide +kernel
theorem dX3_isReadingOver_36 : decode cX3_isReadingOver 36 = .ok (.invokestatic 183, 3) := by decide +kernel
theorem dX3_isReadingOver_39 : decode cX3_isReadingOver 39 = .ok (.aload_n 3, 1) := by decide +kernel
theorem dX3_isReadingOver_40 : decode cX3_isReadingOver 40 = .ok (.getfield 139, 3) := by decide +kernel
theorem dX3_isReadingOver_43 : decode cX3_isReadingOver 43 = .ok (.if_icmp .ge 5, 3) := by decide +kernel
theorem dX3_isReadingOver_46 : decode cX3_isReadingOver 46 = .ok (.iconst 0, 1) := by decide +kernel
theorem dX3_isReadingOver_47 : decode cX3_isReadingOver 47 = .ok (.ireturn, 1) := by decide +kernel
theorem dX3_isReadingOver_48 : decode cX3_isReadingOver 48 = .ok (.iinc 2 1, 3) := by decide +kernel
theorem dX3_isReadingOver_51 : decode cX3_isReadingOver 51 = .ok (.goto (-42), 3) := by decide +kernel
theorem dX3_isReadingOver_54 : decode cX3_isReadingOver 54 = .ok (.iconst 1, 1) := by decide +kernel
theorem dX3_isReadingOver_55 : decode cX3_isReadingOver 55 = .ok (.ireturn, 1) := by decide +kernel
theorem dJ6_bitCount_0f7a4_0 : decode cJ6_bitCount_0f7a4 0 = .ok (.iload_n 0, 1) := by decide +kernel
theorem dJ6_bitCount_0f7a4_1 : decode cJ6_bitCount_0f7a4 1 = .ok (.iload_n 0, 1) := by decide +kernel
theorem dJ6_bitCount_0f7a4_2 : decode cJ6_bitCount_0f7a4 2 = .ok (.iconst 1, 1) := by decide +kernel
theorem dJ6_bitCount_0f7a4_3 : decode cJ6_bitCount_0f7a4 3 = .ok (.iushr, 1) := by decide +kernel
theorem dJ6_bitCount_0f7a4_4 : decode cJ6_bitCount_0f7a4 4 = .ok (.ldc_w 265, 3) := by decide +kernel
theorem dJ6_bitCount_0f7a4_7 : decode cJ6_bitCount_0f7a4 7 = .ok (.iand, 1) := by decide +kernel
theorem dJ6_bitCount_0f7a4_8 : decode cJ6_bitCount_0f7a4 8 = .ok (.isub, 1) := by decide +kernel
theorem dJ6_bitCount_0f7a4_9 : decode cJ6_bitCount_0f7a4 9 = .ok (.istore_n 0, 1) := by decide +kernel
theorem dJ6_bitCount_0f7a4_10 : decode cJ6_bitCount_0f7a4 10 = .ok (.iload_n 0, 1) := by decide +kernel
theorem dJ6_bitCount_0f7a4_11 : decode cJ6_bitCount_0f7a4 11 = .ok (.ldc_w 266, 3) := by decide +kernel
theorem dJ6_bitCount_0f7a4_14 : decode cJ6_bitCount_0f7a4 14 = .ok (.iand, 1) := by decide +kernel
theorem dJ6_bitCount_0f7a4_15 : decode cJ6_bitCount_0f7a4 15 = .ok (.iload_n 0, 1) := by decide +kernel
theorem dJ6_bitCount_0f7a4_16 : decode cJ6_bitCount_0f7a4 16 = .ok (.iconst 2, 1) := by decide +kernel
theorem dJ6_bitCount_0f7a4_17 : decode cJ6_bitCount_0f7a4 17 = .ok (.iushr, 1) := by decide +kernel
theorem dJ6_bitCount_0f7a4_18 : decode cJ6_bitCount_0f7a4 18 = .ok (.ldc_w 266, 3) := by decide +kernel
theorem dJ6_bitCount_0f7a4_21 : decode cJ6_bitCount_0f7a4 21 = .ok (.iand, 1) := by decide +kernel
theorem dJ6_bitCount_0f7a4_22 : decode cJ6_bitCount_0f7a4 22 = .ok (.iadd, 1) := by decide +kernel
theorem dJ6_bitCount_0f7a4_23 : decode cJ6_bitCount_0f7a4 23 = .ok (.istore_n 0, 1) := by decide +kernel
theorem dJ6_bitCount_0f7a4_24 : decode cJ6_bitCount_0f7a4 24 = .ok (.iload_n 0, 1) := by decide +kernel
theorem dJ6_bitCount_0f7a4_25 : decode cJ6_bitCount_0f7a4 25 = .ok (.iload_n 0, 1) := by decide +kernel
theorem dJ6_bitCount_0f7a4_26 : decode cJ6_bitCount_0f7a4 26 = .ok (.iconst 4, 1) := by decide +kernel
theorem dJ6_bitCount_0f7a4_27 : decode cJ6_bitCount_0f7a4 27 = .ok (.iushr, 1) := by decide +kernel
theorem dJ6_bitCount_0f7a4_28 : decode cJ6_bitCount_0f7a4 28 = .ok (.iadd, 1) := by decide +kernel
theorem dJ6_bitCount_0f7a4_29 : decode cJ6_bitCount_0f7a4 29 = .ok (.ldc_w 267, 3) := by decide +kernel
theorem dJ6_bitCount_0f7a4_32 : decode cJ6_bitCount_0f7a4 32 = .ok (.iand, 1) := by decide +kernel
theorem dJ6_bitCount_0f7a4_33 : decode cJ6_bitCount_0f7a4 33 = .ok (.istore_n 0, 1) := by decide +kernel
theorem dJ6_bitCount_0f7a4_34 : decode cJ6_bitCount_0f7a4 34 = .ok (.iload_n 0, 1) := by decide +kernel
theorem dJ6_bitCount_0f7a4_35 : decode cJ6_bitCount_0f7a4 35 = .ok (.iload_n 0, 1) := by decide +kernel
theorem dJ6_bitCount_0f7a4_36 : decode cJ6_bitCount_0f7a4 36 = .ok (.bipush 8, 2) := by decide +kernel
theorem dJ6_bitCount_0f7a4_38 : decode cJ6_bitCount_0f7a4 38 = .ok (.iushr, 1) := by decide +kernel
theorem dJ6_bitCount_0f7a4_39 : decode cJ6_bitCount_0f7a4 39 = .ok (.iadd, 1) := by decide +kernel
theorem dJ6_bitCount_0f7a4_40 : decode cJ6_bitCount_0f7a4 40 = .ok (.istore_n 0, 1) := by decide +kernel
theorem dJ6_bitCount_0f7a4_41 : decode cJ6_bitCount_0f7a4 41 = .ok (.iload_n 0, 1) := by decide +kernel
theorem dJ6_bitCount_0f7a4_42 : decode cJ6_bitCount_0f7a4 42 = .ok (.iload_n 0, 1) := by decide +kernel
theorem dJ6_bitCount_0f7a4_43 : decode cJ6_bitCount_0f7a4 43 = .ok (.bipush 16, 2) := by decide +kernel
theorem dJ6_bitCount_0f7a4_45 : decode cJ6_bitCount_0f7a4 45 = .ok (.iushr, 1) := by decide +kernel
theorem dJ6_bitCount_0f7a4_46 : decode cJ6_bitCount_0f7a4 46 = .ok (.iadd, 1) := by decide +kernel
theorem dJ6_bitCount_0f7a4_47 : decode cJ6_bitCount_0f7a4 47 = .ok (.istore_n 0, 1) := by decide +kernel
theorem dJ6_bitCount_0f7a4_48 : decode cJ6_bitCount_0f7a4 48 = .ok (.iload_n 0, 1) := by decide +kernel
theorem dJ6_bitCount_0f7a4_49 : decode cJ6_bitCount_0f7a4 49 = .ok (.bipush 63, 2) := by decide +kernel
theorem dJ6_bitCount_0f7a4_51 : decode cJ6_bitCount_0f7a4 51 = .ok (.iand, 1) := by decide +kernel
theorem dJ6_bitCount_0f7a4_52 : decode cJ6_bitCount_0f7a4 52 = .ok (.ireturn, 1) := by decide +kernel
theorem dJ9_max_7cf53_0 : decode cJ9_max_7cf53 0 = .ok (.iload_n 0, 1) := by decide +kernel
theorem dJ9_max_7cf53_1 : decode cJ9_max_7cf53 1 = .ok (.iload_n 1, 1) := by decide +kernel
theorem dJ9_max_7cf53_2 : decode cJ9_max_7cf53 2 = .ok (.if_icmp .lt 7, 3) := by decide +kernel
theorem dJ9_max_7cf53_5 : decode cJ9_max_7cf53 5 = .ok (.iload_n 0, 1) := by decide +kernel
theorem dJ9_max_7cf53_6 : decode cJ9_max_7cf53 6 = .ok (.goto 4, 3) := by decide +kernel
theorem dJ9_max_7cf53_9 : decode cJ9_max_7cf53 9 = .ok (.iload_n 1, 1) := by decide +kernel
theorem dJ9_max_7cf53_10 : decode cJ9_max_7cf53 10 = .ok (.ireturn, 1) := by decide +kernel
theorem dJ9_min_7cf53_0 : decode cJ9_min_7cf53 0 = .ok (.iload_n 0, 1) := by decide +kernel
theorem dJ9_min_7cf53_1 : decode cJ9_min_7cf53 1 = .ok (.iload_n 1, 1) := by decide +kernel
theorem dJ9_min_7cf53_2 : decode cJ9_min_7cf53 2 = .ok (.if_icmp .gt 7, 3) := by decide +kernel
theorem dJ9_min_7cf53_5 : decode cJ9_min_7cf53 5 = .ok (.iload_n 0, 1) := by decide +kernel
theorem dJ9_min_7cf53_6 : decode cJ9_min_7cf53 6 = .ok (.goto 4, 3) := by decide +kernel
theorem dJ9_min_7cf53_9 : decode cJ9_min_7cf53 9 = .ok (.iload_n 1, 1) := by decide +kernel
theorem dJ9_min_7cf53_10 : decode cJ9_min_7cf53 10 = .ok (.ireturn, 1) := by decide +kernel
end
section
theorem dX4_init_0 : decode cX4_init 0 = .ok (.aload_n 0, 1) := by decide +kernel
theorem dX4_init_1 : decode cX4_init 1 = .ok (.invokespecial 1, 3) := by decide +kernel
theorem dX4_init_4 : decode cX4_init 4 = .ok (.aload_n 0, 1) := by decide +kernel
theorem dX4_init_5 : decode cX4_init 5 = .ok (.bipush 7, 2) := by decide +kernel
theorem dX4_init_7 : decode cX4_init 7 = .ok (.newarray .int, 2) := by decide +kernel
theorem dX4_init_9 : decode cX4_init 9 = .ok (.putfield 7, 3) := by decide +kernel
theorem dX4_init_12 : decode cX4_init 12 = .ok (.aload_n 0, 1) := by decide +kernel
theorem dX4_init_13 : decode cX4_init 13 = .ok (.bipush 56, 2) := by decide +kernel
theorem dX4_init_15 : decode cX4_init 15 = .ok (.newarray .int, 2) := by decide +kernel
theorem dX4_init_17 : decode cX4_init 17 = .ok (.putfield 13, 3) := by decide +kernel
theorem dX4_init_20 : decode cX4_init 20 = .ok (.aload_n 0, 1) := by decide +kernel
theorem dX4_init_21 : decode cX4_init 21 = .ok (.bipush 56, 2) := by decide +kernel
theorem dX4_init_23 : decode cX4_init 23 = .ok (.newarray .long, 2) := by decide +kernel
theorem dX4_init_25 : decode cX4_init 25 = .ok (.putfield 16, 3) := by decide +kernel
theorem dX4_init_28 : decode cX4_init 28 = .ok (.aload_n 0, 1) := by decide +kernel
theorem dX4_init_29 : decode cX4_init 29 = .ok (.bipush 7, 2) := by decide +kernel
theorem dX4_init_31 : decode cX4_init 31 = .ok (.newarray .boolean, 2) := by decide +kernel
theorem dX4_init_33 : decode cX4_init 33 = .ok (.putfield 20, 3) := by decide +kernel
theorem dX4_init_36 : decode cX4_init 36 = .ok (.aload_n 0, 1) := by decide +kernel
theorem dX4_init_37 : decode cX4_init 37 = .ok (.bipush 25, 2) := by decide +kernel
theorem dX4_init_39 : decode cX4_init 39 = .ok (.newarray .int, 2) := by decide +kernel
theorem dX4_init_41 : decode cX4_init 41 = .ok (.putfield 24, 3) := by decide +kernel
theorem dX4_init_44 : decode cX4_init 44 = .ok (.aload_n 0, 1) := by decide +kernel
theorem dX4_init_45 : decode cX4_init 45 = .ok (.bipush 25, 2) := by decide +kernel
theorem dX4_init_47 : decode cX4_init 47 = .ok (.newarray .int, 2) := by decide +kernel
theorem dX4_init_49 : decode cX4_init 49 = .ok (.putfield 27, 3) := by decide +kernel
theorem dX4_init_52 : decode cX4_init 52 = .ok (.aload_n 0, 1) := by decide +kernel
theorem dX4_init_53 : decode cX4_init 53 = .ok (.bipush 25, 2) := by decide +kernel
theorem dX4_init_55 : decode cX4_init 55 = .ok (.newarray .int, 2) := by decide +kernel
theorem dX4_init_57 : decode cX4_init 57 = .ok (.putfield 30, 3) := by decide +kernel
theorem dX4_init_60 : decode cX4_init 60 = .ok (.aload_n 0, 1) := by decide +kernel
theorem dX4_init_61 : decode cX4_init 61 = .ok (.bipush 25, 2) := by decide +kernel
theorem dX4_init_63 : decode cX4_init 63 = .ok (.newarray .int, 2) := by decide +kernel
theorem dX4_init_65 : decode cX4_init 65 = .ok (.putfield 33, 3) := by decide +kernel
theorem dX4_init_68 : decode cX4_init 68 = .ok (.aload_n 0, 1) := by decide +kernel
theorem dX4_init_69 : decode cX4_init 69 = .ok (.bipush 25, 2) := by decide +kernel
theorem dX4_init_71 : decode cX4_init 71 = .ok (.newarray .int, 2) := by decide +kernel
theorem dX4_init_73 : decode cX4_init 73 = .ok (.putfield 36, 3) := by decide +kernel
theorem dX4_init_76 : decode cX4_init 76 = .ok (.aload_n 0, 1) := by decide +kernel
theorem dX4_init_77 : decode cX4_init 77 = .ok (.bipush 25, 2) := by decide +kernel
theorem dX4_init_79 : decode cX4_init 79 = .ok (.newarray .int, 2) := by decide +kernel
theorem dX4_init_81 : decode cX4_init 81 = .ok (.putfield 39, 3) := by decide +kernel
theorem dX4_init_84 : decode cX4_init 84 = .ok (.aload_n 0, 1) := by decide +kernel
theorem dX4_init_85 : decode cX4_init 85 = .ok (.bipush 25, 2) := by decide +kernel
theorem dX4_init_87 : decode cX4_init 87 = .ok (.newarray .int, 2) := by decide +kernel
theorem dX4_init_89 : decode cX4_init 89 = .ok (.putfield 42, 3) := by decide +kernel
theorem dX4_init_92 : decode cX4_init 92 = .ok (.aload_n 0, 1) := by decide +kernel
theorem dX4_init_93 : decode cX4_init 93 = .ok (.bipush 25, 2) := by decide +kernel
theorem dX4_init_95 : decode cX4_init 95 = .ok (.newarray .int, 2) := by decide +kernel
theorem dX4_init_97 : decode cX4_init 97 = .ok (.putfield 45, 3) := by decide +kernel
theorem dX4_init_100 : decode cX4_init 100 = .ok (.aload_n 0, 1) := by decide +kernel
theorem dX4_init_101 : decode cX4_init 101 = .ok (.bipush 25, 2) := by decide +kernel
theorem dX4_init_103 : decode cX4_init 103 = .ok (.newarray .int, 2) := by decide +kernel
theorem dX4_init_105 : decode cX4_init 105 = .ok (.putfield 48, 3) := by decide +kernel
theorem dX4_init_108 : decode cX4_init 108 = .ok (.aload_n 0, 1) := by decide +kernel
theorem dX4_init_109 : decode cX4_init 109 = .ok (.sipush 200, 3) := by decide +kernel
theorem dX4_init_112 : decode cX4_init 112 = .ok (.newarray .int, 2) := by decide +kernel
theorem dX4_init_114 : decode cX4_init 114 = .ok (.putfield 51, 3) := by decide +kernel
theorem dX4_init_117 : decode cX4_init 117 = .ok (.aload_n 0, 1) := by decide +kernel
theorem dX4_init_118 : decode cX4_init 118 = .ok (.sipush 200, 3) := by decide +kernel
theorem dX4_init_121 : decode cX4_init 121 = .ok (.newarray .int, 2) := by decide +kernel
theorem dX4_init_123 : decode cX4_init 123 = .ok (.putfield 54, 3) := by decide +kernel
theorem dX4_init_126 : decode cX4_init 126 = .ok (.aload_n 0, 1) := by decide +kernel
theorem dX4_init_127 : decode cX4_init 127 = .ok (.sipush 200, 3) := by decide +kernel
theorem dX4_init_130 : decode cX4_init 130 = .ok (.newarray .int, 2) := by decide +kernel
theorem dX4_init_132 : decode cX4_init 132 = .ok (.putfield 57, 3) := by decide +kernel
theorem dX4_init_135 : decode cX4_init 135 = .ok (.aload_n 0, 1) := by decide +kernel
theorem dX4_init_136 : decode cX4_init 136 = .ok (.sipush 200, 3) := by decide +kernel
theorem dX4_init_139 : decode cX4_init 139 = .ok (.newarray .long, 2) := by decide +kernel
theorem dX4_init_141 : decode cX4_init 141 = .ok (.putfield 60, 3) := by decide +kernel
theorem dX4_init_144 : decode cX4_init 144 = .ok (.aload_n 0, 1) := by decide +kernel
theorem dX4_init_145 : decode cX4_init 145 = .ok (.sipush 400, 3) := by decide +kernel
theorem dX4_init_148 : decode cX4_init 148 = .ok (.newarray .int, 2) := by decide +kernel
theorem dX4_init_150 : decode cX4_init 150 = .ok (.putfield 63, 3) := by decide +kernel
theorem dX4_init_153 : decode cX4_init 153 = .ok (.aload_n 0, 1) := by decide +kernel
theorem dX4_init_154 : decode cX4_init 154 = .ok (.sipush 400, 3) := by decide +kernel
theorem dX4_init_157 : decode cX4_init 157 = .ok (.newarray .int, 2) := by decide +kernel
theorem dX4_init_159 : decode cX4_init 159 = .ok (.putfield 66, 3) := by decide +kernel
theorem dX4_init_162 : decode cX4_init 162 = .ok (.aload_n 0, 1) := by decide +kernel
theorem dX4_init_163 : decode cX4_init 163 = .ok (.sipush 400, 3) := by decide +kernel
theorem dX4_init_166 : decode cX4_init 166 = .ok (.newarray .int, 2) := by decide +kernel
theorem dX4_init_168 : decode cX4_init 168 = .ok (.putfield 69, 3) := by decide +kernel
theorem dX4_init_171 : decode cX4_init 171 = .ok (.aload_n 0, 1) := by decide +kernel
theorem dX4_init_172 : decode cX4_init 172 = .ok (.sipush 400, 3) := by decide +kernel
theorem dX4_init_175 : decode cX4_init 175 = .ok (.newarray .int, 2) := by decide +kernel
theorem dX4_init_177 : decode cX4_init 177 = .ok (.putfield 72, 3) := by decide +kernel
theorem dX4_init_180 : decode cX4_init 180 = .ok (.aload_n 0, 1) := by decide +kernel
theorem dX4_init_181 : decode cX4_init 181 = .ok (.sipush 3200, 3) := by decide +kernel
theorem dX4_init_184 : decode cX4_init 184 = .ok (.newarray .int, 2) := by decide +kernel
theorem dX4_init_186 : decode cX4_init 186 = .ok (.putfield 75, 3) := by decide +kernel
theorem dX4_init_189 : decode cX4_init 189 = .ok (.aload_n 0, 1) := by decide +kernel
theorem dX4_init_190 : decode cX4_init 190 = .ok (.sipush 400, 3) := by decide +kernel
theorem dX4_init_193 : decode cX4_init 193 = .ok (.newarray .long, 2) := by decide +kernel
theorem dX4_init_195 : decode cX4_init 195 = .ok (.putfield 78, 3) := by decide +kernel
theorem dX4_init_198 : decode cX4_init 198 = .ok (.aload_n 0, 1) := by decide +kernel
theorem dX4_init_199 : decode cX4_init 199 = .ok (.sipush 3200, 3) := by decide +kernel
theorem dX4_init_202 : decode cX4_init 202 = .ok (.newarray .long, 2) := by decide +kernel
theorem dX4_init_204 : decode cX4_init 204 = .ok (.putfield 81, 3) := by decide +kernel
theorem dX4_init_207 : decode cX4_init 207 = .ok (.aload_n 0, 1) := by decide +kernel
theorem dX4_init_208 : decode cX4_init 208 = .ok (.bipush 8, 2) := by decide +kernel
theorem dX4_init_210 : decode cX4_init 210 = .ok (.newarray .int, 2) := by decide +kernel
theorem dX4_init_212 : decode cX4_init 212 = .ok (.putfield 84, 3) := by decide +kernel
theorem dX4_init_215 : decode cX4_init 215 = .ok (.aload_n 0, 1) := by decide +kernel
theorem dX4_init_216 : decode cX4_init 216 = .ok (.bipush 8, 2) := by decide +kernel
theorem dX4_init_218 : decode cX4_init 218 = .ok (.newarray .long, 2) := by decide +kernel
theorem dX4_init_220 : decode cX4_init 220 = .ok (.putfield 87, 3) := by decide +kernel
theorem dX4_init_223 : decode cX4_init 223 = .ok (.aload_n 0, 1) := by decide +kernel
theorem dX4_init_224 : decode cX4_init 224 = .ok (.iload_n 1, 1) := by decide +kernel
theorem dX4_init_225 : decode cX4_init 225 = .ok (.iconst 1, 1) := by decide +kernel
theorem dX4_init_226 : decode cX4_init 226 = .ok (.if_icmp .ge 7, 3) := by decide +kernel
theorem dX4_init_229 : decode cX4_init 229 = .ok (.iconst 1, 1) := by decide +kernel
theorem dX4_init_230 : decode cX4_init 230 = .ok (.goto 15, 3) := by decide +kernel
theorem dX4_init_233 : decode cX4_init 233 = .ok (.iload_n 1, 1) := by decide +kernel
theorem dX4_init_234 : decode cX4_init 234 = .ok (.bipush 7, 2) := by decide +kernel
theorem dX4_init_236 : decode cX4_init 236 = .ok (.if_icmp .le 8, 3) := by decide +kernel
theorem dX4_init_239 : decode cX4_init 239 = .ok (.bipush 7, 2) := by decide +kernel
theorem dX4_init_241 : decode cX4_init 241 = .ok (.goto 4, 3) := by decide +kernel
theorem dX4_init_244 : decode cX4_init 244 = .ok (.iload_n 1, 1) := by decide +kernel
theorem dX4_init_245 : decode cX4_init 245 = .ok (.putfield 90, 3) := by decide +kernel
theorem dX4_init_248 : decode cX4_init 248 = .ok (.return_, 1) := by decide +kernel
theorem dX4_isVoter_0 : decode cX4_isVoter 0 = .ok (.iload_n 1, 1) := by decide +kernel
theorem dX4_isVoter_1 : decode cX4_isVoter 1 = .ok (.ifCond .lt 15, 3) := by decide +kernel
theorem dX4_isVoter_4 : decode cX4_isVoter 4 = .ok (.iload_n 1, 1) := by decide +kernel
theorem dX4_isVoter_5 : decode cX4_isVoter 5 = .ok (.aload_n 0, 1) := by decide +kernel
theorem dX4_isVoter_6 : decode cX4_isVoter 6 = .ok (.getfield 90, 3) := by decide +kernel
theorem dX4_isVoter_9 : decode cX4_isVoter 9 = .ok (.if_icmp .ge 7, 3) := by decide +kernel
theorem dX4_isVoter_12 : decode cX4_isVoter 12 = .ok (.iconst 1, 1) := by decide +kernel
theorem dX4_isVoter_13 : decode cX4_isVoter 13 = .ok (.goto 4, 3) := by decide +kernel
theorem dX4_isVoter_16 : decode cX4_isVoter 16 = .ok (.iconst 0, 1) := by decide +kernel
theorem dX4_isVoter_17 : decode cX4_isVoter 17 = .ok (.ireturn, 1) := by decide +kernel
theorem dX4_isBallot_0 : decode cX4_isBallot 0 = .ok (.iload_n 1, 1) := by decide +kernel
theorem dX4_isBallot_1 : decode cX4_isBallot 1 = .ok (.iconst 1, 1) := by decide +kernel
theorem dX4_isBallot_2 : decode cX4_isBallot 2 = .ok (.if_icmp .lt 15, 3) := by decide +kernel
theorem dX4_isBallot_5 : decode cX4_isBallot 5 = .ok (.iload_n 1, 1) := by decide +kernel
theorem dX4_isBallot_6 : decode cX4_isBallot 6 = .ok (.aload_n 0, 1) := by decide +kernel
theorem dX4_isBallot_7 : decode cX4_isBallot 7 = .ok (.getfield 94, 3) := by decide +kernel
theorem dX4_isBallot_10 : decode cX4_isBallot 10 = .ok (.if_icmp .gt 7, 3) := by decide +kernel
theorem dX4_isBallot_13 : decode cX4_isBallot 13 = .ok (.iconst 1, 1) := by decide +kernel
theorem dX4_isBallot_14 : decode cX4_isBallot 14 = .ok (.goto 4, 3) := by decide +kernel
theorem dX4_isBallot_17 : decode cX4_isBallot 17 = .ok (.iconst 0, 1) := by decide +kernel
theorem dX4_isBallot_18 : decode cX4_isBallot 18 = .ok (.ireturn, 1) := by decide +kernel
theorem dX4_isPlace_0 : decode cX4_isPlace 0 = .ok (.iload_n 0, 1) := by decide +kernel
theorem dX4_isPlace_1 : decode cX4_isPlace 1 = .ok (.ifCond .lt 13, 3) := by decide +kernel
theorem dX4_isPlace_4 : decode cX4_isPlace 4 = .ok (.iload_n 0, 1) := by decide +kernel
theorem dX4_isPlace_5 : decode cX4_isPlace 5 = .ok (.bipush 8, 2) := by decide +kernel
theorem dX4_isPlace_7 : decode cX4_isPlace 7 = .ok (.if_icmp .ge 7, 3) := by decide +kernel
theorem dX4_isPlace_10 : decode cX4_isPlace 10 = .ok (.iconst 1, 1) := by decide +kernel
theorem dX4_isPlace_11 : decode cX4_isPlace 11 = .ok (.goto 4, 3) := by decide +kernel
theorem dX4_isPlace_14 : decode cX4_isPlace 14 = .ok (.iconst 0, 1) := by decide +kernel
theorem dX4_isPlace_15 : decode cX4_isPlace 15 = .ok (.ireturn, 1) := by decide +kernel
theorem dX4_many_0 : decode cX4_many 0 = .ok (.iconst 0, 1) := by decide +kernel
theorem dX4_many_1 : decode cX4_many 1 = .ok (.istore_n 1, 1) := by decide +kernel
theorem dX4_many_2 : decode cX4_many 2 = .ok (.iconst 0, 1) := by decide +kernel
theorem dX4_many_3 : decode cX4_many 3 = .ok (.istore_n 2, 1) := by decide +kernel
theorem dX4_many_4 : decode cX4_many 4 = .ok (.iload_n 2, 1) := by decide +kernel
theorem dX4_many_5 : decode cX4_many 5 = .ok (.bipush 7, 2) := by decide +kernel
theorem dX4_many_7 : decode cX4_many 7 = .ok (.if_icmp .ge 17, 3) := by decide +kernel
theorem dX4_many_10 : decode cX4_many 10 = .ok (.iload_n 1, 1) := by decide +kernel
theorem dX4_many_11 : decode cX4_many 11 = .ok (.iload_n 0, 1) := by decide +kernel
theorem dX4_many_12 : decode cX4_many 12 = .ok (.iload_n 2, 1) := by decide +kernel
theorem dX4_many_13 : decode cX4_many 13 = .ok (.ishr, 1) := by decide +kernel
theorem dX4_many_14 : decode cX4_many 14 = .ok (.iconst 1, 1) := by decide +kernel
theorem dX4_many_15 : decode cX4_many 15 = .ok (.iand, 1) := by decide +kernel
theorem dX4_many_16 : decode cX4_many 16 = .ok (.iadd, 1) := by decide +kernel
theorem dX4_many_17 : decode cX4_many 17 = .ok (.istore_n 1, 1) := by decide +kernel
theorem dX4_many_18 : decode cX4_many 18 = .ok (.iinc 2 1, 3) := by decide +kernel
theorem dX4_many_21 : decode cX4_many 21 = .ok (.goto (-17), 3) := by decide +kernel
theorem dX4_many_24 : decode cX4_many 24 = .ok (.iload_n 1, 1) := by decide +kernel
theorem dX4_many_25 : decode cX4_many 25 = .ok (.ireturn, 1) := by decide +kernel
theorem dX4_put_0 : decode cX4_put 0 = .ok (.aload_n 0, 1) := by decide +kernel
theorem dX4_put_1 : decode cX4_put 1 = .ok (.getfield 97, 3) := by decide +kernel
theorem dX4_put_4 : decode cX4_put 4 = .ok (.sipush 400, 3) := by decide +kernel
theorem dX4_put_7 : decode cX4_put 7 = .ok (.if_icmp .ne 14, 3) := by decide +kernel
theorem dX4_put_10 : decode cX4_put 10 = .ok (.aload_n 0, 1) := by decide +kernel
theorem dX4_put_11 : decode cX4_put 11 = .ok (.dup, 1) := by decide +kernel
theorem dX4_put_12 : decode cX4_put 12 = .ok (.getfield 100, 3) := by decide +kernel
theorem dX4_put_15 : decode cX4_put 15 = .ok (.iconst 1, 1) := by decide +kernel
theorem dX4_put_16 : decode cX4_put 16 = .ok (.iadd, 1) := by decide +kernel
theorem dX4_put_17 : decode cX4_put 17 = .ok (.putfield 100, 3) := by decide +kernel
theorem dX4_put_20 : decode cX4_put 20 = .ok (.return_, 1) := by decide +kernel
theorem dX4_put_21 : decode cX4_put 21 = .ok (.aload_n 0, 1) := by decide +kernel
theorem dX4_put_22 : decode cX4_put 22 = .ok (.getfield 63, 3) := by decide +kernel
theorem dX4_put_25 : decode cX4_put 25 = .ok (.aload_n 0, 1) := by decide +kernel
theorem dX4_put_26 : decode cX4_put 26 = .ok (.getfield 97, 3) := by decide +kernel
theorem dX4_put_29 : decode cX4_put 29 = .ok (.iload_n 1, 1) := by decide +kernel
theorem dX4_put_30 : decode cX4_put 30 = .ok (.iastore, 1) := by decide +kernel
theorem dX4_put_31 : decode cX4_put 31 = .ok (.aload_n 0, 1) := by decide +kernel
theorem dX4_put_32 : decode cX4_put 32 = .ok (.getfield 66, 3) := by decide +kernel
theorem dX4_put_35 : decode cX4_put 35 = .ok (.aload_n 0, 1) := by decide +kernel
theorem dX4_put_36 : decode cX4_put 36 = .ok (.getfield 97, 3) := by decide +kernel
theorem dX4_put_39 : decode cX4_put 39 = .ok (.iload_n 2, 1) := by decide +kernel
theorem dX4_put_40 : decode cX4_put 40 = .ok (.iastore, 1) := by decide +kernel
theorem dX4_put_41 : decode cX4_put 41 = .ok (.aload_n 0, 1) := by decide +kernel
theorem dX4_put_42 : decode cX4_put 42 = .ok (.getfield 69, 3) := by decide +kernel
theorem dX4_put_45 : decode cX4_put 45 = .ok (.aload_n 0, 1) := by decide +kernel
theorem dX4_put_46 : decode cX4_put 46 = .ok (.getfield 97, 3) := by decide +kernel
theorem dX4_put_49 : decode cX4_put 49 = .ok (.iload_n 3, 1) := by decide +kernel
theorem dX4_put_50 : decode cX4_put 50 = .ok (.iastore, 1) := by decide +kernel
theorem dX4_put_51 : decode cX4_put 51 = .ok (.aload_n 0, 1) := by decide +kernel
theorem dX4_put_52 : decode cX4_put 52 = .ok (.getfield 72, 3) := by decide +kernel
theorem dX4_put_55 : decode cX4_put 55 = .ok (.aload_n 0, 1) := by decide +kernel
theorem dX4_put_56 : decode cX4_put 56 = .ok (.getfield 97, 3) := by decide +kernel
theorem dX4_put_59 : decode cX4_put 59 = .ok (.iload 4, 2) := by decide +kernel
theorem dX4_put_61 : decode cX4_put 61 = .ok (.iastore, 1) := by decide +kernel
theorem dX4_put_62 : decode cX4_put 62 = .ok (.aload_n 0, 1) := by decide +kernel
theorem dX4_put_63 : decode cX4_put 63 = .ok (.getfield 78, 3) := by decide +kernel
theorem dX4_put_66 : decode cX4_put 66 = .ok (.aload_n 0, 1) := by decide +kernel
theorem dX4_put_67 : decode cX4_put 67 = .ok (.getfield 97, 3) := by decide +kernel
theorem dX4_put_70 : decode cX4_put 70 = .ok (.lload 5, 2) := by decide +kernel
theorem dX4_put_72 : decode cX4_put 72 = .ok (.lastore, 1) := by decide +kernel
theorem dX4_put_73 : decode cX4_put 73 = .ok (.iconst 0, 1) := by decide +kernel
theorem dX4_put_74 : decode cX4_put 74 = .ok (.istore 7, 2) := by decide +kernel
theorem dX4_put_76 : decode cX4_put 76 = .ok (.iload 7, 2) := by decide +kernel
theorem dX4_put_78 : decode cX4_put 78 = .ok (.bipush 8, 2) := by decide +kernel
theorem dX4_put_80 : decode cX4_put 80 = .ok (.if_icmp .ge 81, 3) := by decide +kernel
theorem dX4_put_83 : decode cX4_put 83 = .ok (.aload_n 0, 1) := by decide +kernel
theorem dX4_put_84 : decode cX4_put 84 = .ok (.getfield 75, 3) := by decide +kernel
theorem dX4_put_87 : decode cX4_put 87 = .ok (.bipush 8, 2) := by decide +kernel
theorem dX4_put_89 : decode cX4_put 89 = .ok (.aload_n 0, 1) := by decide +kernel
theorem dX4_put_90 : decode cX4_put 90 = .ok (.getfield 97, 3) := by decide +kernel
theorem dX4_put_93 : decode cX4_put 93 = .ok (.imul, 1) := by decide +kernel
theorem dX4_put_94 : decode cX4_put 94 = .ok (.iload 7, 2) := by decide +kernel
theorem dX4_put_96 : decode cX4_put 96 = .ok (.iadd, 1) := by decide +kernel
theorem dX4_put_97 : decode cX4_put 97 = .ok (.iload_n 1, 1) := by decide +kernel
theorem dX4_put_98 : decode cX4_put 98 = .ok (.iconst 3, 1) := by decide +kernel
theorem dX4_put_99 : decode cX4_put 99 = .ok (.if_icmp .ne 18, 3) := by decide +kernel
theorem dX4_put_102 : decode cX4_put 102 = .ok (.aload_n 0, 1) := by decide +kernel
theorem dX4_put_103 : decode cX4_put 103 = .ok (.getfield 13, 3) := by decide +kernel
theorem dX4_put_106 : decode cX4_put 106 = .ok (.bipush 8, 2) := by decide +kernel
theorem dX4_put_108 : decode cX4_put 108 = .ok (.iload_n 3, 1) := by decide +kernel
theorem dX4_put_109 : decode cX4_put 109 = .ok (.imul, 1) := by decide +kernel
theorem dX4_put_110 : decode cX4_put 110 = .ok (.iload 7, 2) := by decide +kernel
theorem dX4_put_112 : decode cX4_put 112 = .ok (.iadd, 1) := by decide +kernel
theorem dX4_put_113 : decode cX4_put 113 = .ok (.iaload, 1) := by decide +kernel
theorem dX4_put_114 : decode cX4_put 114 = .ok (.goto 4, 3) := by decide +kernel
theorem dX4_put_117 : decode cX4_put 117 = .ok (.iconst 0, 1) := by decide +kernel
theorem dX4_put_118 : decode cX4_put 118 = .ok (.iastore, 1) := by decide +kernel
theorem dX4_put_119 : decode cX4_put 119 = .ok (.aload_n 0, 1) := by decide +kernel
theorem dX4_put_120 : decode cX4_put 120 = .ok (.getfield 81, 3) := by decide +kernel
theorem dX4_put_123 : decode cX4_put 123 = .ok (.bipush 8, 2) := by decide +kernel
theorem dX4_put_125 : decode cX4_put 125 = .ok (.aload_n 0, 1) := by decide +kernel
theorem dX4_put_126 : decode cX4_put 126 = .ok (.getfield 97, 3) := by decide +kernel
theorem dX4_put_129 : decode cX4_put 129 = .ok (.imul, 1) := by decide +kernel
theorem dX4_put_130 : decode cX4_put 130 = .ok (.iload 7, 2) := by decide +kernel
theorem dX4_put_132 : decode cX4_put 132 = .ok (.iadd, 1) := by decide +kernel
theorem dX4_put_133 : decode cX4_put 133 = .ok (.iload_n 1, 1) := by decide +kernel
theorem dX4_put_134 : decode cX4_put 134 = .ok (.iconst 3, 1) := by decide +kernel
theorem dX4_put_135 : decode cX4_put 135 = .ok (.if_icmp .ne 18, 3) := by decide +kernel
theorem dX4_put_138 : decode cX4_put 138 = .ok (.aload_n 0, 1) := by decide +kernel
theorem dX4_put_139 : decode cX4_put 139 = .ok (.getfield 16, 3) := by decide +kernel
theorem dX4_put_142 : decode cX4_put 142 = .ok (.bipush 8, 2) := by decide +kernel
theorem dX4_put_144 : decode cX4_put 144 = .ok (.iload_n 3, 1) := by decide +kernel
theorem dX4_put_145 : decode cX4_put 145 = .ok (.imul, 1) := by decide +kernel
theorem dX4_put_146 : decode cX4_put 146 = .ok (.iload 7, 2) := by decide +kernel
theorem dX4_put_148 : decode cX4_put 148 = .ok (.iadd, 1) := by decide +kernel
theorem dX4_put_149 : decode cX4_put 149 = .ok (.laload, 1) := by decide +kernel
theorem dX4_put_150 : decode cX4_put 150 = .ok (.goto 4, 3) := by decide +kernel
theorem dX4_put_153 : decode cX4_put 153 = .ok (.lconst 0, 1) := by decide +kernel
theorem dX4_put_154 : decode cX4_put 154 = .ok (.lastore, 1) := by decide +kernel
theorem dX4_put_155 : decode cX4_put 155 = .ok (.iinc 7 1, 3) := by decide +kernel
theorem dX4_put_158 : decode cX4_put 158 = .ok (.goto (-82), 3) := by decide +kernel
theorem dX4_put_161 : decode cX4_put 161 = .ok (.aload_n 0, 1) := by decide +kernel
theorem dX4_put_162 : decode cX4_put 162 = .ok (.dup, 1) := by decide +kernel
theorem dX4_put_163 : decode cX4_put 163 = .ok (.getfield 97, 3) := by decide +kernel
theorem dX4_put_166 : decode cX4_put 166 = .ok (.iconst 1, 1) := by decide +kernel
theorem dX4_put_167 : decode cX4_put 167 = .ok (.iadd, 1) := by decide +kernel
theorem dX4_put_168 : decode cX4_put 168 = .ok (.putfield 97, 3) := by decide +kernel
theorem dX4_put_171 : decode cX4_put 171 = .ok (.return_, 1) := by decide +kernel
theorem dX4_copy_0 : decode cX4_copy 0 = .ok (.aload_n 0, 1) := by decide +kernel
theorem dX4_copy_1 : decode cX4_copy 1 = .ok (.getfield 63, 3) := by decide +kernel
theorem dX4_copy_4 : decode cX4_copy 4 = .ok (.iload_n 2, 1) := by decide +kernel
theorem dX4_copy_5 : decode cX4_copy 5 = .ok (.aload_n 0, 1) := by decide +kernel
theorem dX4_copy_6 : decode cX4_copy 6 = .ok (.getfield 63, 3) := by decide +kernel
theorem dX4_copy_9 : decode cX4_copy 9 = .ok (.iload_n 1, 1) := by decide +kernel
theorem dX4_copy_10 : decode cX4_copy 10 = .ok (.iaload, 1) := by decide +kernel
theorem dX4_copy_11 : decode cX4_copy 11 = .ok (.iastore, 1) := by decide +kernel
theorem dX4_copy_12 : decode cX4_copy 12 = .ok (.aload_n 0, 1) := by decide +kernel
theorem dX4_copy_13 : decode cX4_copy 13 = .ok (.getfield 66, 3) := by decide +kernel
theorem dX4_copy_16 : decode cX4_copy 16 = .ok (.iload_n 2, 1) := by decide +kernel
theorem dX4_copy_17 : decode cX4_copy 17 = .ok (.aload_n 0, 1) := by decide +kernel
theorem dX4_copy_18 : decode cX4_copy 18 = .ok (.getfield 66, 3) := by decide +kernel
theorem dX4_copy_21 : decode cX4_copy 21 = .ok (.iload_n 1, 1) := by decide +kernel
theorem dX4_copy_22 : decode cX4_copy 22 = .ok (.iaload, 1) := by decide +kernel
theorem dX4_copy_23 : decode cX4_copy 23 = .ok (.iastore, 1) := by decide +kernel
theorem dX4_copy_24 : decode cX4_copy 24 = .ok (.aload_n 0, 1) := by decide +kernel
theorem dX4_copy_25 : decode cX4_copy 25 = .ok (.getfield 69, 3) := by decide +kernel
theorem dX4_copy_28 : decode cX4_copy 28 = .ok (.iload_n 2, 1) := by decide +kernel
theorem dX4_copy_29 : decode cX4_copy 29 = .ok (.aload_n 0, 1) := by decide +kernel
theorem dX4_copy_30 : decode cX4_copy 30 = .ok (.getfield 69, 3) := by decide +kernel
theorem dX4_copy_33 : decode cX4_copy 33 = .ok (.iload_n 1, 1) := by decide +kernel
theorem dX4_copy_34 : decode cX4_copy 34 = .ok (.iaload, 1) := by decide +kernel
theorem dX4_copy_35 : decode cX4_copy 35 = .ok (.iastore, 1) := by decide +kernel
theorem dX4_copy_36 : decode cX4_copy 36 = .ok (.aload_n 0, 1) := by decide +kernel
theorem dX4_copy_37 : decode cX4_copy 37 = .ok (.getfield 72, 3) := by decide +kernel
theorem dX4_copy_40 : decode cX4_copy 40 = .ok (.iload_n 2, 1) := by decide +kernel
theorem dX4_copy_41 : decode cX4_copy 41 = .ok (.aload_n 0, 1) := by decide +kernel
theorem dX4_copy_42 : decode cX4_copy 42 = .ok (.getfield 72, 3) := by decide +kernel
theorem dX4_copy_45 : decode cX4_copy 45 = .ok (.iload_n 1, 1) := by decide +kernel
theorem dX4_copy_46 : decode cX4_copy 46 = .ok (.iaload, 1) := by decide +kernel
theorem dX4_copy_47 : decode cX4_copy 47 = .ok (.iastore, 1) := by decide +kernel
theorem dX4_copy_48 : decode cX4_copy 48 = .ok (.aload_n 0, 1) := by decide +kernel
theorem dX4_copy_49 : decode cX4_copy 49 = .ok (.getfield 78, 3) := by decide +kernel
theorem dX4_copy_52 : decode cX4_copy 52 = .ok (.iload_n 2, 1) := by decide +kernel
theorem dX4_copy_53 : decode cX4_copy 53 = .ok (.aload_n 0, 1) := by decide +kernel
theorem dX4_copy_54 : decode cX4_copy 54 = .ok (.getfield 78, 3) := by decide +kernel
theorem dX4_copy_57 : decode cX4_copy 57 = .ok (.iload_n 1, 1) := by decide +kernel
theorem dX4_copy_58 : decode cX4_copy 58 = .ok (.laload, 1) := by decide +kernel
theorem dX4_copy_59 : decode cX4_copy 59 = .ok (.lastore, 1) := by decide +kernel
theorem dX4_copy_60 : decode cX4_copy 60 = .ok (.iconst 0, 1) := by decide +kernel
theorem dX4_copy_61 : decode cX4_copy 61 = .ok (.istore_n 3, 1) := by decide +kernel
theorem dX4_copy_62 : decode cX4_copy 62 = .ok (.iload_n 3, 1) := by decide +kernel
theorem dX4_copy_63 : decode cX4_copy 63 = .ok (.bipush 8, 2) := by decide +kernel
theorem dX4_copy_65 : decode cX4_copy 65 = .ok (.if_icmp .ge 53, 3) := by decide +kernel
theorem dX4_copy_68 : decode cX4_copy 68 = .ok (.aload_n 0, 1) := by decide +kernel
theorem dX4_copy_69 : decode cX4_copy 69 = .ok (.getfield 75, 3) := by decide +kernel
theorem dX4_copy_72 : decode cX4_copy 72 = .ok (.bipush 8, 2) := by decide +kernel
theorem dX4_copy_74 : decode cX4_copy 74 = .ok (.iload_n 2, 1) := by decide +kernel
theorem dX4_copy_75 : decode cX4_copy 75 = .ok (.imul, 1) := by decide +kernel
theorem dX4_copy_76 : decode cX4_copy 76 = .ok (.iload_n 3, 1) := by decide +kernel
theorem dX4_copy_77 : decode cX4_copy 77 = .ok (.iadd, 1) := by decide +kernel
theorem dX4_copy_78 : decode cX4_copy 78 = .ok (.aload_n 0, 1) := by decide +kernel
theorem dX4_copy_79 : decode cX4_copy 79 = .ok (.getfield 75, 3) := by decide +kernel
theorem dX4_copy_82 : decode cX4_copy 82 = .ok (.bipush 8, 2) := by decide +kernel
theorem dX4_copy_84 : decode cX4_copy 84 = .ok (.iload_n 1, 1) := by decide +kernel
theorem dX4_copy_85 : decode cX4_copy 85 = .ok (.imul, 1) := by decide +kernel
theorem dX4_copy_86 : decode cX4_copy 86 = .ok (.iload_n 3, 1) := by decide +kernel
theorem dX4_copy_87 : decode cX4_copy 87 = .ok (.iadd, 1) := by decide +kernel
theorem dX4_copy_88 : decode cX4_copy 88 = .ok (.iaload, 1) := by decide +kernel
theorem dX4_copy_89 : decode cX4_copy 89 = .ok (.iastore, 1) := by decide +kernel
theorem dX4_copy_90 : decode cX4_copy 90 = .ok (.aload_n 0, 1) := by decide +kernel
theorem dX4_copy_91 : decode cX4_copy 91 = .ok (.getfield 81, 3) := by decide +kernel
theorem dX4_copy_94 : decode cX4_copy 94 = .ok (.bipush 8, 2) := by decide +kernel
theorem dX4_copy_96 : decode cX4_copy 96 = .ok (.iload_n 2, 1) := by decide +kernel
theorem dX4_copy_97 : decode cX4_copy 97 = .ok (.imul, 1) := by decide +kernel
theorem dX4_copy_98 : decode cX4_copy 98 = .ok (.iload_n 3, 1) := by decide +kernel
theorem dX4_copy_99 : decode cX4_copy 99 = .ok (.iadd, 1) := by decide +kernel
theorem dX4_copy_100 : decode cX4_copy 100 = .ok (.aload_n 0, 1) := by decide +kernel
theorem dX4_copy_101 : decode cX4_copy 101 = .ok (.getfield 81, 3) := by decide +kernel
theorem dX4_copy_104 : decode cX4_copy 104 = .ok (.bipush 8, 2) := by decide +kernel
theorem dX4_copy_106 : decode cX4_copy 106 = .ok (.iload_n 1, 1) := by decide +kernel
theorem dX4_copy_107 : decode cX4_copy 107 = .ok (.imul, 1) := by decide +kernel
theorem dX4_copy_108 : decode cX4_copy 108 = .ok (.iload_n 3, 1) := by decide +kernel
theorem dX4_copy_109 : decode cX4_copy 109 = .ok (.iadd, 1) := by decide +kernel
theorem dX4_copy_110 : decode cX4_copy 110 = .ok (.laload, 1) := by decide +kernel
theorem dX4_copy_111 : decode cX4_copy 111 = .ok (.lastore, 1) := by decide +kernel
theorem dX4_copy_112 : decode cX4_copy 112 = .ok (.iinc 3 1, 3) := by decide +kernel
theorem dX4_copy_115 : decode cX4_copy 115 = .ok (.goto (-53), 3) := by decide +kernel
theorem dX4_copy_118 : decode cX4_copy 118 = .ok (.return_, 1) := by decide +kernel
theorem dX4_take_0 : decode cX4_take 0 = .ok (.aload_n 0, 1) := by decide +kernel
theorem dX4_take_1 : decode cX4_take 1 = .ok (.dup, 1) := by decide +kernel
theorem dX4_take_2 : decode cX4_take 2 = .ok (.getfield 97, 3) := by decide +kernel
theorem dX4_take_5 : decode cX4_take 5 = .ok (.iconst 1, 1) := by decide +kernel
theorem dX4_take_6 : decode cX4_take 6 = .ok (.isub, 1) := by decide +kernel
theorem dX4_take_7 : decode cX4_take 7 = .ok (.putfield 97, 3) := by decide +kernel
theorem dX4_take_10 : decode cX4_take 10 = .ok (.iload_n 1, 1) := by decide +kernel
theorem dX4_take_11 : decode cX4_take 11 = .ok (.istore_n 2, 1) := by decide +kernel
theorem dX4_take_12 : decode cX4_take 12 = .ok (.iload_n 2, 1) := by decide +kernel
theorem dX4_take_13 : decode cX4_take 13 = .ok (.aload_n 0, 1) := by decide +kernel
theorem dX4_take_14 : decode cX4_take 14 = .ok (.getfield 97, 3) := by decide +kernel
theorem dX4_take_17 : decode cX4_take 17 = .ok (.if_icmp .ge 17, 3) := by decide +kernel
theorem dX4_take_20 : decode cX4_take 20 = .ok (.aload_n 0, 1) := by decide +kernel
theorem dX4_take_21 : decode cX4_take 21 = .ok (.iload_n 2, 1) := by decide +kernel
theorem dX4_take_22 : decode cX4_take 22 = .ok (.iconst 1, 1) := by decide +kernel
theorem dX4_take_23 : decode cX4_take 23 = .ok (.iadd, 1) := by decide +kernel
theorem dX4_take_24 : decode cX4_take 24 = .ok (.iload_n 2, 1) := by decide +kernel
theorem dX4_take_25 : decode cX4_take 25 = .ok (.invokevirtual 103, 3) := by decide +kernel
theorem dX4_take_28 : decode cX4_take 28 = .ok (.iinc 2 1, 3) := by decide +kernel
theorem dX4_take_31 : decode cX4_take 31 = .ok (.goto (-19), 3) := by decide +kernel
theorem dX4_take_34 : decode cX4_take 34 = .ok (.return_, 1) := by decide +kernel
theorem dX4_ballot_0 : decode cX4_ballot 0 = .ok (.iload_n 1, 1) := by decide +kernel
theorem dX4_ballot_1 : decode cX4_ballot 1 = .ok (.ifCond .lt 13, 3) := by decide +kernel
theorem dX4_ballot_4 : decode cX4_ballot 4 = .ok (.iload_n 1, 1) := by decide +kernel
theorem dX4_ballot_5 : decode cX4_ballot 5 = .ok (.iconst 1, 1) := by decide +kernel
theorem dX4_ballot_6 : decode cX4_ballot 6 = .ok (.aload_n 0, 1) := by decide +kernel
theorem dX4_ballot_7 : decode cX4_ballot 7 = .ok (.getfield 90, 3) := by decide +kernel
theorem dX4_ballot_10 : decode cX4_ballot 10 = .ok (.ishl, 1) := by decide +kernel
theorem dX4_ballot_11 : decode cX4_ballot 11 = .ok (.if_icmp .lt 7, 3) := by decide +kernel
theorem dX4_ballot_14 : decode cX4_ballot 14 = .ok (.iconst 0, 1) := by decide +kernel
theorem dX4_ballot_15 : decode cX4_ballot 15 = .ok (.goto 7, 3) := by decide +kernel
theorem dX4_ballot_18 : decode cX4_ballot 18 = .ok (.iload_n 1, 1) := by decide +kernel
theorem dX4_ballot_19 : decode cX4_ballot 19 = .ok (.invokestatic 107, 3) := by decide +kernel
theorem dX4_ballot_22 : decode cX4_ballot 22 = .ok (.istore 4, 2) := by decide +kernel
theorem dX4_ballot_24 : decode cX4_ballot 24 = .ok (.iload 4, 2) := by decide +kernel
theorem dX4_ballot_26 : decode cX4_ballot 26 = .ok (.ifCond .eq 42, 3) := by decide +kernel
theorem dX4_ballot_29 : decode cX4_ballot 29 = .ok (.iload_n 2, 1) := by decide +kernel
theorem dX4_ballot_30 : decode cX4_ballot 30 = .ok (.iconst 1, 1) := by decide +kernel
theorem dX4_ballot_31 : decode cX4_ballot 31 = .ok (.if_icmp .lt 37, 3) := by decide +kernel
theorem dX4_ballot_34 : decode cX4_ballot 34 = .ok (.iload_n 2, 1) := by decide +kernel
theorem dX4_ballot_35 : decode cX4_ballot 35 = .ok (.iload 4, 2) := by decide +kernel
theorem dX4_ballot_37 : decode cX4_ballot 37 = .ok (.if_icmp .gt 31, 3) := by decide +kernel
theorem dX4_ballot_40 : decode cX4_ballot 40 = .ok (.iload_n 3, 1) := by decide +kernel
theorem dX4_ballot_41 : decode cX4_ballot 41 = .ok (.iconst 1, 1) := by decide +kernel
theorem dX4_ballot_42 : decode cX4_ballot 42 = .ok (.if_icmp .lt 26, 3) := by decide +kernel
theorem dX4_ballot_45 : decode cX4_ballot 45 = .ok (.iload_n 3, 1) := by decide +kernel
theorem dX4_ballot_46 : decode cX4_ballot 46 = .ok (.iload 4, 2) := by decide +kernel
theorem dX4_ballot_48 : decode cX4_ballot 48 = .ok (.if_icmp .gt 20, 3) := by decide +kernel
theorem dX4_ballot_51 : decode cX4_ballot 51 = .ok (.iload_n 2, 1) := by decide +kernel
theorem dX4_ballot_52 : decode cX4_ballot 52 = .ok (.iload_n 3, 1) := by decide +kernel
theorem dX4_ballot_53 : decode cX4_ballot 53 = .ok (.iadd, 1) := by decide +kernel
theorem dX4_ballot_54 : decode cX4_ballot 54 = .ok (.iload 4, 2) := by decide +kernel
theorem dX4_ballot_56 : decode cX4_ballot 56 = .ok (.if_icmp .le 12, 3) := by decide +kernel
theorem dX4_ballot_59 : decode cX4_ballot 59 = .ok (.aload_n 0, 1) := by decide +kernel
theorem dX4_ballot_60 : decode cX4_ballot 60 = .ok (.getfield 94, 3) := by decide +kernel
theorem dX4_ballot_63 : decode cX4_ballot 63 = .ok (.bipush 24, 2) := by decide +kernel
theorem dX4_ballot_65 : decode cX4_ballot 65 = .ok (.if_icmp .ne 5, 3) := by decide +kernel
theorem dX4_ballot_68 : decode cX4_ballot 68 = .ok (.iconst (-1), 1) := by decide +kernel
theorem dX4_ballot_69 : decode cX4_ballot 69 = .ok (.ireturn, 1) := by decide +kernel
theorem dX4_ballot_70 : decode cX4_ballot 70 = .ok (.aload_n 0, 1) := by decide +kernel
theorem dX4_ballot_71 : decode cX4_ballot 71 = .ok (.dup, 1) := by decide +kernel
theorem dX4_ballot_72 : decode cX4_ballot 72 = .ok (.getfield 94, 3) := by decide +kernel
theorem dX4_ballot_75 : decode cX4_ballot 75 = .ok (.iconst 1, 1) := by decide +kernel
theorem dX4_ballot_76 : decode cX4_ballot 76 = .ok (.iadd, 1) := by decide +kernel
theorem dX4_ballot_77 : decode cX4_ballot 77 = .ok (.putfield 94, 3) := by decide +kernel
theorem dX4_ballot_80 : decode cX4_ballot 80 = .ok (.aload_n 0, 1) := by decide +kernel
theorem dX4_ballot_81 : decode cX4_ballot 81 = .ok (.getfield 27, 3) := by decide +kernel
theorem dX4_ballot_84 : decode cX4_ballot 84 = .ok (.aload_n 0, 1) := by decide +kernel
theorem dX4_ballot_85 : decode cX4_ballot 85 = .ok (.getfield 94, 3) := by decide +kernel
theorem dX4_ballot_88 : decode cX4_ballot 88 = .ok (.iload_n 1, 1) := by decide +kernel
theorem dX4_ballot_89 : decode cX4_ballot 89 = .ok (.iastore, 1) := by decide +kernel
theorem dX4_ballot_90 : decode cX4_ballot 90 = .ok (.aload_n 0, 1) := by decide +kernel
theorem dX4_ballot_91 : decode cX4_ballot 91 = .ok (.getfield 30, 3) := by decide +kernel
theorem dX4_ballot_94 : decode cX4_ballot 94 = .ok (.aload_n 0, 1) := by decide +kernel
theorem dX4_ballot_95 : decode cX4_ballot 95 = .ok (.getfield 94, 3) := by decide +kernel
theorem dX4_ballot_98 : decode cX4_ballot 98 = .ok (.iload_n 2, 1) := by decide +kernel
theorem dX4_ballot_99 : decode cX4_ballot 99 = .ok (.iastore, 1) := by decide +kernel
theorem dX4_ballot_100 : decode cX4_ballot 100 = .ok (.aload_n 0, 1) := by decide +kernel
theorem dX4_ballot_101 : decode cX4_ballot 101 = .ok (.getfield 33, 3) := by decide +kernel
theorem dX4_ballot_104 : decode cX4_ballot 104 = .ok (.aload_n 0, 1) := by decide +kernel
theorem dX4_ballot_105 : decode cX4_ballot 105 = .ok (.getfield 94, 3) := by decide +kernel
theorem dX4_ballot_108 : decode cX4_ballot 108 = .ok (.iload_n 3, 1) := by decide +kernel
theorem dX4_ballot_109 : decode cX4_ballot 109 = .ok (.iastore, 1) := by decide +kernel
theorem dX4_ballot_110 : decode cX4_ballot 110 = .ok (.aload_n 0, 1) := by decide +kernel
theorem dX4_ballot_111 : decode cX4_ballot 111 = .ok (.getfield 36, 3) := by decide +kernel
theorem dX4_ballot_114 : decode cX4_ballot 114 = .ok (.aload_n 0, 1) := by decide +kernel
theorem dX4_ballot_115 : decode cX4_ballot 115 = .ok (.getfield 94, 3) := by decide +kernel
theorem dX4_ballot_118 : decode cX4_ballot 118 = .ok (.aload_n 0, 1) := by decide +kernel
theorem dX4_ballot_119 : decode cX4_ballot 119 = .ok (.getfield 111, 3) := by decide +kernel
theorem dX4_ballot_122 : decode cX4_ballot 122 = .ok (.iastore, 1) := by decide +kernel
theorem dX4_ballot_123 : decode cX4_ballot 123 = .ok (.aload_n 0, 1) := by decide +kernel
theorem dX4_ballot_124 : decode cX4_ballot 124 = .ok (.iconst 1, 1) := by decide +kernel
theorem dX4_ballot_125 : decode cX4_ballot 125 = .ok (.aload_n 0, 1) := by decide +kernel
theorem dX4_ballot_126 : decode cX4_ballot 126 = .ok (.getfield 94, 3) := by decide +kernel
theorem dX4_ballot_129 : decode cX4_ballot 129 = .ok (.iconst (-1), 1) := by decide +kernel
theorem dX4_ballot_130 : decode cX4_ballot 130 = .ok (.iconst (-1), 1) := by decide +kernel
theorem dX4_ballot_131 : decode cX4_ballot 131 = .ok (.lconst 0, 1) := by decide +kernel
theorem dX4_ballot_132 : decode cX4_ballot 132 = .ok (.invokevirtual 114, 3) := by decide +kernel
theorem dX4_ballot_135 : decode cX4_ballot 135 = .ok (.aload_n 0, 1) := by decide +kernel
theorem dX4_ballot_136 : decode cX4_ballot 136 = .ok (.getfield 94, 3) := by decide +kernel
theorem dX4_ballot_139 : decode cX4_ballot 139 = .ok (.ireturn, 1) := by decide +kernel
theorem dX4_firstRead_0 : decode cX4_firstRead 0 = .ok (.aload_n 0, 1) := by decide +kernel
theorem dX4_firstRead_1 : decode cX4_firstRead 1 = .ok (.getfield 36, 3) := by decide +kernel
theorem dX4_firstRead_4 : decode cX4_firstRead 4 = .ok (.iload_n 1, 1) := by decide +kernel
theorem dX4_firstRead_5 : decode cX4_firstRead 5 = .ok (.iaload, 1) := by decide +kernel
theorem dX4_firstRead_6 : decode cX4_firstRead 6 = .ok (.ifCond .ne 7, 3) := by decide +kernel
theorem dX4_firstRead_9 : decode cX4_firstRead 9 = .ok (.iconst 1, 1) := by decide +kernel
theorem dX4_firstRead_10 : decode cX4_firstRead 10 = .ok (.goto 9, 3) := by decide +kernel
theorem dX4_firstRead_13 : decode cX4_firstRead 13 = .ok (.aload_n 0, 1) := by decide +kernel
theorem dX4_firstRead_14 : decode cX4_firstRead 14 = .ok (.getfield 36, 3) := by decide +kernel
theorem dX4_firstRead_17 : decode cX4_firstRead 17 = .ok (.iload_n 1, 1) := by decide +kernel
theorem dX4_firstRead_18 : decode cX4_firstRead 18 = .ok (.iaload, 1) := by decide +kernel
theorem dX4_firstRead_19 : decode cX4_firstRead 19 = .ok (.ireturn, 1) := by decide +kernel
theorem dX4_asked_0 : decode cX4_asked 0 = .ok (.iconst 0, 1) := by decide +kernel
theorem dX4_asked_1 : decode cX4_asked 1 = .ok (.istore_n 2, 1) := by decide +kernel
theorem dX4_asked_2 : decode cX4_asked 2 = .ok (.aload_n 0, 1) := by decide +kernel
theorem dX4_asked_3 : decode cX4_asked 3 = .ok (.iload_n 1, 1) := by decide +kernel
theorem dX4_asked_4 : decode cX4_asked 4 = .ok (.invokevirtual 118, 3) := by decide +kernel
theorem dX4_asked_7 : decode cX4_asked 7 = .ok (.istore_n 3, 1) := by decide +kernel
theorem dX4_asked_8 : decode cX4_asked 8 = .ok (.iload_n 3, 1) := by decide +kernel
theorem dX4_asked_9 : decode cX4_asked 9 = .ok (.iload_n 1, 1) := by decide +kernel
theorem dX4_asked_10 : decode cX4_asked 10 = .ok (.if_icmp .ge 18, 3) := by decide +kernel
theorem dX4_asked_13 : decode cX4_asked 13 = .ok (.iload_n 2, 1) := by decide +kernel
theorem dX4_asked_14 : decode cX4_asked 14 = .ok (.aload_n 0, 1) := by decide +kernel
theorem dX4_asked_15 : decode cX4_asked 15 = .ok (.getfield 27, 3) := by decide +kernel
theorem dX4_asked_18 : decode cX4_asked 18 = .ok (.iload_n 3, 1) := by decide +kernel
theorem dX4_asked_19 : decode cX4_asked 19 = .ok (.iaload, 1) := by decide +kernel
theorem dX4_asked_20 : decode cX4_asked 20 = .ok (.ior, 1) := by decide +kernel
theorem dX4_asked_21 : decode cX4_asked 21 = .ok (.istore_n 2, 1) := by decide +kernel
theorem dX4_asked_22 : decode cX4_asked 22 = .ok (.iinc 3 1, 3) := by decide +kernel
theorem dX4_asked_25 : decode cX4_asked 25 = .ok (.goto (-17), 3) := by decide +kernel
theorem dX4_asked_28 : decode cX4_asked 28 = .ok (.iload_n 2, 1) := by decide +kernel
theorem dX4_asked_29 : decode cX4_asked 29 = .ok (.ireturn, 1) := by decide +kernel
theorem dX4_sendReads_0 : decode cX4_sendReads 0 = .ok (.iconst 0, 1) := by decide +kernel
theorem dX4_sendReads_1 : decode cX4_sendReads 1 = .ok (.istore_n 2, 1) := by decide +kernel
theorem dX4_sendReads_2 : decode cX4_sendReads 2 = .ok (.iconst 0, 1) := by decide +kernel
theorem dX4_sendReads_3 : decode cX4_sendReads 3 = .ok (.istore_n 3, 1) := by decide +kernel
theorem dX4_sendReads_4 : decode cX4_sendReads 4 = .ok (.iload_n 3, 1) := by decide +kernel
theorem dX4_sendReads_5 : decode cX4_sendReads 5 = .ok (.aload_n 0, 1) := by decide +kernel
theorem dX4_sendReads_6 : decode cX4_sendReads 6 = .ok (.getfield 90, 3) := by decide +kernel
theorem dX4_sendReads_9 : decode cX4_sendReads 9 = .ok (.if_icmp .ge 45, 3) := by decide +kernel
theorem dX4_sendReads_12 : decode cX4_sendReads 12 = .ok (.aload_n 0, 1) := by decide +kernel
theorem dX4_sendReads_13 : decode cX4_sendReads 13 = .ok (.iload_n 1, 1) := by decide +kernel
theorem dX4_sendReads_14 : decode cX4_sendReads 14 = .ok (.invokevirtual 121, 3) := by decide +kernel
theorem dX4_sendReads_17 : decode cX4_sendReads 17 = .ok (.aload_n 0, 1) := by decide +kernel
theorem dX4_sendReads_18 : decode cX4_sendReads 18 = .ok (.getfield 39, 3) := by decide +kernel
theorem dX4_sendReads_21 : decode cX4_sendReads 21 = .ok (.iload_n 1, 1) := by decide +kernel
theorem dX4_sendReads_22 : decode cX4_sendReads 22 = .ok (.iaload, 1) := by decide +kernel
theorem dX4_sendReads_23 : decode cX4_sendReads 23 = .ok (.iconst (-1), 1) := by decide +kernel
theorem dX4_sendReads_24 : decode cX4_sendReads 24 = .ok (.ixor, 1) := by decide +kernel
theorem dX4_sendReads_25 : decode cX4_sendReads 25 = .ok (.iand, 1) := by decide +kernel
theorem dX4_sendReads_26 : decode cX4_sendReads 26 = .ok (.iconst 1, 1) := by decide +kernel
theorem dX4_sendReads_27 : decode cX4_sendReads 27 = .ok (.iload_n 3, 1) := by decide +kernel
theorem dX4_sendReads_28 : decode cX4_sendReads 28 = .ok (.ishl, 1) := by decide +kernel
theorem dX4_sendReads_29 : decode cX4_sendReads 29 = .ok (.iand, 1) := by decide +kernel
theorem dX4_sendReads_30 : decode cX4_sendReads 30 = .ok (.ifCond .ne 6, 3) := by decide +kernel
theorem dX4_sendReads_33 : decode cX4_sendReads 33 = .ok (.goto 15, 3) := by decide +kernel
theorem dX4_sendReads_36 : decode cX4_sendReads 36 = .ok (.aload_n 0, 1) := by decide +kernel
theorem dX4_sendReads_37 : decode cX4_sendReads 37 = .ok (.iconst 2, 1) := by decide +kernel
theorem dX4_sendReads_38 : decode cX4_sendReads 38 = .ok (.iload_n 1, 1) := by decide +kernel
theorem dX4_sendReads_39 : decode cX4_sendReads 39 = .ok (.iload_n 3, 1) := by decide +kernel
theorem dX4_sendReads_40 : decode cX4_sendReads 40 = .ok (.iconst (-1), 1) := by decide +kernel
theorem dX4_sendReads_41 : decode cX4_sendReads 41 = .ok (.lconst 0, 1) := by decide +kernel
theorem dX4_sendReads_42 : decode cX4_sendReads 42 = .ok (.invokevirtual 114, 3) := by decide +kernel
theorem dX4_sendReads_45 : decode cX4_sendReads 45 = .ok (.iinc 2 1, 3) := by decide +kernel
theorem dX4_sendReads_48 : decode cX4_sendReads 48 = .ok (.iinc 3 1, 3) := by decide +kernel
theorem dX4_sendReads_51 : decode cX4_sendReads 51 = .ok (.goto (-47), 3) := by decide +kernel
theorem dX4_sendReads_54 : decode cX4_sendReads 54 = .ok (.iload_n 2, 1) := by decide +kernel
theorem dX4_sendReads_55 : decode cX4_sendReads 55 = .ok (.ireturn, 1) := by decide +kernel
theorem dX4_sendVotes_0 : decode cX4_sendVotes 0 = .ok (.iconst 0, 1) := by decide +kernel
theorem dX4_sendVotes_1 : decode cX4_sendVotes 1 = .ok (.istore_n 3, 1) := by decide +kernel
theorem dX4_sendVotes_2 : decode cX4_sendVotes 2 = .ok (.iconst 0, 1) := by decide +kernel
theorem dX4_sendVotes_3 : decode cX4_sendVotes 3 = .ok (.istore 4, 2) := by decide +kernel
theorem dX4_sendVotes_5 : decode cX4_sendVotes 5 = .ok (.iload 4, 2) := by decide +kernel
theorem dX4_sendVotes_7 : decode cX4_sendVotes 7 = .ok (.aload_n 0, 1) := by decide +kernel
theorem dX4_sendVotes_8 : decode cX4_sendVotes 8 = .ok (.getfield 90, 3) := by decide +kernel
theorem dX4_sendVotes_11 : decode cX4_sendVotes 11 = .ok (.if_icmp .ge 63, 3) := by decide +kernel
theorem dX4_sendVotes_14 : decode cX4_sendVotes 14 = .ok (.aload_n 0, 1) := by decide +kernel
theorem dX4_sendVotes_15 : decode cX4_sendVotes 15 = .ok (.getfield 27, 3) := by decide +kernel
theorem dX4_sendVotes_18 : decode cX4_sendVotes 18 = .ok (.iload_n 1, 1) := by decide +kernel
theorem dX4_sendVotes_19 : decode cX4_sendVotes 19 = .ok (.iaload, 1) := by decide +kernel
theorem dX4_sendVotes_20 : decode cX4_sendVotes 20 = .ok (.aload_n 0, 1) := by decide +kernel
theorem dX4_sendVotes_21 : decode cX4_sendVotes 21 = .ok (.getfield 54, 3) := by decide +kernel
theorem dX4_sendVotes_24 : decode cX4_sendVotes 24 = .ok (.bipush 8, 2) := by decide +kernel
theorem dX4_sendVotes_26 : decode cX4_sendVotes 26 = .ok (.iload_n 1, 1) := by decide +kernel
theorem dX4_sendVotes_27 : decode cX4_sendVotes 27 = .ok (.imul, 1) := by decide +kernel
theorem dX4_sendVotes_28 : decode cX4_sendVotes 28 = .ok (.iload_n 2, 1) := by decide +kernel
theorem dX4_sendVotes_29 : decode cX4_sendVotes 29 = .ok (.iadd, 1) := by decide +kernel
theorem dX4_sendVotes_30 : decode cX4_sendVotes 30 = .ok (.iaload, 1) := by decide +kernel
theorem dX4_sendVotes_31 : decode cX4_sendVotes 31 = .ok (.iconst (-1), 1) := by decide +kernel
theorem dX4_sendVotes_32 : decode cX4_sendVotes 32 = .ok (.ixor, 1) := by decide +kernel
theorem dX4_sendVotes_33 : decode cX4_sendVotes 33 = .ok (.iand, 1) := by decide +kernel
theorem dX4_sendVotes_34 : decode cX4_sendVotes 34 = .ok (.iconst 1, 1) := by decide +kernel
theorem dX4_sendVotes_35 : decode cX4_sendVotes 35 = .ok (.iload 4, 2) := by decide +kernel
theorem dX4_sendVotes_37 : decode cX4_sendVotes 37 = .ok (.ishl, 1) := by decide +kernel
theorem dX4_sendVotes_38 : decode cX4_sendVotes 38 = .ok (.iand, 1) := by decide +kernel
theorem dX4_sendVotes_39 : decode cX4_sendVotes 39 = .ok (.ifCond .ne 6, 3) := by decide +kernel
theorem dX4_sendVotes_42 : decode cX4_sendVotes 42 = .ok (.goto 26, 3) := by decide +kernel
theorem dX4_sendVotes_45 : decode cX4_sendVotes 45 = .ok (.aload_n 0, 1) := by decide +kernel
theorem dX4_sendVotes_46 : decode cX4_sendVotes 46 = .ok (.iconst 4, 1) := by decide +kernel
theorem dX4_sendVotes_47 : decode cX4_sendVotes 47 = .ok (.iload_n 1, 1) := by decide +kernel
theorem dX4_sendVotes_48 : decode cX4_sendVotes 48 = .ok (.iload 4, 2) := by decide +kernel
theorem dX4_sendVotes_50 : decode cX4_sendVotes 50 = .ok (.iload_n 2, 1) := by decide +kernel
theorem dX4_sendVotes_51 : decode cX4_sendVotes 51 = .ok (.aload_n 0, 1) := by decide +kernel
theorem dX4_sendVotes_52 : decode cX4_sendVotes 52 = .ok (.getfield 60, 3) := by decide +kernel
theorem dX4_sendVotes_55 : decode cX4_sendVotes 55 = .ok (.bipush 8, 2) := by decide +kernel
theorem dX4_sendVotes_57 : decode cX4_sendVotes 57 = .ok (.iload_n 1, 1) := by decide +kernel
theorem dX4_sendVotes_58 : decode cX4_sendVotes 58 = .ok (.imul, 1) := by decide +kernel
theorem dX4_sendVotes_59 : decode cX4_sendVotes 59 = .ok (.iload_n 2, 1) := by decide +kernel
theorem dX4_sendVotes_60 : decode cX4_sendVotes 60 = .ok (.iadd, 1) := by decide +kernel
theorem dX4_sendVotes_61 : decode cX4_sendVotes 61 = .ok (.laload, 1) := by decide +kernel
theorem dX4_sendVotes_62 : decode cX4_sendVotes 62 = .ok (.invokevirtual 114, 3) := by decide +kernel
theorem dX4_sendVotes_65 : decode cX4_sendVotes 65 = .ok (.iinc 3 1, 3) := by decide +kernel
theorem dX4_sendVotes_68 : decode cX4_sendVotes 68 = .ok (.iinc 4 1, 3) := by decide +kernel
theorem dX4_sendVotes_71 : decode cX4_sendVotes 71 = .ok (.goto (-66), 3) := by decide +kernel
theorem dX4_sendVotes_74 : decode cX4_sendVotes 74 = .ok (.iload_n 3, 1) := by decide +kernel
theorem dX4_sendVotes_75 : decode cX4_sendVotes 75 = .ok (.ireturn, 1) := by decide +kernel
theorem dX4_isRead_0 : decode cX4_isRead 0 = .ok (.iconst 1, 1) := by decide +kernel
theorem dX4_isRead_1 : decode cX4_isRead 1 = .ok (.istore_n 2, 1) := by decide +kernel
theorem dX4_isRead_2 : decode cX4_isRead 2 = .ok (.aload_n 0, 1) := by decide +kernel
theorem dX4_isRead_3 : decode cX4_isRead 3 = .ok (.iload_n 1, 1) := by decide +kernel
theorem dX4_isRead_4 : decode cX4_isRead 4 = .ok (.invokevirtual 118, 3) := by decide +kernel
theorem dX4_isRead_7 : decode cX4_isRead 7 = .ok (.istore_n 3, 1) := by decide +kernel
theorem dX4_isRead_8 : decode cX4_isRead 8 = .ok (.iload_n 3, 1) := by decide +kernel
theorem dX4_isRead_9 : decode cX4_isRead 9 = .ok (.iload_n 1, 1) := by decide +kernel
theorem dX4_isRead_10 : decode cX4_isRead 10 = .ok (.if_icmp .ge 44, 3) := by decide +kernel
theorem dX4_isRead_13 : decode cX4_isRead 13 = .ok (.iload_n 2, 1) := by decide +kernel
theorem dX4_isRead_14 : decode cX4_isRead 14 = .ok (.ifCond .eq 40, 3) := by decide +kernel
theorem dX4_isRead_17 : decode cX4_isRead 17 = .ok (.aload_n 0, 1) := by decide +kernel
theorem dX4_isRead_18 : decode cX4_isRead 18 = .ok (.getfield 39, 3) := by decide +kernel
theorem dX4_isRead_21 : decode cX4_isRead 21 = .ok (.iload_n 1, 1) := by decide +kernel
theorem dX4_isRead_22 : decode cX4_isRead 22 = .ok (.iaload, 1) := by decide +kernel
theorem dX4_isRead_23 : decode cX4_isRead 23 = .ok (.aload_n 0, 1) := by decide +kernel
theorem dX4_isRead_24 : decode cX4_isRead 24 = .ok (.getfield 27, 3) := by decide +kernel
theorem dX4_isRead_27 : decode cX4_isRead 27 = .ok (.iload_n 3, 1) := by decide +kernel
theorem dX4_isRead_28 : decode cX4_isRead 28 = .ok (.iaload, 1) := by decide +kernel
theorem dX4_isRead_29 : decode cX4_isRead 29 = .ok (.iand, 1) := by decide +kernel
theorem dX4_isRead_30 : decode cX4_isRead 30 = .ok (.invokestatic 107, 3) := by decide +kernel
theorem dX4_isRead_33 : decode cX4_isRead 33 = .ok (.aload_n 0, 1) := by decide +kernel
theorem dX4_isRead_34 : decode cX4_isRead 34 = .ok (.getfield 30, 3) := by decide +kernel
theorem dX4_isRead_37 : decode cX4_isRead 37 = .ok (.iload_n 3, 1) := by decide +kernel
theorem dX4_isRead_38 : decode cX4_isRead 38 = .ok (.iaload, 1) := by decide +kernel
theorem dX4_isRead_39 : decode cX4_isRead 39 = .ok (.if_icmp .lt 7, 3) := by decide +kernel
theorem dX4_isRead_42 : decode cX4_isRead 42 = .ok (.iconst 1, 1) := by decide +kernel
theorem dX4_isRead_43 : decode cX4_isRead 43 = .ok (.goto 4, 3) := by decide +kernel
theorem dX4_isRead_46 : decode cX4_isRead 46 = .ok (.iconst 0, 1) := by decide +kernel
theorem dX4_isRead_47 : decode cX4_isRead 47 = .ok (.istore_n 2, 1) := by decide +kernel
theorem dX4_isRead_48 : decode cX4_isRead 48 = .ok (.iinc 3 1, 3) := by decide +kernel
theorem dX4_isRead_51 : decode cX4_isRead 51 = .ok (.goto (-43), 3) := by decide +kernel
theorem dX4_isRead_54 : decode cX4_isRead 54 = .ok (.iload_n 2, 1) := by decide +kernel
theorem dX4_isRead_55 : decode cX4_isRead 55 = .ok (.ireturn, 1) := by decide +kernel
theorem dX4_isMoved_0 : decode cX4_isMoved 0 = .ok (.aload_n 0, 1) := by decide +kernel
theorem dX4_isMoved_1 : decode cX4_isMoved 1 = .ok (.getfield 42, 3) := by decide +kernel
theorem dX4_isMoved_4 : decode cX4_isMoved 4 = .ok (.iload_n 1, 1) := by decide +kernel
theorem dX4_isMoved_5 : decode cX4_isMoved 5 = .ok (.iaload, 1) := by decide +kernel
theorem dX4_isMoved_6 : decode cX4_isMoved 6 = .ok (.aload_n 0, 1) := by decide +kernel
theorem dX4_isMoved_7 : decode cX4_isMoved 7 = .ok (.getfield 48, 3) := by decide +kernel
theorem dX4_isMoved_10 : decode cX4_isMoved 10 = .ok (.iload_n 1, 1) := by decide +kernel
theorem dX4_isMoved_11 : decode cX4_isMoved 11 = .ok (.iaload, 1) := by decide +kernel
theorem dX4_isMoved_12 : decode cX4_isMoved 12 = .ok (.iconst (-1), 1) := by decide +kernel
theorem dX4_isMoved_13 : decode cX4_isMoved 13 = .ok (.ixor, 1) := by decide +kernel
theorem dX4_isMoved_14 : decode cX4_isMoved 14 = .ok (.iand, 1) := by decide +kernel
theorem dX4_isMoved_15 : decode cX4_isMoved 15 = .ok (.ifCond .ne 7, 3) := by decide +kernel
theorem dX4_isMoved_18 : decode cX4_isMoved 18 = .ok (.iconst 1, 1) := by decide +kernel
theorem dX4_isMoved_19 : decode cX4_isMoved 19 = .ok (.goto 4, 3) := by decide +kernel
theorem dX4_isMoved_22 : decode cX4_isMoved 22 = .ok (.iconst 0, 1) := by decide +kernel
theorem dX4_isMoved_23 : decode cX4_isMoved 23 = .ok (.ireturn, 1) := by decide +kernel
theorem dX4_beginReading_0 : decode cX4_beginReading 0 = .ok (.aload_n 0, 1) := by decide +kernel
theorem dX4_beginReading_1 : decode cX4_beginReading 1 = .ok (.getfield 24, 3) := by decide +kernel
theorem dX4_beginReading_4 : decode cX4_beginReading 4 = .ok (.iload_n 1, 1) := by decide +kernel
theorem dX4_beginReading_5 : decode cX4_beginReading 5 = .ok (.iconst 1, 1) := by decide +kernel
theorem dX4_beginReading_6 : decode cX4_beginReading 6 = .ok (.iastore, 1) := by decide +kernel
theorem dX4_beginReading_7 : decode cX4_beginReading 7 = .ok (.aload_n 0, 1) := by decide +kernel
theorem dX4_beginReading_8 : decode cX4_beginReading 8 = .ok (.iload_n 1, 1) := by decide +kernel
theorem dX4_beginReading_9 : decode cX4_beginReading 9 = .ok (.invokevirtual 124, 3) := by decide +kernel
theorem dX4_beginReading_12 : decode cX4_beginReading 12 = .ok (.pop, 1) := by decide +kernel
theorem dX4_beginReading_13 : decode cX4_beginReading 13 = .ok (.aload_n 0, 1) := by decide +kernel
theorem dX4_beginReading_14 : decode cX4_beginReading 14 = .ok (.iload_n 1, 1) := by decide +kernel
theorem dX4_beginReading_15 : decode cX4_beginReading 15 = .ok (.invokevirtual 127, 3) := by decide +kernel
theorem dX4_beginReading_18 : decode cX4_beginReading 18 = .ok (.ifCond .eq 8, 3) := by decide +kernel
theorem dX4_beginReading_21 : decode cX4_beginReading 21 = .ok (.aload_n 0, 1) := by decide +kernel
theorem dX4_beginReading_22 : decode cX4_beginReading 22 = .ok (.iload_n 1, 1) := by decide +kernel
theorem dX4_beginReading_23 : decode cX4_beginReading 23 = .ok (.invokevirtual 131, 3) := by decide +kernel
theorem dX4_beginReading_26 : decode cX4_beginReading 26 = .ok (.return_, 1) := by decide +kernel
theorem dX4_beginMoving_0 : decode cX4_beginMoving 0 = .ok (.aload_n 0, 1) := by decide +kernel
theorem dX4_beginMoving_1 : decode cX4_beginMoving 1 = .ok (.getfield 24, 3) := by decide +kernel
theorem dX4_beginMoving_4 : decode cX4_beginMoving 4 = .ok (.iload_n 1, 1) := by decide +kernel
theorem dX4_beginMoving_5 : decode cX4_beginMoving 5 = .ok (.iconst 2, 1) := by decide +kernel
theorem dX4_beginMoving_6 : decode cX4_beginMoving 6 = .ok (.iastore, 1) := by decide +kernel
theorem dX4_beginMoving_7 : decode cX4_beginMoving 7 = .ok (.iconst 0, 1) := by decide +kernel
theorem dX4_beginMoving_8 : decode cX4_beginMoving 8 = .ok (.istore_n 2, 1) := by decide +kernel
theorem dX4_beginMoving_9 : decode cX4_beginMoving 9 = .ok (.iload_n 2, 1) := by decide +kernel
theorem dX4_beginMoving_10 : decode cX4_beginMoving 10 = .ok (.bipush 8, 2) := by decide +kernel
theorem dX4_beginMoving_12 : decode cX4_beginMoving 12 = .ok (.if_icmp .ge 30, 3) := by decide +kernel
theorem dX4_beginMoving_15 : decode cX4_beginMoving 15 = .ok (.aload_n 0, 1) := by decide +kernel
theorem dX4_beginMoving_16 : decode cX4_beginMoving 16 = .ok (.getfield 42, 3) := by decide +kernel
theorem dX4_beginMoving_19 : decode cX4_beginMoving 19 = .ok (.iload_n 1, 1) := by decide +kernel
theorem dX4_beginMoving_20 : decode cX4_beginMoving 20 = .ok (.iaload, 1) := by decide +kernel
theorem dX4_beginMoving_21 : decode cX4_beginMoving 21 = .ok (.iload_n 2, 1) := by decide +kernel
theorem dX4_beginMoving_22 : decode cX4_beginMoving 22 = .ok (.ishr, 1) := by decide +kernel
theorem dX4_beginMoving_23 : decode cX4_beginMoving 23 = .ok (.iconst 1, 1) := by decide +kernel
theorem dX4_beginMoving_24 : decode cX4_beginMoving 24 = .ok (.iand, 1) := by decide +kernel
theorem dX4_beginMoving_25 : decode cX4_beginMoving 25 = .ok (.iconst 1, 1) := by decide +kernel
theorem dX4_beginMoving_26 : decode cX4_beginMoving 26 = .ok (.if_icmp .ne 10, 3) := by decide +kernel
theorem dX4_beginMoving_29 : decode cX4_beginMoving 29 = .ok (.aload_n 0, 1) := by decide +kernel
theorem dX4_beginMoving_30 : decode cX4_beginMoving 30 = .ok (.iload_n 1, 1) := by decide +kernel
theorem dX4_beginMoving_31 : decode cX4_beginMoving 31 = .ok (.iload_n 2, 1) := by decide +kernel
theorem dX4_beginMoving_32 : decode cX4_beginMoving 32 = .ok (.invokevirtual 135, 3) := by decide +kernel
theorem dX4_beginMoving_35 : decode cX4_beginMoving 35 = .ok (.pop, 1) := by decide +kernel
theorem dX4_beginMoving_36 : decode cX4_beginMoving 36 = .ok (.iinc 2 1, 3) := by decide +kernel
theorem dX4_beginMoving_39 : decode cX4_beginMoving 39 = .ok (.goto (-30), 3) := by decide +kernel
theorem dX4_beginMoving_42 : decode cX4_beginMoving 42 = .ok (.aload_n 0, 1) := by decide +kernel
theorem dX4_beginMoving_43 : decode cX4_beginMoving 43 = .ok (.iload_n 1, 1) := by decide +kernel
theorem dX4_beginMoving_44 : decode cX4_beginMoving 44 = .ok (.invokevirtual 139, 3) := by decide +kernel
theorem dX4_beginMoving_47 : decode cX4_beginMoving 47 = .ok (.ifCond .eq 8, 3) := by decide +kernel
theorem dX4_beginMoving_50 : decode cX4_beginMoving 50 = .ok (.aload_n 0, 1) := by decide +kernel
theorem dX4_beginMoving_51 : decode cX4_beginMoving 51 = .ok (.iload_n 1, 1) := by decide +kernel
theorem dX4_beginMoving_52 : decode cX4_beginMoving 52 = .ok (.invokevirtual 142, 3) := by decide +kernel
theorem dX4_beginMoving_55 : decode cX4_beginMoving 55 = .ok (.return_, 1) := by decide +kernel
theorem dX4_beginAsking_0 : decode cX4_beginAsking 0 = .ok (.aload_n 0, 1) := by decide +kernel
theorem dX4_beginAsking_1 : decode cX4_beginAsking 1 = .ok (.getfield 24, 3) := by decide +kernel
theorem dX4_beginAsking_4 : decode cX4_beginAsking 4 = .ok (.iload_n 1, 1) := by decide +kernel
theorem dX4_beginAsking_5 : decode cX4_beginAsking 5 = .ok (.iconst 3, 1) := by decide +kernel
theorem dX4_beginAsking_6 : decode cX4_beginAsking 6 = .ok (.iastore, 1) := by decide +kernel
theorem dX4_beginAsking_7 : decode cX4_beginAsking 7 = .ok (.aload_n 0, 1) := by decide +kernel
theorem dX4_beginAsking_8 : decode cX4_beginAsking 8 = .ok (.bipush 6, 2) := by decide +kernel
theorem dX4_beginAsking_10 : decode cX4_beginAsking 10 = .ok (.iload_n 1, 1) := by decide +kernel
theorem dX4_beginAsking_11 : decode cX4_beginAsking 11 = .ok (.iconst (-1), 1) := by decide +kernel
theorem dX4_beginAsking_12 : decode cX4_beginAsking 12 = .ok (.iconst (-1), 1) := by decide +kernel
theorem dX4_beginAsking_13 : decode cX4_beginAsking 13 = .ok (.lconst 0, 1) := by decide +kernel
theorem dX4_beginAsking_14 : decode cX4_beginAsking 14 = .ok (.invokevirtual 114, 3) := by decide +kernel
theorem dX4_beginAsking_17 : decode cX4_beginAsking 17 = .ok (.return_, 1) := by decide +kernel
theorem dX4_propose_0 : decode cX4_propose 0 = .ok (.aload_n 0, 1) := by decide +kernel
theorem dX4_propose_1 : decode cX4_propose 1 = .ok (.iload_n 1, 1) := by decide +kernel
theorem dX4_propose_2 : decode cX4_propose 2 = .ok (.invokevirtual 145, 3) := by decide +kernel
theorem dX4_propose_5 : decode cX4_propose 5 = .ok (.ifCond .eq 41, 3) := by decide +kernel
theorem dX4_propose_8 : decode cX4_propose 8 = .ok (.iload_n 2, 1) := by decide +kernel
theorem dX4_propose_9 : decode cX4_propose 9 = .ok (.invokestatic 148, 3) := by decide +kernel
theorem dX4_propose_12 : decode cX4_propose 12 = .ok (.ifCond .eq 34, 3) := by decide +kernel
theorem dX4_propose_15 : decode cX4_propose 15 = .ok (.aload_n 0, 1) := by decide +kernel
theorem dX4_propose_16 : decode cX4_propose 16 = .ok (.getfield 24, 3) := by decide +kernel
theorem dX4_propose_19 : decode cX4_propose 19 = .ok (.iload_n 1, 1) := by decide +kernel
theorem dX4_propose_20 : decode cX4_propose 20 = .ok (.iaload, 1) := by decide +kernel
theorem dX4_propose_21 : decode cX4_propose 21 = .ok (.iconst 4, 1) := by decide +kernel
theorem dX4_propose_22 : decode cX4_propose 22 = .ok (.if_icmp .ne 24, 3) := by decide +kernel
theorem dX4_propose_25 : decode cX4_propose 25 = .ok (.aload_n 0, 1) := by decide +kernel
theorem dX4_propose_26 : decode cX4_propose 26 = .ok (.getfield 42, 3) := by decide +kernel
theorem dX4_propose_29 : decode cX4_propose 29 = .ok (.iload_n 1, 1) := by decide +kernel
theorem dX4_propose_30 : decode cX4_propose 30 = .ok (.iaload, 1) := by decide +kernel
theorem dX4_propose_31 : decode cX4_propose 31 = .ok (.aload_n 0, 1) := by decide +kernel
theorem dX4_propose_32 : decode cX4_propose 32 = .ok (.getfield 45, 3) := by decide +kernel
theorem dX4_propose_35 : decode cX4_propose 35 = .ok (.iload_n 1, 1) := by decide +kernel
theorem dX4_propose_36 : decode cX4_propose 36 = .ok (.iaload, 1) := by decide +kernel
theorem dX4_propose_37 : decode cX4_propose 37 = .ok (.ior, 1) := by decide +kernel
theorem dX4_propose_38 : decode cX4_propose 38 = .ok (.iload_n 2, 1) := by decide +kernel
theorem dX4_propose_39 : decode cX4_propose 39 = .ok (.ishr, 1) := by decide +kernel
theorem dX4_propose_40 : decode cX4_propose 40 = .ok (.iconst 1, 1) := by decide +kernel
theorem dX4_propose_41 : decode cX4_propose 41 = .ok (.iand, 1) := by decide +kernel
theorem dX4_propose_42 : decode cX4_propose 42 = .ok (.iconst 1, 1) := by decide +kernel
theorem dX4_propose_43 : decode cX4_propose 43 = .ok (.if_icmp .ne 5, 3) := by decide +kernel
theorem dX4_propose_46 : decode cX4_propose 46 = .ok (.iconst 0, 1) := by decide +kernel
theorem dX4_propose_47 : decode cX4_propose 47 = .ok (.ireturn, 1) := by decide +kernel
theorem dX4_propose_48 : decode cX4_propose 48 = .ok (.aload_n 0, 1) := by decide +kernel
theorem dX4_propose_49 : decode cX4_propose 49 = .ok (.getfield 45, 3) := by decide +kernel
theorem dX4_propose_52 : decode cX4_propose 52 = .ok (.iload_n 1, 1) := by decide +kernel
theorem dX4_propose_53 : decode cX4_propose 53 = .ok (.dup2, 1) := by decide +kernel
theorem dX4_propose_54 : decode cX4_propose 54 = .ok (.iaload, 1) := by decide +kernel
theorem dX4_propose_55 : decode cX4_propose 55 = .ok (.iconst 1, 1) := by decide +kernel
theorem dX4_propose_56 : decode cX4_propose 56 = .ok (.iload_n 2, 1) := by decide +kernel
theorem dX4_propose_57 : decode cX4_propose 57 = .ok (.ishl, 1) := by decide +kernel
theorem dX4_propose_58 : decode cX4_propose 58 = .ok (.ior, 1) := by decide +kernel
theorem dX4_propose_59 : decode cX4_propose 59 = .ok (.iastore, 1) := by decide +kernel
theorem dX4_propose_60 : decode cX4_propose 60 = .ok (.aload_n 0, 1) := by decide +kernel
theorem dX4_propose_61 : decode cX4_propose 61 = .ok (.getfield 60, 3) := by decide +kernel
theorem dX4_propose_64 : decode cX4_propose 64 = .ok (.bipush 8, 2) := by decide +kernel
theorem dX4_propose_66 : decode cX4_propose 66 = .ok (.iload_n 1, 1) := by decide +kernel
theorem dX4_propose_67 : decode cX4_propose 67 = .ok (.imul, 1) := by decide +kernel
theorem dX4_propose_68 : decode cX4_propose 68 = .ok (.iload_n 2, 1) := by decide +kernel
theorem dX4_propose_69 : decode cX4_propose 69 = .ok (.iadd, 1) := by decide +kernel
theorem dX4_propose_70 : decode cX4_propose 70 = .ok (.lload_n 3, 1) := by decide +kernel
theorem dX4_propose_71 : decode cX4_propose 71 = .ok (.lastore, 1) := by decide +kernel
theorem dX4_propose_72 : decode cX4_propose 72 = .ok (.aload_n 0, 1) := by decide +kernel
theorem dX4_propose_73 : decode cX4_propose 73 = .ok (.iload_n 1, 1) := by decide +kernel
theorem dX4_propose_74 : decode cX4_propose 74 = .ok (.iload_n 2, 1) := by decide +kernel
theorem dX4_propose_75 : decode cX4_propose 75 = .ok (.invokevirtual 135, 3) := by decide +kernel
theorem dX4_propose_78 : decode cX4_propose 78 = .ok (.pop, 1) := by decide +kernel
theorem dX4_propose_79 : decode cX4_propose 79 = .ok (.iconst 1, 1) := by decide +kernel
theorem dX4_propose_80 : decode cX4_propose 80 = .ok (.ireturn, 1) := by decide +kernel
theorem dX4_again_0 : decode cX4_again 0 = .ok (.aload_n 0, 1) := by decide +kernel
theorem dX4_again_1 : decode cX4_again 1 = .ok (.iload_n 1, 1) := by decide +kernel
theorem dX4_again_2 : decode cX4_again 2 = .ok (.invokevirtual 145, 3) := by decide +kernel
theorem dX4_again_5 : decode cX4_again 5 = .ok (.ifCond .ne 5, 3) := by decide +kernel
theorem dX4_again_8 : decode cX4_again 8 = .ok (.iconst (-1), 1) := by decide +kernel
theorem dX4_again_9 : decode cX4_again 9 = .ok (.ireturn, 1) := by decide +kernel
theorem dX4_again_10 : decode cX4_again 10 = .ok (.aload_n 0, 1) := by decide +kernel
theorem dX4_again_11 : decode cX4_again 11 = .ok (.getfield 24, 3) := by decide +kernel
theorem dX4_again_14 : decode cX4_again 14 = .ok (.iload_n 1, 1) := by decide +kernel
theorem dX4_again_15 : decode cX4_again 15 = .ok (.iaload, 1) := by decide +kernel
theorem dX4_again_16 : decode cX4_again 16 = .ok (.tableswitch 61 0 3 #[32, 43, 61, 49], 32) := by decide +kernel
theorem dX4_again_48 : decode cX4_again 48 = .ok (.aload_n 0, 1) := by decide +kernel
theorem dX4_again_49 : decode cX4_again 49 = .ok (.iconst 1, 1) := by decide +kernel
theorem dX4_again_50 : decode cX4_again 50 = .ok (.iload_n 1, 1) := by decide +kernel
theorem dX4_again_51 : decode cX4_again 51 = .ok (.iconst (-1), 1) := by decide +kernel
theorem dX4_again_52 : decode cX4_again 52 = .ok (.iconst (-1), 1) := by decide +kernel
theorem dX4_again_53 : decode cX4_again 53 = .ok (.lconst 0, 1) := by decide +kernel
theorem dX4_again_54 : decode cX4_again 54 = .ok (.invokevirtual 114, 3) := by decide +kernel
theorem dX4_again_57 : decode cX4_again 57 = .ok (.iconst 1, 1) := by decide +kernel
theorem dX4_again_58 : decode cX4_again 58 = .ok (.ireturn, 1) := by decide +kernel
theorem dX4_again_59 : decode cX4_again 59 = .ok (.aload_n 0, 1) := by decide +kernel
theorem dX4_again_60 : decode cX4_again 60 = .ok (.iload_n 1, 1) := by decide +kernel
theorem dX4_again_61 : decode cX4_again 61 = .ok (.invokevirtual 124, 3) := by decide +kernel
theorem dX4_again_64 : decode cX4_again 64 = .ok (.ireturn, 1) := by decide +kernel
theorem dX4_again_65 : decode cX4_again 65 = .ok (.aload_n 0, 1) := by decide +kernel
theorem dX4_again_66 : decode cX4_again 66 = .ok (.bipush 6, 2) := by decide +kernel
theorem dX4_again_68 : decode cX4_again 68 = .ok (.iload_n 1, 1) := by decide +kernel
theorem dX4_again_69 : decode cX4_again 69 = .ok (.iconst (-1), 1) := by decide +kernel
theorem dX4_again_70 : decode cX4_again 70 = .ok (.iconst (-1), 1) := by decide +kernel
theorem dX4_again_71 : decode cX4_again 71 = .ok (.lconst 0, 1) := by decide +kernel
theorem dX4_again_72 : decode cX4_again 72 = .ok (.invokevirtual 114, 3) := by decide +kernel
theorem dX4_again_75 : decode cX4_again 75 = .ok (.iconst 1, 1) := by decide +kernel
theorem dX4_again_76 : decode cX4_again 76 = .ok (.ireturn, 1) := by decide +kernel
theorem dX4_again_77 : decode cX4_again 77 = .ok (.iconst 0, 1) := by decide +kernel
theorem dX4_again_78 : decode cX4_again 78 = .ok (.istore_n 2, 1) := by decide +kernel
theorem dX4_again_79 : decode cX4_again 79 = .ok (.iconst 0, 1) := by decide +kernel
theorem dX4_again_80 : decode cX4_again 80 = .ok (.istore_n 3, 1) := by decide +kernel
theorem dX4_again_81 : decode cX4_again 81 = .ok (.iload_n 3, 1) := by decide +kernel
theorem dX4_again_82 : decode cX4_again 82 = .ok (.bipush 8, 2) := by decide +kernel
theorem dX4_again_84 : decode cX4_again 84 = .ok (.if_icmp .ge 48, 3) := by decide +kernel
theorem dX4_again_87 : decode cX4_again 87 = .ok (.aload_n 0, 1) := by decide +kernel
theorem dX4_again_88 : decode cX4_again 88 = .ok (.getfield 42, 3) := by decide +kernel
theorem dX4_again_91 : decode cX4_again 91 = .ok (.iload_n 1, 1) := by decide +kernel
theorem dX4_again_92 : decode cX4_again 92 = .ok (.iaload, 1) := by decide +kernel
theorem dX4_again_93 : decode cX4_again 93 = .ok (.aload_n 0, 1) := by decide +kernel
theorem dX4_again_94 : decode cX4_again 94 = .ok (.getfield 45, 3) := by decide +kernel
theorem dX4_again_97 : decode cX4_again 97 = .ok (.iload_n 1, 1) := by decide +kernel
theorem dX4_again_98 : decode cX4_again 98 = .ok (.iaload, 1) := by decide +kernel
theorem dX4_again_99 : decode cX4_again 99 = .ok (.ior, 1) := by decide +kernel
theorem dX4_again_100 : decode cX4_again 100 = .ok (.aload_n 0, 1) := by decide +kernel
theorem dX4_again_101 : decode cX4_again 101 = .ok (.getfield 48, 3) := by decide +kernel
theorem dX4_again_104 : decode cX4_again 104 = .ok (.iload_n 1, 1) := by decide +kernel
theorem dX4_again_105 : decode cX4_again 105 = .ok (.iaload, 1) := by decide +kernel
theorem dX4_again_106 : decode cX4_again 106 = .ok (.iconst (-1), 1) := by decide +kernel
theorem dX4_again_107 : decode cX4_again 107 = .ok (.ixor, 1) := by decide +kernel
theorem dX4_again_108 : decode cX4_again 108 = .ok (.iand, 1) := by decide +kernel
theorem dX4_again_109 : decode cX4_again 109 = .ok (.iload_n 3, 1) := by decide +kernel
theorem dX4_again_110 : decode cX4_again 110 = .ok (.ishr, 1) := by decide +kernel
theorem dX4_again_111 : decode cX4_again 111 = .ok (.iconst 1, 1) := by decide +kernel
theorem dX4_again_112 : decode cX4_again 112 = .ok (.iand, 1) := by decide +kernel
theorem dX4_again_113 : decode cX4_again 113 = .ok (.iconst 1, 1) := by decide +kernel
theorem dX4_again_114 : decode cX4_again 114 = .ok (.if_icmp .ne 12, 3) := by decide +kernel
theorem dX4_again_117 : decode cX4_again 117 = .ok (.iload_n 2, 1) := by decide +kernel
theorem dX4_again_118 : decode cX4_again 118 = .ok (.aload_n 0, 1) := by decide +kernel
theorem dX4_again_119 : decode cX4_again 119 = .ok (.iload_n 1, 1) := by decide +kernel
theorem dX4_again_120 : decode cX4_again 120 = .ok (.iload_n 3, 1) := by decide +kernel
theorem dX4_again_121 : decode cX4_again 121 = .ok (.invokevirtual 135, 3) := by decide +kernel
theorem dX4_again_124 : decode cX4_again 124 = .ok (.iadd, 1) := by decide +kernel
theorem dX4_again_125 : decode cX4_again 125 = .ok (.istore_n 2, 1) := by decide +kernel
theorem dX4_again_126 : decode cX4_again 126 = .ok (.iinc 3 1, 3) := by decide +kernel
theorem dX4_again_129 : decode cX4_again 129 = .ok (.goto (-48), 3) := by decide +kernel
theorem dX4_again_132 : decode cX4_again 132 = .ok (.iload_n 2, 1) := by decide +kernel
theorem dX4_again_133 : decode cX4_again 133 = .ok (.ireturn, 1) := by decide +kernel
theorem dX4_comesRead_0 : decode cX4_comesRead 0 = .ok (.aload_n 0, 1) := by decide +kernel
theorem dX4_comesRead_1 : decode cX4_comesRead 1 = .ok (.getfield 7, 3) := by decide +kernel
theorem dX4_comesRead_4 : decode cX4_comesRead 4 = .ok (.iload_n 2, 1) := by decide +kernel
theorem dX4_comesRead_5 : decode cX4_comesRead 5 = .ok (.iaload, 1) := by decide +kernel
theorem dX4_comesRead_6 : decode cX4_comesRead 6 = .ok (.iload_n 1, 1) := by decide +kernel
theorem dX4_comesRead_7 : decode cX4_comesRead 7 = .ok (.if_icmp .le 4, 3) := by decide +kernel
theorem dX4_comesRead_10 : decode cX4_comesRead 10 = .ok (.return_, 1) := by decide +kernel
theorem dX4_comesRead_11 : decode cX4_comesRead 11 = .ok (.aload_n 0, 1) := by decide +kernel
theorem dX4_comesRead_12 : decode cX4_comesRead 12 = .ok (.getfield 7, 3) := by decide +kernel
theorem dX4_comesRead_15 : decode cX4_comesRead 15 = .ok (.iload_n 2, 1) := by decide +kernel
theorem dX4_comesRead_16 : decode cX4_comesRead 16 = .ok (.iload_n 1, 1) := by decide +kernel
theorem dX4_comesRead_17 : decode cX4_comesRead 17 = .ok (.iastore, 1) := by decide +kernel
theorem dX4_comesRead_18 : decode cX4_comesRead 18 = .ok (.aload_n 0, 1) := by decide +kernel
theorem dX4_comesRead_19 : decode cX4_comesRead 19 = .ok (.iconst 3, 1) := by decide +kernel
theorem dX4_comesRead_20 : decode cX4_comesRead 20 = .ok (.iload_n 1, 1) := by decide +kernel
theorem dX4_comesRead_21 : decode cX4_comesRead 21 = .ok (.iload_n 2, 1) := by decide +kernel
theorem dX4_comesRead_22 : decode cX4_comesRead 22 = .ok (.iconst (-1), 1) := by decide +kernel
theorem dX4_comesRead_23 : decode cX4_comesRead 23 = .ok (.lconst 0, 1) := by decide +kernel
theorem dX4_comesRead_24 : decode cX4_comesRead 24 = .ok (.invokevirtual 114, 3) := by decide +kernel
theorem dX4_comesRead_27 : decode cX4_comesRead 27 = .ok (.return_, 1) := by decide +kernel
theorem dX4_comesVote_0 : decode cX4_comesVote 0 = .ok (.aload_n 0, 1) := by decide +kernel
theorem dX4_comesVote_1 : decode cX4_comesVote 1 = .ok (.getfield 7, 3) := by decide +kernel
theorem dX4_comesVote_4 : decode cX4_comesVote 4 = .ok (.iload_n 2, 1) := by decide +kernel
theorem dX4_comesVote_5 : decode cX4_comesVote 5 = .ok (.iaload, 1) := by decide +kernel
theorem dX4_comesVote_6 : decode cX4_comesVote 6 = .ok (.iload_n 1, 1) := by decide +kernel
theorem dX4_comesVote_7 : decode cX4_comesVote 7 = .ok (.if_icmp .le 4, 3) := by decide +kernel
theorem dX4_comesVote_10 : decode cX4_comesVote 10 = .ok (.return_, 1) := by decide +kernel
theorem dX4_comesVote_11 : decode cX4_comesVote 11 = .ok (.aload_n 0, 1) := by decide +kernel
theorem dX4_comesVote_12 : decode cX4_comesVote 12 = .ok (.getfield 7, 3) := by decide +kernel
theorem dX4_comesVote_15 : decode cX4_comesVote 15 = .ok (.iload_n 2, 1) := by decide +kernel
theorem dX4_comesVote_16 : decode cX4_comesVote 16 = .ok (.iload_n 1, 1) := by decide +kernel
theorem dX4_comesVote_17 : decode cX4_comesVote 17 = .ok (.iastore, 1) := by decide +kernel
theorem dX4_comesVote_18 : decode cX4_comesVote 18 = .ok (.aload_n 0, 1) := by decide +kernel
theorem dX4_comesVote_19 : decode cX4_comesVote 19 = .ok (.getfield 13, 3) := by decide +kernel
theorem dX4_comesVote_22 : decode cX4_comesVote 22 = .ok (.bipush 8, 2) := by decide +kernel
theorem dX4_comesVote_24 : decode cX4_comesVote 24 = .ok (.iload_n 2, 1) := by decide +kernel
theorem dX4_comesVote_25 : decode cX4_comesVote 25 = .ok (.imul, 1) := by decide +kernel
theorem dX4_comesVote_26 : decode cX4_comesVote 26 = .ok (.iload_n 3, 1) := by decide +kernel
theorem dX4_comesVote_27 : decode cX4_comesVote 27 = .ok (.iadd, 1) := by decide +kernel
theorem dX4_comesVote_28 : decode cX4_comesVote 28 = .ok (.iload_n 1, 1) := by decide +kernel
theorem dX4_comesVote_29 : decode cX4_comesVote 29 = .ok (.iastore, 1) := by decide +kernel
theorem dX4_comesVote_30 : decode cX4_comesVote 30 = .ok (.aload_n 0, 1) := by decide +kernel
theorem dX4_comesVote_31 : decode cX4_comesVote 31 = .ok (.getfield 16, 3) := by decide +kernel
theorem dX4_comesVote_34 : decode cX4_comesVote 34 = .ok (.bipush 8, 2) := by decide +kernel
theorem dX4_comesVote_36 : decode cX4_comesVote 36 = .ok (.iload_n 2, 1) := by decide +kernel
theorem dX4_comesVote_37 : decode cX4_comesVote 37 = .ok (.imul, 1) := by decide +kernel
theorem dX4_comesVote_38 : decode cX4_comesVote 38 = .ok (.iload_n 3, 1) := by decide +kernel
theorem dX4_comesVote_39 : decode cX4_comesVote 39 = .ok (.iadd, 1) := by decide +kernel
theorem dX4_comesVote_40 : decode cX4_comesVote 40 = .ok (.lload 4, 2) := by decide +kernel
theorem dX4_comesVote_42 : decode cX4_comesVote 42 = .ok (.lastore, 1) := by decide +kernel
theorem dX4_comesVote_43 : decode cX4_comesVote 43 = .ok (.aload_n 0, 1) := by decide +kernel
theorem dX4_comesVote_44 : decode cX4_comesVote 44 = .ok (.getfield 57, 3) := by decide +kernel
theorem dX4_comesVote_47 : decode cX4_comesVote 47 = .ok (.bipush 8, 2) := by decide +kernel
theorem dX4_comesVote_49 : decode cX4_comesVote 49 = .ok (.iload_n 1, 1) := by decide +kernel
theorem dX4_comesVote_50 : decode cX4_comesVote 50 = .ok (.imul, 1) := by decide +kernel
theorem dX4_comesVote_51 : decode cX4_comesVote 51 = .ok (.iload_n 3, 1) := by decide +kernel
theorem dX4_comesVote_52 : decode cX4_comesVote 52 = .ok (.iadd, 1) := by decide +kernel
theorem dX4_comesVote_53 : decode cX4_comesVote 53 = .ok (.dup2, 1) := by decide +kernel
theorem dX4_comesVote_54 : decode cX4_comesVote 54 = .ok (.iaload, 1) := by decide +kernel
theorem dX4_comesVote_55 : decode cX4_comesVote 55 = .ok (.iconst 1, 1) := by decide +kernel
theorem dX4_comesVote_56 : decode cX4_comesVote 56 = .ok (.iload_n 2, 1) := by decide +kernel
theorem dX4_comesVote_57 : decode cX4_comesVote 57 = .ok (.ishl, 1) := by decide +kernel
theorem dX4_comesVote_58 : decode cX4_comesVote 58 = .ok (.ior, 1) := by decide +kernel
theorem dX4_comesVote_59 : decode cX4_comesVote 59 = .ok (.iastore, 1) := by decide +kernel
theorem dX4_comesVote_60 : decode cX4_comesVote 60 = .ok (.aload_n 0, 1) := by decide +kernel
theorem dX4_comesVote_61 : decode cX4_comesVote 61 = .ok (.iconst 5, 1) := by decide +kernel
theorem dX4_comesVote_62 : decode cX4_comesVote 62 = .ok (.iload_n 1, 1) := by decide +kernel
theorem dX4_comesVote_63 : decode cX4_comesVote 63 = .ok (.iload_n 2, 1) := by decide +kernel
theorem dX4_comesVote_64 : decode cX4_comesVote 64 = .ok (.iload_n 3, 1) := by decide +kernel
theorem dX4_comesVote_65 : decode cX4_comesVote 65 = .ok (.lconst 0, 1) := by decide +kernel
theorem dX4_comesVote_66 : decode cX4_comesVote 66 = .ok (.invokevirtual 114, 3) := by decide +kernel
theorem dX4_comesVote_69 : decode cX4_comesVote 69 = .ok (.return_, 1) := by decide +kernel
theorem dX4_comesReadAnswer_0 : decode cX4_comesReadAnswer 0 = .ok (.aload_n 0, 1) := by decide +kernel
theorem dX4_comesReadAnswer_1 : decode cX4_comesReadAnswer 1 = .ok (.getfield 24, 3) := by decide +kernel
theorem dX4_comesReadAnswer_4 : decode cX4_comesReadAnswer 4 = .ok (.iload_n 1, 1) := by decide +kernel
theorem dX4_comesReadAnswer_5 : decode cX4_comesReadAnswer 5 = .ok (.iaload, 1) := by decide +kernel
theorem dX4_comesReadAnswer_6 : decode cX4_comesReadAnswer 6 = .ok (.iconst 1, 1) := by decide +kernel
theorem dX4_comesReadAnswer_7 : decode cX4_comesReadAnswer 7 = .ok (.if_icmp .ne 17, 3) := by decide +kernel
theorem dX4_comesReadAnswer_10 : decode cX4_comesReadAnswer 10 = .ok (.aload_n 0, 1) := by decide +kernel
theorem dX4_comesReadAnswer_11 : decode cX4_comesReadAnswer 11 = .ok (.getfield 39, 3) := by decide +kernel
theorem dX4_comesReadAnswer_14 : decode cX4_comesReadAnswer 14 = .ok (.iload_n 1, 1) := by decide +kernel
theorem dX4_comesReadAnswer_15 : decode cX4_comesReadAnswer 15 = .ok (.iaload, 1) := by decide +kernel
theorem dX4_comesReadAnswer_16 : decode cX4_comesReadAnswer 16 = .ok (.iload_n 2, 1) := by decide +kernel
theorem dX4_comesReadAnswer_17 : decode cX4_comesReadAnswer 17 = .ok (.ishr, 1) := by decide +kernel
theorem dX4_comesReadAnswer_18 : decode cX4_comesReadAnswer 18 = .ok (.iconst 1, 1) := by decide +kernel
theorem dX4_comesReadAnswer_19 : decode cX4_comesReadAnswer 19 = .ok (.iand, 1) := by decide +kernel
theorem dX4_comesReadAnswer_20 : decode cX4_comesReadAnswer 20 = .ok (.iconst 1, 1) := by decide +kernel
theorem dX4_comesReadAnswer_21 : decode cX4_comesReadAnswer 21 = .ok (.if_icmp .ne 4, 3) := by decide +kernel
theorem dX4_comesReadAnswer_24 : decode cX4_comesReadAnswer 24 = .ok (.return_, 1) := by decide +kernel
theorem dX4_comesReadAnswer_25 : decode cX4_comesReadAnswer 25 = .ok (.aload_n 0, 1) := by decide +kernel
theorem dX4_comesReadAnswer_26 : decode cX4_comesReadAnswer 26 = .ok (.getfield 39, 3) := by decide +kernel
theorem dX4_comesReadAnswer_29 : decode cX4_comesReadAnswer 29 = .ok (.iload_n 1, 1) := by decide +kernel
theorem dX4_comesReadAnswer_30 : decode cX4_comesReadAnswer 30 = .ok (.dup2, 1) := by decide +kernel
theorem dX4_comesReadAnswer_31 : decode cX4_comesReadAnswer 31 = .ok (.iaload, 1) := by decide +kernel
theorem dX4_comesReadAnswer_32 : decode cX4_comesReadAnswer 32 = .ok (.iconst 1, 1) := by decide +kernel
theorem dX4_comesReadAnswer_33 : decode cX4_comesReadAnswer 33 = .ok (.iload_n 2, 1) := by decide +kernel
theorem dX4_comesReadAnswer_34 : decode cX4_comesReadAnswer 34 = .ok (.ishl, 1) := by decide +kernel
theorem dX4_comesReadAnswer_35 : decode cX4_comesReadAnswer 35 = .ok (.ior, 1) := by decide +kernel
theorem dX4_comesReadAnswer_36 : decode cX4_comesReadAnswer 36 = .ok (.iastore, 1) := by decide +kernel
theorem dX4_comesReadAnswer_37 : decode cX4_comesReadAnswer 37 = .ok (.iconst 0, 1) := by decide +kernel
theorem dX4_comesReadAnswer_38 : decode cX4_comesReadAnswer 38 = .ok (.istore_n 3, 1) := by decide +kernel
theorem dX4_comesReadAnswer_39 : decode cX4_comesReadAnswer 39 = .ok (.iload_n 3, 1) := by decide +kernel
theorem dX4_comesReadAnswer_40 : decode cX4_comesReadAnswer 40 = .ok (.bipush 8, 2) := by decide +kernel
theorem dX4_comesReadAnswer_42 : decode cX4_comesReadAnswer 42 = .ok (.if_icmp .ge 78, 3) := by decide +kernel
theorem dX4_comesReadAnswer_45 : decode cX4_comesReadAnswer 45 = .ok (.aload_n 0, 1) := by decide +kernel
theorem dX4_comesReadAnswer_46 : decode cX4_comesReadAnswer 46 = .ok (.getfield 84, 3) := by decide +kernel
theorem dX4_comesReadAnswer_49 : decode cX4_comesReadAnswer 49 = .ok (.iload_n 3, 1) := by decide +kernel
theorem dX4_comesReadAnswer_50 : decode cX4_comesReadAnswer 50 = .ok (.iaload, 1) := by decide +kernel
theorem dX4_comesReadAnswer_51 : decode cX4_comesReadAnswer 51 = .ok (.aload_n 0, 1) := by decide +kernel
theorem dX4_comesReadAnswer_52 : decode cX4_comesReadAnswer 52 = .ok (.getfield 51, 3) := by decide +kernel
theorem dX4_comesReadAnswer_55 : decode cX4_comesReadAnswer 55 = .ok (.bipush 8, 2) := by decide +kernel
theorem dX4_comesReadAnswer_57 : decode cX4_comesReadAnswer 57 = .ok (.iload_n 1, 1) := by decide +kernel
theorem dX4_comesReadAnswer_58 : decode cX4_comesReadAnswer 58 = .ok (.imul, 1) := by decide +kernel
theorem dX4_comesReadAnswer_59 : decode cX4_comesReadAnswer 59 = .ok (.iload_n 3, 1) := by decide +kernel
theorem dX4_comesReadAnswer_60 : decode cX4_comesReadAnswer 60 = .ok (.iadd, 1) := by decide +kernel
theorem dX4_comesReadAnswer_61 : decode cX4_comesReadAnswer 61 = .ok (.iaload, 1) := by decide +kernel
theorem dX4_comesReadAnswer_62 : decode cX4_comesReadAnswer 62 = .ok (.if_icmp .gt 6, 3) := by decide +kernel
theorem dX4_comesReadAnswer_65 : decode cX4_comesReadAnswer 65 = .ok (.goto 49, 3) := by decide +kernel
theorem dX4_comesReadAnswer_68 : decode cX4_comesReadAnswer 68 = .ok (.aload_n 0, 1) := by decide +kernel
theorem dX4_comesReadAnswer_69 : decode cX4_comesReadAnswer 69 = .ok (.getfield 51, 3) := by decide +kernel
theorem dX4_comesReadAnswer_72 : decode cX4_comesReadAnswer 72 = .ok (.bipush 8, 2) := by decide +kernel
theorem dX4_comesReadAnswer_74 : decode cX4_comesReadAnswer 74 = .ok (.iload_n 1, 1) := by decide +kernel
theorem dX4_comesReadAnswer_75 : decode cX4_comesReadAnswer 75 = .ok (.imul, 1) := by decide +kernel
theorem dX4_comesReadAnswer_76 : decode cX4_comesReadAnswer 76 = .ok (.iload_n 3, 1) := by decide +kernel
theorem dX4_comesReadAnswer_77 : decode cX4_comesReadAnswer 77 = .ok (.iadd, 1) := by decide +kernel
theorem dX4_comesReadAnswer_78 : decode cX4_comesReadAnswer 78 = .ok (.aload_n 0, 1) := by decide +kernel
theorem dX4_comesReadAnswer_79 : decode cX4_comesReadAnswer 79 = .ok (.getfield 84, 3) := by decide +kernel
theorem dX4_comesReadAnswer_82 : decode cX4_comesReadAnswer 82 = .ok (.iload_n 3, 1) := by decide +kernel
theorem dX4_comesReadAnswer_83 : decode cX4_comesReadAnswer 83 = .ok (.iaload, 1) := by decide +kernel
theorem dX4_comesReadAnswer_84 : decode cX4_comesReadAnswer 84 = .ok (.iastore, 1) := by decide +kernel
theorem dX4_comesReadAnswer_85 : decode cX4_comesReadAnswer 85 = .ok (.aload_n 0, 1) := by decide +kernel
theorem dX4_comesReadAnswer_86 : decode cX4_comesReadAnswer 86 = .ok (.getfield 60, 3) := by decide +kernel
theorem dX4_comesReadAnswer_89 : decode cX4_comesReadAnswer 89 = .ok (.bipush 8, 2) := by decide +kernel
theorem dX4_comesReadAnswer_91 : decode cX4_comesReadAnswer 91 = .ok (.iload_n 1, 1) := by decide +kernel
theorem dX4_comesReadAnswer_92 : decode cX4_comesReadAnswer 92 = .ok (.imul, 1) := by decide +kernel
theorem dX4_comesReadAnswer_93 : decode cX4_comesReadAnswer 93 = .ok (.iload_n 3, 1) := by decide +kernel
theorem dX4_comesReadAnswer_94 : decode cX4_comesReadAnswer 94 = .ok (.iadd, 1) := by decide +kernel
theorem dX4_comesReadAnswer_95 : decode cX4_comesReadAnswer 95 = .ok (.aload_n 0, 1) := by decide +kernel
theorem dX4_comesReadAnswer_96 : decode cX4_comesReadAnswer 96 = .ok (.getfield 87, 3) := by decide +kernel
theorem dX4_comesReadAnswer_99 : decode cX4_comesReadAnswer 99 = .ok (.iload_n 3, 1) := by decide +kernel
theorem dX4_comesReadAnswer_100 : decode cX4_comesReadAnswer 100 = .ok (.laload, 1) := by decide +kernel
theorem dX4_comesReadAnswer_101 : decode cX4_comesReadAnswer 101 = .ok (.lastore, 1) := by decide +kernel
theorem dX4_comesReadAnswer_102 : decode cX4_comesReadAnswer 102 = .ok (.aload_n 0, 1) := by decide +kernel
theorem dX4_comesReadAnswer_103 : decode cX4_comesReadAnswer 103 = .ok (.getfield 42, 3) := by decide +kernel
theorem dX4_comesReadAnswer_106 : decode cX4_comesReadAnswer 106 = .ok (.iload_n 1, 1) := by decide +kernel
theorem dX4_comesReadAnswer_107 : decode cX4_comesReadAnswer 107 = .ok (.dup2, 1) := by decide +kernel
theorem dX4_comesReadAnswer_108 : decode cX4_comesReadAnswer 108 = .ok (.iaload, 1) := by decide +kernel
theorem dX4_comesReadAnswer_109 : decode cX4_comesReadAnswer 109 = .ok (.iconst 1, 1) := by decide +kernel
theorem dX4_comesReadAnswer_110 : decode cX4_comesReadAnswer 110 = .ok (.iload_n 3, 1) := by decide +kernel
theorem dX4_comesReadAnswer_111 : decode cX4_comesReadAnswer 111 = .ok (.ishl, 1) := by decide +kernel
theorem dX4_comesReadAnswer_112 : decode cX4_comesReadAnswer 112 = .ok (.ior, 1) := by decide +kernel
theorem dX4_comesReadAnswer_113 : decode cX4_comesReadAnswer 113 = .ok (.iastore, 1) := by decide +kernel
theorem dX4_comesReadAnswer_114 : decode cX4_comesReadAnswer 114 = .ok (.iinc 3 1, 3) := by decide +kernel
theorem dX4_comesReadAnswer_117 : decode cX4_comesReadAnswer 117 = .ok (.goto (-78), 3) := by decide +kernel
theorem dX4_comesReadAnswer_120 : decode cX4_comesReadAnswer 120 = .ok (.aload_n 0, 1) := by decide +kernel
theorem dX4_comesReadAnswer_121 : decode cX4_comesReadAnswer 121 = .ok (.iload_n 1, 1) := by decide +kernel
theorem dX4_comesReadAnswer_122 : decode cX4_comesReadAnswer 122 = .ok (.invokevirtual 127, 3) := by decide +kernel
theorem dX4_comesReadAnswer_125 : decode cX4_comesReadAnswer 125 = .ok (.ifCond .eq 8, 3) := by decide +kernel
theorem dX4_comesReadAnswer_128 : decode cX4_comesReadAnswer 128 = .ok (.aload_n 0, 1) := by decide +kernel
theorem dX4_comesReadAnswer_129 : decode cX4_comesReadAnswer 129 = .ok (.iload_n 1, 1) := by decide +kernel
theorem dX4_comesReadAnswer_130 : decode cX4_comesReadAnswer 130 = .ok (.invokevirtual 131, 3) := by decide +kernel
theorem dX4_comesReadAnswer_133 : decode cX4_comesReadAnswer 133 = .ok (.return_, 1) := by decide +kernel
theorem dX4_comesVoteAnswer_0 : decode cX4_comesVoteAnswer 0 = .ok (.aload_n 0, 1) := by decide +kernel
theorem dX4_comesVoteAnswer_1 : decode cX4_comesVoteAnswer 1 = .ok (.getfield 24, 3) := by decide +kernel
theorem dX4_comesVoteAnswer_4 : decode cX4_comesVoteAnswer 4 = .ok (.iload_n 1, 1) := by decide +kernel
theorem dX4_comesVoteAnswer_5 : decode cX4_comesVoteAnswer 5 = .ok (.iaload, 1) := by decide +kernel
theorem dX4_comesVoteAnswer_6 : decode cX4_comesVoteAnswer 6 = .ok (.iconst 2, 1) := by decide +kernel
theorem dX4_comesVoteAnswer_7 : decode cX4_comesVoteAnswer 7 = .ok (.if_icmp .ge 4, 3) := by decide +kernel
theorem dX4_comesVoteAnswer_10 : decode cX4_comesVoteAnswer 10 = .ok (.return_, 1) := by decide +kernel
theorem dX4_comesVoteAnswer_11 : decode cX4_comesVoteAnswer 11 = .ok (.aload_n 0, 1) := by decide +kernel
theorem dX4_comesVoteAnswer_12 : decode cX4_comesVoteAnswer 12 = .ok (.getfield 54, 3) := by decide +kernel
theorem dX4_comesVoteAnswer_15 : decode cX4_comesVoteAnswer 15 = .ok (.bipush 8, 2) := by decide +kernel
theorem dX4_comesVoteAnswer_17 : decode cX4_comesVoteAnswer 17 = .ok (.iload_n 1, 1) := by decide +kernel
theorem dX4_comesVoteAnswer_18 : decode cX4_comesVoteAnswer 18 = .ok (.imul, 1) := by decide +kernel
theorem dX4_comesVoteAnswer_19 : decode cX4_comesVoteAnswer 19 = .ok (.iload_n 3, 1) := by decide +kernel
theorem dX4_comesVoteAnswer_20 : decode cX4_comesVoteAnswer 20 = .ok (.iadd, 1) := by decide +kernel
theorem dX4_comesVoteAnswer_21 : decode cX4_comesVoteAnswer 21 = .ok (.dup2, 1) := by decide +kernel
theorem dX4_comesVoteAnswer_22 : decode cX4_comesVoteAnswer 22 = .ok (.iaload, 1) := by decide +kernel
theorem dX4_comesVoteAnswer_23 : decode cX4_comesVoteAnswer 23 = .ok (.iconst 1, 1) := by decide +kernel
theorem dX4_comesVoteAnswer_24 : decode cX4_comesVoteAnswer 24 = .ok (.iload_n 2, 1) := by decide +kernel
theorem dX4_comesVoteAnswer_25 : decode cX4_comesVoteAnswer 25 = .ok (.ishl, 1) := by decide +kernel
theorem dX4_comesVoteAnswer_26 : decode cX4_comesVoteAnswer 26 = .ok (.ior, 1) := by decide +kernel
theorem dX4_comesVoteAnswer_27 : decode cX4_comesVoteAnswer 27 = .ok (.iastore, 1) := by decide +kernel
theorem dX4_comesVoteAnswer_28 : decode cX4_comesVoteAnswer 28 = .ok (.aload_n 0, 1) := by decide +kernel
theorem dX4_comesVoteAnswer_29 : decode cX4_comesVoteAnswer 29 = .ok (.getfield 54, 3) := by decide +kernel
theorem dX4_comesVoteAnswer_32 : decode cX4_comesVoteAnswer 32 = .ok (.bipush 8, 2) := by decide +kernel
theorem dX4_comesVoteAnswer_34 : decode cX4_comesVoteAnswer 34 = .ok (.iload_n 1, 1) := by decide +kernel
theorem dX4_comesVoteAnswer_35 : decode cX4_comesVoteAnswer 35 = .ok (.imul, 1) := by decide +kernel
theorem dX4_comesVoteAnswer_36 : decode cX4_comesVoteAnswer 36 = .ok (.iload_n 3, 1) := by decide +kernel
theorem dX4_comesVoteAnswer_37 : decode cX4_comesVoteAnswer 37 = .ok (.iadd, 1) := by decide +kernel
theorem dX4_comesVoteAnswer_38 : decode cX4_comesVoteAnswer 38 = .ok (.iaload, 1) := by decide +kernel
theorem dX4_comesVoteAnswer_39 : decode cX4_comesVoteAnswer 39 = .ok (.invokestatic 107, 3) := by decide +kernel
theorem dX4_comesVoteAnswer_42 : decode cX4_comesVoteAnswer 42 = .ok (.aload_n 0, 1) := by decide +kernel
theorem dX4_comesVoteAnswer_43 : decode cX4_comesVoteAnswer 43 = .ok (.getfield 33, 3) := by decide +kernel
theorem dX4_comesVoteAnswer_46 : decode cX4_comesVoteAnswer 46 = .ok (.iload_n 1, 1) := by decide +kernel
theorem dX4_comesVoteAnswer_47 : decode cX4_comesVoteAnswer 47 = .ok (.iaload, 1) := by decide +kernel
theorem dX4_comesVoteAnswer_48 : decode cX4_comesVoteAnswer 48 = .ok (.if_icmp .lt 15, 3) := by decide +kernel
theorem dX4_comesVoteAnswer_51 : decode cX4_comesVoteAnswer 51 = .ok (.aload_n 0, 1) := by decide +kernel
theorem dX4_comesVoteAnswer_52 : decode cX4_comesVoteAnswer 52 = .ok (.getfield 48, 3) := by decide +kernel
theorem dX4_comesVoteAnswer_55 : decode cX4_comesVoteAnswer 55 = .ok (.iload_n 1, 1) := by decide +kernel
theorem dX4_comesVoteAnswer_56 : decode cX4_comesVoteAnswer 56 = .ok (.dup2, 1) := by decide +kernel
theorem dX4_comesVoteAnswer_57 : decode cX4_comesVoteAnswer 57 = .ok (.iaload, 1) := by decide +kernel
theorem dX4_comesVoteAnswer_58 : decode cX4_comesVoteAnswer 58 = .ok (.iconst 1, 1) := by decide +kernel
theorem dX4_comesVoteAnswer_59 : decode cX4_comesVoteAnswer 59 = .ok (.iload_n 3, 1) := by decide +kernel
theorem dX4_comesVoteAnswer_60 : decode cX4_comesVoteAnswer 60 = .ok (.ishl, 1) := by decide +kernel
theorem dX4_comesVoteAnswer_61 : decode cX4_comesVoteAnswer 61 = .ok (.ior, 1) := by decide +kernel
theorem dX4_comesVoteAnswer_62 : decode cX4_comesVoteAnswer 62 = .ok (.iastore, 1) := by decide +kernel
theorem dX4_comesVoteAnswer_63 : decode cX4_comesVoteAnswer 63 = .ok (.aload_n 0, 1) := by decide +kernel
theorem dX4_comesVoteAnswer_64 : decode cX4_comesVoteAnswer 64 = .ok (.getfield 24, 3) := by decide +kernel
theorem dX4_comesVoteAnswer_67 : decode cX4_comesVoteAnswer 67 = .ok (.iload_n 1, 1) := by decide +kernel
theorem dX4_comesVoteAnswer_68 : decode cX4_comesVoteAnswer 68 = .ok (.iaload, 1) := by decide +kernel
theorem dX4_comesVoteAnswer_69 : decode cX4_comesVoteAnswer 69 = .ok (.iconst 2, 1) := by decide +kernel
theorem dX4_comesVoteAnswer_70 : decode cX4_comesVoteAnswer 70 = .ok (.if_icmp .ne 16, 3) := by decide +kernel
theorem dX4_comesVoteAnswer_73 : decode cX4_comesVoteAnswer 73 = .ok (.aload_n 0, 1) := by decide +kernel
theorem dX4_comesVoteAnswer_74 : decode cX4_comesVoteAnswer 74 = .ok (.iload_n 1, 1) := by decide +kernel
theorem dX4_comesVoteAnswer_75 : decode cX4_comesVoteAnswer 75 = .ok (.invokevirtual 139, 3) := by decide +kernel
theorem dX4_comesVoteAnswer_78 : decode cX4_comesVoteAnswer 78 = .ok (.ifCond .eq 8, 3) := by decide +kernel
theorem dX4_comesVoteAnswer_81 : decode cX4_comesVoteAnswer 81 = .ok (.aload_n 0, 1) := by decide +kernel
theorem dX4_comesVoteAnswer_82 : decode cX4_comesVoteAnswer 82 = .ok (.iload_n 1, 1) := by decide +kernel
theorem dX4_comesVoteAnswer_83 : decode cX4_comesVoteAnswer 83 = .ok (.invokevirtual 142, 3) := by decide +kernel
theorem dX4_comesVoteAnswer_86 : decode cX4_comesVoteAnswer 86 = .ok (.return_, 1) := by decide +kernel
theorem dX4_canBe_0 : decode cX4_canBe 0 = .ok (.aload_n 0, 1) := by decide +kernel
theorem dX4_canBe_1 : decode cX4_canBe 1 = .ok (.getfield 63, 3) := by decide +kernel
theorem dX4_canBe_4 : decode cX4_canBe 4 = .ok (.iload_n 1, 1) := by decide +kernel
theorem dX4_canBe_5 : decode cX4_canBe 5 = .ok (.iaload, 1) := by decide +kernel
theorem dX4_canBe_6 : decode cX4_canBe 6 = .ok (.iconst 2, 1) := by decide +kernel
theorem dX4_canBe_7 : decode cX4_canBe 7 = .ok (.if_icmp .eq 13, 3) := by decide +kernel
theorem dX4_canBe_10 : decode cX4_canBe 10 = .ok (.aload_n 0, 1) := by decide +kernel
theorem dX4_canBe_11 : decode cX4_canBe 11 = .ok (.getfield 63, 3) := by decide +kernel
theorem dX4_canBe_14 : decode cX4_canBe 14 = .ok (.iload_n 1, 1) := by decide +kernel
theorem dX4_canBe_15 : decode cX4_canBe 15 = .ok (.iaload, 1) := by decide +kernel
theorem dX4_canBe_16 : decode cX4_canBe 16 = .ok (.iconst 4, 1) := by decide +kernel
theorem dX4_canBe_17 : decode cX4_canBe 17 = .ok (.if_icmp .ne 17, 3) := by decide +kernel
theorem dX4_canBe_20 : decode cX4_canBe 20 = .ok (.aload_n 0, 1) := by decide +kernel
theorem dX4_canBe_21 : decode cX4_canBe 21 = .ok (.getfield 20, 3) := by decide +kernel
theorem dX4_canBe_24 : decode cX4_canBe 24 = .ok (.aload_n 0, 1) := by decide +kernel
theorem dX4_canBe_25 : decode cX4_canBe 25 = .ok (.getfield 69, 3) := by decide +kernel
theorem dX4_canBe_28 : decode cX4_canBe 28 = .ok (.iload_n 1, 1) := by decide +kernel
theorem dX4_canBe_29 : decode cX4_canBe 29 = .ok (.iaload, 1) := by decide +kernel
theorem dX4_canBe_30 : decode cX4_canBe 30 = .ok (.baload, 1) := by decide +kernel
theorem dX4_canBe_31 : decode cX4_canBe 31 = .ok (.ifCond .ne 7, 3) := by decide +kernel
theorem dX4_canBe_34 : decode cX4_canBe 34 = .ok (.iconst 1, 1) := by decide +kernel
theorem dX4_canBe_35 : decode cX4_canBe 35 = .ok (.goto 4, 3) := by decide +kernel
theorem dX4_canBe_38 : decode cX4_canBe 38 = .ok (.iconst 0, 1) := by decide +kernel
theorem dX4_canBe_39 : decode cX4_canBe 39 = .ok (.ireturn, 1) := by decide +kernel
theorem dX4_deliver_0 : decode cX4_deliver 0 = .ok (.iload_n 1, 1) := by decide +kernel
theorem dX4_deliver_1 : decode cX4_deliver 1 = .ok (.ifCond .lt 19, 3) := by decide +kernel
theorem dX4_deliver_4 : decode cX4_deliver 4 = .ok (.iload_n 1, 1) := by decide +kernel
theorem dX4_deliver_5 : decode cX4_deliver 5 = .ok (.aload_n 0, 1) := by decide +kernel
theorem dX4_deliver_6 : decode cX4_deliver 6 = .ok (.getfield 97, 3) := by decide +kernel
theorem dX4_deliver_9 : decode cX4_deliver 9 = .ok (.if_icmp .ge 11, 3) := by decide +kernel
theorem dX4_deliver_12 : decode cX4_deliver 12 = .ok (.aload_n 0, 1) := by decide +kernel
theorem dX4_deliver_13 : decode cX4_deliver 13 = .ok (.iload_n 1, 1) := by decide +kernel
theorem dX4_deliver_14 : decode cX4_deliver 14 = .ok (.invokevirtual 151, 3) := by decide +kernel
theorem dX4_deliver_17 : decode cX4_deliver 17 = .ok (.ifCond .ne 5, 3) := by decide +kernel
theorem dX4_deliver_20 : decode cX4_deliver 20 = .ok (.iconst 0, 1) := by decide +kernel
theorem dX4_deliver_21 : decode cX4_deliver 21 = .ok (.ireturn, 1) := by decide +kernel
theorem dX4_deliver_22 : decode cX4_deliver 22 = .ok (.aload_n 0, 1) := by decide +kernel
theorem dX4_deliver_23 : decode cX4_deliver 23 = .ok (.getfield 63, 3) := by decide +kernel
theorem dX4_deliver_26 : decode cX4_deliver 26 = .ok (.iload_n 1, 1) := by decide +kernel
theorem dX4_deliver_27 : decode cX4_deliver 27 = .ok (.iaload, 1) := by decide +kernel
theorem dX4_deliver_28 : decode cX4_deliver 28 = .ok (.istore_n 2, 1) := by decide +kernel
theorem dX4_deliver_29 : decode cX4_deliver 29 = .ok (.aload_n 0, 1) := by decide +kernel
theorem dX4_deliver_30 : decode cX4_deliver 30 = .ok (.getfield 66, 3) := by decide +kernel
theorem dX4_deliver_33 : decode cX4_deliver 33 = .ok (.iload_n 1, 1) := by decide +kernel
theorem dX4_deliver_34 : decode cX4_deliver 34 = .ok (.iaload, 1) := by decide +kernel
theorem dX4_deliver_35 : decode cX4_deliver 35 = .ok (.istore_n 3, 1) := by decide +kernel
theorem dX4_deliver_36 : decode cX4_deliver 36 = .ok (.aload_n 0, 1) := by decide +kernel
theorem dX4_deliver_37 : decode cX4_deliver 37 = .ok (.getfield 69, 3) := by decide +kernel
theorem dX4_deliver_40 : decode cX4_deliver 40 = .ok (.iload_n 1, 1) := by decide +kernel
theorem dX4_deliver_41 : decode cX4_deliver 41 = .ok (.iaload, 1) := by decide +kernel
theorem dX4_deliver_42 : decode cX4_deliver 42 = .ok (.istore 4, 2) := by decide +kernel
theorem dX4_deliver_44 : decode cX4_deliver 44 = .ok (.aload_n 0, 1) := by decide +kernel
theorem dX4_deliver_45 : decode cX4_deliver 45 = .ok (.getfield 72, 3) := by decide +kernel
theorem dX4_deliver_48 : decode cX4_deliver 48 = .ok (.iload_n 1, 1) := by decide +kernel
theorem dX4_deliver_49 : decode cX4_deliver 49 = .ok (.iaload, 1) := by decide +kernel
theorem dX4_deliver_50 : decode cX4_deliver 50 = .ok (.istore 5, 2) := by decide +kernel
theorem dX4_deliver_52 : decode cX4_deliver 52 = .ok (.aload_n 0, 1) := by decide +kernel
theorem dX4_deliver_53 : decode cX4_deliver 53 = .ok (.getfield 78, 3) := by decide +kernel
theorem dX4_deliver_56 : decode cX4_deliver 56 = .ok (.iload_n 1, 1) := by decide +kernel
theorem dX4_deliver_57 : decode cX4_deliver 57 = .ok (.laload, 1) := by decide +kernel
theorem dX4_deliver_58 : decode cX4_deliver 58 = .ok (.lstore 6, 2) := by decide +kernel
theorem dX4_deliver_60 : decode cX4_deliver 60 = .ok (.iconst 0, 1) := by decide +kernel
theorem dX4_deliver_61 : decode cX4_deliver 61 = .ok (.istore 8, 2) := by decide +kernel
theorem dX4_deliver_63 : decode cX4_deliver 63 = .ok (.iload 8, 2) := by decide +kernel
theorem dX4_deliver_65 : decode cX4_deliver 65 = .ok (.bipush 8, 2) := by decide +kernel
theorem dX4_deliver_67 : decode cX4_deliver 67 = .ok (.if_icmp .ge 47, 3) := by decide +kernel
theorem dX4_deliver_70 : decode cX4_deliver 70 = .ok (.aload_n 0, 1) := by decide +kernel
theorem dX4_deliver_71 : decode cX4_deliver 71 = .ok (.getfield 84, 3) := by decide +kernel
theorem dX4_deliver_74 : decode cX4_deliver 74 = .ok (.iload 8, 2) := by decide +kernel
theorem dX4_deliver_76 : decode cX4_deliver 76 = .ok (.aload_n 0, 1) := by decide +kernel
theorem dX4_deliver_77 : decode cX4_deliver 77 = .ok (.getfield 75, 3) := by decide +kernel
theorem dX4_deliver_80 : decode cX4_deliver 80 = .ok (.bipush 8, 2) := by decide +kernel
theorem dX4_deliver_82 : decode cX4_deliver 82 = .ok (.iload_n 1, 1) := by decide +kernel
theorem dX4_deliver_83 : decode cX4_deliver 83 = .ok (.imul, 1) := by decide +kernel
theorem dX4_deliver_84 : decode cX4_deliver 84 = .ok (.iload 8, 2) := by decide +kernel
theorem dX4_deliver_86 : decode cX4_deliver 86 = .ok (.iadd, 1) := by decide +kernel
theorem dX4_deliver_87 : decode cX4_deliver 87 = .ok (.iaload, 1) := by decide +kernel
theorem dX4_deliver_88 : decode cX4_deliver 88 = .ok (.iastore, 1) := by decide +kernel
theorem dX4_deliver_89 : decode cX4_deliver 89 = .ok (.aload_n 0, 1) := by decide +kernel
theorem dX4_deliver_90 : decode cX4_deliver 90 = .ok (.getfield 87, 3) := by decide +kernel
theorem dX4_deliver_93 : decode cX4_deliver 93 = .ok (.iload 8, 2) := by decide +kernel
theorem dX4_deliver_95 : decode cX4_deliver 95 = .ok (.aload_n 0, 1) := by decide +kernel
theorem dX4_deliver_96 : decode cX4_deliver 96 = .ok (.getfield 81, 3) := by decide +kernel
theorem dX4_deliver_99 : decode cX4_deliver 99 = .ok (.bipush 8, 2) := by decide +kernel
theorem dX4_deliver_101 : decode cX4_deliver 101 = .ok (.iload_n 1, 1) := by decide +kernel
theorem dX4_deliver_102 : decode cX4_deliver 102 = .ok (.imul, 1) := by decide +kernel
theorem dX4_deliver_103 : decode cX4_deliver 103 = .ok (.iload 8, 2) := by decide +kernel
theorem dX4_deliver_105 : decode cX4_deliver 105 = .ok (.iadd, 1) := by decide +kernel
theorem dX4_deliver_106 : decode cX4_deliver 106 = .ok (.laload, 1) := by decide +kernel
theorem dX4_deliver_107 : decode cX4_deliver 107 = .ok (.lastore, 1) := by decide +kernel
theorem dX4_deliver_108 : decode cX4_deliver 108 = .ok (.iinc 8 1, 3) := by decide +kernel
theorem dX4_deliver_111 : decode cX4_deliver 111 = .ok (.goto (-48), 3) := by decide +kernel
theorem dX4_deliver_114 : decode cX4_deliver 114 = .ok (.aload_n 0, 1) := by decide +kernel
theorem dX4_deliver_115 : decode cX4_deliver 115 = .ok (.iload_n 1, 1) := by decide +kernel
theorem dX4_deliver_116 : decode cX4_deliver 116 = .ok (.invokevirtual 154, 3) := by decide +kernel
theorem dX4_deliver_119 : decode cX4_deliver 119 = .ok (.iload_n 2, 1) := by decide +kernel
theorem dX4_deliver_120 : decode cX4_deliver 120 = .ok (.tableswitch 142 1 6 #[40, 57, 67, 77, 91, 103], 40) := by decide +kernel
theorem dX4_deliver_160 : decode cX4_deliver 160 = .ok (.aload_n 0, 1) := by decide +kernel
theorem dX4_deliver_161 : decode cX4_deliver 161 = .ok (.getfield 24, 3) := by decide +kernel
theorem dX4_deliver_164 : decode cX4_deliver 164 = .ok (.iload_n 3, 1) := by decide +kernel
theorem dX4_deliver_165 : decode cX4_deliver 165 = .ok (.iaload, 1) := by decide +kernel
theorem dX4_deliver_166 : decode cX4_deliver 166 = .ok (.ifCond .ne 113, 3) := by decide +kernel
theorem dX4_deliver_169 : decode cX4_deliver 169 = .ok (.aload_n 0, 1) := by decide +kernel
theorem dX4_deliver_170 : decode cX4_deliver 170 = .ok (.iload_n 3, 1) := by decide +kernel
theorem dX4_deliver_171 : decode cX4_deliver 171 = .ok (.invokevirtual 157, 3) := by decide +kernel
theorem dX4_deliver_174 : decode cX4_deliver 174 = .ok (.goto 105, 3) := by decide +kernel
theorem dX4_deliver_177 : decode cX4_deliver 177 = .ok (.aload_n 0, 1) := by decide +kernel
theorem dX4_deliver_178 : decode cX4_deliver 178 = .ok (.iload_n 3, 1) := by decide +kernel
theorem dX4_deliver_179 : decode cX4_deliver 179 = .ok (.iload 4, 2) := by decide +kernel
theorem dX4_deliver_181 : decode cX4_deliver 181 = .ok (.invokevirtual 160, 3) := by decide +kernel
theorem dX4_deliver_184 : decode cX4_deliver 184 = .ok (.goto 95, 3) := by decide +kernel
theorem dX4_deliver_187 : decode cX4_deliver 187 = .ok (.aload_n 0, 1) := by decide +kernel
theorem dX4_deliver_188 : decode cX4_deliver 188 = .ok (.iload_n 3, 1) := by decide +kernel
theorem dX4_deliver_189 : decode cX4_deliver 189 = .ok (.iload 4, 2) := by decide +kernel
theorem dX4_deliver_191 : decode cX4_deliver 191 = .ok (.invokevirtual 163, 3) := by decide +kernel
theorem dX4_deliver_194 : decode cX4_deliver 194 = .ok (.goto 85, 3) := by decide +kernel
theorem dX4_deliver_197 : decode cX4_deliver 197 = .ok (.aload_n 0, 1) := by decide +kernel
theorem dX4_deliver_198 : decode cX4_deliver 198 = .ok (.iload_n 3, 1) := by decide +kernel
theorem dX4_deliver_199 : decode cX4_deliver 199 = .ok (.iload 4, 2) := by decide +kernel
theorem dX4_deliver_201 : decode cX4_deliver 201 = .ok (.iload 5, 2) := by decide +kernel
theorem dX4_deliver_203 : decode cX4_deliver 203 = .ok (.lload 6, 2) := by decide +kernel
theorem dX4_deliver_205 : decode cX4_deliver 205 = .ok (.invokevirtual 166, 3) := by decide +kernel
theorem dX4_deliver_208 : decode cX4_deliver 208 = .ok (.goto 71, 3) := by decide +kernel
theorem dX4_deliver_211 : decode cX4_deliver 211 = .ok (.aload_n 0, 1) := by decide +kernel
theorem dX4_deliver_212 : decode cX4_deliver 212 = .ok (.iload_n 3, 1) := by decide +kernel
theorem dX4_deliver_213 : decode cX4_deliver 213 = .ok (.iload 4, 2) := by decide +kernel
theorem dX4_deliver_215 : decode cX4_deliver 215 = .ok (.iload 5, 2) := by decide +kernel
theorem dX4_deliver_217 : decode cX4_deliver 217 = .ok (.invokevirtual 170, 3) := by decide +kernel
theorem dX4_deliver_220 : decode cX4_deliver 220 = .ok (.goto 59, 3) := by decide +kernel
theorem dX4_deliver_223 : decode cX4_deliver 223 = .ok (.aload_n 0, 1) := by decide +kernel
theorem dX4_deliver_224 : decode cX4_deliver 224 = .ok (.getfield 111, 3) := by decide +kernel
theorem dX4_deliver_227 : decode cX4_deliver 227 = .ok (.aload_n 0, 1) := by decide +kernel
theorem dX4_deliver_228 : decode cX4_deliver 228 = .ok (.getfield 36, 3) := by decide +kernel
theorem dX4_deliver_231 : decode cX4_deliver 231 = .ok (.iload_n 3, 1) := by decide +kernel
theorem dX4_deliver_232 : decode cX4_deliver 232 = .ok (.iaload, 1) := by decide +kernel
theorem dX4_deliver_233 : decode cX4_deliver 233 = .ok (.if_icmp .eq 11, 3) := by decide +kernel
theorem dX4_deliver_236 : decode cX4_deliver 236 = .ok (.aload_n 0, 1) := by decide +kernel
theorem dX4_deliver_237 : decode cX4_deliver 237 = .ok (.getfield 111, 3) := by decide +kernel
theorem dX4_deliver_240 : decode cX4_deliver 240 = .ok (.iload_n 3, 1) := by decide +kernel
theorem dX4_deliver_241 : decode cX4_deliver 241 = .ok (.if_icmp .ne 38, 3) := by decide +kernel
theorem dX4_deliver_244 : decode cX4_deliver 244 = .ok (.aload_n 0, 1) := by decide +kernel
theorem dX4_deliver_245 : decode cX4_deliver 245 = .ok (.iload_n 3, 1) := by decide +kernel
theorem dX4_deliver_246 : decode cX4_deliver 246 = .ok (.putfield 111, 3) := by decide +kernel
theorem dX4_deliver_249 : decode cX4_deliver 249 = .ok (.aload_n 0, 1) := by decide +kernel
theorem dX4_deliver_250 : decode cX4_deliver 250 = .ok (.bipush 7, 2) := by decide +kernel
theorem dX4_deliver_252 : decode cX4_deliver 252 = .ok (.iload_n 3, 1) := by decide +kernel
theorem dX4_deliver_253 : decode cX4_deliver 253 = .ok (.iconst (-1), 1) := by decide +kernel
theorem dX4_deliver_254 : decode cX4_deliver 254 = .ok (.iconst (-1), 1) := by decide +kernel
theorem dX4_deliver_255 : decode cX4_deliver 255 = .ok (.lconst 0, 1) := by decide +kernel
theorem dX4_deliver_256 : decode cX4_deliver 256 = .ok (.invokevirtual 114, 3) := by decide +kernel
theorem dX4_deliver_259 : decode cX4_deliver 259 = .ok (.goto 20, 3) := by decide +kernel
theorem dX4_deliver_262 : decode cX4_deliver 262 = .ok (.aload_n 0, 1) := by decide +kernel
theorem dX4_deliver_263 : decode cX4_deliver 263 = .ok (.getfield 24, 3) := by decide +kernel
theorem dX4_deliver_266 : decode cX4_deliver 266 = .ok (.iload_n 3, 1) := by decide +kernel
theorem dX4_deliver_267 : decode cX4_deliver 267 = .ok (.iaload, 1) := by decide +kernel
theorem dX4_deliver_268 : decode cX4_deliver 268 = .ok (.iconst 3, 1) := by decide +kernel
theorem dX4_deliver_269 : decode cX4_deliver 269 = .ok (.if_icmp .ne 10, 3) := by decide +kernel
theorem dX4_deliver_272 : decode cX4_deliver 272 = .ok (.aload_n 0, 1) := by decide +kernel
theorem dX4_deliver_273 : decode cX4_deliver 273 = .ok (.getfield 24, 3) := by decide +kernel
theorem dX4_deliver_276 : decode cX4_deliver 276 = .ok (.iload_n 3, 1) := by decide +kernel
theorem dX4_deliver_277 : decode cX4_deliver 277 = .ok (.iconst 4, 1) := by decide +kernel
theorem dX4_deliver_278 : decode cX4_deliver 278 = .ok (.iastore, 1) := by decide +kernel
theorem dX4_deliver_279 : decode cX4_deliver 279 = .ok (.iconst 1, 1) := by decide +kernel
theorem dX4_deliver_280 : decode cX4_deliver 280 = .ok (.ireturn, 1) := by decide +kernel
theorem dX4_settle_0 : decode cX4_settle 0 = .ok (.iload_n 1, 1) := by decide +kernel
theorem dX4_settle_1 : decode cX4_settle 1 = .ok (.ifCond .ge 5, 3) := by decide +kernel
theorem dX4_settle_4 : decode cX4_settle 4 = .ok (.iconst (-1), 1) := by decide +kernel
theorem dX4_settle_5 : decode cX4_settle 5 = .ok (.ireturn, 1) := by decide +kernel
theorem dX4_settle_6 : decode cX4_settle 6 = .ok (.iconst 0, 1) := by decide +kernel
theorem dX4_settle_7 : decode cX4_settle 7 = .ok (.istore_n 2, 1) := by decide +kernel
theorem dX4_settle_8 : decode cX4_settle 8 = .ok (.iconst 1, 1) := by decide +kernel
theorem dX4_settle_9 : decode cX4_settle 9 = .ok (.istore_n 3, 1) := by decide +kernel
theorem dX4_settle_10 : decode cX4_settle 10 = .ok (.iload_n 3, 1) := by decide +kernel
theorem dX4_settle_11 : decode cX4_settle 11 = .ok (.ifCond .eq 52, 3) := by decide +kernel
theorem dX4_settle_14 : decode cX4_settle 14 = .ok (.iload_n 2, 1) := by decide +kernel
theorem dX4_settle_15 : decode cX4_settle 15 = .ok (.iload_n 1, 1) := by decide +kernel
theorem dX4_settle_16 : decode cX4_settle 16 = .ok (.if_icmp .ge 47, 3) := by decide +kernel
theorem dX4_settle_19 : decode cX4_settle 19 = .ok (.iconst 0, 1) := by decide +kernel
theorem dX4_settle_20 : decode cX4_settle 20 = .ok (.istore 4, 2) := by decide +kernel
theorem dX4_settle_22 : decode cX4_settle 22 = .ok (.iload 4, 2) := by decide +kernel
theorem dX4_settle_24 : decode cX4_settle 24 = .ok (.aload_n 0, 1) := by decide +kernel
theorem dX4_settle_25 : decode cX4_settle 25 = .ok (.getfield 97, 3) := by decide +kernel
theorem dX4_settle_28 : decode cX4_settle 28 = .ok (.if_icmp .ge 18, 3) := by decide +kernel
theorem dX4_settle_31 : decode cX4_settle 31 = .ok (.aload_n 0, 1) := by decide +kernel
theorem dX4_settle_32 : decode cX4_settle 32 = .ok (.iload 4, 2) := by decide +kernel
theorem dX4_settle_34 : decode cX4_settle 34 = .ok (.invokevirtual 151, 3) := by decide +kernel
theorem dX4_settle_37 : decode cX4_settle 37 = .ok (.ifCond .ne 9, 3) := by decide +kernel
theorem dX4_settle_40 : decode cX4_settle 40 = .ok (.iinc 4 1, 3) := by decide +kernel
theorem dX4_settle_43 : decode cX4_settle 43 = .ok (.goto (-21), 3) := by decide +kernel
theorem dX4_settle_46 : decode cX4_settle 46 = .ok (.aload_n 0, 1) := by decide +kernel
theorem dX4_settle_47 : decode cX4_settle 47 = .ok (.iload 4, 2) := by decide +kernel
theorem dX4_settle_49 : decode cX4_settle 49 = .ok (.invokevirtual 174, 3) := by decide +kernel
theorem dX4_settle_52 : decode cX4_settle 52 = .ok (.istore_n 3, 1) := by decide +kernel
theorem dX4_settle_53 : decode cX4_settle 53 = .ok (.iload_n 3, 1) := by decide +kernel
theorem dX4_settle_54 : decode cX4_settle 54 = .ok (.ifCond .eq 6, 3) := by decide +kernel
theorem dX4_settle_57 : decode cX4_settle 57 = .ok (.iinc 2 1, 3) := by decide +kernel
theorem dX4_settle_60 : decode cX4_settle 60 = .ok (.goto (-50), 3) := by decide +kernel
theorem dX4_settle_63 : decode cX4_settle 63 = .ok (.iload_n 2, 1) := by decide +kernel
theorem dX4_settle_64 : decode cX4_settle 64 = .ok (.ireturn, 1) := by decide +kernel
theorem dX4_lose_0 : decode cX4_lose 0 = .ok (.iload_n 1, 1) := by decide +kernel
theorem dX4_lose_1 : decode cX4_lose 1 = .ok (.ifCond .lt 11, 3) := by decide +kernel
theorem dX4_lose_4 : decode cX4_lose 4 = .ok (.iload_n 1, 1) := by decide +kernel
theorem dX4_lose_5 : decode cX4_lose 5 = .ok (.aload_n 0, 1) := by decide +kernel
theorem dX4_lose_6 : decode cX4_lose 6 = .ok (.getfield 97, 3) := by decide +kernel
theorem dX4_lose_9 : decode cX4_lose 9 = .ok (.if_icmp .lt 5, 3) := by decide +kernel
theorem dX4_lose_12 : decode cX4_lose 12 = .ok (.iconst 0, 1) := by decide +kernel
theorem dX4_lose_13 : decode cX4_lose 13 = .ok (.ireturn, 1) := by decide +kernel
theorem dX4_lose_14 : decode cX4_lose 14 = .ok (.aload_n 0, 1) := by decide +kernel
theorem dX4_lose_15 : decode cX4_lose 15 = .ok (.iload_n 1, 1) := by decide +kernel
theorem dX4_lose_16 : decode cX4_lose 16 = .ok (.invokevirtual 154, 3) := by decide +kernel
theorem dX4_lose_19 : decode cX4_lose 19 = .ok (.iconst 1, 1) := by decide +kernel
theorem dX4_lose_20 : decode cX4_lose 20 = .ok (.ireturn, 1) := by decide +kernel
theorem dX4_twice_0 : decode cX4_twice 0 = .ok (.iload_n 1, 1) := by decide +kernel
theorem dX4_twice_1 : decode cX4_twice 1 = .ok (.ifCond .lt 21, 3) := by decide +kernel
theorem dX4_twice_4 : decode cX4_twice 4 = .ok (.iload_n 1, 1) := by decide +kernel
theorem dX4_twice_5 : decode cX4_twice 5 = .ok (.aload_n 0, 1) := by decide +kernel
theorem dX4_twice_6 : decode cX4_twice 6 = .ok (.getfield 97, 3) := by decide +kernel
theorem dX4_twice_9 : decode cX4_twice 9 = .ok (.if_icmp .ge 13, 3) := by decide +kernel
theorem dX4_twice_12 : decode cX4_twice 12 = .ok (.aload_n 0, 1) := by decide +kernel
theorem dX4_twice_13 : decode cX4_twice 13 = .ok (.getfield 97, 3) := by decide +kernel
theorem dX4_twice_16 : decode cX4_twice 16 = .ok (.sipush 400, 3) := by decide +kernel
theorem dX4_twice_19 : decode cX4_twice 19 = .ok (.if_icmp .ne 5, 3) := by decide +kernel
theorem dX4_twice_22 : decode cX4_twice 22 = .ok (.iconst 0, 1) := by decide +kernel
theorem dX4_twice_23 : decode cX4_twice 23 = .ok (.ireturn, 1) := by decide +kernel
theorem dX4_twice_24 : decode cX4_twice 24 = .ok (.aload_n 0, 1) := by decide +kernel
theorem dX4_twice_25 : decode cX4_twice 25 = .ok (.iload_n 1, 1) := by decide +kernel
theorem dX4_twice_26 : decode cX4_twice 26 = .ok (.aload_n 0, 1) := by decide +kernel
theorem dX4_twice_27 : decode cX4_twice 27 = .ok (.getfield 97, 3) := by decide +kernel
theorem dX4_twice_30 : decode cX4_twice 30 = .ok (.invokevirtual 103, 3) := by decide +kernel
theorem dX4_twice_33 : decode cX4_twice 33 = .ok (.aload_n 0, 1) := by decide +kernel
theorem dX4_twice_34 : decode cX4_twice 34 = .ok (.dup, 1) := by decide +kernel
theorem dX4_twice_35 : decode cX4_twice 35 = .ok (.getfield 97, 3) := by decide +kernel
theorem dX4_twice_38 : decode cX4_twice 38 = .ok (.iconst 1, 1) := by decide +kernel
theorem dX4_twice_39 : decode cX4_twice 39 = .ok (.iadd, 1) := by decide +kernel
theorem dX4_twice_40 : decode cX4_twice 40 = .ok (.putfield 97, 3) := by decide +kernel
theorem dX4_twice_43 : decode cX4_twice 43 = .ok (.iconst 1, 1) := by decide +kernel
theorem dX4_twice_44 : decode cX4_twice 44 = .ok (.ireturn, 1) := by decide +kernel
theorem dX4_silent_0 : decode cX4_silent 0 = .ok (.aload_n 0, 1) := by decide +kernel
theorem dX4_silent_1 : decode cX4_silent 1 = .ok (.iload_n 1, 1) := by decide +kernel
theorem dX4_silent_2 : decode cX4_silent 2 = .ok (.invokevirtual 177, 3) := by decide +kernel
theorem dX4_silent_5 : decode cX4_silent 5 = .ok (.ifCond .ne 5, 3) := by decide +kernel
theorem dX4_silent_8 : decode cX4_silent 8 = .ok (.iconst 0, 1) := by decide +kernel
theorem dX4_silent_9 : decode cX4_silent 9 = .ok (.ireturn, 1) := by decide +kernel
theorem dX4_silent_10 : decode cX4_silent 10 = .ok (.aload_n 0, 1) := by decide +kernel
theorem dX4_silent_11 : decode cX4_silent 11 = .ok (.getfield 20, 3) := by decide +kernel
theorem dX4_silent_14 : decode cX4_silent 14 = .ok (.iload_n 1, 1) := by decide +kernel
theorem dX4_silent_15 : decode cX4_silent 15 = .ok (.iload_n 2, 1) := by decide +kernel
theorem dX4_silent_16 : decode cX4_silent 16 = .ok (.bastore, 1) := by decide +kernel
theorem dX4_silent_17 : decode cX4_silent 17 = .ok (.iconst 1, 1) := by decide +kernel
theorem dX4_silent_18 : decode cX4_silent 18 = .ok (.ireturn, 1) := by decide +kernel
theorem dX4_promise_0 : decode cX4_promise 0 = .ok (.aload_n 0, 1) := by decide +kernel
theorem dX4_promise_1 : decode cX4_promise 1 = .ok (.iload_n 1, 1) := by decide +kernel
theorem dX4_promise_2 : decode cX4_promise 2 = .ok (.invokevirtual 177, 3) := by decide +kernel
theorem dX4_promise_5 : decode cX4_promise 5 = .ok (.ifCond .eq 12, 3) := by decide +kernel
theorem dX4_promise_8 : decode cX4_promise 8 = .ok (.aload_n 0, 1) := by decide +kernel
theorem dX4_promise_9 : decode cX4_promise 9 = .ok (.getfield 7, 3) := by decide +kernel
theorem dX4_promise_12 : decode cX4_promise 12 = .ok (.iload_n 1, 1) := by decide +kernel
theorem dX4_promise_13 : decode cX4_promise 13 = .ok (.iaload, 1) := by decide +kernel
theorem dX4_promise_14 : decode cX4_promise 14 = .ok (.goto 4, 3) := by decide +kernel
theorem dX4_promise_17 : decode cX4_promise 17 = .ok (.iconst (-1), 1) := by decide +kernel
theorem dX4_promise_18 : decode cX4_promise 18 = .ok (.ireturn, 1) := by decide +kernel
theorem dX4_vote_0 : decode cX4_vote 0 = .ok (.aload_n 0, 1) := by decide +kernel
theorem dX4_vote_1 : decode cX4_vote 1 = .ok (.iload_n 1, 1) := by decide +kernel
theorem dX4_vote_2 : decode cX4_vote 2 = .ok (.invokevirtual 177, 3) := by decide +kernel
theorem dX4_vote_5 : decode cX4_vote 5 = .ok (.ifCond .eq 24, 3) := by decide +kernel
theorem dX4_vote_8 : decode cX4_vote 8 = .ok (.iload_n 2, 1) := by decide +kernel
theorem dX4_vote_9 : decode cX4_vote 9 = .ok (.invokestatic 148, 3) := by decide +kernel
theorem dX4_vote_12 : decode cX4_vote 12 = .ok (.ifCond .eq 17, 3) := by decide +kernel
theorem dX4_vote_15 : decode cX4_vote 15 = .ok (.aload_n 0, 1) := by decide +kernel
theorem dX4_vote_16 : decode cX4_vote 16 = .ok (.getfield 13, 3) := by decide +kernel
theorem dX4_vote_19 : decode cX4_vote 19 = .ok (.bipush 8, 2) := by decide +kernel
theorem dX4_vote_21 : decode cX4_vote 21 = .ok (.iload_n 1, 1) := by decide +kernel
theorem dX4_vote_22 : decode cX4_vote 22 = .ok (.imul, 1) := by decide +kernel
theorem dX4_vote_23 : decode cX4_vote 23 = .ok (.iload_n 2, 1) := by decide +kernel
theorem dX4_vote_24 : decode cX4_vote 24 = .ok (.iadd, 1) := by decide +kernel
theorem dX4_vote_25 : decode cX4_vote 25 = .ok (.iaload, 1) := by decide +kernel
theorem dX4_vote_26 : decode cX4_vote 26 = .ok (.goto 4, 3) := by decide +kernel
theorem dX4_vote_29 : decode cX4_vote 29 = .ok (.iconst (-1), 1) := by decide +kernel
theorem dX4_vote_30 : decode cX4_vote 30 = .ok (.ireturn, 1) := by decide +kernel
theorem dX4_value_0 : decode cX4_value 0 = .ok (.aload_n 0, 1) := by decide +kernel
theorem dX4_value_1 : decode cX4_value 1 = .ok (.iload_n 1, 1) := by decide +kernel
theorem dX4_value_2 : decode cX4_value 2 = .ok (.invokevirtual 177, 3) := by decide +kernel
theorem dX4_value_5 : decode cX4_value 5 = .ok (.ifCond .eq 24, 3) := by decide +kernel
theorem dX4_value_8 : decode cX4_value 8 = .ok (.iload_n 2, 1) := by decide +kernel
theorem dX4_value_9 : decode cX4_value 9 = .ok (.invokestatic 148, 3) := by decide +kernel
theorem dX4_value_12 : decode cX4_value 12 = .ok (.ifCond .eq 17, 3) := by decide +kernel
theorem dX4_value_15 : decode cX4_value 15 = .ok (.aload_n 0, 1) := by decide +kernel
theorem dX4_value_16 : decode cX4_value 16 = .ok (.getfield 16, 3) := by decide +kernel
theorem dX4_value_19 : decode cX4_value 19 = .ok (.bipush 8, 2) := by decide +kernel
theorem dX4_value_21 : decode cX4_value 21 = .ok (.iload_n 1, 1) := by decide +kernel
theorem dX4_value_22 : decode cX4_value 22 = .ok (.imul, 1) := by decide +kernel
theorem dX4_value_23 : decode cX4_value 23 = .ok (.iload_n 2, 1) := by decide +kernel
theorem dX4_value_24 : decode cX4_value 24 = .ok (.iadd, 1) := by decide +kernel
theorem dX4_value_25 : decode cX4_value 25 = .ok (.laload, 1) := by decide +kernel
theorem dX4_value_26 : decode cX4_value 26 = .ok (.goto 4, 3) := by decide +kernel
theorem dX4_value_29 : decode cX4_value 29 = .ok (.lconst 0, 1) := by decide +kernel
theorem dX4_value_30 : decode cX4_value 30 = .ok (.lreturn, 1) := by decide +kernel
theorem dX4_of_0 : decode cX4_of 0 = .ok (.aload_n 0, 1) := by decide +kernel
theorem dX4_of_1 : decode cX4_of 1 = .ok (.iload_n 1, 1) := by decide +kernel
theorem dX4_of_2 : decode cX4_of 2 = .ok (.invokevirtual 145, 3) := by decide +kernel
theorem dX4_of_5 : decode cX4_of 5 = .ok (.ifCond .ne 5, 3) := by decide +kernel
theorem dX4_of_8 : decode cX4_of 8 = .ok (.iconst (-1), 1) := by decide +kernel
theorem dX4_of_9 : decode cX4_of 9 = .ok (.ireturn, 1) := by decide +kernel
theorem dX4_of_10 : decode cX4_of 10 = .ok (.iload_n 2, 1) := by decide +kernel
theorem dX4_of_11 : decode cX4_of 11 = .ok (.tableswitch 112 0 8 #[49, 56, 63, 70, 77, 84, 91, 98, 105], 49) := by decide +kernel
theorem dX4_of_60 : decode cX4_of 60 = .ok (.aload_n 0, 1) := by decide +kernel
theorem dX4_of_61 : decode cX4_of 61 = .ok (.getfield 24, 3) := by decide +kernel
theorem dX4_of_64 : decode cX4_of 64 = .ok (.iload_n 1, 1) := by decide +kernel
theorem dX4_of_65 : decode cX4_of 65 = .ok (.iaload, 1) := by decide +kernel
theorem dX4_of_66 : decode cX4_of 66 = .ok (.ireturn, 1) := by decide +kernel
theorem dX4_of_67 : decode cX4_of 67 = .ok (.aload_n 0, 1) := by decide +kernel
theorem dX4_of_68 : decode cX4_of 68 = .ok (.getfield 27, 3) := by decide +kernel
theorem dX4_of_71 : decode cX4_of 71 = .ok (.iload_n 1, 1) := by decide +kernel
theorem dX4_of_72 : decode cX4_of 72 = .ok (.iaload, 1) := by decide +kernel
theorem dX4_of_73 : decode cX4_of 73 = .ok (.ireturn, 1) := by decide +kernel
theorem dX4_of_74 : decode cX4_of 74 = .ok (.aload_n 0, 1) := by decide +kernel
theorem dX4_of_75 : decode cX4_of 75 = .ok (.getfield 30, 3) := by decide +kernel
theorem dX4_of_78 : decode cX4_of 78 = .ok (.iload_n 1, 1) := by decide +kernel
theorem dX4_of_79 : decode cX4_of 79 = .ok (.iaload, 1) := by decide +kernel
theorem dX4_of_80 : decode cX4_of 80 = .ok (.ireturn, 1) := by decide +kernel
theorem dX4_of_81 : decode cX4_of 81 = .ok (.aload_n 0, 1) := by decide +kernel
theorem dX4_of_82 : decode cX4_of 82 = .ok (.getfield 33, 3) := by decide +kernel
theorem dX4_of_85 : decode cX4_of 85 = .ok (.iload_n 1, 1) := by decide +kernel
theorem dX4_of_86 : decode cX4_of 86 = .ok (.iaload, 1) := by decide +kernel
theorem dX4_of_87 : decode cX4_of 87 = .ok (.ireturn, 1) := by decide +kernel
theorem dX4_of_88 : decode cX4_of 88 = .ok (.aload_n 0, 1) := by decide +kernel
theorem dX4_of_89 : decode cX4_of 89 = .ok (.getfield 36, 3) := by decide +kernel
theorem dX4_of_92 : decode cX4_of 92 = .ok (.iload_n 1, 1) := by decide +kernel
theorem dX4_of_93 : decode cX4_of 93 = .ok (.iaload, 1) := by decide +kernel
theorem dX4_of_94 : decode cX4_of 94 = .ok (.ireturn, 1) := by decide +kernel
theorem dX4_of_95 : decode cX4_of 95 = .ok (.aload_n 0, 1) := by decide +kernel
theorem dX4_of_96 : decode cX4_of 96 = .ok (.getfield 39, 3) := by decide +kernel
theorem dX4_of_99 : decode cX4_of 99 = .ok (.iload_n 1, 1) := by decide +kernel
theorem dX4_of_100 : decode cX4_of 100 = .ok (.iaload, 1) := by decide +kernel
theorem dX4_of_101 : decode cX4_of 101 = .ok (.ireturn, 1) := by decide +kernel
theorem dX4_of_102 : decode cX4_of 102 = .ok (.aload_n 0, 1) := by decide +kernel
theorem dX4_of_103 : decode cX4_of 103 = .ok (.getfield 42, 3) := by decide +kernel
theorem dX4_of_106 : decode cX4_of 106 = .ok (.iload_n 1, 1) := by decide +kernel
theorem dX4_of_107 : decode cX4_of 107 = .ok (.iaload, 1) := by decide +kernel
theorem dX4_of_108 : decode cX4_of 108 = .ok (.ireturn, 1) := by decide +kernel
theorem dX4_of_109 : decode cX4_of 109 = .ok (.aload_n 0, 1) := by decide +kernel
theorem dX4_of_110 : decode cX4_of 110 = .ok (.getfield 45, 3) := by decide +kernel
theorem dX4_of_113 : decode cX4_of 113 = .ok (.iload_n 1, 1) := by decide +kernel
theorem dX4_of_114 : decode cX4_of 114 = .ok (.iaload, 1) := by decide +kernel
theorem dX4_of_115 : decode cX4_of 115 = .ok (.ireturn, 1) := by decide +kernel
theorem dX4_of_116 : decode cX4_of 116 = .ok (.aload_n 0, 1) := by decide +kernel
theorem dX4_of_117 : decode cX4_of 117 = .ok (.getfield 48, 3) := by decide +kernel
theorem dX4_of_120 : decode cX4_of 120 = .ok (.iload_n 1, 1) := by decide +kernel
theorem dX4_of_121 : decode cX4_of 121 = .ok (.iaload, 1) := by decide +kernel
theorem dX4_of_122 : decode cX4_of 122 = .ok (.ireturn, 1) := by decide +kernel
theorem dX4_of_123 : decode cX4_of 123 = .ok (.iconst (-1), 1) := by decide +kernel
theorem dX4_of_124 : decode cX4_of 124 = .ok (.ireturn, 1) := by decide +kernel
theorem dX4_answered_0 : decode cX4_answered 0 = .ok (.aload_n 0, 1) := by decide +kernel
theorem dX4_answered_1 : decode cX4_answered 1 = .ok (.iload_n 1, 1) := by decide +kernel
theorem dX4_answered_2 : decode cX4_answered 2 = .ok (.invokevirtual 145, 3) := by decide +kernel
theorem dX4_answered_5 : decode cX4_answered 5 = .ok (.ifCond .eq 24, 3) := by decide +kernel
theorem dX4_answered_8 : decode cX4_answered 8 = .ok (.iload_n 2, 1) := by decide +kernel
theorem dX4_answered_9 : decode cX4_answered 9 = .ok (.invokestatic 148, 3) := by decide +kernel
theorem dX4_answered_12 : decode cX4_answered 12 = .ok (.ifCond .eq 17, 3) := by decide +kernel
theorem dX4_answered_15 : decode cX4_answered 15 = .ok (.aload_n 0, 1) := by decide +kernel
theorem dX4_answered_16 : decode cX4_answered 16 = .ok (.getfield 54, 3) := by decide +kernel
theorem dX4_answered_19 : decode cX4_answered 19 = .ok (.bipush 8, 2) := by decide +kernel
theorem dX4_answered_21 : decode cX4_answered 21 = .ok (.iload_n 1, 1) := by decide +kernel
theorem dX4_answered_22 : decode cX4_answered 22 = .ok (.imul, 1) := by decide +kernel
theorem dX4_answered_23 : decode cX4_answered 23 = .ok (.iload_n 2, 1) := by decide +kernel
theorem dX4_answered_24 : decode cX4_answered 24 = .ok (.iadd, 1) := by decide +kernel
theorem dX4_answered_25 : decode cX4_answered 25 = .ok (.iaload, 1) := by decide +kernel
theorem dX4_answered_26 : decode cX4_answered 26 = .ok (.goto 4, 3) := by decide +kernel
theorem dX4_answered_29 : decode cX4_answered 29 = .ok (.iconst (-1), 1) := by decide +kernel
theorem dX4_answered_30 : decode cX4_answered 30 = .ok (.ireturn, 1) := by decide +kernel
theorem dX4_said_0 : decode cX4_said 0 = .ok (.aload_n 0, 1) := by decide +kernel
theorem dX4_said_1 : decode cX4_said 1 = .ok (.iload_n 1, 1) := by decide +kernel
theorem dX4_said_2 : decode cX4_said 2 = .ok (.invokevirtual 145, 3) := by decide +kernel
theorem dX4_said_5 : decode cX4_said 5 = .ok (.ifCond .eq 24, 3) := by decide +kernel
theorem dX4_said_8 : decode cX4_said 8 = .ok (.iload_n 2, 1) := by decide +kernel
theorem dX4_said_9 : decode cX4_said 9 = .ok (.invokestatic 148, 3) := by decide +kernel
theorem dX4_said_12 : decode cX4_said 12 = .ok (.ifCond .eq 17, 3) := by decide +kernel
theorem dX4_said_15 : decode cX4_said 15 = .ok (.aload_n 0, 1) := by decide +kernel
theorem dX4_said_16 : decode cX4_said 16 = .ok (.getfield 60, 3) := by decide +kernel
theorem dX4_said_19 : decode cX4_said 19 = .ok (.bipush 8, 2) := by decide +kernel
theorem dX4_said_21 : decode cX4_said 21 = .ok (.iload_n 1, 1) := by decide +kernel
theorem dX4_said_22 : decode cX4_said 22 = .ok (.imul, 1) := by decide +kernel
theorem dX4_said_23 : decode cX4_said 23 = .ok (.iload_n 2, 1) := by decide +kernel
theorem dX4_said_24 : decode cX4_said 24 = .ok (.iadd, 1) := by decide +kernel
theorem dX4_said_25 : decode cX4_said 25 = .ok (.laload, 1) := by decide +kernel
theorem dX4_said_26 : decode cX4_said 26 = .ok (.goto 4, 3) := by decide +kernel
theorem dX4_said_29 : decode cX4_said 29 = .ok (.lconst 0, 1) := by decide +kernel
theorem dX4_said_30 : decode cX4_said 30 = .ok (.lreturn, 1) := by decide +kernel
theorem dX4_isChosen_0 : decode cX4_isChosen 0 = .ok (.aload_n 0, 1) := by decide +kernel
theorem dX4_isChosen_1 : decode cX4_isChosen 1 = .ok (.getfield 57, 3) := by decide +kernel
theorem dX4_isChosen_4 : decode cX4_isChosen 4 = .ok (.bipush 8, 2) := by decide +kernel
theorem dX4_isChosen_6 : decode cX4_isChosen 6 = .ok (.iload_n 1, 1) := by decide +kernel
theorem dX4_isChosen_7 : decode cX4_isChosen 7 = .ok (.imul, 1) := by decide +kernel
theorem dX4_isChosen_8 : decode cX4_isChosen 8 = .ok (.iload_n 2, 1) := by decide +kernel
theorem dX4_isChosen_9 : decode cX4_isChosen 9 = .ok (.iadd, 1) := by decide +kernel
theorem dX4_isChosen_10 : decode cX4_isChosen 10 = .ok (.iaload, 1) := by decide +kernel
theorem dX4_isChosen_11 : decode cX4_isChosen 11 = .ok (.aload_n 0, 1) := by decide +kernel
theorem dX4_isChosen_12 : decode cX4_isChosen 12 = .ok (.getfield 27, 3) := by decide +kernel
theorem dX4_isChosen_15 : decode cX4_isChosen 15 = .ok (.iload_n 1, 1) := by decide +kernel
theorem dX4_isChosen_16 : decode cX4_isChosen 16 = .ok (.iaload, 1) := by decide +kernel
theorem dX4_isChosen_17 : decode cX4_isChosen 17 = .ok (.iand, 1) := by decide +kernel
theorem dX4_isChosen_18 : decode cX4_isChosen 18 = .ok (.invokestatic 107, 3) := by decide +kernel
theorem dX4_isChosen_21 : decode cX4_isChosen 21 = .ok (.aload_n 0, 1) := by decide +kernel
theorem dX4_isChosen_22 : decode cX4_isChosen 22 = .ok (.getfield 33, 3) := by decide +kernel
theorem dX4_isChosen_25 : decode cX4_isChosen 25 = .ok (.iload_n 1, 1) := by decide +kernel
theorem dX4_isChosen_26 : decode cX4_isChosen 26 = .ok (.iaload, 1) := by decide +kernel
theorem dX4_isChosen_27 : decode cX4_isChosen 27 = .ok (.if_icmp .lt 7, 3) := by decide +kernel
theorem dX4_isChosen_30 : decode cX4_isChosen 30 = .ok (.iconst 1, 1) := by decide +kernel
theorem dX4_isChosen_31 : decode cX4_isChosen 31 = .ok (.goto 4, 3) := by decide +kernel
theorem dX4_isChosen_34 : decode cX4_isChosen 34 = .ok (.iconst 0, 1) := by decide +kernel
theorem dX4_isChosen_35 : decode cX4_isChosen 35 = .ok (.ireturn, 1) := by decide +kernel
theorem dX4_chosen_0 : decode cX4_chosen 0 = .ok (.iconst 1, 1) := by decide +kernel
theorem dX4_chosen_1 : decode cX4_chosen 1 = .ok (.istore_n 2, 1) := by decide +kernel
theorem dX4_chosen_2 : decode cX4_chosen 2 = .ok (.iload_n 2, 1) := by decide +kernel
theorem dX4_chosen_3 : decode cX4_chosen 3 = .ok (.aload_n 0, 1) := by decide +kernel
theorem dX4_chosen_4 : decode cX4_chosen 4 = .ok (.getfield 94, 3) := by decide +kernel
theorem dX4_chosen_7 : decode cX4_chosen 7 = .ok (.if_icmp .gt 27, 3) := by decide +kernel
theorem dX4_chosen_10 : decode cX4_chosen 10 = .ok (.iload_n 1, 1) := by decide +kernel
theorem dX4_chosen_11 : decode cX4_chosen 11 = .ok (.invokestatic 148, 3) := by decide +kernel
theorem dX4_chosen_14 : decode cX4_chosen 14 = .ok (.ifCond .eq 20, 3) := by decide +kernel
theorem dX4_chosen_17 : decode cX4_chosen 17 = .ok (.aload_n 0, 1) := by decide +kernel
theorem dX4_chosen_18 : decode cX4_chosen 18 = .ok (.iload_n 2, 1) := by decide +kernel
theorem dX4_chosen_19 : decode cX4_chosen 19 = .ok (.iload_n 1, 1) := by decide +kernel
theorem dX4_chosen_20 : decode cX4_chosen 20 = .ok (.invokevirtual 180, 3) := by decide +kernel
theorem dX4_chosen_23 : decode cX4_chosen 23 = .ok (.ifCond .eq 5, 3) := by decide +kernel
theorem dX4_chosen_26 : decode cX4_chosen 26 = .ok (.iload_n 2, 1) := by decide +kernel
theorem dX4_chosen_27 : decode cX4_chosen 27 = .ok (.ireturn, 1) := by decide +kernel
theorem dX4_chosen_28 : decode cX4_chosen 28 = .ok (.iinc 2 1, 3) := by decide +kernel
theorem dX4_chosen_31 : decode cX4_chosen 31 = .ok (.goto (-29), 3) := by decide +kernel
theorem dX4_chosen_34 : decode cX4_chosen 34 = .ok (.iconst (-1), 1) := by decide +kernel
theorem dX4_chosen_35 : decode cX4_chosen 35 = .ok (.ireturn, 1) := by decide +kernel
theorem dX4_chosenValue_0 : decode cX4_chosenValue 0 = .ok (.aload_n 0, 1) := by decide +kernel
theorem dX4_chosenValue_1 : decode cX4_chosenValue 1 = .ok (.iload_n 1, 1) := by decide +kernel
theorem dX4_chosenValue_2 : decode cX4_chosenValue 2 = .ok (.invokevirtual 184, 3) := by decide +kernel
theorem dX4_chosenValue_5 : decode cX4_chosenValue 5 = .ok (.istore_n 2, 1) := by decide +kernel
theorem dX4_chosenValue_6 : decode cX4_chosenValue 6 = .ok (.iload_n 2, 1) := by decide +kernel
theorem dX4_chosenValue_7 : decode cX4_chosenValue 7 = .ok (.ifCond .ge 7, 3) := by decide +kernel
theorem dX4_chosenValue_10 : decode cX4_chosenValue 10 = .ok (.lconst 0, 1) := by decide +kernel
theorem dX4_chosenValue_11 : decode cX4_chosenValue 11 = .ok (.goto 14, 3) := by decide +kernel
theorem dX4_chosenValue_14 : decode cX4_chosenValue 14 = .ok (.aload_n 0, 1) := by decide +kernel
theorem dX4_chosenValue_15 : decode cX4_chosenValue 15 = .ok (.getfield 60, 3) := by decide +kernel
theorem dX4_chosenValue_18 : decode cX4_chosenValue 18 = .ok (.bipush 8, 2) := by decide +kernel
theorem dX4_chosenValue_20 : decode cX4_chosenValue 20 = .ok (.iload_n 2, 1) := by decide +kernel
theorem dX4_chosenValue_21 : decode cX4_chosenValue 21 = .ok (.imul, 1) := by decide +kernel
theorem dX4_chosenValue_22 : decode cX4_chosenValue 22 = .ok (.iload_n 1, 1) := by decide +kernel
theorem dX4_chosenValue_23 : decode cX4_chosenValue 23 = .ok (.iadd, 1) := by decide +kernel
theorem dX4_chosenValue_24 : decode cX4_chosenValue 24 = .ok (.laload, 1) := by decide +kernel
theorem dX4_chosenValue_25 : decode cX4_chosenValue 25 = .ok (.lreturn, 1) := by decide +kernel
theorem dX4_isOne_0 : decode cX4_isOne 0 = .ok (.iconst 1, 1) := by decide +kernel
theorem dX4_isOne_1 : decode cX4_isOne 1 = .ok (.istore_n 2, 1) := by decide +kernel
theorem dX4_isOne_2 : decode cX4_isOne 2 = .ok (.iconst 1, 1) := by decide +kernel
theorem dX4_isOne_3 : decode cX4_isOne 3 = .ok (.istore_n 3, 1) := by decide +kernel
theorem dX4_isOne_4 : decode cX4_isOne 4 = .ok (.iload_n 3, 1) := by decide +kernel
theorem dX4_isOne_5 : decode cX4_isOne 5 = .ok (.aload_n 0, 1) := by decide +kernel
theorem dX4_isOne_6 : decode cX4_isOne 6 = .ok (.getfield 94, 3) := by decide +kernel
theorem dX4_isOne_9 : decode cX4_isOne 9 = .ok (.if_icmp .gt 55, 3) := by decide +kernel
theorem dX4_isOne_12 : decode cX4_isOne 12 = .ok (.iload_n 1, 1) := by decide +kernel
theorem dX4_isOne_13 : decode cX4_isOne 13 = .ok (.invokestatic 148, 3) := by decide +kernel
theorem dX4_isOne_16 : decode cX4_isOne 16 = .ok (.ifCond .eq 48, 3) := by decide +kernel
theorem dX4_isOne_19 : decode cX4_isOne 19 = .ok (.aload_n 0, 1) := by decide +kernel
theorem dX4_isOne_20 : decode cX4_isOne 20 = .ok (.iload_n 3, 1) := by decide +kernel
theorem dX4_isOne_21 : decode cX4_isOne 21 = .ok (.iload_n 1, 1) := by decide +kernel
theorem dX4_isOne_22 : decode cX4_isOne 22 = .ok (.invokevirtual 180, 3) := by decide +kernel
theorem dX4_isOne_25 : decode cX4_isOne 25 = .ok (.ifCond .eq 33, 3) := by decide +kernel
theorem dX4_isOne_28 : decode cX4_isOne 28 = .ok (.iload_n 2, 1) := by decide +kernel
theorem dX4_isOne_29 : decode cX4_isOne 29 = .ok (.ifCond .eq 27, 3) := by decide +kernel
theorem dX4_isOne_32 : decode cX4_isOne 32 = .ok (.aload_n 0, 1) := by decide +kernel
theorem dX4_isOne_33 : decode cX4_isOne 33 = .ok (.getfield 60, 3) := by decide +kernel
theorem dX4_isOne_36 : decode cX4_isOne 36 = .ok (.bipush 8, 2) := by decide +kernel
theorem dX4_isOne_38 : decode cX4_isOne 38 = .ok (.iload_n 3, 1) := by decide +kernel
theorem dX4_isOne_39 : decode cX4_isOne 39 = .ok (.imul, 1) := by decide +kernel
theorem dX4_isOne_40 : decode cX4_isOne 40 = .ok (.iload_n 1, 1) := by decide +kernel
theorem dX4_isOne_41 : decode cX4_isOne 41 = .ok (.iadd, 1) := by decide +kernel
theorem dX4_isOne_42 : decode cX4_isOne 42 = .ok (.laload, 1) := by decide +kernel
theorem dX4_isOne_43 : decode cX4_isOne 43 = .ok (.aload_n 0, 1) := by decide +kernel
theorem dX4_isOne_44 : decode cX4_isOne 44 = .ok (.iload_n 1, 1) := by decide +kernel
theorem dX4_isOne_45 : decode cX4_isOne 45 = .ok (.invokevirtual 187, 3) := by decide +kernel
theorem dX4_isOne_48 : decode cX4_isOne 48 = .ok (.lcmp, 1) := by decide +kernel
theorem dX4_isOne_49 : decode cX4_isOne 49 = .ok (.ifCond .ne 7, 3) := by decide +kernel
theorem dX4_isOne_52 : decode cX4_isOne 52 = .ok (.iconst 1, 1) := by decide +kernel
theorem dX4_isOne_53 : decode cX4_isOne 53 = .ok (.goto 4, 3) := by decide +kernel
theorem dX4_isOne_56 : decode cX4_isOne 56 = .ok (.iconst 0, 1) := by decide +kernel
theorem dX4_isOne_57 : decode cX4_isOne 57 = .ok (.istore_n 2, 1) := by decide +kernel
theorem dX4_isOne_58 : decode cX4_isOne 58 = .ok (.iinc 3 1, 3) := by decide +kernel
theorem dX4_isOne_61 : decode cX4_isOne 61 = .ok (.goto (-57), 3) := by decide +kernel
theorem dX4_isOne_64 : decode cX4_isOne 64 = .ok (.iload_n 2, 1) := by decide +kernel
theorem dX4_isOne_65 : decode cX4_isOne 65 = .ok (.ireturn, 1) := by decide +kernel
theorem dX4_air_0 : decode cX4_air 0 = .ok (.iload_n 1, 1) := by decide +kernel
theorem dX4_air_1 : decode cX4_air 1 = .ok (.ifCond .lt 11, 3) := by decide +kernel
theorem dX4_air_4 : decode cX4_air 4 = .ok (.iload_n 1, 1) := by decide +kernel
theorem dX4_air_5 : decode cX4_air 5 = .ok (.aload_n 0, 1) := by decide +kernel
theorem dX4_air_6 : decode cX4_air 6 = .ok (.getfield 97, 3) := by decide +kernel
theorem dX4_air_9 : decode cX4_air 9 = .ok (.if_icmp .lt 5, 3) := by decide +kernel
theorem dX4_air_12 : decode cX4_air 12 = .ok (.iconst (-1), 1) := by decide +kernel
theorem dX4_air_13 : decode cX4_air 13 = .ok (.ireturn, 1) := by decide +kernel
theorem dX4_air_14 : decode cX4_air 14 = .ok (.iload_n 2, 1) := by decide +kernel
theorem dX4_air_15 : decode cX4_air 15 = .ok (.tableswitch 107 0 4 #[33, 40, 47, 54, 61], 33) := by decide +kernel
theorem dX4_air_48 : decode cX4_air 48 = .ok (.aload_n 0, 1) := by decide +kernel
theorem dX4_air_49 : decode cX4_air 49 = .ok (.getfield 63, 3) := by decide +kernel
theorem dX4_air_52 : decode cX4_air 52 = .ok (.iload_n 1, 1) := by decide +kernel
theorem dX4_air_53 : decode cX4_air 53 = .ok (.iaload, 1) := by decide +kernel
theorem dX4_air_54 : decode cX4_air 54 = .ok (.ireturn, 1) := by decide +kernel
theorem dX4_air_55 : decode cX4_air 55 = .ok (.aload_n 0, 1) := by decide +kernel
theorem dX4_air_56 : decode cX4_air 56 = .ok (.getfield 66, 3) := by decide +kernel
theorem dX4_air_59 : decode cX4_air 59 = .ok (.iload_n 1, 1) := by decide +kernel
theorem dX4_air_60 : decode cX4_air 60 = .ok (.iaload, 1) := by decide +kernel
theorem dX4_air_61 : decode cX4_air 61 = .ok (.ireturn, 1) := by decide +kernel
theorem dX4_air_62 : decode cX4_air 62 = .ok (.aload_n 0, 1) := by decide +kernel
theorem dX4_air_63 : decode cX4_air 63 = .ok (.getfield 69, 3) := by decide +kernel
theorem dX4_air_66 : decode cX4_air 66 = .ok (.iload_n 1, 1) := by decide +kernel
theorem dX4_air_67 : decode cX4_air 67 = .ok (.iaload, 1) := by decide +kernel
theorem dX4_air_68 : decode cX4_air 68 = .ok (.ireturn, 1) := by decide +kernel
theorem dX4_air_69 : decode cX4_air 69 = .ok (.aload_n 0, 1) := by decide +kernel
theorem dX4_air_70 : decode cX4_air 70 = .ok (.getfield 72, 3) := by decide +kernel
theorem dX4_air_73 : decode cX4_air 73 = .ok (.iload_n 1, 1) := by decide +kernel
theorem dX4_air_74 : decode cX4_air 74 = .ok (.iaload, 1) := by decide +kernel
theorem dX4_air_75 : decode cX4_air 75 = .ok (.ireturn, 1) := by decide +kernel
theorem dX4_air_76 : decode cX4_air 76 = .ok (.iconst 0, 1) := by decide +kernel
theorem dX4_air_77 : decode cX4_air 77 = .ok (.istore_n 3, 1) := by decide +kernel
theorem dX4_air_78 : decode cX4_air 78 = .ok (.iconst 0, 1) := by decide +kernel
theorem dX4_air_79 : decode cX4_air 79 = .ok (.istore 4, 2) := by decide +kernel
theorem dX4_air_81 : decode cX4_air 81 = .ok (.iload 4, 2) := by decide +kernel
theorem dX4_air_83 : decode cX4_air 83 = .ok (.bipush 8, 2) := by decide +kernel
theorem dX4_air_85 : decode cX4_air 85 = .ok (.if_icmp .ge 35, 3) := by decide +kernel
theorem dX4_air_88 : decode cX4_air 88 = .ok (.iload_n 3, 1) := by decide +kernel
theorem dX4_air_89 : decode cX4_air 89 = .ok (.aload_n 0, 1) := by decide +kernel
theorem dX4_air_90 : decode cX4_air 90 = .ok (.getfield 75, 3) := by decide +kernel
theorem dX4_air_93 : decode cX4_air 93 = .ok (.bipush 8, 2) := by decide +kernel
theorem dX4_air_95 : decode cX4_air 95 = .ok (.iload_n 1, 1) := by decide +kernel
theorem dX4_air_96 : decode cX4_air 96 = .ok (.imul, 1) := by decide +kernel
theorem dX4_air_97 : decode cX4_air 97 = .ok (.iload 4, 2) := by decide +kernel
theorem dX4_air_99 : decode cX4_air 99 = .ok (.iadd, 1) := by decide +kernel
theorem dX4_air_100 : decode cX4_air 100 = .ok (.iaload, 1) := by decide +kernel
theorem dX4_air_101 : decode cX4_air 101 = .ok (.ifCond .le 10, 3) := by decide +kernel
theorem dX4_air_104 : decode cX4_air 104 = .ok (.iconst 1, 1) := by decide +kernel
theorem dX4_air_105 : decode cX4_air 105 = .ok (.iload 4, 2) := by decide +kernel
theorem dX4_air_107 : decode cX4_air 107 = .ok (.ishl, 1) := by decide +kernel
theorem dX4_air_108 : decode cX4_air 108 = .ok (.goto 4, 3) := by decide +kernel
theorem dX4_air_111 : decode cX4_air 111 = .ok (.iconst 0, 1) := by decide +kernel
theorem dX4_air_112 : decode cX4_air 112 = .ok (.ior, 1) := by decide +kernel
theorem dX4_air_113 : decode cX4_air 113 = .ok (.istore_n 3, 1) := by decide +kernel
theorem dX4_air_114 : decode cX4_air 114 = .ok (.iinc 4 1, 3) := by decide +kernel
theorem dX4_air_117 : decode cX4_air 117 = .ok (.goto (-36), 3) := by decide +kernel
theorem dX4_air_120 : decode cX4_air 120 = .ok (.iload_n 3, 1) := by decide +kernel
theorem dX4_air_121 : decode cX4_air 121 = .ok (.ireturn, 1) := by decide +kernel
theorem dX4_air_122 : decode cX4_air 122 = .ok (.iconst (-1), 1) := by decide +kernel
theorem dX4_air_123 : decode cX4_air 123 = .ok (.ireturn, 1) := by decide +kernel
theorem dX4_about_0 : decode cX4_about 0 = .ok (.iload_n 1, 1) := by decide +kernel
theorem dX4_about_1 : decode cX4_about 1 = .ok (.tableswitch 60 0 4 #[35, 40, 45, 50, 55], 35) := by decide +kernel
theorem dX4_about_36 : decode cX4_about 36 = .ok (.aload_n 0, 1) := by decide +kernel
theorem dX4_about_37 : decode cX4_about 37 = .ok (.getfield 90, 3) := by decide +kernel
theorem dX4_about_40 : decode cX4_about 40 = .ok (.ireturn, 1) := by decide +kernel
theorem dX4_about_41 : decode cX4_about 41 = .ok (.aload_n 0, 1) := by decide +kernel
theorem dX4_about_42 : decode cX4_about 42 = .ok (.getfield 94, 3) := by decide +kernel
theorem dX4_about_45 : decode cX4_about 45 = .ok (.ireturn, 1) := by decide +kernel
theorem dX4_about_46 : decode cX4_about 46 = .ok (.aload_n 0, 1) := by decide +kernel
theorem dX4_about_47 : decode cX4_about 47 = .ok (.getfield 111, 3) := by decide +kernel
theorem dX4_about_50 : decode cX4_about 50 = .ok (.ireturn, 1) := by decide +kernel
theorem dX4_about_51 : decode cX4_about 51 = .ok (.aload_n 0, 1) := by decide +kernel
theorem dX4_about_52 : decode cX4_about 52 = .ok (.getfield 97, 3) := by decide +kernel
theorem dX4_about_55 : decode cX4_about 55 = .ok (.ireturn, 1) := by decide +kernel
theorem dX4_about_56 : decode cX4_about 56 = .ok (.aload_n 0, 1) := by decide +kernel
theorem dX4_about_57 : decode cX4_about 57 = .ok (.getfield 100, 3) := by decide +kernel
theorem dX4_about_60 : decode cX4_about 60 = .ok (.ireturn, 1) := by decide +kernel
theorem dX4_about_61 : decode cX4_about 61 = .ok (.iconst (-1), 1) := by decide +kernel
theorem dX4_about_62 : decode cX4_about 62 = .ok (.ireturn, 1) := by decide +kernel
end
section
/-! my own rows: worlds as lists that a state spells, calls over whole worlds, whole numbers by Nat -/
abbrev bh_C : Type := ClassId × ClassId × ClassId × ClassId
def bh_ty (c : bh_C) : List (ClassId × FieldType) := [(c.1, .int), (c.2.1, .long), (c.2.2.1, .boolean), (c.2.2.2, .object "BallotHouse$Ballot")]
def bh_N (U : State) : Prop := va_Nw (.methodLinkNest RX3 38 yX0_init "BallotHouse") U ∧ va_Nw (.methodLinkNest RX1 53 yX3_isPlace "BallotHouse") U ∧ va_AO "BallotHouse$Ballot" U
def bh_K (D : va_G) (c : bh_C) (U : State) : Prop := va_K D vwCl (bh_ty c) U ∧ bh_N U
theorem bh_K.moved {D : va_G} {c : bh_C} {s U : State} (hW : s.WarmedH U.vm) (h : bh_K D c s) : bh_K D c U := ⟨va_K.moved hW.alike h.1, va_Nw.warmM hW h.2.1, va_Nw.warmM hW h.2.2.1, va_AO.moved hW.alike h.2.2.2⟩
theorem bh_K.same {D : va_G} {c : bh_C} {u U : State} (hv : u.vm = U.vm) (h : bh_K D c u) : bh_K D c U := ⟨va_K.moved (by rw [hv]; exact Vm.Alike.refl U.vm) h.1, va_Nw.same rfl hv h.2.1, va_Nw.same rfl hv h.2.2.1, va_AO.moved (by rw [hv]; exact Vm.Alike.refl U.vm) h.2.2.2⟩
def bh_I (D : va_G) (ws : va_W) (A : Nat → Prop) (H0 H : Heap) (locs : List Loc) : Prop := va_P D vwCl ws H ∧ va_D A ws ∧ va_S A H0 H locs
def bh_pre (D : va_G) (cy : bh_C) (ws : va_W) (U : State) : Prop := va_P D vwCl ws U.heap ∧ bh_K D cy U ∧ va_D (fun _ => True) ws
def bh_prm (D : va_G) (cy : bh_C) (ws : va_W) (sz : Nat) (U : State) : Prop := U.heap.size = sz ∧ va_P D vwCl ws U.heap ∧ bh_K D cy U ∧ va_D (fun _ => True) ws
def bh_post (D : va_G) (cy : bh_C) (ws : va_W) (A : Nat → Prop) (t : State) : Prop := va_P D vwCl ws t.heap ∧ bh_K D cy t ∧ va_D A ws
theorem bh_start {D : va_G} {ws : va_W} {H : Heap} (hP : va_P D vwCl ws H) (hD : va_D (fun _ => True) ws) : bh_I D ws (va_A ws H.size) H H [] := ⟨hP, hD.self, va_S.rf⟩
theorem bh_free {D : va_G} {ws : va_W} {A : Nat → Prop} {H0 H : Heap} {locs : List Loc} (hI : bh_I D ws A H0 H locs) (hA : ∀ q, H0.size ≤ q → A q) : ∀ q, va_A ws H.size q → A q := by
  intro q h
  rcases h with ⟨k, e, h⟩ | h
  · exact hI.2.1.2 k (q, e) h
  · exact hA q (Nat.le_trans hI.2.2.1 h)
theorem bh_blind {D : va_G} {cy : bh_C} {ws : va_W} {av : List Value} : FrameBlind (va_Pc av (bh_pre D cy ws)) := fun a U g mk q => ⟨q.1, q.2.1, bh_K.same (u := U) (U := U.calling g mk a) rfl q.2.2.1, q.2.2.2⟩
theorem bh_blindm {D : va_G} {cy : bh_C} {ws : va_W} {av : List Value} {sz : Nat} : FrameBlind (va_Pc av (bh_prm D cy ws sz)) := fun a U g mk q => ⟨q.1, q.2.1, q.2.2.1, bh_K.same (u := U) (U := U.calling g mk a) rfl q.2.2.2.1, q.2.2.2.2⟩
theorem bh_blind0 {av : List Value} : FrameBlind (va_Pc av (fun _ => True)) := fun _ _ _ _ q => q
section BHR
variable {p : Program} {l : Launch} {e : Env} {R : Room} {s : State} {m : MethodId} {args : Array Value} {below : List Frame} {meth : Method} {c : Code} {H : Heap} {locs : List Loc} {cells slots : Nat} {Q : State → Prop}
variable {cc bytes : ByteArray} {pc : Nat} {ls : Array Slot} {rest : List Value} {D : va_G} {A : Nat → Prop} {a : Nat} {cy : bh_C} {ws : va_W} {H0 : Heap}
variable {y : MethodName} {maxL nL n index : Nat} {ret : Option FieldType} {wsy Ts : List Cond} {rm : Room} {own C : String} {b : Addr} {As : List Value}
-- loops
theorem bh_loop {σ : Type} (I : σ → Heap → List Loc → Array Slot → Prop) (μ : σ → Nat) (hs : ∀ (x : σ) (H : Heap) (locs : List Loc) (ls : Array Slot), I x H locs ls → (∀ (y : σ) (H' : Heap) (locs' : List Loc) (ls' : Array Slot), I y H' locs' ls' → μ y < μ x → W p l e R s m args below meth c H' locs' cells slots Q (F0 m pc ls' [])) → W p l e R s m args below meth c H locs cells slots Q (F0 m pc ls [])) : ∀ (x : σ) (H : Heap) (locs : List Loc) (ls : Array Slot), I x H locs ls → W p l e R s m args below meth c H locs cells slots Q (F0 m pc ls []) := by
  have key : ∀ (k : Nat) (x : σ) (H : Heap) (locs : List Loc) (ls : Array Slot), μ x < k → I x H locs ls → W p l e R s m args below meth c H locs cells slots Q (F0 m pc ls []) := by
    intro k
    induction k with
    | zero => intro x H locs ls h; exact absurd h (Nat.not_lt_zero _)
    | succ k ih =>
      intro x H locs ls h hI
      exact hs x H locs ls hI (fun y H' locs' ls' hI' hy => ih y H' locs' ls' (by omega) hI')
  intro x H locs ls hI
  exact key (μ x + 1) x H locs ls (by omega) hI
-- arithmetic on naturals
theorem bn_imul (hx : p.tables.exec = Jvm.exec) (hb : c.code = cc) {u v : Nat} (hdg : decode cc pc = .ok (.imul, 1)) (k : W p l e R s m args below meth c H locs cells slots Q (F0 m (pc + 1) ls (.int (nI (u * v)) :: rest))) : W p l e R s m args below meth c H locs cells slots Q (F0 m pc ls (.int (nI v) :: .int (nI u) :: rest)) := lv_imul hx hb hdg (by rw [pk_mul]; exact k)
theorem bn_iadd (hx : p.tables.exec = Jvm.exec) (hb : c.code = cc) {u v : Nat} (hdg : decode cc pc = .ok (.iadd, 1)) (k : W p l e R s m args below meth c H locs cells slots Q (F0 m (pc + 1) ls (.int (nI (u + v)) :: rest))) : W p l e R s m args below meth c H locs cells slots Q (F0 m pc ls (.int (nI v) :: .int (nI u) :: rest)) := lv_iadd hx hb hdg (by rw [nI_add]; exact k)
theorem bn_isub (hx : p.tables.exec = Jvm.exec) (hb : c.code = cc) {u v : Nat} (h : v ≤ u) (hdg : decode cc pc = .ok (.isub, 1)) (k : W p l e R s m args below meth c H locs cells slots Q (F0 m (pc + 1) ls (.int (nI (u - v)) :: rest))) : W p l e R s m args below meth c H locs cells slots Q (F0 m pc ls (.int (nI v) :: .int (nI u) :: rest)) := lv_isub hx hb hdg (by rw [pk_sub h]; exact k)
theorem bn_cmp_eq (hx : p.tables.exec = Jvm.exec) (hb : c.code = cc) {u v : Nat} {off : Int} {tgt : Nat} (hu : u < 2 ^ 31) (hv : v < 2 ^ 31) (hdg : decode cc pc = .ok (.if_icmp .eq off, 3)) (ht : (pc : Int) + off = (tgt : Int)) (kt : u = v → W p l e R s m args below meth c H locs cells slots Q (F0 m tgt ls rest)) (kf : ¬ u = v → W p l e R s m args below meth c H locs cells slots Q (F0 m (pc + 3) ls rest)) : W p l e R s m args below meth c H locs cells slots Q (F0 m pc ls (.int (nI v) :: .int (nI u) :: rest)) := lv_icmp_eq hx hb hdg ht (fun h => kt ((nI_eq hu hv).mp h)) (fun h => kf (fun g => h ((nI_eq hu hv).mpr g)))
theorem bn_cmp_ne (hx : p.tables.exec = Jvm.exec) (hb : c.code = cc) {u v : Nat} {off : Int} {tgt : Nat} (hu : u < 2 ^ 31) (hv : v < 2 ^ 31) (hdg : decode cc pc = .ok (.if_icmp .ne off, 3)) (ht : (pc : Int) + off = (tgt : Int)) (kt : ¬ u = v → W p l e R s m args below meth c H locs cells slots Q (F0 m tgt ls rest)) (kf : u = v → W p l e R s m args below meth c H locs cells slots Q (F0 m (pc + 3) ls rest)) : W p l e R s m args below meth c H locs cells slots Q (F0 m pc ls (.int (nI v) :: .int (nI u) :: rest)) := lv_icmp_ne hx hb hdg ht (fun h => kt (fun g => h ((nI_eq hu hv).mpr g))) (fun h => kf ((nI_eq hu hv).mp h))
theorem bn_cmp_lt (hx : p.tables.exec = Jvm.exec) (hb : c.code = cc) {u v : Nat} {off : Int} {tgt : Nat} (hu : u < 2 ^ 31) (hv : v < 2 ^ 31) (hdg : decode cc pc = .ok (.if_icmp .lt off, 3)) (ht : (pc : Int) + off = (tgt : Int)) (kt : u < v → W p l e R s m args below meth c H locs cells slots Q (F0 m tgt ls rest)) (kf : ¬ u < v → W p l e R s m args below meth c H locs cells slots Q (F0 m (pc + 3) ls rest)) : W p l e R s m args below meth c H locs cells slots Q (F0 m pc ls (.int (nI v) :: .int (nI u) :: rest)) := lv_icmp_lt hx hb hdg ht (fun h => kt ((nI_ltI hu hv).mp h)) (fun h => kf (fun g => h ((nI_ltI hu hv).mpr g)))
theorem bn_cmp_ge (hx : p.tables.exec = Jvm.exec) (hb : c.code = cc) {u v : Nat} {off : Int} {tgt : Nat} (hu : u < 2 ^ 31) (hv : v < 2 ^ 31) (hdg : decode cc pc = .ok (.if_icmp .ge off, 3)) (ht : (pc : Int) + off = (tgt : Int)) (kt : v ≤ u → W p l e R s m args below meth c H locs cells slots Q (F0 m tgt ls rest)) (kf : ¬ v ≤ u → W p l e R s m args below meth c H locs cells slots Q (F0 m (pc + 3) ls rest)) : W p l e R s m args below meth c H locs cells slots Q (F0 m pc ls (.int (nI v) :: .int (nI u) :: rest)) := lv_icmp_ge hx hb hdg ht (fun h => kt ((nI_leI hv hu).mp h)) (fun h => kf (fun g => h ((nI_leI hv hu).mpr g)))
theorem bn_cmp_gt (hx : p.tables.exec = Jvm.exec) (hb : c.code = cc) {u v : Nat} {off : Int} {tgt : Nat} (hu : u < 2 ^ 31) (hv : v < 2 ^ 31) (hdg : decode cc pc = .ok (.if_icmp .gt off, 3)) (ht : (pc : Int) + off = (tgt : Int)) (kt : v < u → W p l e R s m args below meth c H locs cells slots Q (F0 m tgt ls rest)) (kf : ¬ v < u → W p l e R s m args below meth c H locs cells slots Q (F0 m (pc + 3) ls rest)) : W p l e R s m args below meth c H locs cells slots Q (F0 m pc ls (.int (nI v) :: .int (nI u) :: rest)) := lv_icmp_gt hx hb hdg ht (fun h => kt ((nI_ltI hv hu).mp h)) (fun h => kf (fun g => h ((nI_ltI hv hu).mpr g)))
theorem bn_cmp_le (hx : p.tables.exec = Jvm.exec) (hb : c.code = cc) {u v : Nat} {off : Int} {tgt : Nat} (hu : u < 2 ^ 31) (hv : v < 2 ^ 31) (hdg : decode cc pc = .ok (.if_icmp .le off, 3)) (ht : (pc : Int) + off = (tgt : Int)) (kt : u ≤ v → W p l e R s m args below meth c H locs cells slots Q (F0 m tgt ls rest)) (kf : ¬ u ≤ v → W p l e R s m args below meth c H locs cells slots Q (F0 m (pc + 3) ls rest)) : W p l e R s m args below meth c H locs cells slots Q (F0 m pc ls (.int (nI v) :: .int (nI u) :: rest)) := lv_icmp_le hx hb hdg ht (fun h => kt ((nI_leI hu hv).mp h)) (fun h => kf (fun g => h ((nI_leI hu hv).mpr g)))
-- fields and arrays of a world
theorem bn_get (hx : p.tables.exec = Jvm.exec) (hb : c.code = cc) {own ref C : String} {T : u_T} {N ci index : Nat} {Ts : List Cond} (hts : ∀ w ∈ Ts, w.before args s = true) (hin : ∀ w ∈ u_ws C T N, w ∈ Ts) (hown : s.vm.findClass own = some m.cls) (hK : bh_K D cy s) (hI : bh_I D ws A H0 H locs) (q0 : Nat) {fs : List Value} (he : ws[q0]? = some (a, .inr (ci, fs))) (hc : vwCl[ci]? = some (C, T, N)) (k : Nat) (hk : k < N) (hlink : (Cond.fieldLink own index ref (T k).2.1 (T k).2.2.1).before args s = true) (href : (T k).1 = ref) {v : Value} (hv : fs[k]? = some v) (hdg : decode cc pc = .ok (.getfield index, 3))
    (kk : W p l e R s m args below meth c H locs cells slots Q (F0 m (pc + 3) ls (v :: rest))) : W p l e R s m args below meth c H locs cells slots Q (F0 m pc ls (.ref a :: rest)) :=
  va_get hx hb hts hin hown hK.1 hI.1 q0 he hc k hk hlink (fun _ h9 => by rw [← href]; exact h9) hv hdg kk
theorem bn_put (hx : p.tables.exec = Jvm.exec) (hb : c.code = cc) {own ref C : String} {T : u_T} {N ci index : Nat} {Ts : List Cond} (hts : ∀ w ∈ Ts, w.before args s = true) (hin : ∀ w ∈ u_ws C T N, w ∈ Ts) (ty0 : Nat → FieldType) (hty : ∀ k, k < N → parseFieldDescriptor (T k).2.2.1 = some (ty0 k)) (hnm : ∀ a, a < N → ∀ b, b < N → a ≠ b → (T a).2.1 ≠ (T b).2.1) (hown : s.vm.findClass own = some m.cls) (hK : bh_K D cy s) (hI : bh_I D ws A H0 H locs) (q0 : Nat) {fs : List Value} (he : ws[q0]? = some (a, .inr (ci, fs))) (hc : vwCl[ci]? = some (C, T, N)) (k : Nat) (hk : k < N) (hlink : (Cond.fieldLink own index ref (T k).2.1 (T k).2.2.1).before args s = true) (href : (T k).1 = ref) (hfin : (T k).2.2.2 = false) {ty : FieldType} {v : Value} (hd : ty0 k = ty) (hn : narrow ty v = v) (hfit : fits ty v = true) (hl : k < fs.length) (hdg : decode cc pc = .ok (.putfield index, 3)) {ws' : va_W} (hws : ws.set q0 (a, .inr (ci, fs.set k v)) = ws')
    (kk : ∀ (H1 : Heap) (locs1 : List Loc), bh_I D ws' A H0 H1 locs1 → W p l e R s m args below meth c H1 locs1 cells slots Q (F0 m (pc + 3) ls rest)) : W p l e R s m args below meth c H locs cells slots Q (F0 m pc ls (v :: .ref a :: rest)) :=
  va_put hx hb hts hin ty0 hty hnm hown hK.1 hI.1 hI.2.1 hI.2.2 q0 he hc k hk hlink (fun _ h9 => by rw [← href]; exact h9) hfin (by rw [hty k hk, hd]) hn hfit hl hdg (fun H1 locs1 h1 h2 h3 => kk H1 locs1 ⟨hws ▸ h1, hws ▸ h2, h3⟩)
theorem bn_iald (hx : p.tables.exec = Jvm.exec) (hb : c.code = cc) (hK : bh_K D cy s) (hI : bh_I D ws A H0 H locs) (q0 t0 : Nat) {cA : ClassId} {n j : Nat} {f : Nat → Int32} {v : Int32} (ha : ws[q0]? = some (a, .inl (cA, n, .inl f))) (ht : (bh_ty cy)[t0]? = some (cA, .int)) (hj : j < n) (hn : n < 2 ^ 31) (hv : f j = v) (hdg : decode cc pc = .ok (.iaload, 1))
    (kk : W p l e R s m args below meth c H locs cells slots Q (F0 m (pc + 1) ls (.int v :: rest))) : W p l e R s m args below meth c H locs cells slots Q (F0 m pc ls (.int (nI j) :: .ref a :: rest)) :=
  va_iald hx hb hK.1 hI.1 q0 t0 ha ht (vp_in_nI hj hn) hdg (by rw [nI_clamp (by omega), hv]; exact kk)
theorem bn_zald (hx : p.tables.exec = Jvm.exec) (hb : c.code = cc) (hK : bh_K D cy s) (hI : bh_I D ws A H0 H locs) (q0 t0 : Nat) {cA : ClassId} {n j : Nat} {f : Nat → Int32} {v : Int32} (ha : ws[q0]? = some (a, .inl (cA, n, .inl f))) (ht : (bh_ty cy)[t0]? = some (cA, .boolean)) (hj : j < n) (hn : n < 2 ^ 31) (hv : f j = v) (hdg : decode cc pc = .ok (.baload, 1))
    (kk : W p l e R s m args below meth c H locs cells slots Q (F0 m (pc + 1) ls (.int v :: rest))) : W p l e R s m args below meth c H locs cells slots Q (F0 m pc ls (.int (nI j) :: .ref a :: rest)) :=
  va_zald hx hb hK.1 hI.1 q0 t0 ha ht (vp_in_nI hj hn) hdg (by rw [nI_clamp (by omega), hv]; exact kk)
theorem bn_lald (hx : p.tables.exec = Jvm.exec) (hb : c.code = cc) (hK : bh_K D cy s) (hI : bh_I D ws A H0 H locs) (q0 t0 : Nat) {cA : ClassId} {n j : Nat} {f : Nat → Int64} {v : Int64} (ha : ws[q0]? = some (a, .inl (cA, n, .inr (.inl f)))) (ht : (bh_ty cy)[t0]? = some (cA, .long)) (hj : j < n) (hn : n < 2 ^ 31) (hv : f j = v) (hdg : decode cc pc = .ok (.laload, 1))
    (kk : W p l e R s m args below meth c H locs cells slots Q (F0 m (pc + 1) ls (.long v :: rest))) : W p l e R s m args below meth c H locs cells slots Q (F0 m pc ls (.int (nI j) :: .ref a :: rest)) :=
  va_lald hx hb hK.1 hI.1 q0 t0 ha ht (vp_in_nI hj hn) hdg (by rw [nI_clamp (by omega), hv]; exact kk)
theorem bn_aald (hx : p.tables.exec = Jvm.exec) (hb : c.code = cc) (hK : bh_K D cy s) (hI : bh_I D ws A H0 H locs) (q0 t0 : Nat) {cA : ClassId} {C : String} {n j : Nat} {f : Nat → Option Nat} {v : Value} (ha : ws[q0]? = some (a, .inl (cA, n, .inr (.inr (.inr (.inr f)))))) (ht : (bh_ty cy)[t0]? = some (cA, .object C)) (hj : j < n) (hn : n < 2 ^ 31) (hv : va_rf (f j) = v) (hdg : decode cc pc = .ok (.aaload, 1))
    (kk : W p l e R s m args below meth c H locs cells slots Q (F0 m (pc + 1) ls (v :: rest))) : W p l e R s m args below meth c H locs cells slots Q (F0 m pc ls (.int (nI j) :: .ref a :: rest)) :=
  va_aldq hx hb hK.1 hI.1 q0 t0 ha ht (vp_in_nI hj hn) hdg (by rw [nI_clamp (by omega), hv]; exact kk)
theorem bn_iast (hx : p.tables.exec = Jvm.exec) (hb : c.code = cc) (hK : bh_K D cy s) (hI : bh_I D ws A H0 H locs) (q0 t0 : Nat) {cA : ClassId} {n j : Nat} {f : Nat → Int32} {x : Int32} (ha : ws[q0]? = some (a, .inl (cA, n, .inl f))) (ht : (bh_ty cy)[t0]? = some (cA, .int)) (hj : j < n) (hn : n < 2 ^ 31) (hdg : decode cc pc = .ok (.iastore, 1)) {ws' : va_W} (hws : ws.set q0 (a, .inl (cA, n, .inl (upd f j x))) = ws')
    (kk : ∀ (H1 : Heap) (locs1 : List Loc), bh_I D ws' A H0 H1 locs1 → W p l e R s m args below meth c H1 locs1 cells slots Q (F0 m (pc + 1) ls rest)) : W p l e R s m args below meth c H locs cells slots Q (F0 m pc ls (.int x :: .int (nI j) :: .ref a :: rest)) :=
  va_iast hx hb hK.1 hI.1 hI.2.1 hI.2.2 q0 t0 ha ht (vp_in_nI hj hn) hdg (fun H1 locs1 h1 h2 h3 => by rw [nI_clamp (by omega)] at h1 h2; exact kk H1 locs1 ⟨hws ▸ h1, hws ▸ h2, h3⟩)
theorem bn_zast (hx : p.tables.exec = Jvm.exec) (hb : c.code = cc) (hK : bh_K D cy s) (hI : bh_I D ws A H0 H locs) (q0 t0 : Nat) {cA : ClassId} {n j : Nat} {f : Nat → Int32} {x : Int32} (ha : ws[q0]? = some (a, .inl (cA, n, .inl f))) (ht : (bh_ty cy)[t0]? = some (cA, .boolean)) (hj : j < n) (hn : n < 2 ^ 31) (hnar : vp_nar .boolean x = x) (hdg : decode cc pc = .ok (.bastore, 1)) {ws' : va_W} (hws : ws.set q0 (a, .inl (cA, n, .inl (upd f j x))) = ws')
    (kk : ∀ (H1 : Heap) (locs1 : List Loc), bh_I D ws' A H0 H1 locs1 → W p l e R s m args below meth c H1 locs1 cells slots Q (F0 m (pc + 1) ls rest)) : W p l e R s m args below meth c H locs cells slots Q (F0 m pc ls (.int x :: .int (nI j) :: .ref a :: rest)) :=
  va_zast hx hb hK.1 hI.1 hI.2.1 hI.2.2 q0 t0 ha ht (vp_in_nI hj hn) hdg (fun H1 locs1 h1 h2 h3 => by rw [nI_clamp (by omega), hnar] at h1 h2; exact kk H1 locs1 ⟨hws ▸ h1, hws ▸ h2, h3⟩)
theorem bn_last (hx : p.tables.exec = Jvm.exec) (hb : c.code = cc) (hK : bh_K D cy s) (hI : bh_I D ws A H0 H locs) (q0 t0 : Nat) {cA : ClassId} {n j : Nat} {f : Nat → Int64} {x : Int64} (ha : ws[q0]? = some (a, .inl (cA, n, .inr (.inl f)))) (ht : (bh_ty cy)[t0]? = some (cA, .long)) (hj : j < n) (hn : n < 2 ^ 31) (hdg : decode cc pc = .ok (.lastore, 1)) {ws' : va_W} (hws : ws.set q0 (a, .inl (cA, n, .inr (.inl (vp_updL f j x)))) = ws')
    (kk : ∀ (H1 : Heap) (locs1 : List Loc), bh_I D ws' A H0 H1 locs1 → W p l e R s m args below meth c H1 locs1 cells slots Q (F0 m (pc + 1) ls rest)) : W p l e R s m args below meth c H locs cells slots Q (F0 m pc ls (.long x :: .int (nI j) :: .ref a :: rest)) :=
  va_last hx hb hK.1 hI.1 hI.2.1 hI.2.2 q0 t0 ha ht (vp_in_nI hj hn) hdg (fun H1 locs1 h1 h2 h3 => by rw [nI_clamp (by omega)] at h1 h2; exact kk H1 locs1 ⟨hws ▸ h1, hws ▸ h2, h3⟩)
-- calls that leave the heap as it is
theorem bn_roV {Qc : Array Value → State → Outcome → State → Prop} (S : CallFix p m c cc nL s args Ts own) (hM : Met l y wsy rm (va_Pc (.ref b :: As) (bh_pre D cy ws)) Qc 0 0 (fun _ => False)) (cw : CallW R s args own C index y bytes maxL ret wsy rm 0 0 n) (hK : bh_K D cy s) (hI : bh_I D ws A H0 H locs) (q0 ci : Nat) {q : vw_C} {fs : List Value} (hc : vwCl[ci]? = some q) (hq : q.1 = C) (he : ws[q0]? = some (b, .inr (ci, fs))) (hn : As.length = n) (hsize : ls.size = nL) (hrm : (rest.map fun v => v.category).sum ≤ 8) (hdg : decode cc pc = .ok (.invokevirtual index, 3)) (hf : cells + 0 ≤ R.cells ∧ slots + 0 ≤ R.slots) :
    CallRun p l e R s m args below meth c H locs cells slots 0 0 (F0 m pc ls (As.reverse ++ .ref b :: rest)) rest (Qc (Value.ref b :: As).toArray) (fun _ => False) := by
  subst hq
  exact (va_runV S hM cw ⟨bh_blind, va_recv hK.1 hI.1 hc he, fun U hU hW => ⟨rfl, by rw [hU]; exact hI.1, bh_K.moved hW hK, hI.2.1.weaken (fun _ _ _ _ => trivial)⟩⟩ rfl hn hsize rfl (lv_room hrm) hdg hf).run
theorem bn_roS {Qc : Array Value → State → Outcome → State → Prop} (S : CallFix p m c cc nL s args Ts own) (hM : Met l y wsy rm (va_Pc As (fun _ => True)) Qc 0 0 (fun _ => False)) (cw : CallB R s args own index y bytes maxL ret wsy rm 0 0 n ∧ (Cond.static y).before args s = true) (hn : As.length = n) (hsize : ls.size = nL) (hrm : (rest.map fun v => v.category).sum ≤ 8) (hdg : decode cc pc = .ok (.invokestatic index, 3)) (hf : cells + 0 ≤ R.cells ∧ slots + 0 ≤ R.slots) :
    CallRun p l e R s m args below meth c H locs cells slots 0 0 (F0 m pc ls (As.reverse ++ rest)) rest (Qc As.toArray) (fun _ => False) :=
  (va_runS S hM cw ⟨bh_blind0, fun U hU hW => ⟨rfl, trivial⟩⟩ rfl hn hsize rfl (lv_room hrm) hdg hf).run
-- calls that change the world
theorem bn_muV {Qc : Array Value → State → Outcome → State → Prop} (S : CallFix p m c cc nL s args Ts own) (hM : Met l y wsy rm (va_Pc (.ref b :: As) (bh_prm D cy ws H.size)) Qc 0 0 (va_A ws H.size)) (cw : CallW R s args own C index y bytes maxL ret wsy rm 0 0 n) (hK : bh_K D cy s) (hI : bh_I D ws A H0 H locs) (q0 ci : Nat) {q : vw_C} {fs : List Value} (hc : vwCl[ci]? = some q) (hq : q.1 = C) (he : ws[q0]? = some (b, .inr (ci, fs))) (hn : As.length = n) (hsize : ls.size = nL) (hrm : (rest.map fun v => v.category).sum ≤ 8) (hdg : decode cc pc = .ok (.invokevirtual index, 3)) (hf : cells + 0 ≤ R.cells ∧ slots + 0 ≤ R.slots) :
    va_Run p l e R s m args below meth c H locs cells slots 0 0 (F0 m pc ls (As.reverse ++ .ref b :: rest)) rest (Qc (Value.ref b :: As).toArray) (va_A ws H.size) := by
  subst hq
  exact va_runV S hM cw ⟨bh_blindm, va_recv hK.1 hI.1 hc he, fun U hU hW => ⟨rfl, by rw [hU], by rw [hU]; exact hI.1, bh_K.moved hW hK, hI.2.1.weaken (fun _ _ _ _ => trivial)⟩⟩ rfl hn hsize rfl (lv_room hrm) hdg hf
theorem bn_muv {U : Type} {wf : U → va_W} {post : U → Prop} {st0 : List Value} {ar : Array Value} (hr : va_Run p l e R s m args below meth c H locs cells slots 0 0 (F0 m pc ls st0) rest (va_Qv post (fun u t => bh_post D cy (wf u) (va_A ws H.size) t) (va_A ws H.size) ar) (va_A ws H.size)) (hI : bh_I D ws A H0 H locs) (hA : ∀ q, H0.size ≤ q → A q)
    (kk : ∀ (u : U) (H1 : Heap) (locs1 : List Loc), post u → bh_I D (wf u) A H0 H1 locs1 → W p l e R s m args below meth c H1 locs1 cells slots Q (F0 m (pc + 3) ls rest)) : W p l e R s m args below meth c H locs cells slots Q (F0 m pc ls st0) :=
  va_callv hr hI.2.2 (fun q _ h => bh_free hI hA q h) (bh_free hI hA) (fun u t H1 locs1 ht _ hw hB _ _ hS => kk u H1 locs1 hw ⟨by rw [← ht]; exact hB.1, hB.2.2.weaken (fun _ q _ h => bh_free hI hA q.1 h), hS⟩)
theorem bn_mui {U : Type} {wf : U → va_W} {post : Int32 → U → Prop} {st0 : List Value} {ar : Array Value} (hr : va_Run p l e R s m args below meth c H locs cells slots 0 0 (F0 m pc ls st0) rest (va_Qi post (fun u t => bh_post D cy (wf u) (va_A ws H.size) t) (va_A ws H.size) ar) (va_A ws H.size)) (hI : bh_I D ws A H0 H locs) (hA : ∀ q, H0.size ≤ q → A q)
    (kk : ∀ (r : Int32) (u : U) (H1 : Heap) (locs1 : List Loc), post r u → bh_I D (wf u) A H0 H1 locs1 → W p l e R s m args below meth c H1 locs1 cells slots Q (F0 m (pc + 3) ls (.int r :: rest))) : W p l e R s m args below meth c H locs cells slots Q (F0 m pc ls st0) :=
  va_calli hr hI.2.2 (fun q _ h => bh_free hI hA q h) (bh_free hI hA) (fun r u t H1 locs1 ht _ hw hB _ _ hS => kk r u H1 locs1 hw ⟨by rw [← ht]; exact hB.1, hB.2.2.weaken (fun _ q _ h => bh_free hI hA q.1 h), hS⟩)
-- ends
theorem bn_retv {U : Type} {wf : U → va_W} {post : U → Prop} {A : Nat → Prop} (hx : p.tables.exec = Jvm.exec) (hb : c.code = cc) (hr : meth.sig.returnType = none) (hlocks : meth.locks = false) (hK : bh_K D cy s) (u : U) (hI : bh_I D (wf u) A s.heap H locs) (hp : post u) (hdg : decode cc pc = .ok (.return_, 1)) : W p l e R s m args below meth c H locs cells slots (MQ below (va_Qv post (fun u t => bh_post D cy (wf u) A t) A) args s cells slots A) (F0 m pc ls []) :=
  W.vret (hlocks := hlocks) hx hb hr (fun t ht hW => ⟨⟨u, rfl, hp, by rw [ht]; exact hI.1, bh_K.moved hW hK, hI.2.1⟩, hI.2.2.F ht⟩) hI.2.2.2.2 hdg
theorem bn_reti {U : Type} {wf : U → va_W} {post : Int32 → U → Prop} {A : Nat → Prop} {r : Int32} (hx : p.tables.exec = Jvm.exec) (hb : c.code = cc) (hr : meth.sig.returnType = some .int) (hlocks : meth.locks = false) (hK : bh_K D cy s) (u : U) (hI : bh_I D (wf u) A s.heap H locs) (hp : post r u) (hdg : decode cc pc = .ok (.ireturn, 1)) : W p l e R s m args below meth c H locs cells slots (MQ below (va_Qi post (fun u t => bh_post D cy (wf u) A t) A) args s cells slots A) (F0 m pc ls [.int r]) :=
  W.iret (hlocks := hlocks) hx hb hr (fun t ht hW => ⟨⟨r, u, rfl, hp, by rw [ht]; exact hI.1, bh_K.moved hW hK, hI.2.1⟩, hI.2.2.F ht⟩) hI.2.2.2.2 hdg
theorem bn_retz {U : Type} {wf : U → va_W} {post : Int32 → U → Prop} {A : Nat → Prop} {r : Int32} (hx : p.tables.exec = Jvm.exec) (hb : c.code = cc) (hr : meth.sig.returnType = some .boolean) (hlocks : meth.locks = false) (hK : bh_K D cy s) (u : U) (hI : bh_I D (wf u) A s.heap H locs) (hp : post r u) (hn : narrow .boolean (.int r) = .int r) (hdg : decode cc pc = .ok (.ireturn, 1)) : W p l e R s m args below meth c H locs cells slots (MQ below (va_Qi post (fun u t => bh_post D cy (wf u) A t) A) args s cells slots A) (F0 m pc ls [.int r]) :=
  W.zret (hlocks := hlocks) hx hb hr hn (fun t ht hW => ⟨⟨r, u, rfl, hp, by rw [ht]; exact hI.1, bh_K.moved hW hK, hI.2.1⟩, hI.2.2.F ht⟩) hI.2.2.2.2 hdg
theorem bn_roti {post : Int32 → Prop} {r : Int32} (hx : p.tables.exec = Jvm.exec) (hb : c.code = cc) (hr : meth.sig.returnType = some .int) (hlocks : meth.locks = false) (hp : post r) (hdg : decode cc pc = .ok (.ireturn, 1)) : W p l e R s m args below meth c s.heap [] cells slots (MQ below (vp_Si post) args s cells slots (fun _ => False)) (F0 m pc ls [.int r]) :=
  W.iret (hlocks := hlocks) hx hb hr (fun t ht hW => ⟨r, rfl, hp, ht⟩) (fun q h => by cases h) hdg
theorem bn_rotz {post : Int32 → Prop} {r : Int32} (hx : p.tables.exec = Jvm.exec) (hb : c.code = cc) (hr : meth.sig.returnType = some .boolean) (hlocks : meth.locks = false) (hp : post r) (hn : narrow .boolean (.int r) = .int r) (hdg : decode cc pc = .ok (.ireturn, 1)) : W p l e R s m args below meth c s.heap [] cells slots (MQ below (vp_Si post) args s cells slots (fun _ => False)) (F0 m pc ls [.int r]) :=
  W.zret (hlocks := hlocks) hx hb hr hn (fun t ht hW => ⟨r, rfl, hp, ht⟩) (fun q h => by cases h) hdg
theorem bn_rotl {post : Int64 → Prop} {r : Int64} (hx : p.tables.exec = Jvm.exec) (hb : c.code = cc) (hr : meth.sig.returnType = some .long) (hlocks : meth.locks = false) (hp : post r) (hdg : decode cc pc = .ok (.lreturn, 1)) : W p l e R s m args below meth c s.heap [] cells slots (MQ below (vp_Sl post) args s cells slots (fun _ => False)) (F0 m pc ls [.long r]) :=
  W.lret (hlocks := hlocks) hx hb hr (fun t ht hW => ⟨r, rfl, hp, ht⟩) (fun q h => by cases h) hdg
theorem bn_rota {post : Option Nat → Prop} {r : Option Nat} {C : String} {v : Value} (hx : p.tables.exec = Jvm.exec) (hb : c.code = cc) (hr : meth.sig.returnType = some (.object C)) (hlocks : meth.locks = false) (hv : va_rf r = v) (hp : post r) (hdg : decode cc pc = .ok (.areturn, 1)) : W p l e R s m args below meth c s.heap [] cells slots (MQ below (va_Sq post) args s cells slots (fun _ => False)) (F0 m pc ls [v]) := by
  subst hv
  exact W.aret (hlocks := hlocks) hx hb hr (Or.inl ⟨C, rfl⟩) (va_rf_or r) (fun t ht hW => ⟨r, rfl, hp, ht⟩) (fun q h => by cases h) hdg
end BHR
end
section
/-! the reference's state and world -/
abbrev mS : Type := (Nat → Nat) × (Nat → Int32) × (Nat → Nat → Int32) × (Nat → Nat → Int64)
def bh_n (S : mS) (k v : Nat) : mS := (va_up S.1 k v, S.2)
def bh_i (S : mS) (k : Nat) (v : Int32) : mS := (S.1, va_up S.2.1 k v, S.2.2)
def bh_R (S : mS) (k : Nat) (f : Nat → Int32) : mS := (S.1, S.2.1, va_up S.2.2.1 k f, S.2.2.2)
def bh_L (S : mS) (k : Nat) (f : Nat → Int64) : mS := (S.1, S.2.1, S.2.2.1, va_up S.2.2.2 k f)
def bh_r (S : mS) (k i : Nat) (v : Int32) : mS := bh_R S k (upd (S.2.2.1 k) i v)
def bh_l (S : mS) (k i : Nat) (v : Int64) : mS := bh_L S k (vp_updL (S.2.2.2 k) i v)
def bh_mf (ad : Nat → Nat) (S : mS) : List Value := [.int (nI (S.1 0)), .ref (ad 1), .ref (ad 2), .ref (ad 3), .ref (ad 4), .ref (ad 5), .ref (ad 6), .ref (ad 7), .ref (ad 8), .ref (ad 9), .ref (ad 10), .ref (ad 11), .ref (ad 12), .ref (ad 13), .ref (ad 14), .ref (ad 15), .ref (ad 16), .ref (ad 17), .int (nI (S.1 18)), .int (S.2.1 19), .int (S.2.1 20), .ref (ad 21), .ref (ad 22), .ref (ad 23), .ref (ad 24), .ref (ad 25), .ref (ad 26), .ref (ad 27), .int (nI (S.1 28)), .ref (ad 29), .ref (ad 30)]
def bh_mw (h : Nat) (ad : Nat → Nat) (c : bh_C) (S : mS) : va_W := [(h, .inr (3, bh_mf ad S)), (ad 1, .inl (c.1, 7, .inl (S.2.2.1 1))), (ad 2, .inl (c.1, 56, .inl (S.2.2.1 2))), (ad 3, .inl (c.2.1, 56, .inr (.inl (S.2.2.2 3)))), (ad 4, .inl (c.2.2.1, 7, .inl (S.2.2.1 4))), (ad 5, .inl (c.1, 25, .inl (S.2.2.1 5))), (ad 6, .inl (c.1, 25, .inl (S.2.2.1 6))), (ad 7, .inl (c.1, 25, .inl (S.2.2.1 7))), (ad 8, .inl (c.1, 25, .inl (S.2.2.1 8))), (ad 9, .inl (c.1, 25, .inl (S.2.2.1 9))), (ad 10, .inl (c.1, 25, .inl (S.2.2.1 10))), (ad 11, .inl (c.1, 25, .inl (S.2.2.1 11))), (ad 12, .inl (c.1, 25, .inl (S.2.2.1 12))), (ad 13, .inl (c.1, 25, .inl (S.2.2.1 13))), (ad 14, .inl (c.1, 200, .inl (S.2.2.1 14))), (ad 15, .inl (c.1, 200, .inl (S.2.2.1 15))), (ad 16, .inl (c.1, 200, .inl (S.2.2.1 16))), (ad 17, .inl (c.2.1, 200, .inr (.inl (S.2.2.2 17)))), (ad 21, .inl (c.1, 400, .inl (S.2.2.1 21))), (ad 22, .inl (c.1, 400, .inl (S.2.2.1 22))), (ad 23, .inl (c.1, 400, .inl (S.2.2.1 23))), (ad 24, .inl (c.1, 400, .inl (S.2.2.1 24))), (ad 25, .inl (c.1, 3200, .inl (S.2.2.1 25))), (ad 26, .inl (c.2.1, 400, .inr (.inl (S.2.2.2 26)))), (ad 27, .inl (c.2.1, 3200, .inr (.inl (S.2.2.2 27)))), (ad 29, .inl (c.1, 8, .inl (S.2.2.1 29))), (ad 30, .inl (c.2.1, 8, .inr (.inl (S.2.2.2 30))))]
theorem bh_RR (S : mS) (k : Nat) (f g : Nat → Int32) : bh_R (bh_R S k f) k g = bh_R S k g := by simp only [bh_R, bx_uu]
theorem bh_LL (S : mS) (k : Nat) (f g : Nat → Int64) : bh_L (bh_L S k f) k g = bh_L S k g := by simp only [bh_L, bx_uu]
theorem bh_RL (S : mS) (k j : Nat) (f : Nat → Int32) (g : Nat → Int64) : bh_R (bh_L S j g) k f = bh_L (bh_R S k f) j g := rfl
theorem bh_Rid (S : mS) (k : Nat) : bh_R S k (S.2.2.1 k) = S := by
  obtain ⟨a, b, r, l⟩ := S
  show (a, b, va_up r k (r k), l) = (a, b, r, l)
  congr 3
  funext j
  unfold va_up
  split
  · next h => rw [h]
  · rfl
theorem bh_Lid (S : mS) (k : Nat) : bh_L S k (S.2.2.2 k) = S := by
  obtain ⟨a, b, r, l⟩ := S
  show (a, b, r, va_up l k (l k)) = (a, b, r, l)
  congr 3
  funext j
  unfold va_up
  split
  · next h => rw [h]
  · rfl
-- places by numbers
def bh_ix (x : Int32) (n : Nat) : Option Nat := if 0 ≤ x.toInt ∧ x.toInt < (n : Int) then some x.toInt.toNat else none
def bh_ixb (x : Int32) (k : Nat) : Option Nat := if 1 ≤ x.toInt ∧ x.toInt ≤ (k : Int) then some x.toInt.toNat else none
def bh_s (o : Option Nat) : Int32 := match o with
  | none => nI 0
  | some _ => nI 1
theorem bh_nI_of_toInt {x : Int32} (h : 0 ≤ x.toInt) : x = nI x.toInt.toNat := by
  have hlt : x.toInt < 2 ^ 31 := by have := x.toInt_lt; simpa using this
  apply Int32.toInt_inj.mp
  rw [nI_toInt (by omega)]
  omega
theorem bh_ix_some {x : Int32} {n j : Nat} (h : bh_ix x n = some j) : j < n ∧ x = nI j := by
  unfold bh_ix at h
  split at h
  · next hc =>
    have e := Option.some.inj h
    refine ⟨by omega, ?_⟩
    rw [← e]
    exact bh_nI_of_toInt hc.1
  · cases h
theorem bh_ix_nI {n j : Nat} (h : j < n) (hn : n < 2 ^ 31) : bh_ix (nI j) n = some j := by
  unfold bh_ix
  rw [nI_toInt (by omega), if_pos (by omega)]
  simp
theorem bh_ixb_some {x : Int32} {n j : Nat} (h : bh_ixb x n = some j) : 1 ≤ j ∧ j ≤ n ∧ x = nI j := by
  unfold bh_ixb at h
  split at h
  · next hc =>
    have e := Option.some.inj h
    refine ⟨by omega, by omega, ?_⟩
    rw [← e]
    exact bh_nI_of_toInt (by omega)
  · cases h
theorem bh_ixb_nI {n j : Nat} (h0 : 1 ≤ j) (h : j ≤ n) (hn : n < 2 ^ 31) : bh_ixb (nI j) n = some j := by
  unfold bh_ixb
  rw [nI_toInt (by omega), if_pos (by omega)]
  simp
theorem bh_t0 : Int32.toInt 0 = 0 := rfl
theorem bh_lt0 {x : Int32} : x < 0 ↔ x.toInt < 0 := by
  rw [Int32.lt_iff_toInt_lt]
  rfl
theorem bh_ltI {x y : Int32} : x < y ↔ x.toInt < y.toInt := Int32.lt_iff_toInt_lt
theorem bh_leI {x y : Int32} : x ≤ y ↔ x.toInt ≤ y.toInt := Int32.le_iff_toInt_le
-- counting
def bh_manyL (x : Int32) : Nat → Int32
  | 0 => nI 0
  | k + 1 => bh_manyL x k + ((x >>> (nI k &&& 31)) &&& nI 1)
def bh_many (x : Int32) : Int32 := bh_manyL x 7
-- blocks
def bh_fill {α : Type} (g : Nat → α) (o k : Nat) (f : Nat → α) : Nat → α := fun j => if o ≤ j ∧ j < o + k then f (j - o) else g j
theorem bh_fill_0 {α : Type} (g : Nat → α) (o : Nat) (f : Nat → α) : bh_fill g o 0 f = g := by
  funext j
  unfold bh_fill
  rw [if_neg (by omega)]
theorem bh_fill_s (g : Nat → Int32) (o k : Nat) (f : Nat → Int32) : upd (bh_fill g o k f) (o + k) (f k) = bh_fill g o (k + 1) f := by
  funext j
  unfold upd bh_fill
  by_cases h : j = o + k
  · subst h
    rw [if_pos rfl, if_pos (by omega)]
    congr 1
    omega
  · rw [if_neg h]
    by_cases h2 : o ≤ j ∧ j < o + k
    · rw [if_pos h2, if_pos (by omega)]
    · rw [if_neg h2, if_neg (by omega)]
theorem bh_fill_sl (g : Nat → Int64) (o k : Nat) (f : Nat → Int64) : vp_updL (bh_fill g o k f) (o + k) (f k) = bh_fill g o (k + 1) f := by
  funext j
  unfold vp_updL bh_fill
  by_cases h : j = o + k
  · subst h
    rw [if_pos rfl, if_pos (by omega)]
    congr 1
    omega
  · rw [if_neg h]
    by_cases h2 : o ≤ j ∧ j < o + k
    · rw [if_pos h2, if_pos (by omega)]
    · rw [if_neg h2, if_neg (by omega)]
def bh_bl (S : mS) (o k : Nat) (f : Nat → Int32) (g : Nat → Int64) : mS := bh_L (bh_R S 25 (bh_fill (S.2.2.1 25) o k f)) 27 (bh_fill (S.2.2.2 27) o k g)
theorem bh_bl_0 (S : mS) (o : Nat) (f : Nat → Int32) (g : Nat → Int64) : bh_bl S o 0 f g = S := by
  unfold bh_bl
  rw [bh_fill_0, bh_fill_0, bh_Rid, bh_Lid]
theorem bh_bl_s (S : mS) (o k : Nat) (f : Nat → Int32) (g : Nat → Int64) : bh_l (bh_r (bh_bl S o k f g) 25 (o + k) (f k)) 27 (o + k) (g k) = bh_bl S o (k + 1) f g := by
  show bh_L (bh_R (bh_L (bh_R S 25 (bh_fill (S.2.2.1 25) o k f)) 27 (bh_fill (S.2.2.2 27) o k g)) 25 (upd (bh_fill (S.2.2.1 25) o k f) (o + k) (f k))) 27 (vp_updL (bh_fill (S.2.2.2 27) o k g) (o + k) (g k)) = _
  rw [bh_fill_s, bh_fill_sl, bh_RL, bh_RR, bh_LL]
  rfl
-- the reference, method by method
def bh_putA (S : mS) (wt bb vv pp : Int32) (x : Int64) : mS := bh_l (bh_r (bh_r (bh_r (bh_r S 21 (S.1 28) wt) 22 (S.1 28) bb) 23 (S.1 28) vv) 24 (S.1 28) pp) 26 (S.1 28) x
def bh_put (S : mS) (wt bb vv pp : Int32) (x : Int64) (f : Nat → Int32) (g : Nat → Int64) : mS :=
  if S.1 28 = 400 then bh_i S 20 (S.2.1 20 + nI 1) else bh_n (bh_bl (bh_putA S wt bb vv pp x) (8 * S.1 28) 8 f g) 28 (S.1 28 + 1)

def bh_cpA (S : mS) (i j : Nat) : mS := bh_l (bh_r (bh_r (bh_r (bh_r S 21 j (S.2.2.1 21 i)) 22 j (S.2.2.1 22 i)) 23 j (S.2.2.1 23 i)) 24 j (S.2.2.1 24 i)) 26 j (S.2.2.2 26 i)
def bh_cp (S : mS) (i j : Nat) : mS := bh_bl (bh_cpA S i j) (8 * j) 8 (fun k => S.2.2.1 25 (8 * i + k)) (fun k => S.2.2.2 27 (8 * i + k))
def bh_tkL (S : mS) (k : Nat) : Nat → mS
  | 0 => bh_n S 28 (S.1 28 - 1)
  | d + 1 => bh_cp (bh_tkL S k d) (k + d + 1) (k + d)
theorem bh_tkL_28 (S : mS) (k d : Nat) : (bh_tkL S k d).1 28 = S.1 28 - 1 := by
  induction d with
  | zero => rfl
  | succ d ih => exact ih
def bh_take (S : mS) (k : Nat) : mS := bh_tkL S k (S.1 28 - 1 - k)
end
section
set_option maxHeartbeats 4000000 in
set_option maxRecDepth 100000 in
theorem cm_isVoter (l : Launch) (D : va_G) (c : bh_C) (h : Nat) (ad : Nat → Nat) (S : mS) (x : Int32) (hn : S.1 0 ≤ 7) : Met l yX4_isVoter wsX4_isVoter ({ frames := 0, cells := 0, slots := 0, locals := 0 }) (va_Pc [.ref h, .int (x)] (bh_pre D c (bh_mw h ad c (S)))) (vp_Si (fun r => r = bh_s (bh_ix x (S.1 0)))) 0 0 (fun _ => False) := by
  refine Met.ofW (cc := cX4_isVoter) (maxL := 2) (ret := (some .boolean)) (by decide) rfl ?_
  intro p e s m args below meth c0 s₁ B hml hv
  obtain ⟨rfl, hP, hK, hD0⟩ := hv
  have hx := B.exec
  have hb := B.bytes
  have hr := B.returns
  have hts := atoms_spec (ws := wsX4_isVoter) B.pre
  have hown : s.vm.findClass RX4 = some m.cls := findClass_of_methodNamed B.named
  have hlocks := B.notSynchronized
  have hinX4 : ∀ w ∈ wsX40, w ∈ wsX4_isVoter := fun _ h => List.mem_cons_of_mem _ (List.mem_append_right _ h)
  have lk_90 : (Cond.fieldLink RX4 90 "BallotHouseModel" "voters" "I").before _ s = true := hts _ (by decide +kernel)
  have hI : bh_I D (bh_mw h ad c (S)) (fun _ => True) s.heap s.heap [] := ⟨hP, hD0, va_S.rf⟩
  have hl := lv_entry ([.ref h, .int (x)]) (n := 2) (Nat.le_of_ble_eq_true rfl)
  rw [lg_entry_eq]
  generalize (lg_sl ([.ref h, .int (x)]) ++ List.replicate (2 - (lg_sl ([.ref h, .int (x)])).length) Slot.unset).toArray = ls at hl ⊢
  have hl : lv_has ls 2 [(0, .ref h), (1, .int (x))] := hl
  refine lv_iload_n hx hb dX4_isVoter_0 rfl (lv_at hl 1 rfl) ?_
  refine lv_if_lt (tgt := 16) hx hb dX4_isVoter_1 (by decide) (fun c_1 => ?_) (fun c_1 => ?_)
  · refine lv_iconst (v := nI 0) hx hb dX4_isVoter_16 (by decide) ?_
    exact bn_rotz hx hb hr hlocks ((by have q0 := c_1; simp only [bh_ltI, bh_leI, bh_t0, nI_toInt (show S.1 0 < 2 ^ 31 by omega)] at q0; unfold bh_ix; split <;> first | rfl | (exfalso; omega))) (by decide) dX4_isVoter_17
  · refine lv_iload_n hx hb dX4_isVoter_4 rfl (lv_at hl 1 rfl) ?_
    refine lv_aload_n hx hb dX4_isVoter_5 rfl (lv_at hl 0 rfl) ?_
    refine bn_get (ci := 3) (v := .int (nI (S.1 0))) (C := RX4) (T := TX4) (N := 31) hx hb hts hinX4 hown hK hI 0 rfl rfl 0 (by decide) lk_90 rfl (rfl) dX4_isVoter_6 ?_
    refine lv_icmp_ge (tgt := 16) hx hb dX4_isVoter_9 (by decide) (fun c_2 => ?_) (fun c_2 => ?_)
    · refine lv_iconst (v := nI 0) hx hb dX4_isVoter_16 (by decide) ?_
      exact bn_rotz hx hb hr hlocks ((by have q0 := c_1; have q1 := c_2; simp only [bh_ltI, bh_leI, bh_t0, nI_toInt (show S.1 0 < 2 ^ 31 by omega)] at q0 q1; unfold bh_ix; split <;> first | rfl | (exfalso; omega))) (by decide) dX4_isVoter_17
    · refine lv_iconst (v := nI 1) hx hb dX4_isVoter_12 (by decide) ?_
      refine lv_goto (tgt := 17) hx hb dX4_isVoter_13 (by decide) ?_
      exact bn_rotz hx hb hr hlocks ((by have q0 := c_1; have q1 := c_2; simp only [bh_ltI, bh_leI, bh_t0, nI_toInt (show S.1 0 < 2 ^ 31 by omega)] at q0 q1; unfold bh_ix; split <;> first | rfl | (exfalso; omega))) (by decide) dX4_isVoter_17
set_option maxHeartbeats 4000000 in
set_option maxRecDepth 100000 in
theorem cm_isBallot (l : Launch) (D : va_G) (c : bh_C) (h : Nat) (ad : Nat → Nat) (S : mS) (x : Int32) (hn : S.1 18 ≤ 24) : Met l yX4_isBallot wsX4_isBallot ({ frames := 0, cells := 0, slots := 0, locals := 0 }) (va_Pc [.ref h, .int (x)] (bh_pre D c (bh_mw h ad c (S)))) (vp_Si (fun r => r = bh_s (bh_ixb x (S.1 18)))) 0 0 (fun _ => False) := by
  refine Met.ofW (cc := cX4_isBallot) (maxL := 2) (ret := (some .boolean)) (by decide) rfl ?_
  intro p e s m args below meth c0 s₁ B hml hv
  obtain ⟨rfl, hP, hK, hD0⟩ := hv
  have hx := B.exec
  have hb := B.bytes
  have hr := B.returns
  have hts := atoms_spec (ws := wsX4_isBallot) B.pre
  have hown : s.vm.findClass RX4 = some m.cls := findClass_of_methodNamed B.named
  have hlocks := B.notSynchronized
  have hinX4 : ∀ w ∈ wsX40, w ∈ wsX4_isBallot := fun _ h => List.mem_cons_of_mem _ (List.mem_append_right _ h)
  have lk_94 : (Cond.fieldLink RX4 94 "BallotHouseModel" "ballots" "I").before _ s = true := hts _ (by decide +kernel)
  have hI : bh_I D (bh_mw h ad c (S)) (fun _ => True) s.heap s.heap [] := ⟨hP, hD0, va_S.rf⟩
  have hl := lv_entry ([.ref h, .int (x)]) (n := 2) (Nat.le_of_ble_eq_true rfl)
  rw [lg_entry_eq]
  generalize (lg_sl ([.ref h, .int (x)]) ++ List.replicate (2 - (lg_sl ([.ref h, .int (x)])).length) Slot.unset).toArray = ls at hl ⊢
  have hl : lv_has ls 2 [(0, .ref h), (1, .int (x))] := hl
  refine lv_iload_n hx hb dX4_isBallot_0 rfl (lv_at hl 1 rfl) ?_
  refine lv_iconst (v := nI 1) hx hb dX4_isBallot_1 (by decide) ?_
  refine lv_icmp_lt (tgt := 17) hx hb dX4_isBallot_2 (by decide) (fun c_1 => ?_) (fun c_1 => ?_)
  · refine lv_iconst (v := nI 0) hx hb dX4_isBallot_17 (by decide) ?_
    exact bn_rotz hx hb hr hlocks ((by have q0 := c_1; simp only [bh_ltI, bh_leI, bh_t0, nI_toInt (show S.1 18 < 2 ^ 31 by omega), nI_toInt (show 1 < 2 ^ 31 by omega)] at q0; unfold bh_ixb; split <;> first | rfl | (exfalso; omega))) (by decide) dX4_isBallot_18
  · refine lv_iload_n hx hb dX4_isBallot_5 rfl (lv_at hl 1 rfl) ?_
    refine lv_aload_n hx hb dX4_isBallot_6 rfl (lv_at hl 0 rfl) ?_
    refine bn_get (ci := 3) (v := .int (nI (S.1 18))) (C := RX4) (T := TX4) (N := 31) hx hb hts hinX4 hown hK hI 0 rfl rfl 18 (by decide) lk_94 rfl (rfl) dX4_isBallot_7 ?_
    refine lv_icmp_gt (tgt := 17) hx hb dX4_isBallot_10 (by decide) (fun c_2 => ?_) (fun c_2 => ?_)
    · refine lv_iconst (v := nI 0) hx hb dX4_isBallot_17 (by decide) ?_
      exact bn_rotz hx hb hr hlocks ((by have q0 := c_1; have q1 := c_2; simp only [bh_ltI, bh_leI, bh_t0, nI_toInt (show S.1 18 < 2 ^ 31 by omega), nI_toInt (show 1 < 2 ^ 31 by omega)] at q0 q1; unfold bh_ixb; split <;> first | rfl | (exfalso; omega))) (by decide) dX4_isBallot_18
    · refine lv_iconst (v := nI 1) hx hb dX4_isBallot_13 (by decide) ?_
      refine lv_goto (tgt := 18) hx hb dX4_isBallot_14 (by decide) ?_
      exact bn_rotz hx hb hr hlocks ((by have q0 := c_1; have q1 := c_2; simp only [bh_ltI, bh_leI, bh_t0, nI_toInt (show S.1 18 < 2 ^ 31 by omega), nI_toInt (show 1 < 2 ^ 31 by omega)] at q0 q1; unfold bh_ixb; split <;> first | rfl | (exfalso; omega))) (by decide) dX4_isBallot_18
set_option maxHeartbeats 4000000 in
set_option maxRecDepth 100000 in
theorem cm_isPlace (l : Launch) (x : Int32) : Met l yX4_isPlace wsX4_isPlace ({ frames := 0, cells := 0, slots := 0, locals := 0 }) (va_Pc [.int (x)] (fun _ => True)) (vp_Si (fun r => r = bh_s (bh_ix x 8))) 0 0 (fun _ => False) := by
  refine Met.ofW (cc := cX4_isPlace) (maxL := 1) (ret := (some .boolean)) (by decide) rfl ?_
  intro p e s m args below meth c0 s₁ B hml hv
  obtain ⟨rfl, -⟩ := hv
  have hx := B.exec
  have hb := B.bytes
  have hr := B.returns
  have hts := atoms_spec (ws := wsX4_isPlace) B.pre
  have hown : s.vm.findClass RX4 = some m.cls := findClass_of_methodNamed B.named
  have hlocks := B.notSynchronized
  have hl := lv_entry ([.int (x)]) (n := 1) (Nat.le_of_ble_eq_true rfl)
  rw [lg_entry_eq]
  generalize (lg_sl ([.int (x)]) ++ List.replicate (1 - (lg_sl ([.int (x)])).length) Slot.unset).toArray = ls at hl ⊢
  have hl : lv_has ls 1 [(0, .int (x))] := hl
  refine lv_iload_n hx hb dX4_isPlace_0 rfl (lv_at hl 0 rfl) ?_
  refine lv_if_lt (tgt := 14) hx hb dX4_isPlace_1 (by decide) (fun c_1 => ?_) (fun c_1 => ?_)
  · refine lv_iconst (v := nI 0) hx hb dX4_isPlace_14 (by decide) ?_
    exact bn_rotz hx hb hr hlocks ((by have q0 := c_1; simp only [bh_ltI, bh_leI, bh_t0, nI_toInt (show 8 < 2 ^ 31 by omega)] at q0; unfold bh_ix; split <;> first | rfl | (exfalso; omega))) (by decide) dX4_isPlace_15
  · refine lv_iload_n hx hb dX4_isPlace_4 rfl (lv_at hl 0 rfl) ?_
    refine lv_bipush (v := nI 8) hx hb dX4_isPlace_5 (by decide) ?_
    refine lv_icmp_ge (tgt := 14) hx hb dX4_isPlace_7 (by decide) (fun c_2 => ?_) (fun c_2 => ?_)
    · refine lv_iconst (v := nI 0) hx hb dX4_isPlace_14 (by decide) ?_
      exact bn_rotz hx hb hr hlocks ((by have q0 := c_1; have q1 := c_2; simp only [bh_ltI, bh_leI, bh_t0, nI_toInt (show 8 < 2 ^ 31 by omega)] at q0 q1; unfold bh_ix; split <;> first | rfl | (exfalso; omega))) (by decide) dX4_isPlace_15
    · refine lv_iconst (v := nI 1) hx hb dX4_isPlace_10 (by decide) ?_
      refine lv_goto (tgt := 15) hx hb dX4_isPlace_11 (by decide) ?_
      exact bn_rotz hx hb hr hlocks ((by have q0 := c_1; have q1 := c_2; simp only [bh_ltI, bh_leI, bh_t0, nI_toInt (show 8 < 2 ^ 31 by omega)] at q0 q1; unfold bh_ix; split <;> first | rfl | (exfalso; omega))) (by decide) dX4_isPlace_15
set_option maxHeartbeats 4000000 in
set_option maxRecDepth 100000 in
theorem cm_many (l : Launch) (x : Int32) : Met l yX4_many wsX4_many ({ frames := 0, cells := 0, slots := 0, locals := 0 }) (va_Pc [.int (x)] (fun _ => True)) (vp_Si (fun r => r = bh_many x)) 0 0 (fun _ => False) := by
  refine Met.ofW (cc := cX4_many) (maxL := 3) (ret := (some .int)) (by decide) rfl ?_
  intro p e s m args below meth c0 s₁ B hml hv
  obtain ⟨rfl, -⟩ := hv
  have hx := B.exec
  have hb := B.bytes
  have hr := B.returns
  have hts := atoms_spec (ws := wsX4_many) B.pre
  have hown : s.vm.findClass RX4 = some m.cls := findClass_of_methodNamed B.named
  have hlocks := B.notSynchronized
  have hl := lv_entry ([.int (x)]) (n := 3) (Nat.le_of_ble_eq_true rfl)
  rw [lg_entry_eq]
  generalize (lg_sl ([.int (x)]) ++ List.replicate (3 - (lg_sl ([.int (x)])).length) Slot.unset).toArray = ls at hl ⊢
  have hl : lv_has ls 3 [(0, .int (x))] := hl
  refine lv_iconst (v := nI 0) hx hb dX4_many_0 (by decide) ?_
  refine lv_istore_n (lv' := [(1, .int (nI 0)), (0, .int (x))]) hx hb dX4_many_1 rfl hl (by decide) rfl (fun ls hl => ?_)
  refine lv_iconst (v := nI 0) hx hb dX4_many_2 (by decide) ?_
  refine lv_istore_n (lv' := [(2, .int (nI 0)), (1, .int (nI 0)), (0, .int (x))]) hx hb dX4_many_3 rfl hl (by decide) rfl (fun ls hl => ?_)
  refine bh_loop (σ := Nat) (fun (k : Nat) H locs ls => H = s.heap ∧ locs = [] ∧ k ≤ 7 ∧ lv_has ls 3 [(2, .int (nI k)), (1, .int (bh_manyL x k)), (0, .int (x))]) (fun (k : Nat) => 7 - k) (fun k H locs ls hx_1 ih_1 => ?_) 0 _ _ _ ⟨rfl, rfl, Nat.zero_le 7, lv_sub hl [0, 1, 2] rfl⟩
  clear hl
  obtain ⟨rfl, rfl, hk, hl⟩ := hx_1
  refine lv_iload_n hx hb dX4_many_4 rfl (lv_at hl 0 rfl) ?_
  refine lv_bipush (v := nI 7) hx hb dX4_many_5 (by decide) ?_
  refine bn_cmp_ge (tgt := 24) hx hb (by omega) (by omega) dX4_many_7 (by decide) (fun c_2 => ?_) (fun c_2 => ?_)
  · refine lv_iload_n hx hb dX4_many_24 rfl (lv_at hl 1 rfl) ?_
    exact bn_roti hx hb hr hlocks (by rw [show k = 7 by omega]; rfl) dX4_many_25
  · refine lv_iload_n hx hb dX4_many_10 rfl (lv_at hl 1 rfl) ?_
    refine lv_iload_n hx hb dX4_many_11 rfl (lv_at hl 2 rfl) ?_
    refine lv_iload_n hx hb dX4_many_12 rfl (lv_at hl 0 rfl) ?_
    refine lv_ishr hx hb dX4_many_13 ?_
    refine lv_iconst (v := nI 1) hx hb dX4_many_14 (by decide) ?_
    refine lv_iand hx hb dX4_many_15 ?_
    refine lv_iadd hx hb dX4_many_16 ?_
    refine lv_istore_n (lv' := [(1, .int ((bh_manyL x k) + ((x >>> ((nI k) &&& 31)) &&& (nI 1)))), (2, .int (nI k)), (0, .int (x))]) hx hb dX4_many_17 rfl hl (by decide) rfl (fun ls hl => ?_)
    refine lv_iinc (v := nI (k + 1)) (lv' := [(2, .int (nI (k + 1))), (1, .int ((bh_manyL x k) + ((x >>> ((nI k) &&& 31)) &&& (nI 1)))), (0, .int (x))]) hx hb dX4_many_18 hl (k := 1) rfl (nI_1 _) (by decide) rfl (fun ls hl => ?_)
    refine lv_goto (tgt := 4) hx hb dX4_many_21 (by decide) ?_
    exact ih_1 (k + 1) _ _ _ ⟨rfl, rfl, by omega, lv_sub hl [0, 1, 2] rfl⟩ (by show 7 - (k + 1) < 7 - k; omega)
set_option maxHeartbeats 4000000 in
set_option maxRecDepth 100000 in
theorem cm_put3 (l : Launch) (D : va_G) (c : bh_C) (h : Nat) (ad : Nat → Nat) (sz : Nat) (S : mS) (bb : Int32) (v : Nat) (pp : Int32) (x : Int64) (ha : S.1 28 ≤ 400) (hv : v < 7) : Met l yX4_put wsX4_put ({ frames := 0, cells := 0, slots := 0, locals := 0 }) (va_Pc [.ref h, .int (nI 3), .int (bb), .int (nI v), .int (pp), .long (x)] (bh_prm D c (bh_mw h ad c (S)) sz)) (va_Qv (fun u : mS => u = bh_put S (nI 3) bb (nI v) pp x (fun k => S.2.2.1 2 (8 * v + k)) (fun k => S.2.2.2 3 (8 * v + k))) (fun u t => bh_post D c (bh_mw h ad c u) (va_A (bh_mw h ad c (S)) sz) t) (va_A (bh_mw h ad c (S)) sz)) 0 0 (va_A (bh_mw h ad c (S)) sz) := by
  refine Met.ofW (cc := cX4_put) (maxL := 8) (ret := none) (by decide) rfl ?_
  intro p e s m args below meth c0 s₁ B hml hv
  obtain ⟨rfl, hsz, hP, hK, hD0⟩ := hv
  have hx := B.exec
  have hb := B.bytes
  have hr := B.returns
  have hts := atoms_spec (ws := wsX4_put) B.pre
  have hown : s.vm.findClass RX4 = some m.cls := findClass_of_methodNamed B.named
  have hlocks := B.notSynchronized
  have hinX4 : ∀ w ∈ wsX40, w ∈ wsX4_put := fun _ h => List.mem_cons_of_mem _ (List.mem_append_right _ h)
  have lk_13 : (Cond.fieldLink RX4 13 "BallotHouseModel" "vote" "[I").before _ s = true := hts _ (by decide +kernel)
  have lk_16 : (Cond.fieldLink RX4 16 "BallotHouseModel" "value" "[J").before _ s = true := hts _ (by decide +kernel)
  have lk_63 : (Cond.fieldLink RX4 63 "BallotHouseModel" "airKind" "[I").before _ s = true := hts _ (by decide +kernel)
  have lk_66 : (Cond.fieldLink RX4 66 "BallotHouseModel" "airBallot" "[I").before _ s = true := hts _ (by decide +kernel)
  have lk_69 : (Cond.fieldLink RX4 69 "BallotHouseModel" "airVoter" "[I").before _ s = true := hts _ (by decide +kernel)
  have lk_72 : (Cond.fieldLink RX4 72 "BallotHouseModel" "airPlace" "[I").before _ s = true := hts _ (by decide +kernel)
  have lk_75 : (Cond.fieldLink RX4 75 "BallotHouseModel" "airVote" "[I").before _ s = true := hts _ (by decide +kernel)
  have lk_78 : (Cond.fieldLink RX4 78 "BallotHouseModel" "airValue" "[J").before _ s = true := hts _ (by decide +kernel)
  have lk_81 : (Cond.fieldLink RX4 81 "BallotHouseModel" "airValues" "[J").before _ s = true := hts _ (by decide +kernel)
  have lk_97 : (Cond.fieldLink RX4 97 "BallotHouseModel" "air" "I").before _ s = true := hts _ (by decide +kernel)
  have lk_100 : (Cond.fieldLink RX4 100 "BallotHouseModel" "lost" "I").before _ s = true := hts _ (by decide +kernel)
  subst hsz
  have hI := bh_start hP hD0
  generalize hAe : va_A (bh_mw h ad c (S)) s.heap.size = A at hI ⊢
  have hA : ∀ q : Nat, s.heap.size ≤ q → A q := fun q h => by rw [← hAe]; exact Or.inr h
  clear hP hD0 hAe
  have hl := lv_entry ([.ref h, .int (nI 3), .int (bb), .int (nI v), .int (pp), .long (x)]) (n := 8) (Nat.le_of_ble_eq_true rfl)
  rw [lg_entry_eq]
  generalize (lg_sl ([.ref h, .int (nI 3), .int (bb), .int (nI v), .int (pp), .long (x)]) ++ List.replicate (8 - (lg_sl ([.ref h, .int (nI 3), .int (bb), .int (nI v), .int (pp), .long (x)])).length) Slot.unset).toArray = ls at hl ⊢
  have hl : lv_has ls 8 [(0, .ref h), (1, .int (nI 3)), (2, .int (bb)), (3, .int (nI v)), (4, .int (pp)), (5, .long (x))] := hl
  refine lv_aload_n hx hb dX4_put_0 rfl (lv_at hl 0 rfl) ?_
  refine bn_get (ci := 3) (v := .int (nI (S.1 28))) (C := RX4) (T := TX4) (N := 31) hx hb hts hinX4 hown hK hI 0 rfl rfl 28 (by decide) lk_97 rfl (rfl) dX4_put_1 ?_
  refine lv_sipush (v := nI 400) hx hb dX4_put_4 (by decide) ?_
  refine bn_cmp_ne (tgt := 21) hx hb (by omega) (by omega) dX4_put_7 (by decide) (fun c_1 => ?_) (fun c_1 => ?_)
  · refine lv_aload_n hx hb dX4_put_21 rfl (lv_at hl 0 rfl) ?_
    refine bn_get (ci := 3) (v := .ref (ad 21)) (C := RX4) (T := TX4) (N := 31) hx hb hts hinX4 hown hK hI 0 rfl rfl 21 (by decide) lk_63 rfl (rfl) dX4_put_22 ?_
    refine lv_aload_n hx hb dX4_put_25 rfl (lv_at hl 0 rfl) ?_
    refine bn_get (ci := 3) (v := .int (nI (S.1 28))) (C := RX4) (T := TX4) (N := 31) hx hb hts hinX4 hown hK hI 0 rfl rfl 28 (by decide) lk_97 rfl (rfl) dX4_put_26 ?_
    refine lv_iload_n hx hb dX4_put_29 rfl (lv_at hl 1 rfl) ?_
    refine bn_iast (n := 400) (ws' := bh_mw h ad c (bh_r S 21 (S.1 28) (nI 3))) hx hb hK hI 18 0 rfl rfl (by omega) (by decide) dX4_put_30 rfl (fun H locs hI => ?_)
    refine lv_aload_n hx hb dX4_put_31 rfl (lv_at hl 0 rfl) ?_
    refine bn_get (ci := 3) (v := .ref (ad 22)) (C := RX4) (T := TX4) (N := 31) hx hb hts hinX4 hown hK hI 0 rfl rfl 22 (by decide) lk_66 rfl (rfl) dX4_put_32 ?_
    refine lv_aload_n hx hb dX4_put_35 rfl (lv_at hl 0 rfl) ?_
    refine bn_get (ci := 3) (v := .int (nI (S.1 28))) (C := RX4) (T := TX4) (N := 31) hx hb hts hinX4 hown hK hI 0 rfl rfl 28 (by decide) lk_97 rfl (rfl) dX4_put_36 ?_
    refine lv_iload_n hx hb dX4_put_39 rfl (lv_at hl 2 rfl) ?_
    refine bn_iast (n := 400) (ws' := bh_mw h ad c (bh_r (bh_r S 21 (S.1 28) (nI 3)) 22 (S.1 28) bb)) hx hb hK hI 19 0 rfl rfl (by omega) (by decide) dX4_put_40 rfl (fun H locs hI => ?_)
    refine lv_aload_n hx hb dX4_put_41 rfl (lv_at hl 0 rfl) ?_
    refine bn_get (ci := 3) (v := .ref (ad 23)) (C := RX4) (T := TX4) (N := 31) hx hb hts hinX4 hown hK hI 0 rfl rfl 23 (by decide) lk_69 rfl (rfl) dX4_put_42 ?_
    refine lv_aload_n hx hb dX4_put_45 rfl (lv_at hl 0 rfl) ?_
    refine bn_get (ci := 3) (v := .int (nI (S.1 28))) (C := RX4) (T := TX4) (N := 31) hx hb hts hinX4 hown hK hI 0 rfl rfl 28 (by decide) lk_97 rfl (rfl) dX4_put_46 ?_
    refine lv_iload_n hx hb dX4_put_49 rfl (lv_at hl 3 rfl) ?_
    refine bn_iast (n := 400) (ws' := bh_mw h ad c (bh_r (bh_r (bh_r S 21 (S.1 28) (nI 3)) 22 (S.1 28) bb) 23 (S.1 28) (nI v))) hx hb hK hI 20 0 rfl rfl (by omega) (by decide) dX4_put_50 rfl (fun H locs hI => ?_)
    refine lv_aload_n hx hb dX4_put_51 rfl (lv_at hl 0 rfl) ?_
    refine bn_get (ci := 3) (v := .ref (ad 24)) (C := RX4) (T := TX4) (N := 31) hx hb hts hinX4 hown hK hI 0 rfl rfl 24 (by decide) lk_72 rfl (rfl) dX4_put_52 ?_
    refine lv_aload_n hx hb dX4_put_55 rfl (lv_at hl 0 rfl) ?_
    refine bn_get (ci := 3) (v := .int (nI (S.1 28))) (C := RX4) (T := TX4) (N := 31) hx hb hts hinX4 hown hK hI 0 rfl rfl 28 (by decide) lk_97 rfl (rfl) dX4_put_56 ?_
    refine lv_iload hx hb dX4_put_59 (lv_at hl 4 rfl) ?_
    refine bn_iast (n := 400) (ws' := bh_mw h ad c (bh_r (bh_r (bh_r (bh_r S 21 (S.1 28) (nI 3)) 22 (S.1 28) bb) 23 (S.1 28) (nI v)) 24 (S.1 28) pp)) hx hb hK hI 21 0 rfl rfl (by omega) (by decide) dX4_put_61 rfl (fun H locs hI => ?_)
    refine lv_aload_n hx hb dX4_put_62 rfl (lv_at hl 0 rfl) ?_
    refine bn_get (ci := 3) (v := .ref (ad 26)) (C := RX4) (T := TX4) (N := 31) hx hb hts hinX4 hown hK hI 0 rfl rfl 26 (by decide) lk_78 rfl (rfl) dX4_put_63 ?_
    refine lv_aload_n hx hb dX4_put_66 rfl (lv_at hl 0 rfl) ?_
    refine bn_get (ci := 3) (v := .int (nI (S.1 28))) (C := RX4) (T := TX4) (N := 31) hx hb hts hinX4 hown hK hI 0 rfl rfl 28 (by decide) lk_97 rfl (rfl) dX4_put_67 ?_
    refine lv_lload hx hb dX4_put_70 (lv_at hl 5 rfl) ?_
    refine bn_last (n := 400) (ws' := bh_mw h ad c (bh_l (bh_r (bh_r (bh_r (bh_r S 21 (S.1 28) (nI 3)) 22 (S.1 28) bb) 23 (S.1 28) (nI v)) 24 (S.1 28) pp) 26 (S.1 28) x)) hx hb hK hI 23 1 rfl rfl (by omega) (by decide) dX4_put_72 rfl (fun H locs hI => ?_)
    refine lv_iconst (v := nI 0) hx hb dX4_put_73 (by decide) ?_
    refine lv_istore (lv' := [(7, .int (nI 0)), (0, .ref h), (1, .int (nI 3)), (2, .int (bb)), (3, .int (nI v)), (4, .int (pp)), (5, .long (x))]) hx hb dX4_put_74 hl (by decide) rfl (fun ls hl => ?_)
    refine bh_loop (σ := Nat) (fun (k : Nat) H locs ls => k ≤ 8 ∧ bh_I D (bh_mw h ad c (bh_bl (bh_putA S (nI 3) bb (nI v) pp x) (8 * S.1 28) k (fun k => S.2.2.1 2 (8 * v + k)) (fun k => S.2.2.2 3 (8 * v + k)))) A s.heap H locs ∧ lv_has ls 8 [(7, .int (nI k)), (0, .ref h), (1, .int (nI 3)), (2, .int (bb)), (3, .int (nI v)), (4, .int (pp)), (5, .long (x))]) (fun (k : Nat) => 8 - k) (fun k H locs ls hx_2 ih_2 => ?_) 0 _ _ _ ⟨Nat.zero_le 8, (by rw [bh_bl_0]; exact hI), lv_sub hl [0, 1, 2, 3, 4, 5, 6] rfl⟩
    clear hl hI
    obtain ⟨hk, hI, hl⟩ := hx_2
    refine lv_iload hx hb dX4_put_76 (lv_at hl 0 rfl) ?_
    refine lv_bipush (v := nI 8) hx hb dX4_put_78 (by decide) ?_
    refine bn_cmp_ge (tgt := 161) hx hb (by omega) (by omega) dX4_put_80 (by decide) (fun c_3 => ?_) (fun c_3 => ?_)
    · refine lv_aload_n hx hb dX4_put_161 rfl (lv_at hl 1 rfl) ?_
      refine lv_dup hx hb dX4_put_162 rfl ?_
      refine bn_get (ci := 3) (v := .int (nI (S.1 28))) (C := RX4) (T := TX4) (N := 31) hx hb hts hinX4 hown hK hI 0 rfl rfl 28 (by decide) lk_97 rfl (rfl) dX4_put_163 ?_
      refine lv_iconst (v := nI 1) hx hb dX4_put_166 (by decide) ?_
      refine bn_iadd hx hb dX4_put_167 ?_
      refine bn_put (ci := 3) (v := .int (nI ((S.1 28) + 1))) (ty := .int) (C := RX4) (T := TX4) (N := 31) (ws' := bh_mw h ad c (bh_n (bh_bl (bh_putA S (nI 3) bb (nI v) pp x) (8 * S.1 28) k (fun k => S.2.2.1 2 (8 * v + k)) (fun k => S.2.2.2 3 (8 * v + k))) 28 ((S.1 28) + 1))) hx hb hts hinX4 tyX4 tyX4_ok nmX4 hown hK hI 0 rfl rfl 28 (by decide) lk_97 rfl rfl rfl rfl rfl (Nat.le_of_ble_eq_true rfl) dX4_put_168 rfl (fun H locs hI => ?_)
      exact bn_retv hx hb hr hlocks hK (bh_n (bh_bl (bh_putA S (nI 3) bb (nI v) pp x) (8 * S.1 28) k (fun k => S.2.2.1 2 (8 * v + k)) (fun k => S.2.2.2 3 (8 * v + k))) 28 ((S.1 28) + 1)) hI (by rw [show k = 8 by omega]; unfold bh_put; rw [if_neg c_1]) dX4_put_171
    · refine lv_aload_n hx hb dX4_put_83 rfl (lv_at hl 1 rfl) ?_
      refine bn_get (ci := 3) (v := .ref (ad 25)) (C := RX4) (T := TX4) (N := 31) hx hb hts hinX4 hown hK hI 0 rfl rfl 25 (by decide) lk_75 rfl (rfl) dX4_put_84 ?_
      refine lv_bipush (v := nI 8) hx hb dX4_put_87 (by decide) ?_
      refine lv_aload_n hx hb dX4_put_89 rfl (lv_at hl 1 rfl) ?_
      refine bn_get (ci := 3) (v := .int (nI (S.1 28))) (C := RX4) (T := TX4) (N := 31) hx hb hts hinX4 hown hK hI 0 rfl rfl 28 (by decide) lk_97 rfl (rfl) dX4_put_90 ?_
      refine bn_imul hx hb dX4_put_93 ?_
      refine lv_iload hx hb dX4_put_94 (lv_at hl 0 rfl) ?_
      refine bn_iadd hx hb dX4_put_96 ?_
      refine lv_iload_n hx hb dX4_put_97 rfl (lv_at hl 2 rfl) ?_
      refine lv_iconst (v := nI 3) hx hb dX4_put_98 (by decide) ?_
      refine bn_cmp_ne (tgt := 117) hx hb (by omega) (by omega) dX4_put_99 (by decide) (fun c_4 => ?_) (fun c_4 => ?_)
      · exact absurd rfl c_4
      · refine lv_aload_n hx hb dX4_put_102 rfl (lv_at hl 1 rfl) ?_
        refine bn_get (ci := 3) (v := .ref (ad 2)) (C := RX4) (T := TX4) (N := 31) hx hb hts hinX4 hown hK hI 0 rfl rfl 2 (by decide) lk_13 rfl (rfl) dX4_put_103 ?_
        refine lv_bipush (v := nI 8) hx hb dX4_put_106 (by decide) ?_
        refine lv_iload_n hx hb dX4_put_108 rfl (lv_at hl 4 rfl) ?_
        refine bn_imul hx hb dX4_put_109 ?_
        refine lv_iload hx hb dX4_put_110 (lv_at hl 0 rfl) ?_
        refine bn_iadd hx hb dX4_put_112 ?_
        refine bn_iald (n := 56) (v := S.2.2.1 2 ((8 * v) + k)) hx hb hK hI 2 0 rfl rfl (by omega) (by decide) (rfl) dX4_put_113 ?_
        refine lv_goto (tgt := 118) hx hb dX4_put_114 (by decide) ?_
        refine bn_iast (n := 3200) (ws' := bh_mw h ad c (bh_r (bh_bl (bh_putA S (nI 3) bb (nI v) pp x) (8 * S.1 28) k (fun k => S.2.2.1 2 (8 * v + k)) (fun k => S.2.2.2 3 (8 * v + k))) 25 ((8 * (S.1 28)) + k) (S.2.2.1 2 ((8 * v) + k)))) hx hb hK hI 22 0 rfl rfl (by omega) (by decide) dX4_put_118 rfl (fun H locs hI => ?_)
        refine lv_aload_n hx hb dX4_put_119 rfl (lv_at hl 1 rfl) ?_
        refine bn_get (ci := 3) (v := .ref (ad 27)) (C := RX4) (T := TX4) (N := 31) hx hb hts hinX4 hown hK hI 0 rfl rfl 27 (by decide) lk_81 rfl (rfl) dX4_put_120 ?_
        refine lv_bipush (v := nI 8) hx hb dX4_put_123 (by decide) ?_
        refine lv_aload_n hx hb dX4_put_125 rfl (lv_at hl 1 rfl) ?_
        refine bn_get (ci := 3) (v := .int (nI (S.1 28))) (C := RX4) (T := TX4) (N := 31) hx hb hts hinX4 hown hK hI 0 rfl rfl 28 (by decide) lk_97 rfl (rfl) dX4_put_126 ?_
        refine bn_imul hx hb dX4_put_129 ?_
        refine lv_iload hx hb dX4_put_130 (lv_at hl 0 rfl) ?_
        refine bn_iadd hx hb dX4_put_132 ?_
        refine lv_iload_n hx hb dX4_put_133 rfl (lv_at hl 2 rfl) ?_
        refine lv_iconst (v := nI 3) hx hb dX4_put_134 (by decide) ?_
        refine bn_cmp_ne (tgt := 153) hx hb (by omega) (by omega) dX4_put_135 (by decide) (fun c_5 => ?_) (fun c_5 => ?_)
        · exact absurd rfl c_5
        · refine lv_aload_n hx hb dX4_put_138 rfl (lv_at hl 1 rfl) ?_
          refine bn_get (ci := 3) (v := .ref (ad 3)) (C := RX4) (T := TX4) (N := 31) hx hb hts hinX4 hown hK hI 0 rfl rfl 3 (by decide) lk_16 rfl (rfl) dX4_put_139 ?_
          refine lv_bipush (v := nI 8) hx hb dX4_put_142 (by decide) ?_
          refine lv_iload_n hx hb dX4_put_144 rfl (lv_at hl 4 rfl) ?_
          refine bn_imul hx hb dX4_put_145 ?_
          refine lv_iload hx hb dX4_put_146 (lv_at hl 0 rfl) ?_
          refine bn_iadd hx hb dX4_put_148 ?_
          refine bn_lald (n := 56) (v := S.2.2.2 3 ((8 * v) + k)) hx hb hK hI 3 1 rfl rfl (by omega) (by decide) (rfl) dX4_put_149 ?_
          refine lv_goto (tgt := 154) hx hb dX4_put_150 (by decide) ?_
          refine bn_last (n := 3200) (ws' := bh_mw h ad c (bh_l (bh_r (bh_bl (bh_putA S (nI 3) bb (nI v) pp x) (8 * S.1 28) k (fun k => S.2.2.1 2 (8 * v + k)) (fun k => S.2.2.2 3 (8 * v + k))) 25 ((8 * (S.1 28)) + k) (S.2.2.1 2 ((8 * v) + k))) 27 ((8 * (S.1 28)) + k) (S.2.2.2 3 ((8 * v) + k)))) hx hb hK hI 24 1 rfl rfl (by omega) (by decide) dX4_put_154 rfl (fun H locs hI => ?_)
          refine lv_iinc (v := nI (k + 1)) (lv' := [(7, .int (nI (k + 1))), (0, .ref h), (1, .int (nI 3)), (2, .int (bb)), (3, .int (nI v)), (4, .int (pp)), (5, .long (x))]) hx hb dX4_put_155 hl (k := 0) rfl (nI_1 _) (by decide) rfl (fun ls hl => ?_)
          refine lv_goto (tgt := 76) hx hb dX4_put_158 (by decide) ?_
          exact ih_2 (k + 1) _ _ _ ⟨by omega, (by rw [← bh_bl_s]; exact hI), lv_sub hl [0, 1, 2, 3, 4, 5, 6] rfl⟩ (by show 8 - (k + 1) < 8 - k; omega)
  · refine lv_aload_n hx hb dX4_put_10 rfl (lv_at hl 0 rfl) ?_
    refine lv_dup hx hb dX4_put_11 rfl ?_
    refine bn_get (ci := 3) (v := .int (S.2.1 20)) (C := RX4) (T := TX4) (N := 31) hx hb hts hinX4 hown hK hI 0 rfl rfl 20 (by decide) lk_100 rfl (rfl) dX4_put_12 ?_
    refine lv_iconst (v := nI 1) hx hb dX4_put_15 (by decide) ?_
    refine lv_iadd hx hb dX4_put_16 ?_
    refine bn_put (ci := 3) (v := .int ((S.2.1 20) + (nI 1))) (ty := .int) (C := RX4) (T := TX4) (N := 31) (ws' := bh_mw h ad c (bh_i S 20 ((S.2.1 20) + (nI 1)))) hx hb hts hinX4 tyX4 tyX4_ok nmX4 hown hK hI 0 rfl rfl 20 (by decide) lk_100 rfl rfl rfl rfl rfl (Nat.le_of_ble_eq_true rfl) dX4_put_17 rfl (fun H locs hI => ?_)
    exact bn_retv hx hb hr hlocks hK (bh_i S 20 ((S.2.1 20) + (nI 1))) hI (by unfold bh_put; rw [if_pos c_1]) dX4_put_20
set_option maxHeartbeats 4000000 in
set_option maxRecDepth 100000 in
theorem cm_put (l : Launch) (D : va_G) (c : bh_C) (h : Nat) (ad : Nat → Nat) (sz : Nat) (S : mS) (w : Nat) (bb vv pp : Int32) (x : Int64) (ha : S.1 28 ≤ 400) (hw : w < 8) (hw3 : w ≠ 3) : Met l yX4_put wsX4_put ({ frames := 0, cells := 0, slots := 0, locals := 0 }) (va_Pc [.ref h, .int (nI w), .int (bb), .int (vv), .int (pp), .long (x)] (bh_prm D c (bh_mw h ad c (S)) sz)) (va_Qv (fun u : mS => u = bh_put S (nI w) bb vv pp x (fun _ => nI 0) (fun _ => 0)) (fun u t => bh_post D c (bh_mw h ad c u) (va_A (bh_mw h ad c (S)) sz) t) (va_A (bh_mw h ad c (S)) sz)) 0 0 (va_A (bh_mw h ad c (S)) sz) := by
  refine Met.ofW (cc := cX4_put) (maxL := 8) (ret := none) (by decide) rfl ?_
  intro p e s m args below meth c0 s₁ B hml hv
  obtain ⟨rfl, hsz, hP, hK, hD0⟩ := hv
  have hx := B.exec
  have hb := B.bytes
  have hr := B.returns
  have hts := atoms_spec (ws := wsX4_put) B.pre
  have hown : s.vm.findClass RX4 = some m.cls := findClass_of_methodNamed B.named
  have hlocks := B.notSynchronized
  have hinX4 : ∀ w ∈ wsX40, w ∈ wsX4_put := fun _ h => List.mem_cons_of_mem _ (List.mem_append_right _ h)
  have lk_63 : (Cond.fieldLink RX4 63 "BallotHouseModel" "airKind" "[I").before _ s = true := hts _ (by decide +kernel)
  have lk_66 : (Cond.fieldLink RX4 66 "BallotHouseModel" "airBallot" "[I").before _ s = true := hts _ (by decide +kernel)
  have lk_69 : (Cond.fieldLink RX4 69 "BallotHouseModel" "airVoter" "[I").before _ s = true := hts _ (by decide +kernel)
  have lk_72 : (Cond.fieldLink RX4 72 "BallotHouseModel" "airPlace" "[I").before _ s = true := hts _ (by decide +kernel)
  have lk_75 : (Cond.fieldLink RX4 75 "BallotHouseModel" "airVote" "[I").before _ s = true := hts _ (by decide +kernel)
  have lk_78 : (Cond.fieldLink RX4 78 "BallotHouseModel" "airValue" "[J").before _ s = true := hts _ (by decide +kernel)
  have lk_81 : (Cond.fieldLink RX4 81 "BallotHouseModel" "airValues" "[J").before _ s = true := hts _ (by decide +kernel)
  have lk_97 : (Cond.fieldLink RX4 97 "BallotHouseModel" "air" "I").before _ s = true := hts _ (by decide +kernel)
  have lk_100 : (Cond.fieldLink RX4 100 "BallotHouseModel" "lost" "I").before _ s = true := hts _ (by decide +kernel)
  subst hsz
  have hI := bh_start hP hD0
  generalize hAe : va_A (bh_mw h ad c (S)) s.heap.size = A at hI ⊢
  have hA : ∀ q : Nat, s.heap.size ≤ q → A q := fun q h => by rw [← hAe]; exact Or.inr h
  clear hP hD0 hAe
  have hl := lv_entry ([.ref h, .int (nI w), .int (bb), .int (vv), .int (pp), .long (x)]) (n := 8) (Nat.le_of_ble_eq_true rfl)
  rw [lg_entry_eq]
  generalize (lg_sl ([.ref h, .int (nI w), .int (bb), .int (vv), .int (pp), .long (x)]) ++ List.replicate (8 - (lg_sl ([.ref h, .int (nI w), .int (bb), .int (vv), .int (pp), .long (x)])).length) Slot.unset).toArray = ls at hl ⊢
  have hl : lv_has ls 8 [(0, .ref h), (1, .int (nI w)), (2, .int (bb)), (3, .int (vv)), (4, .int (pp)), (5, .long (x))] := hl
  refine lv_aload_n hx hb dX4_put_0 rfl (lv_at hl 0 rfl) ?_
  refine bn_get (ci := 3) (v := .int (nI (S.1 28))) (C := RX4) (T := TX4) (N := 31) hx hb hts hinX4 hown hK hI 0 rfl rfl 28 (by decide) lk_97 rfl (rfl) dX4_put_1 ?_
  refine lv_sipush (v := nI 400) hx hb dX4_put_4 (by decide) ?_
  refine bn_cmp_ne (tgt := 21) hx hb (by omega) (by omega) dX4_put_7 (by decide) (fun c_1 => ?_) (fun c_1 => ?_)
  · refine lv_aload_n hx hb dX4_put_21 rfl (lv_at hl 0 rfl) ?_
    refine bn_get (ci := 3) (v := .ref (ad 21)) (C := RX4) (T := TX4) (N := 31) hx hb hts hinX4 hown hK hI 0 rfl rfl 21 (by decide) lk_63 rfl (rfl) dX4_put_22 ?_
    refine lv_aload_n hx hb dX4_put_25 rfl (lv_at hl 0 rfl) ?_
    refine bn_get (ci := 3) (v := .int (nI (S.1 28))) (C := RX4) (T := TX4) (N := 31) hx hb hts hinX4 hown hK hI 0 rfl rfl 28 (by decide) lk_97 rfl (rfl) dX4_put_26 ?_
    refine lv_iload_n hx hb dX4_put_29 rfl (lv_at hl 1 rfl) ?_
    refine bn_iast (n := 400) (ws' := bh_mw h ad c (bh_r S 21 (S.1 28) (nI w))) hx hb hK hI 18 0 rfl rfl (by omega) (by decide) dX4_put_30 rfl (fun H locs hI => ?_)
    refine lv_aload_n hx hb dX4_put_31 rfl (lv_at hl 0 rfl) ?_
    refine bn_get (ci := 3) (v := .ref (ad 22)) (C := RX4) (T := TX4) (N := 31) hx hb hts hinX4 hown hK hI 0 rfl rfl 22 (by decide) lk_66 rfl (rfl) dX4_put_32 ?_
    refine lv_aload_n hx hb dX4_put_35 rfl (lv_at hl 0 rfl) ?_
    refine bn_get (ci := 3) (v := .int (nI (S.1 28))) (C := RX4) (T := TX4) (N := 31) hx hb hts hinX4 hown hK hI 0 rfl rfl 28 (by decide) lk_97 rfl (rfl) dX4_put_36 ?_
    refine lv_iload_n hx hb dX4_put_39 rfl (lv_at hl 2 rfl) ?_
    refine bn_iast (n := 400) (ws' := bh_mw h ad c (bh_r (bh_r S 21 (S.1 28) (nI w)) 22 (S.1 28) bb)) hx hb hK hI 19 0 rfl rfl (by omega) (by decide) dX4_put_40 rfl (fun H locs hI => ?_)
    refine lv_aload_n hx hb dX4_put_41 rfl (lv_at hl 0 rfl) ?_
    refine bn_get (ci := 3) (v := .ref (ad 23)) (C := RX4) (T := TX4) (N := 31) hx hb hts hinX4 hown hK hI 0 rfl rfl 23 (by decide) lk_69 rfl (rfl) dX4_put_42 ?_
    refine lv_aload_n hx hb dX4_put_45 rfl (lv_at hl 0 rfl) ?_
    refine bn_get (ci := 3) (v := .int (nI (S.1 28))) (C := RX4) (T := TX4) (N := 31) hx hb hts hinX4 hown hK hI 0 rfl rfl 28 (by decide) lk_97 rfl (rfl) dX4_put_46 ?_
    refine lv_iload_n hx hb dX4_put_49 rfl (lv_at hl 3 rfl) ?_
    refine bn_iast (n := 400) (ws' := bh_mw h ad c (bh_r (bh_r (bh_r S 21 (S.1 28) (nI w)) 22 (S.1 28) bb) 23 (S.1 28) vv)) hx hb hK hI 20 0 rfl rfl (by omega) (by decide) dX4_put_50 rfl (fun H locs hI => ?_)
    refine lv_aload_n hx hb dX4_put_51 rfl (lv_at hl 0 rfl) ?_
    refine bn_get (ci := 3) (v := .ref (ad 24)) (C := RX4) (T := TX4) (N := 31) hx hb hts hinX4 hown hK hI 0 rfl rfl 24 (by decide) lk_72 rfl (rfl) dX4_put_52 ?_
    refine lv_aload_n hx hb dX4_put_55 rfl (lv_at hl 0 rfl) ?_
    refine bn_get (ci := 3) (v := .int (nI (S.1 28))) (C := RX4) (T := TX4) (N := 31) hx hb hts hinX4 hown hK hI 0 rfl rfl 28 (by decide) lk_97 rfl (rfl) dX4_put_56 ?_
    refine lv_iload hx hb dX4_put_59 (lv_at hl 4 rfl) ?_
    refine bn_iast (n := 400) (ws' := bh_mw h ad c (bh_r (bh_r (bh_r (bh_r S 21 (S.1 28) (nI w)) 22 (S.1 28) bb) 23 (S.1 28) vv) 24 (S.1 28) pp)) hx hb hK hI 21 0 rfl rfl (by omega) (by decide) dX4_put_61 rfl (fun H locs hI => ?_)
    refine lv_aload_n hx hb dX4_put_62 rfl (lv_at hl 0 rfl) ?_
    refine bn_get (ci := 3) (v := .ref (ad 26)) (C := RX4) (T := TX4) (N := 31) hx hb hts hinX4 hown hK hI 0 rfl rfl 26 (by decide) lk_78 rfl (rfl) dX4_put_63 ?_
    refine lv_aload_n hx hb dX4_put_66 rfl (lv_at hl 0 rfl) ?_
    refine bn_get (ci := 3) (v := .int (nI (S.1 28))) (C := RX4) (T := TX4) (N := 31) hx hb hts hinX4 hown hK hI 0 rfl rfl 28 (by decide) lk_97 rfl (rfl) dX4_put_67 ?_
    refine lv_lload hx hb dX4_put_70 (lv_at hl 5 rfl) ?_
    refine bn_last (n := 400) (ws' := bh_mw h ad c (bh_l (bh_r (bh_r (bh_r (bh_r S 21 (S.1 28) (nI w)) 22 (S.1 28) bb) 23 (S.1 28) vv) 24 (S.1 28) pp) 26 (S.1 28) x)) hx hb hK hI 23 1 rfl rfl (by omega) (by decide) dX4_put_72 rfl (fun H locs hI => ?_)
    refine lv_iconst (v := nI 0) hx hb dX4_put_73 (by decide) ?_
    refine lv_istore (lv' := [(7, .int (nI 0)), (0, .ref h), (1, .int (nI w)), (2, .int (bb)), (3, .int (vv)), (4, .int (pp)), (5, .long (x))]) hx hb dX4_put_74 hl (by decide) rfl (fun ls hl => ?_)
    refine bh_loop (σ := Nat) (fun (k : Nat) H locs ls => k ≤ 8 ∧ bh_I D (bh_mw h ad c (bh_bl (bh_putA S (nI w) bb vv pp x) (8 * S.1 28) k (fun _ => nI 0) (fun _ => 0))) A s.heap H locs ∧ lv_has ls 8 [(7, .int (nI k)), (0, .ref h), (1, .int (nI w)), (2, .int (bb)), (3, .int (vv)), (4, .int (pp)), (5, .long (x))]) (fun (k : Nat) => 8 - k) (fun k H locs ls hx_2 ih_2 => ?_) 0 _ _ _ ⟨Nat.zero_le 8, (by rw [bh_bl_0]; exact hI), lv_sub hl [0, 1, 2, 3, 4, 5, 6] rfl⟩
    clear hl hI
    obtain ⟨hk, hI, hl⟩ := hx_2
    refine lv_iload hx hb dX4_put_76 (lv_at hl 0 rfl) ?_
    refine lv_bipush (v := nI 8) hx hb dX4_put_78 (by decide) ?_
    refine bn_cmp_ge (tgt := 161) hx hb (by omega) (by omega) dX4_put_80 (by decide) (fun c_3 => ?_) (fun c_3 => ?_)
    · refine lv_aload_n hx hb dX4_put_161 rfl (lv_at hl 1 rfl) ?_
      refine lv_dup hx hb dX4_put_162 rfl ?_
      refine bn_get (ci := 3) (v := .int (nI (S.1 28))) (C := RX4) (T := TX4) (N := 31) hx hb hts hinX4 hown hK hI 0 rfl rfl 28 (by decide) lk_97 rfl (rfl) dX4_put_163 ?_
      refine lv_iconst (v := nI 1) hx hb dX4_put_166 (by decide) ?_
      refine bn_iadd hx hb dX4_put_167 ?_
      refine bn_put (ci := 3) (v := .int (nI ((S.1 28) + 1))) (ty := .int) (C := RX4) (T := TX4) (N := 31) (ws' := bh_mw h ad c (bh_n (bh_bl (bh_putA S (nI w) bb vv pp x) (8 * S.1 28) k (fun _ => nI 0) (fun _ => 0)) 28 ((S.1 28) + 1))) hx hb hts hinX4 tyX4 tyX4_ok nmX4 hown hK hI 0 rfl rfl 28 (by decide) lk_97 rfl rfl rfl rfl rfl (Nat.le_of_ble_eq_true rfl) dX4_put_168 rfl (fun H locs hI => ?_)
      exact bn_retv hx hb hr hlocks hK (bh_n (bh_bl (bh_putA S (nI w) bb vv pp x) (8 * S.1 28) k (fun _ => nI 0) (fun _ => 0)) 28 ((S.1 28) + 1)) hI (by rw [show k = 8 by omega]; unfold bh_put; rw [if_neg c_1]) dX4_put_171
    · refine lv_aload_n hx hb dX4_put_83 rfl (lv_at hl 1 rfl) ?_
      refine bn_get (ci := 3) (v := .ref (ad 25)) (C := RX4) (T := TX4) (N := 31) hx hb hts hinX4 hown hK hI 0 rfl rfl 25 (by decide) lk_75 rfl (rfl) dX4_put_84 ?_
      refine lv_bipush (v := nI 8) hx hb dX4_put_87 (by decide) ?_
      refine lv_aload_n hx hb dX4_put_89 rfl (lv_at hl 1 rfl) ?_
      refine bn_get (ci := 3) (v := .int (nI (S.1 28))) (C := RX4) (T := TX4) (N := 31) hx hb hts hinX4 hown hK hI 0 rfl rfl 28 (by decide) lk_97 rfl (rfl) dX4_put_90 ?_
      refine bn_imul hx hb dX4_put_93 ?_
      refine lv_iload hx hb dX4_put_94 (lv_at hl 0 rfl) ?_
      refine bn_iadd hx hb dX4_put_96 ?_
      refine lv_iload_n hx hb dX4_put_97 rfl (lv_at hl 2 rfl) ?_
      refine lv_iconst (v := nI 3) hx hb dX4_put_98 (by decide) ?_
      refine bn_cmp_ne (tgt := 117) hx hb (by omega) (by omega) dX4_put_99 (by decide) (fun c_4 => ?_) (fun c_4 => ?_)
      · refine lv_iconst (v := nI 0) hx hb dX4_put_117 (by decide) ?_
        refine bn_iast (n := 3200) (ws' := bh_mw h ad c (bh_r (bh_bl (bh_putA S (nI w) bb vv pp x) (8 * S.1 28) k (fun _ => nI 0) (fun _ => 0)) 25 ((8 * (S.1 28)) + k) (nI 0))) hx hb hK hI 22 0 rfl rfl (by omega) (by decide) dX4_put_118 rfl (fun H locs hI => ?_)
        refine lv_aload_n hx hb dX4_put_119 rfl (lv_at hl 1 rfl) ?_
        refine bn_get (ci := 3) (v := .ref (ad 27)) (C := RX4) (T := TX4) (N := 31) hx hb hts hinX4 hown hK hI 0 rfl rfl 27 (by decide) lk_81 rfl (rfl) dX4_put_120 ?_
        refine lv_bipush (v := nI 8) hx hb dX4_put_123 (by decide) ?_
        refine lv_aload_n hx hb dX4_put_125 rfl (lv_at hl 1 rfl) ?_
        refine bn_get (ci := 3) (v := .int (nI (S.1 28))) (C := RX4) (T := TX4) (N := 31) hx hb hts hinX4 hown hK hI 0 rfl rfl 28 (by decide) lk_97 rfl (rfl) dX4_put_126 ?_
        refine bn_imul hx hb dX4_put_129 ?_
        refine lv_iload hx hb dX4_put_130 (lv_at hl 0 rfl) ?_
        refine bn_iadd hx hb dX4_put_132 ?_
        refine lv_iload_n hx hb dX4_put_133 rfl (lv_at hl 2 rfl) ?_
        refine lv_iconst (v := nI 3) hx hb dX4_put_134 (by decide) ?_
        refine bn_cmp_ne (tgt := 153) hx hb (by omega) (by omega) dX4_put_135 (by decide) (fun c_5 => ?_) (fun c_5 => ?_)
        · refine lv_lconst (v := 0) hx hb dX4_put_153 (by decide) ?_
          refine bn_last (n := 3200) (ws' := bh_mw h ad c (bh_l (bh_r (bh_bl (bh_putA S (nI w) bb vv pp x) (8 * S.1 28) k (fun _ => nI 0) (fun _ => 0)) 25 ((8 * (S.1 28)) + k) (nI 0)) 27 ((8 * (S.1 28)) + k) 0)) hx hb hK hI 24 1 rfl rfl (by omega) (by decide) dX4_put_154 rfl (fun H locs hI => ?_)
          refine lv_iinc (v := nI (k + 1)) (lv' := [(7, .int (nI (k + 1))), (0, .ref h), (1, .int (nI w)), (2, .int (bb)), (3, .int (vv)), (4, .int (pp)), (5, .long (x))]) hx hb dX4_put_155 hl (k := 0) rfl (nI_1 _) (by decide) rfl (fun ls hl => ?_)
          refine lv_goto (tgt := 76) hx hb dX4_put_158 (by decide) ?_
          exact ih_2 (k + 1) _ _ _ ⟨by omega, (by rw [← bh_bl_s]; exact hI), lv_sub hl [0, 1, 2, 3, 4, 5, 6] rfl⟩ (by show 8 - (k + 1) < 8 - k; omega)
        · exact absurd c_5 hw3
      · exact absurd c_4 hw3
  · refine lv_aload_n hx hb dX4_put_10 rfl (lv_at hl 0 rfl) ?_
    refine lv_dup hx hb dX4_put_11 rfl ?_
    refine bn_get (ci := 3) (v := .int (S.2.1 20)) (C := RX4) (T := TX4) (N := 31) hx hb hts hinX4 hown hK hI 0 rfl rfl 20 (by decide) lk_100 rfl (rfl) dX4_put_12 ?_
    refine lv_iconst (v := nI 1) hx hb dX4_put_15 (by decide) ?_
    refine lv_iadd hx hb dX4_put_16 ?_
    refine bn_put (ci := 3) (v := .int ((S.2.1 20) + (nI 1))) (ty := .int) (C := RX4) (T := TX4) (N := 31) (ws' := bh_mw h ad c (bh_i S 20 ((S.2.1 20) + (nI 1)))) hx hb hts hinX4 tyX4 tyX4_ok nmX4 hown hK hI 0 rfl rfl 20 (by decide) lk_100 rfl rfl rfl rfl rfl (Nat.le_of_ble_eq_true rfl) dX4_put_17 rfl (fun H locs hI => ?_)
    exact bn_retv hx hb hr hlocks hK (bh_i S 20 ((S.2.1 20) + (nI 1))) hI (by unfold bh_put; rw [if_pos c_1]) dX4_put_20
set_option maxHeartbeats 4000000 in
set_option maxRecDepth 100000 in
theorem cm_copy (l : Launch) (D : va_G) (c : bh_C) (h : Nat) (ad : Nat → Nat) (sz : Nat) (S : mS) (i j : Nat) (hi : i < 400) (hj : j < 400) (hij : i ≠ j) : Met l yX4_copy wsX4_copy ({ frames := 0, cells := 0, slots := 0, locals := 0 }) (va_Pc [.ref h, .int (nI i), .int (nI j)] (bh_prm D c (bh_mw h ad c (S)) sz)) (va_Qv (fun u : mS => u = bh_cp S i j) (fun u t => bh_post D c (bh_mw h ad c u) (va_A (bh_mw h ad c (S)) sz) t) (va_A (bh_mw h ad c (S)) sz)) 0 0 (va_A (bh_mw h ad c (S)) sz) := by
  refine Met.ofW (cc := cX4_copy) (maxL := 4) (ret := none) (by decide) rfl ?_
  intro p e s m args below meth c0 s₁ B hml hv
  obtain ⟨rfl, hsz, hP, hK, hD0⟩ := hv
  have hx := B.exec
  have hb := B.bytes
  have hr := B.returns
  have hts := atoms_spec (ws := wsX4_copy) B.pre
  have hown : s.vm.findClass RX4 = some m.cls := findClass_of_methodNamed B.named
  have hlocks := B.notSynchronized
  have hinX4 : ∀ w ∈ wsX40, w ∈ wsX4_copy := fun _ h => List.mem_cons_of_mem _ (List.mem_append_right _ h)
  have lk_63 : (Cond.fieldLink RX4 63 "BallotHouseModel" "airKind" "[I").before _ s = true := hts _ (by decide +kernel)
  have lk_66 : (Cond.fieldLink RX4 66 "BallotHouseModel" "airBallot" "[I").before _ s = true := hts _ (by decide +kernel)
  have lk_69 : (Cond.fieldLink RX4 69 "BallotHouseModel" "airVoter" "[I").before _ s = true := hts _ (by decide +kernel)
  have lk_72 : (Cond.fieldLink RX4 72 "BallotHouseModel" "airPlace" "[I").before _ s = true := hts _ (by decide +kernel)
  have lk_75 : (Cond.fieldLink RX4 75 "BallotHouseModel" "airVote" "[I").before _ s = true := hts _ (by decide +kernel)
  have lk_78 : (Cond.fieldLink RX4 78 "BallotHouseModel" "airValue" "[J").before _ s = true := hts _ (by decide +kernel)
  have lk_81 : (Cond.fieldLink RX4 81 "BallotHouseModel" "airValues" "[J").before _ s = true := hts _ (by decide +kernel)
  subst hsz
  have hI := bh_start hP hD0
  generalize hAe : va_A (bh_mw h ad c (S)) s.heap.size = A at hI ⊢
  have hA : ∀ q : Nat, s.heap.size ≤ q → A q := fun q h => by rw [← hAe]; exact Or.inr h
  clear hP hD0 hAe
  have hl := lv_entry ([.ref h, .int (nI i), .int (nI j)]) (n := 4) (Nat.le_of_ble_eq_true rfl)
  rw [lg_entry_eq]
  generalize (lg_sl ([.ref h, .int (nI i), .int (nI j)]) ++ List.replicate (4 - (lg_sl ([.ref h, .int (nI i), .int (nI j)])).length) Slot.unset).toArray = ls at hl ⊢
  have hl : lv_has ls 4 [(0, .ref h), (1, .int (nI i)), (2, .int (nI j))] := hl
  refine lv_aload_n hx hb dX4_copy_0 rfl (lv_at hl 0 rfl) ?_
  refine bn_get (ci := 3) (v := .ref (ad 21)) (C := RX4) (T := TX4) (N := 31) hx hb hts hinX4 hown hK hI 0 rfl rfl 21 (by decide) lk_63 rfl (rfl) dX4_copy_1 ?_
  refine lv_iload_n hx hb dX4_copy_4 rfl (lv_at hl 2 rfl) ?_
  refine lv_aload_n hx hb dX4_copy_5 rfl (lv_at hl 0 rfl) ?_
  refine bn_get (ci := 3) (v := .ref (ad 21)) (C := RX4) (T := TX4) (N := 31) hx hb hts hinX4 hown hK hI 0 rfl rfl 21 (by decide) lk_63 rfl (rfl) dX4_copy_6 ?_
  refine lv_iload_n hx hb dX4_copy_9 rfl (lv_at hl 1 rfl) ?_
  refine bn_iald (n := 400) (v := S.2.2.1 21 i) hx hb hK hI 18 0 rfl rfl (by omega) (by decide) (rfl) dX4_copy_10 ?_
  refine bn_iast (n := 400) (ws' := bh_mw h ad c (bh_r S 21 j (S.2.2.1 21 i))) hx hb hK hI 18 0 rfl rfl (by omega) (by decide) dX4_copy_11 rfl (fun H locs hI => ?_)
  refine lv_aload_n hx hb dX4_copy_12 rfl (lv_at hl 0 rfl) ?_
  refine bn_get (ci := 3) (v := .ref (ad 22)) (C := RX4) (T := TX4) (N := 31) hx hb hts hinX4 hown hK hI 0 rfl rfl 22 (by decide) lk_66 rfl (rfl) dX4_copy_13 ?_
  refine lv_iload_n hx hb dX4_copy_16 rfl (lv_at hl 2 rfl) ?_
  refine lv_aload_n hx hb dX4_copy_17 rfl (lv_at hl 0 rfl) ?_
  refine bn_get (ci := 3) (v := .ref (ad 22)) (C := RX4) (T := TX4) (N := 31) hx hb hts hinX4 hown hK hI 0 rfl rfl 22 (by decide) lk_66 rfl (rfl) dX4_copy_18 ?_
  refine lv_iload_n hx hb dX4_copy_21 rfl (lv_at hl 1 rfl) ?_
  refine bn_iald (n := 400) (v := S.2.2.1 22 i) hx hb hK hI 19 0 rfl rfl (by omega) (by decide) (rfl) dX4_copy_22 ?_
  refine bn_iast (n := 400) (ws' := bh_mw h ad c (bh_r (bh_r S 21 j (S.2.2.1 21 i)) 22 j (S.2.2.1 22 i))) hx hb hK hI 19 0 rfl rfl (by omega) (by decide) dX4_copy_23 rfl (fun H locs hI => ?_)
  refine lv_aload_n hx hb dX4_copy_24 rfl (lv_at hl 0 rfl) ?_
  refine bn_get (ci := 3) (v := .ref (ad 23)) (C := RX4) (T := TX4) (N := 31) hx hb hts hinX4 hown hK hI 0 rfl rfl 23 (by decide) lk_69 rfl (rfl) dX4_copy_25 ?_
  refine lv_iload_n hx hb dX4_copy_28 rfl (lv_at hl 2 rfl) ?_
  refine lv_aload_n hx hb dX4_copy_29 rfl (lv_at hl 0 rfl) ?_
  refine bn_get (ci := 3) (v := .ref (ad 23)) (C := RX4) (T := TX4) (N := 31) hx hb hts hinX4 hown hK hI 0 rfl rfl 23 (by decide) lk_69 rfl (rfl) dX4_copy_30 ?_
  refine lv_iload_n hx hb dX4_copy_33 rfl (lv_at hl 1 rfl) ?_
  refine bn_iald (n := 400) (v := S.2.2.1 23 i) hx hb hK hI 20 0 rfl rfl (by omega) (by decide) (rfl) dX4_copy_34 ?_
  refine bn_iast (n := 400) (ws' := bh_mw h ad c (bh_r (bh_r (bh_r S 21 j (S.2.2.1 21 i)) 22 j (S.2.2.1 22 i)) 23 j (S.2.2.1 23 i))) hx hb hK hI 20 0 rfl rfl (by omega) (by decide) dX4_copy_35 rfl (fun H locs hI => ?_)
  refine lv_aload_n hx hb dX4_copy_36 rfl (lv_at hl 0 rfl) ?_
  refine bn_get (ci := 3) (v := .ref (ad 24)) (C := RX4) (T := TX4) (N := 31) hx hb hts hinX4 hown hK hI 0 rfl rfl 24 (by decide) lk_72 rfl (rfl) dX4_copy_37 ?_
  refine lv_iload_n hx hb dX4_copy_40 rfl (lv_at hl 2 rfl) ?_
  refine lv_aload_n hx hb dX4_copy_41 rfl (lv_at hl 0 rfl) ?_
  refine bn_get (ci := 3) (v := .ref (ad 24)) (C := RX4) (T := TX4) (N := 31) hx hb hts hinX4 hown hK hI 0 rfl rfl 24 (by decide) lk_72 rfl (rfl) dX4_copy_42 ?_
  refine lv_iload_n hx hb dX4_copy_45 rfl (lv_at hl 1 rfl) ?_
  refine bn_iald (n := 400) (v := S.2.2.1 24 i) hx hb hK hI 21 0 rfl rfl (by omega) (by decide) (rfl) dX4_copy_46 ?_
  refine bn_iast (n := 400) (ws' := bh_mw h ad c (bh_r (bh_r (bh_r (bh_r S 21 j (S.2.2.1 21 i)) 22 j (S.2.2.1 22 i)) 23 j (S.2.2.1 23 i)) 24 j (S.2.2.1 24 i))) hx hb hK hI 21 0 rfl rfl (by omega) (by decide) dX4_copy_47 rfl (fun H locs hI => ?_)
  refine lv_aload_n hx hb dX4_copy_48 rfl (lv_at hl 0 rfl) ?_
  refine bn_get (ci := 3) (v := .ref (ad 26)) (C := RX4) (T := TX4) (N := 31) hx hb hts hinX4 hown hK hI 0 rfl rfl 26 (by decide) lk_78 rfl (rfl) dX4_copy_49 ?_
  refine lv_iload_n hx hb dX4_copy_52 rfl (lv_at hl 2 rfl) ?_
  refine lv_aload_n hx hb dX4_copy_53 rfl (lv_at hl 0 rfl) ?_
  refine bn_get (ci := 3) (v := .ref (ad 26)) (C := RX4) (T := TX4) (N := 31) hx hb hts hinX4 hown hK hI 0 rfl rfl 26 (by decide) lk_78 rfl (rfl) dX4_copy_54 ?_
  refine lv_iload_n hx hb dX4_copy_57 rfl (lv_at hl 1 rfl) ?_
  refine bn_lald (n := 400) (v := S.2.2.2 26 i) hx hb hK hI 23 1 rfl rfl (by omega) (by decide) (rfl) dX4_copy_58 ?_
  refine bn_last (n := 400) (ws' := bh_mw h ad c (bh_l (bh_r (bh_r (bh_r (bh_r S 21 j (S.2.2.1 21 i)) 22 j (S.2.2.1 22 i)) 23 j (S.2.2.1 23 i)) 24 j (S.2.2.1 24 i)) 26 j (S.2.2.2 26 i))) hx hb hK hI 23 1 rfl rfl (by omega) (by decide) dX4_copy_59 rfl (fun H locs hI => ?_)
  refine lv_iconst (v := nI 0) hx hb dX4_copy_60 (by decide) ?_
  refine lv_istore_n (lv' := [(3, .int (nI 0)), (0, .ref h), (1, .int (nI i)), (2, .int (nI j))]) hx hb dX4_copy_61 rfl hl (by decide) rfl (fun ls hl => ?_)
  refine bh_loop (σ := Nat) (fun (k : Nat) H locs ls => k ≤ 8 ∧ bh_I D (bh_mw h ad c (bh_bl (bh_cpA S i j) (8 * j) k (fun k => S.2.2.1 25 (8 * i + k)) (fun k => S.2.2.2 27 (8 * i + k)))) A s.heap H locs ∧ lv_has ls 4 [(3, .int (nI k)), (0, .ref h), (1, .int (nI i)), (2, .int (nI j))]) (fun (k : Nat) => 8 - k) (fun k H locs ls hx_1 ih_1 => ?_) 0 _ _ _ ⟨Nat.zero_le 8, (by rw [bh_bl_0]; exact hI), lv_sub hl [0, 1, 2, 3] rfl⟩
  clear hl hI
  obtain ⟨hk, hI, hl⟩ := hx_1
  refine lv_iload_n hx hb dX4_copy_62 rfl (lv_at hl 0 rfl) ?_
  refine lv_bipush (v := nI 8) hx hb dX4_copy_63 (by decide) ?_
  refine bn_cmp_ge (tgt := 118) hx hb (by omega) (by omega) dX4_copy_65 (by decide) (fun c_2 => ?_) (fun c_2 => ?_)
  · exact bn_retv hx hb hr hlocks hK (bh_bl (bh_cpA S i j) (8 * j) k (fun k => S.2.2.1 25 (8 * i + k)) (fun k => S.2.2.2 27 (8 * i + k))) hI (by rw [show k = 8 by omega]; rfl) dX4_copy_118
  · refine lv_aload_n hx hb dX4_copy_68 rfl (lv_at hl 1 rfl) ?_
    refine bn_get (ci := 3) (v := .ref (ad 25)) (C := RX4) (T := TX4) (N := 31) hx hb hts hinX4 hown hK hI 0 rfl rfl 25 (by decide) lk_75 rfl (rfl) dX4_copy_69 ?_
    refine lv_bipush (v := nI 8) hx hb dX4_copy_72 (by decide) ?_
    refine lv_iload_n hx hb dX4_copy_74 rfl (lv_at hl 3 rfl) ?_
    refine bn_imul hx hb dX4_copy_75 ?_
    refine lv_iload_n hx hb dX4_copy_76 rfl (lv_at hl 0 rfl) ?_
    refine bn_iadd hx hb dX4_copy_77 ?_
    refine lv_aload_n hx hb dX4_copy_78 rfl (lv_at hl 1 rfl) ?_
    refine bn_get (ci := 3) (v := .ref (ad 25)) (C := RX4) (T := TX4) (N := 31) hx hb hts hinX4 hown hK hI 0 rfl rfl 25 (by decide) lk_75 rfl (rfl) dX4_copy_79 ?_
    refine lv_bipush (v := nI 8) hx hb dX4_copy_82 (by decide) ?_
    refine lv_iload_n hx hb dX4_copy_84 rfl (lv_at hl 2 rfl) ?_
    refine bn_imul hx hb dX4_copy_85 ?_
    refine lv_iload_n hx hb dX4_copy_86 rfl (lv_at hl 0 rfl) ?_
    refine bn_iadd hx hb dX4_copy_87 ?_
    refine bn_iald (n := 3200) (v := S.2.2.1 25 (8 * i + k)) hx hb hK hI 22 0 rfl rfl (by omega) (by decide) (if_neg (by omega)) dX4_copy_88 ?_
    refine bn_iast (n := 3200) (ws' := bh_mw h ad c (bh_r (bh_bl (bh_cpA S i j) (8 * j) k (fun k => S.2.2.1 25 (8 * i + k)) (fun k => S.2.2.2 27 (8 * i + k))) 25 ((8 * j) + k) (S.2.2.1 25 (8 * i + k)))) hx hb hK hI 22 0 rfl rfl (by omega) (by decide) dX4_copy_89 rfl (fun H locs hI => ?_)
    refine lv_aload_n hx hb dX4_copy_90 rfl (lv_at hl 1 rfl) ?_
    refine bn_get (ci := 3) (v := .ref (ad 27)) (C := RX4) (T := TX4) (N := 31) hx hb hts hinX4 hown hK hI 0 rfl rfl 27 (by decide) lk_81 rfl (rfl) dX4_copy_91 ?_
    refine lv_bipush (v := nI 8) hx hb dX4_copy_94 (by decide) ?_
    refine lv_iload_n hx hb dX4_copy_96 rfl (lv_at hl 3 rfl) ?_
    refine bn_imul hx hb dX4_copy_97 ?_
    refine lv_iload_n hx hb dX4_copy_98 rfl (lv_at hl 0 rfl) ?_
    refine bn_iadd hx hb dX4_copy_99 ?_
    refine lv_aload_n hx hb dX4_copy_100 rfl (lv_at hl 1 rfl) ?_
    refine bn_get (ci := 3) (v := .ref (ad 27)) (C := RX4) (T := TX4) (N := 31) hx hb hts hinX4 hown hK hI 0 rfl rfl 27 (by decide) lk_81 rfl (rfl) dX4_copy_101 ?_
    refine lv_bipush (v := nI 8) hx hb dX4_copy_104 (by decide) ?_
    refine lv_iload_n hx hb dX4_copy_106 rfl (lv_at hl 2 rfl) ?_
    refine bn_imul hx hb dX4_copy_107 ?_
    refine lv_iload_n hx hb dX4_copy_108 rfl (lv_at hl 0 rfl) ?_
    refine bn_iadd hx hb dX4_copy_109 ?_
    refine bn_lald (n := 3200) (v := S.2.2.2 27 (8 * i + k)) hx hb hK hI 24 1 rfl rfl (by omega) (by decide) (if_neg (by omega)) dX4_copy_110 ?_
    refine bn_last (n := 3200) (ws' := bh_mw h ad c (bh_l (bh_r (bh_bl (bh_cpA S i j) (8 * j) k (fun k => S.2.2.1 25 (8 * i + k)) (fun k => S.2.2.2 27 (8 * i + k))) 25 ((8 * j) + k) (S.2.2.1 25 (8 * i + k))) 27 ((8 * j) + k) (S.2.2.2 27 (8 * i + k)))) hx hb hK hI 24 1 rfl rfl (by omega) (by decide) dX4_copy_111 rfl (fun H locs hI => ?_)
    refine lv_iinc (v := nI (k + 1)) (lv' := [(3, .int (nI (k + 1))), (0, .ref h), (1, .int (nI i)), (2, .int (nI j))]) hx hb dX4_copy_112 hl (k := 0) rfl (nI_1 _) (by decide) rfl (fun ls hl => ?_)
    refine lv_goto (tgt := 62) hx hb dX4_copy_115 (by decide) ?_
    exact ih_1 (k + 1) _ _ _ ⟨by omega, (by rw [← bh_bl_s]; exact hI), lv_sub hl [0, 1, 2, 3] rfl⟩ (by show 8 - (k + 1) < 8 - k; omega)
set_option maxHeartbeats 4000000 in
set_option maxRecDepth 100000 in
theorem cm_take (l : Launch) (D : va_G) (c : bh_C) (h : Nat) (ad : Nat → Nat) (sz : Nat) (S : mS) (k : Nat) (ha : S.1 28 ≤ 400) (hk : k < S.1 28) : Met l yX4_take wsX4_take ({ frames := 1, cells := 0, slots := 0, locals := 23 }) (va_Pc [.ref h, .int (nI k)] (bh_prm D c (bh_mw h ad c (S)) sz)) (va_Qv (fun u : mS => u = bh_take S k) (fun u t => bh_post D c (bh_mw h ad c u) (va_A (bh_mw h ad c (S)) sz) t) (va_A (bh_mw h ad c (S)) sz)) 0 0 (va_A (bh_mw h ad c (S)) sz) := by
  refine Met.ofW (cc := cX4_take) (maxL := 3) (ret := none) (by decide) rfl ?_
  intro p e s m args below meth c0 s₁ B hml hv
  obtain ⟨rfl, hsz, hP, hK, hD0⟩ := hv
  have hx := B.exec
  have hb := B.bytes
  have hr := B.returns
  have hts := atoms_spec (ws := wsX4_take) B.pre
  have hown : s.vm.findClass RX4 = some m.cls := findClass_of_methodNamed B.named
  have hlocks := B.notSynchronized
  have hinX4 : ∀ w ∈ wsX40, w ∈ wsX4_take := fun _ h => List.mem_cons_of_mem _ (List.mem_append_right _ h)
  have lk_97 : (Cond.fieldLink RX4 97 "BallotHouseModel" "air" "I").before _ s = true := hts _ (by decide +kernel)
  subst hsz
  have hI := bh_start hP hD0
  generalize hAe : va_A (bh_mw h ad c (S)) s.heap.size = A at hI ⊢
  have hA : ∀ q : Nat, s.heap.size ≤ q → A q := fun q h => by rw [← hAe]; exact Or.inr h
  clear hP hD0 hAe
  have hl := lv_entry ([.ref h, .int (nI k)]) (n := 3) (Nat.le_of_ble_eq_true rfl)
  rw [lg_entry_eq]
  generalize (lg_sl ([.ref h, .int (nI k)]) ++ List.replicate (3 - (lg_sl ([.ref h, .int (nI k)])).length) Slot.unset).toArray = ls at hl ⊢
  have hl : lv_has ls 3 [(0, .ref h), (1, .int (nI k))] := hl
  refine lv_aload_n hx hb dX4_take_0 rfl (lv_at hl 0 rfl) ?_
  refine lv_dup hx hb dX4_take_1 rfl ?_
  refine bn_get (ci := 3) (v := .int (nI (S.1 28))) (C := RX4) (T := TX4) (N := 31) hx hb hts hinX4 hown hK hI 0 rfl rfl 28 (by decide) lk_97 rfl (rfl) dX4_take_2 ?_
  refine lv_iconst (v := nI 1) hx hb dX4_take_5 (by decide) ?_
  refine bn_isub hx hb (by omega) dX4_take_6 ?_
  refine bn_put (ci := 3) (v := .int (nI ((S.1 28) - 1))) (ty := .int) (C := RX4) (T := TX4) (N := 31) (ws' := bh_mw h ad c (bh_n S 28 ((S.1 28) - 1))) hx hb hts hinX4 tyX4 tyX4_ok nmX4 hown hK hI 0 rfl rfl 28 (by decide) lk_97 rfl rfl rfl rfl rfl (Nat.le_of_ble_eq_true rfl) dX4_take_7 rfl (fun H locs hI => ?_)
  refine lv_iload_n hx hb dX4_take_10 rfl (lv_at hl 1 rfl) ?_
  refine lv_istore_n (lv' := [(2, .int (nI k)), (0, .ref h), (1, .int (nI k))]) hx hb dX4_take_11 rfl hl (by decide) rfl (fun ls hl => ?_)
  refine bh_loop (σ := Nat) (fun (d : Nat) H locs ls => d ≤ S.1 28 - 1 - k ∧ bh_I D (bh_mw h ad c (bh_tkL S k d)) A s.heap H locs ∧ lv_has ls 3 [(2, .int (nI (k + d))), (0, .ref h), (1, .int (nI k))]) (fun (d : Nat) => S.1 28 - 1 - k - d) (fun d H locs ls hx_1 ih_1 => ?_) 0 _ _ _ ⟨Nat.zero_le _, hI, lv_sub hl [0, 1, 2] rfl⟩
  clear hl hI
  obtain ⟨hd, hI, hl⟩ := hx_1
  refine lv_iload_n hx hb dX4_take_12 rfl (lv_at hl 0 rfl) ?_
  refine lv_aload_n hx hb dX4_take_13 rfl (lv_at hl 1 rfl) ?_
  refine bn_get (ci := 3) (v := .int (nI (S.1 28 - 1))) (C := RX4) (T := TX4) (N := 31) hx hb hts hinX4 hown hK hI 0 rfl rfl 28 (by decide) lk_97 rfl (by show some (Value.int (nI ((bh_tkL S k d).1 28))) = _; rw [bh_tkL_28]) dX4_take_14 ?_
  refine bn_cmp_ge (tgt := 34) hx hb (by omega) (by omega) dX4_take_17 (by decide) (fun c_2 => ?_) (fun c_2 => ?_)
  · exact bn_retv hx hb hr hlocks hK (bh_tkL S k d) hI (by show _ = bh_tkL S k (S.1 28 - 1 - k); rw [show d = S.1 28 - 1 - k by omega]) dX4_take_34
  · refine lv_aload_n hx hb dX4_take_20 rfl (lv_at hl 1 rfl) ?_
    refine lv_iload_n hx hb dX4_take_21 rfl (lv_at hl 0 rfl) ?_
    refine lv_iconst (v := nI 1) hx hb dX4_take_22 (by decide) ?_
    refine bn_iadd hx hb dX4_take_23 ?_
    refine lv_iload_n hx hb dX4_take_24 rfl (lv_at hl 0 rfl) ?_
    refine bn_muv (bn_muV (As := [.int (nI ((k + d) + 1)), .int (nI (k + d))]) (rest := []) ⟨hx, hb, hml, hown, hts⟩ (cm_copy l D c h ad _ (bh_tkL S k d) (k + d + 1) (k + d) (by omega) (by omega) (by omega)) (cwV 2 hts gX4_take_X4_copy rfl rfl rfl (by decide +kernel) ⟨Nat.le_of_ble_eq_true rfl, Nat.le_of_ble_eq_true rfl⟩) hK hI 0 3 rfl rfl rfl rfl hl.1 (Nat.le_of_ble_eq_true rfl) dX4_take_25 ⟨Nat.le_of_ble_eq_true rfl, Nat.le_of_ble_eq_true rfl⟩) hI hA (fun u_3 H locs eu_3 hI => ?_)
    subst eu_3
    refine lv_iinc (v := nI (k + d + 1)) (lv' := [(2, .int (nI (k + d + 1))), (0, .ref h), (1, .int (nI k))]) hx hb dX4_take_28 hl (k := 0) rfl (nI_1 _) (by decide) rfl (fun ls hl => ?_)
    refine lv_goto (tgt := 12) hx hb dX4_take_31 (by decide) ?_
    exact ih_1 (d + 1) _ _ _ ⟨by omega, hI, lv_sub hl [0, 1, 2] rfl⟩ (by show S.1 28 - 1 - k - (d + 1) < S.1 28 - 1 - k - d; omega)
end
section
/-! the reference's methods as functions of its state -/
def bh_tf (b : Bool) : Int32 := match b with
  | true => nI 1
  | false => nI 0
theorem bh_tf_nar (b : Bool) : narrow .boolean (.int (bh_tf b)) = .int (bh_tf b) := by cases b <;> decide
theorem bh_tf_ne {b : Bool} (h : ¬ bh_tf b = 0) : b = true := by
  cases b
  · exact absurd (by decide) h
  · rfl
theorem bh_tf_eq {b : Bool} (h : bh_tf b = 0) : b = false := by
  cases b
  · rfl
  · exact absurd h (by decide)
abbrev bh_z0 : Nat → Int32 := fun _ => nI 0
abbrev bh_z1 : Nat → Int64 := fun _ => 0
def bh_kp (S T : mS) : Prop := (T.1 0 = S.1 0 ∧ T.1 18 = S.1 18 ∧ T.2.1 19 = S.2.1 19) ∧ ∀ k, (k < 21 ∨ 28 < k) → T.2.2.1 k = S.2.2.1 k ∧ T.2.2.2 k = S.2.2.2 k
theorem bh_kp.rf (S : mS) : bh_kp S S := ⟨⟨rfl, rfl, rfl⟩, fun _ _ => ⟨rfl, rfl⟩⟩
theorem bh_kp.tr {S T U : mS} (h : bh_kp S T) (g : bh_kp T U) : bh_kp S U := ⟨⟨g.1.1.trans h.1.1, g.1.2.1.trans h.1.2.1, g.1.2.2.trans h.1.2.2⟩, fun k hk => ⟨(g.2 k hk).1.trans (h.2 k hk).1, (g.2 k hk).2.trans (h.2 k hk).2⟩⟩
theorem bh_va_ne {α : Type} (f : Nat → α) {k j : Nat} (v : α) (h : j ≠ k) : va_up f k v j = f j := if_neg h
theorem bh_kp_R (S : mS) {k : Nat} (f : Nat → Int32) (hk : 21 ≤ k ∧ k ≤ 28) : bh_kp S (bh_R S k f) := ⟨⟨rfl, rfl, rfl⟩, fun j hj => ⟨bh_va_ne _ _ (by omega), rfl⟩⟩
theorem bh_kp_L (S : mS) {k : Nat} (f : Nat → Int64) (hk : 21 ≤ k ∧ k ≤ 28) : bh_kp S (bh_L S k f) := ⟨⟨rfl, rfl, rfl⟩, fun j hj => ⟨rfl, bh_va_ne _ _ (by omega)⟩⟩
theorem bh_kp_n (S : mS) (v : Nat) : bh_kp S (bh_n S 28 v) := ⟨⟨rfl, rfl, rfl⟩, fun j hj => ⟨rfl, rfl⟩⟩
theorem bh_kp_i (S : mS) (v : Int32) : bh_kp S (bh_i S 20 v) := ⟨⟨rfl, rfl, rfl⟩, fun j hj => ⟨rfl, rfl⟩⟩
theorem bh_kp_bl (S : mS) (o k : Nat) (f : Nat → Int32) (g : Nat → Int64) : bh_kp S (bh_bl S o k f g) := (bh_kp_R S _ (by omega)).tr (bh_kp_L _ _ (by omega))
theorem bh_kp_putA (S : mS) (wt bb vv pp : Int32) (x : Int64) : bh_kp S (bh_putA S wt bb vv pp x) := ((((bh_kp_R S _ (by omega)).tr (bh_kp_R _ _ (by omega))).tr (bh_kp_R _ _ (by omega))).tr (bh_kp_R _ _ (by omega))).tr (bh_kp_L _ _ (by omega))
theorem bh_kp_put (S : mS) (wt bb vv pp : Int32) (x : Int64) (f : Nat → Int32) (g : Nat → Int64) : bh_kp S (bh_put S wt bb vv pp x f g) := by
  unfold bh_put
  split
  · exact bh_kp_i S _
  · exact ((bh_kp_putA S wt bb vv pp x).tr (bh_kp_bl _ _ _ _ _)).tr (bh_kp_n _ _)
theorem bh_put_le {S : mS} (wt bb vv pp : Int32) (x : Int64) (f : Nat → Int32) (g : Nat → Int64) (h : S.1 28 ≤ 400) : (bh_put S wt bb vv pp x f g).1 28 ≤ 400 := by
  unfold bh_put
  split
  · exact h
  · show S.1 28 + 1 ≤ 400
    omega
theorem bh_kp_cp (S : mS) (i j : Nat) : bh_kp S (bh_cp S i j) := (((((bh_kp_R S _ (by omega)).tr (bh_kp_R _ _ (by omega))).tr (bh_kp_R _ _ (by omega))).tr (bh_kp_R _ _ (by omega))).tr (bh_kp_L _ _ (by omega))).tr (bh_kp_bl _ _ _ _ _)
theorem bh_kp_tkL (S : mS) (k d : Nat) : bh_kp S (bh_tkL S k d) := by
  induction d with
  | zero => exact bh_kp_n S _
  | succ d ih => exact ih.tr (bh_kp_cp _ _ _)
theorem bh_kp_take (S : mS) (k : Nat) : bh_kp S (bh_take S k) := bh_kp_tkL S k _
def bh_fr (g : Nat) : Nat := if g = 0 then 1 else g
theorem bh_fr_le {g : Nat} (h : g ≤ 24) : bh_fr g ≤ 24 := by
  unfold bh_fr
  split <;> omega
def bh_bit (v : Nat) : Int32 := nI 1 <<< (nI v &&& 31)
def bh_askL (S : mS) (f : Nat) : Nat → Int32
  | 0 => nI 0
  | d + 1 => bh_askL S f d ||| S.2.2.1 6 (f + d)
def bh_ask (S : mS) (b g : Nat) : Int32 := bh_askL S (bh_fr g) (b - bh_fr g)
theorem bh_askL_kp {S T : mS} (h : bh_kp S T) (f d : Nat) : bh_askL T f d = bh_askL S f d := by
  induction d with
  | zero => rfl
  | succ d ih => show bh_askL T f d ||| T.2.2.1 6 (f + d) = _; rw [ih, (h.2 6 (by omega)).1]; rfl
theorem bh_ask_kp {S T : mS} (h : bh_kp S T) (b g : Nat) : bh_ask T b g = bh_ask S b g := bh_askL_kp h _ _
def bh_srC (S : mS) (b g v : Nat) : Int32 := (bh_ask S b g &&& (S.2.2.1 10 b ^^^ -1)) &&& bh_bit v
def bh_srL (S : mS) (b g : Nat) : Nat → Nat × mS
  | 0 => (0, S)
  | v + 1 => if bh_srC S b g v = 0 then bh_srL S b g v else ((bh_srL S b g v).1 + 1, bh_put (bh_srL S b g v).2 (nI 2) (nI b) (nI v) (-1) 0 bh_z0 bh_z1)
theorem bh_srL_kp (S : mS) (b g v : Nat) : bh_kp S (bh_srL S b g v).2 := by
  induction v with
  | zero => exact bh_kp.rf S
  | succ v ih =>
    unfold bh_srL
    split
    · exact ih
    · exact ih.tr (bh_kp_put _ _ _ _ _ _ _ _)
theorem bh_srL_le {S : mS} (h : S.1 28 ≤ 400) (b g v : Nat) : (bh_srL S b g v).2.1 28 ≤ 400 := by
  induction v with
  | zero => exact h
  | succ v ih =>
    unfold bh_srL
    split
    · exact ih
    · exact bh_put_le _ _ _ _ _ _ _ ih
def bh_sr (S : mS) (b g : Nat) : Nat × mS := bh_srL S b g (S.1 0)
def bh_svC (S : mS) (b p v : Nat) : Int32 := (S.2.2.1 6 b &&& (S.2.2.1 15 (8 * b + p) ^^^ -1)) &&& bh_bit v
def bh_svL (S : mS) (b p : Nat) : Nat → Nat × mS
  | 0 => (0, S)
  | v + 1 => if bh_svC S b p v = 0 then bh_svL S b p v else ((bh_svL S b p v).1 + 1, bh_put (bh_svL S b p v).2 (nI 4) (nI b) (nI v) (nI p) (S.2.2.2 17 (8 * b + p)) bh_z0 bh_z1)
theorem bh_svL_kp (S : mS) (b p v : Nat) : bh_kp S (bh_svL S b p v).2 := by
  induction v with
  | zero => exact bh_kp.rf S
  | succ v ih =>
    unfold bh_svL
    split
    · exact ih
    · exact ih.tr (bh_kp_put _ _ _ _ _ _ _ _)
theorem bh_svL_le {S : mS} (h : S.1 28 ≤ 400) (b p v : Nat) : (bh_svL S b p v).2.1 28 ≤ 400 := by
  induction v with
  | zero => exact h
  | succ v ih =>
    unfold bh_svL
    split
    · exact ih
    · exact bh_put_le _ _ _ _ _ _ _ ih
def bh_sv (S : mS) (b p : Nat) : Nat × mS := bh_svL S b p (S.1 0)
def bh_isrL (S : mS) (b f : Nat) : Nat → Bool
  | 0 => true
  | d + 1 => bh_isrL S b f d && decide (S.2.2.1 7 (f + d) ≤ bh_many (S.2.2.1 10 b &&& S.2.2.1 6 (f + d)))
def bh_isr (S : mS) (b g : Nat) : Bool := bh_isrL S b (bh_fr g) (b - bh_fr g)
theorem bh_isrL_f {S : mS} {b f d d' : Nat} (h : bh_isrL S b f d = false) (hd : d ≤ d') : bh_isrL S b f d' = false := by
  induction hd with
  | refl => exact h
  | step _ ih => unfold bh_isrL; rw [ih]; rfl
theorem bh_isr_t {S : mS} {b f d : Nat} (h : ¬ bh_tf (bh_isrL S b f d) = 0) (g : ¬ bh_many (S.2.2.1 10 b &&& S.2.2.1 6 (f + d)) < S.2.2.1 7 (f + d)) : nI 1 = bh_tf (bh_isrL S b f (d + 1)) := by
  unfold bh_isrL
  rw [bh_tf_ne h, decide_eq_true (Int32.not_lt.mp g)]
  rfl
theorem bh_isr_n {S : mS} {b f d : Nat} (g : bh_many (S.2.2.1 10 b &&& S.2.2.1 6 (f + d)) < S.2.2.1 7 (f + d)) : nI 0 = bh_tf (bh_isrL S b f (d + 1)) := by
  unfold bh_isrL
  rw [decide_eq_false (fun h => absurd g (Int32.not_lt.mpr h)), Bool.and_false]
  rfl
def bh_mvd (S : mS) (b : Nat) : Bool := decide (S.2.2.1 11 b &&& (S.2.2.1 13 b ^^^ -1) = 0)
def bh_bask (S : mS) (b : Nat) : mS := bh_put (bh_r S 5 b (nI 3)) (nI 6) (nI b) (-1) (-1) 0 bh_z0 bh_z1
def bh_bmL (S : mS) (b : Nat) : Nat → mS
  | 0 => S
  | p + 1 => if (S.2.2.1 11 b >>> (nI p &&& 31)) &&& nI 1 = nI 1 then (bh_sv (bh_bmL S b p) b p).2 else bh_bmL S b p
theorem bh_bmL_kp (S : mS) (b p : Nat) : bh_kp S (bh_bmL S b p) := by
  induction p with
  | zero => exact bh_kp.rf S
  | succ p ih =>
    unfold bh_bmL
    split
    · exact ih.tr (bh_svL_kp _ _ _ _)
    · exact ih
theorem bh_bmL_le {S : mS} (h : S.1 28 ≤ 400) (b p : Nat) : (bh_bmL S b p).1 28 ≤ 400 := by
  induction p with
  | zero => exact h
  | succ p ih =>
    unfold bh_bmL
    split
    · exact bh_svL_le ih _ _ _
    · exact ih
def bh_bmo (S : mS) (b : Nat) : mS := if bh_mvd (bh_bmL (bh_r S 5 b (nI 2)) b 8) b = true then bh_bask (bh_bmL (bh_r S 5 b (nI 2)) b 8) b else bh_bmL (bh_r S 5 b (nI 2)) b 8
def bh_bre (S : mS) (b g : Nat) : mS := if bh_isr (bh_sr (bh_r S 5 b (nI 1)) b g).2 b g = true then bh_bmo (bh_sr (bh_r S 5 b (nI 1)) b g).2 b else (bh_sr (bh_r S 5 b (nI 1)) b g).2
def bh_cre (S : mS) (b v : Nat) : mS := if S.2.2.1 1 v ≤ nI b then bh_put (bh_r S 1 v (nI b)) (nI 3) (nI b) (nI v) (-1) 0 (fun k => S.2.2.1 2 (8 * v + k)) (fun k => S.2.2.2 3 (8 * v + k)) else S
def bh_cvo (S : mS) (b v p : Nat) (x : Int64) : mS := if S.2.2.1 1 v ≤ nI b then bh_put (bh_r (bh_l (bh_r (bh_r S 1 v (nI b)) 2 (8 * v + p) (nI b)) 3 (8 * v + p) x) 16 (8 * b + p) (S.2.2.1 16 (8 * b + p) ||| bh_bit v)) (nI 5) (nI b) (nI v) (nI p) 0 bh_z0 bh_z1 else S
def bh_raL (S : mS) (b : Nat) : Nat → mS
  | 0 => S
  | p + 1 => if (bh_raL S b p).2.2.1 14 (8 * b + p) < (bh_raL S b p).2.2.1 29 p then bh_r (bh_l (bh_r (bh_raL S b p) 14 (8 * b + p) ((bh_raL S b p).2.2.1 29 p)) 17 (8 * b + p) ((bh_raL S b p).2.2.2 30 p)) 11 b ((bh_raL S b p).2.2.1 11 b ||| bh_bit p) else bh_raL S b p
def bh_ra (S : mS) (b v : Nat) : mS := bh_raL (bh_r S 10 b (S.2.2.1 10 b ||| bh_bit v)) b 8
theorem bh_raL_n (S : mS) (b p : Nat) : (bh_raL S b p).1 = S.1 := by
  induction p with
  | zero => rfl
  | succ p ih =>
    unfold bh_raL
    split
    · exact ih
    · exact ih
theorem bh_raL_9 (S : mS) (b p : Nat) : (bh_raL S b p).2.2.1 9 = S.2.2.1 9 := by
  induction p with
  | zero => rfl
  | succ p ih =>
    unfold bh_raL
    split
    · exact ih
    · exact ih
def bh_cra (S : mS) (b v g : Nat) : mS := if S.2.2.1 5 b = nI 1 ∧ ¬ (S.2.2.1 10 b >>> (nI v &&& 31)) &&& nI 1 = nI 1 then (if bh_isr (bh_ra S b v) b g = true then bh_bmo (bh_ra S b v) b else bh_ra S b v) else S
def bh_va1 (S : mS) (b v p : Nat) : mS := bh_r S 15 (8 * b + p) (S.2.2.1 15 (8 * b + p) ||| bh_bit v)
def bh_va2 (S : mS) (b v p : Nat) : mS := if bh_many (S.2.2.1 15 (8 * b + p) ||| bh_bit v) < S.2.2.1 8 b then bh_va1 S b v p else bh_r (bh_va1 S b v p) 13 b (S.2.2.1 13 b ||| bh_bit p)
def bh_cva (S : mS) (b v p : Nat) : mS := if nI 2 ≤ S.2.2.1 5 b then (if S.2.2.1 5 b = nI 2 ∧ bh_mvd (bh_va2 S b v p) b = true then bh_bask (bh_va2 S b v p) b else bh_va2 S b v p) else S
def bh_cb (S : mS) (k : Nat) : Bool := !(decide (S.2.2.1 21 k = nI 2 ∨ S.2.2.1 21 k = nI 4) && !decide (S.2.2.1 4 (S.2.2.1 23 k).toNatClampNeg = 0))
def bh_got (S : mS) (k : Nat) : Nat → mS
  | 0 => S
  | j + 1 => bh_l (bh_r (bh_got S k j) 29 j (S.2.2.1 25 (8 * k + j))) 30 j (S.2.2.2 27 (8 * k + j))
theorem bh_got_n (S : mS) (k j : Nat) : (bh_got S k j).1 = S.1 := by
  induction j with
  | zero => rfl
  | succ j ih => exact ih
theorem bh_got_r (S : mS) (k j : Nat) {i : Nat} (hi : i ≠ 29) : (bh_got S k j).2.2.1 i = S.2.2.1 i := by
  induction j with
  | zero => rfl
  | succ j ih => exact (bh_va_ne _ _ hi).trans ih
theorem bh_got_l (S : mS) (k j : Nat) {i : Nat} (hi : i ≠ 30) : (bh_got S k j).2.2.2 i = S.2.2.2 i := by
  induction j with
  | zero => rfl
  | succ j ih => exact (bh_va_ne _ _ hi).trans ih
/-- a letter has gone from the air, and what it told lies ready -/
def bh_off (S : mS) (k : Nat) : mS := bh_take (bh_got S k 8) k
theorem bh_off_r (S : mS) (k : Nat) {i : Nat} (hi : i < 21) : (bh_off S k).2.2.1 i = S.2.2.1 i := ((bh_kp_take _ k).2 i (by omega)).1.trans (bh_got_r S k 8 (by omega))
theorem bh_off_0 (S : mS) (k : Nat) : (bh_off S k).1 0 = S.1 0 := (bh_kp_take _ k).1.1.trans (congrFun (bh_got_n S k 8) 0)
theorem bh_off_28 (S : mS) (k : Nat) : (bh_off S k).1 28 = S.1 28 - 1 := (bh_tkL_28 _ k _).trans (congrArg (fun f : Nat → Nat => f 28 - 1) (bh_got_n S k 8))
/-- what the letter of kind w does -/
def bh_do (S : mS) (w b v p g : Nat) (x : Int64) : mS :=
  if w = 1 then (if S.2.2.1 5 b = 0 then bh_bre S b g else S)
  else if w = 2 then bh_cre S b v
  else if w = 3 then bh_cra S b v g
  else if w = 4 then bh_cvo S b v p x
  else if w = 5 then bh_cva S b v p
  else if w = 6 then (if S.2.1 19 = S.2.2.1 9 b ∨ S.2.1 19 = nI b then bh_put (bh_i S 19 (nI b)) (nI 7) (nI b) (-1) (-1) 0 bh_z0 bh_z1 else S)
  else (if S.2.2.1 5 b = nI 3 then bh_r S 5 b (nI 4) else S)
/-- a letter k as it lies: its parts as whole numbers -/
def bh_let (S : mS) (k w b v p g : Nat) : Prop := S.2.2.1 21 k = nI w ∧ S.2.2.1 22 k = nI b ∧ S.2.2.1 9 b = nI g ∧ (1 ≤ w ∧ w ≤ 7) ∧ b ≤ 24 ∧ g ≤ 24 ∧ (2 ≤ w ∧ w ≤ 5 → S.2.2.1 23 k = nI v ∧ v < 7) ∧ (4 ≤ w ∧ w ≤ 5 → S.2.2.1 24 k = nI p ∧ p < 8)
theorem bh_ra_def (S : mS) (b v : Nat) : bh_raL (bh_r S 10 b (S.2.2.1 10 b ||| bh_bit v)) b 8 = bh_ra S b v := rfl
theorem bh_ra_9 (S : mS) (b v : Nat) : (bh_ra S b v).2.2.1 9 = S.2.2.1 9 := by
  rw [← bh_ra_def, bh_raL_9]
  rfl
theorem bh_ra_n (S : mS) (b v : Nat) : (bh_ra S b v).1 = S.1 := by
  rw [← bh_ra_def, bh_raL_n]
  rfl
end
section
set_option maxHeartbeats 4000000 in
set_option maxRecDepth 100000 in
theorem cm_firstRead (l : Launch) (D : va_G) (c : bh_C) (h : Nat) (ad : Nat → Nat) (S : mS) (b : Nat) (h24 : b ≤ 24) (g : Nat) (hg : S.2.2.1 9 b = nI g) (hg24 : g ≤ 24) : Met l yX4_firstRead wsX4_firstRead ({ frames := 0, cells := 0, slots := 0, locals := 0 }) (va_Pc [.ref h, .int (nI b)] (bh_pre D c (bh_mw h ad c (S)))) (vp_Si (fun r => r = nI (bh_fr g))) 0 0 (fun _ => False) := by
  refine Met.ofW (cc := cX4_firstRead) (maxL := 2) (ret := (some .int)) (by decide) rfl ?_
  intro p e s m args below meth c0 s₁ B hml hv
  obtain ⟨rfl, hP, hK, hD0⟩ := hv
  have hx := B.exec
  have hb := B.bytes
  have hr := B.returns
  have hts := atoms_spec (ws := wsX4_firstRead) B.pre
  have hown : s.vm.findClass RX4 = some m.cls := findClass_of_methodNamed B.named
  have hlocks := B.notSynchronized
  have hinX4 : ∀ w ∈ wsX40, w ∈ wsX4_firstRead := fun _ h => List.mem_cons_of_mem _ (List.mem_append_right _ h)
  have lk_36 : (Cond.fieldLink RX4 36 "BallotHouseModel" "behind" "[I").before _ s = true := hts _ (by decide +kernel)
  have hI : bh_I D (bh_mw h ad c (S)) (fun _ => True) s.heap s.heap [] := ⟨hP, hD0, va_S.rf⟩
  have hl := lv_entry ([.ref h, .int (nI b)]) (n := 2) (Nat.le_of_ble_eq_true rfl)
  rw [lg_entry_eq]
  generalize (lg_sl ([.ref h, .int (nI b)]) ++ List.replicate (2 - (lg_sl ([.ref h, .int (nI b)])).length) Slot.unset).toArray = ls at hl ⊢
  have hl : lv_has ls 2 [(0, .ref h), (1, .int (nI b))] := hl
  refine lv_aload_n hx hb dX4_firstRead_0 rfl (lv_at hl 0 rfl) ?_
  refine bn_get (ci := 3) (v := .ref (ad 9)) (C := RX4) (T := TX4) (N := 31) hx hb hts hinX4 hown hK hI 0 rfl rfl 9 (by decide) lk_36 rfl (rfl) dX4_firstRead_1 ?_
  refine lv_iload_n hx hb dX4_firstRead_4 rfl (lv_at hl 1 rfl) ?_
  refine bn_iald (n := 25) (v := nI g) hx hb hK hI 9 0 rfl rfl (by omega) (by decide) (hg) dX4_firstRead_5 ?_
  refine lv_if_ne (tgt := 13) hx hb dX4_firstRead_6 (by decide) (fun c_1 => ?_) (fun c_1 => ?_)
  · have hg0 : ¬ g = 0 := fun q => c_1 (by rw [q]; rfl)
    refine lv_aload_n hx hb dX4_firstRead_13 rfl (lv_at hl 0 rfl) ?_
    refine bn_get (ci := 3) (v := .ref (ad 9)) (C := RX4) (T := TX4) (N := 31) hx hb hts hinX4 hown hK hI 0 rfl rfl 9 (by decide) lk_36 rfl (rfl) dX4_firstRead_14 ?_
    refine lv_iload_n hx hb dX4_firstRead_17 rfl (lv_at hl 1 rfl) ?_
    refine bn_iald (n := 25) (v := nI g) hx hb hK hI 9 0 rfl rfl (by omega) (by decide) (hg) dX4_firstRead_18 ?_
    exact bn_roti hx hb hr hlocks (by unfold bh_fr; rw [if_neg hg0]) dX4_firstRead_19
  · have hg0 : g = 0 := (nI_eq (by omega) (by decide)).mp (c_1 : nI g = nI 0)
    refine lv_iconst (v := nI 1) hx hb dX4_firstRead_9 (by decide) ?_
    refine lv_goto (tgt := 19) hx hb dX4_firstRead_10 (by decide) ?_
    exact bn_roti hx hb hr hlocks (by unfold bh_fr; rw [if_pos hg0]) dX4_firstRead_19
set_option maxHeartbeats 4000000 in
set_option maxRecDepth 100000 in
theorem cm_asked (l : Launch) (D : va_G) (c : bh_C) (h : Nat) (ad : Nat → Nat) (S : mS) (b : Nat) (h24 : b ≤ 24) (g : Nat) (hg : S.2.2.1 9 b = nI g) (hg24 : g ≤ 24) : Met l yX4_asked wsX4_asked ({ frames := 1, cells := 0, slots := 0, locals := 21 }) (va_Pc [.ref h, .int (nI b)] (bh_pre D c (bh_mw h ad c (S)))) (vp_Si (fun r => r = bh_ask S b g)) 0 0 (fun _ => False) := by
  refine Met.ofW (cc := cX4_asked) (maxL := 4) (ret := (some .int)) (by decide) rfl ?_
  intro p e s m args below meth c0 s₁ B hml hv
  obtain ⟨rfl, hP, hK, hD0⟩ := hv
  have hx := B.exec
  have hb := B.bytes
  have hr := B.returns
  have hts := atoms_spec (ws := wsX4_asked) B.pre
  have hown : s.vm.findClass RX4 = some m.cls := findClass_of_methodNamed B.named
  have hlocks := B.notSynchronized
  have hinX4 : ∀ w ∈ wsX40, w ∈ wsX4_asked := fun _ h => List.mem_cons_of_mem _ (List.mem_append_right _ h)
  have lk_27 : (Cond.fieldLink RX4 27 "BallotHouseModel" "members" "[I").before _ s = true := hts _ (by decide +kernel)
  have hI : bh_I D (bh_mw h ad c (S)) (fun _ => True) s.heap s.heap [] := ⟨hP, hD0, va_S.rf⟩
  have hl := lv_entry ([.ref h, .int (nI b)]) (n := 4) (Nat.le_of_ble_eq_true rfl)
  rw [lg_entry_eq]
  generalize (lg_sl ([.ref h, .int (nI b)]) ++ List.replicate (4 - (lg_sl ([.ref h, .int (nI b)])).length) Slot.unset).toArray = ls at hl ⊢
  have hl : lv_has ls 4 [(0, .ref h), (1, .int (nI b))] := hl
  have hf := bh_fr_le hg24
  refine lv_iconst (v := nI 0) hx hb dX4_asked_0 (by decide) ?_
  refine lv_istore_n (lv' := [(2, .int (nI 0)), (0, .ref h), (1, .int (nI b))]) hx hb dX4_asked_1 rfl hl (by decide) rfl (fun ls hl => ?_)
  refine lv_aload_n hx hb dX4_asked_2 rfl (lv_at hl 1 rfl) ?_
  refine lv_iload_n hx hb dX4_asked_3 rfl (lv_at hl 2 rfl) ?_
  refine vp_callSi (bn_roV (As := [.int (nI b)]) (rest := []) ⟨hx, hb, hml, hown, hts⟩ (cm_firstRead l D c h ad S b h24 g hg hg24) (cwV 1 hts gX4_asked_X4_firstRead rfl rfl rfl (by decide +kernel) ⟨Nat.le_of_ble_eq_true rfl, Nat.le_of_ble_eq_true rfl⟩) hK hI 0 3 rfl rfl rfl rfl hl.1 (Nat.le_of_ble_eq_true rfl) dX4_asked_4 ⟨Nat.le_of_ble_eq_true rfl, Nat.le_of_ble_eq_true rfl⟩) (fun r_1 er_1 => ?_)
  subst er_1
  refine lv_istore_n (lv' := [(3, .int (nI (bh_fr g))), (2, .int (nI 0)), (0, .ref h), (1, .int (nI b))]) hx hb dX4_asked_7 rfl hl (by decide) rfl (fun ls hl => ?_)
  refine bh_loop (σ := Nat) (fun (d : Nat) H locs ls => H = s.heap ∧ locs = [] ∧ d ≤ b - bh_fr g ∧ lv_has ls 4 [(3, .int (nI (bh_fr g + d))), (2, .int (bh_askL S (bh_fr g) d)), (0, .ref h), (1, .int (nI b))]) (fun (d : Nat) => b - bh_fr g - d) (fun d H locs ls hx_2 ih_2 => ?_) 0 _ _ _ ⟨rfl, rfl, Nat.zero_le _, lv_sub hl [0, 1, 2, 3] rfl⟩
  clear hl
  obtain ⟨rfl, rfl, hd, hl⟩ := hx_2
  refine lv_iload_n hx hb dX4_asked_8 rfl (lv_at hl 0 rfl) ?_
  refine lv_iload_n hx hb dX4_asked_9 rfl (lv_at hl 3 rfl) ?_
  refine bn_cmp_ge (tgt := 28) hx hb (by omega) (by omega) dX4_asked_10 (by decide) (fun c_3 => ?_) (fun c_3 => ?_)
  · refine lv_iload_n hx hb dX4_asked_28 rfl (lv_at hl 1 rfl) ?_
    exact bn_roti hx hb hr hlocks (by unfold bh_ask; rw [show d = b - bh_fr g by omega]) dX4_asked_29
  · refine lv_iload_n hx hb dX4_asked_13 rfl (lv_at hl 1 rfl) ?_
    refine lv_aload_n hx hb dX4_asked_14 rfl (lv_at hl 2 rfl) ?_
    refine bn_get (ci := 3) (v := .ref (ad 6)) (C := RX4) (T := TX4) (N := 31) hx hb hts hinX4 hown hK hI 0 rfl rfl 6 (by decide) lk_27 rfl (rfl) dX4_asked_15 ?_
    refine lv_iload_n hx hb dX4_asked_18 rfl (lv_at hl 0 rfl) ?_
    refine bn_iald (n := 25) (v := S.2.2.1 6 (bh_fr g + d)) hx hb hK hI 6 0 rfl rfl (by omega) (by decide) (rfl) dX4_asked_19 ?_
    refine lv_ior hx hb dX4_asked_20 ?_
    refine lv_istore_n (lv' := [(2, .int ((bh_askL S (bh_fr g) d) ||| (S.2.2.1 6 (bh_fr g + d)))), (3, .int (nI (bh_fr g + d))), (0, .ref h), (1, .int (nI b))]) hx hb dX4_asked_21 rfl hl (by decide) rfl (fun ls hl => ?_)
    refine lv_iinc (v := nI (bh_fr g + d + 1)) (lv' := [(3, .int (nI (bh_fr g + d + 1))), (2, .int ((bh_askL S (bh_fr g) d) ||| (S.2.2.1 6 (bh_fr g + d)))), (0, .ref h), (1, .int (nI b))]) hx hb dX4_asked_22 hl (k := 1) rfl (nI_1 _) (by decide) rfl (fun ls hl => ?_)
    refine lv_goto (tgt := 8) hx hb dX4_asked_25 (by decide) ?_
    exact ih_2 (d + 1) _ _ _ ⟨rfl, rfl, by omega, lv_sub hl [0, 1, 2, 3] rfl⟩ (by show b - bh_fr g - (d + 1) < b - bh_fr g - d; omega)
set_option maxHeartbeats 4000000 in
set_option maxRecDepth 100000 in
theorem cm_sendReads (l : Launch) (D : va_G) (c : bh_C) (h : Nat) (ad : Nat → Nat) (sz : Nat) (S : mS) (b : Nat) (h24 : b ≤ 24) (g : Nat) (hg : S.2.2.1 9 b = nI g) (hg24 : g ≤ 24) (ha : S.1 28 ≤ 400) (hn : S.1 0 ≤ 7) : Met l yX4_sendReads wsX4_sendReads ({ frames := 2, cells := 0, slots := 0, locals := 44 }) (va_Pc [.ref h, .int (nI b)] (bh_prm D c (bh_mw h ad c (S)) sz)) (va_Qi (fun (r : Int32) (u : mS) => r = nI (bh_sr S b g).1 ∧ u = (bh_sr S b g).2) (fun u t => bh_post D c (bh_mw h ad c u) (va_A (bh_mw h ad c (S)) sz) t) (va_A (bh_mw h ad c (S)) sz)) 0 0 (va_A (bh_mw h ad c (S)) sz) := by
  refine Met.ofW (cc := cX4_sendReads) (maxL := 4) (ret := (some .int)) (by decide) rfl ?_
  intro p e s m args below meth c0 s₁ B hml hv
  obtain ⟨rfl, hsz, hP, hK, hD0⟩ := hv
  have hx := B.exec
  have hb := B.bytes
  have hr := B.returns
  have hts := atoms_spec (ws := wsX4_sendReads) B.pre
  have hown : s.vm.findClass RX4 = some m.cls := findClass_of_methodNamed B.named
  have hlocks := B.notSynchronized
  have hinX4 : ∀ w ∈ wsX40, w ∈ wsX4_sendReads := fun _ h => List.mem_cons_of_mem _ (List.mem_append_right _ h)
  have lk_39 : (Cond.fieldLink RX4 39 "BallotHouseModel" "readers" "[I").before _ s = true := hts _ (by decide +kernel)
  have lk_90 : (Cond.fieldLink RX4 90 "BallotHouseModel" "voters" "I").before _ s = true := hts _ (by decide +kernel)
  subst hsz
  have hI := bh_start hP hD0
  generalize hAe : va_A (bh_mw h ad c (S)) s.heap.size = A at hI ⊢
  have hA : ∀ q : Nat, s.heap.size ≤ q → A q := fun q h => by rw [← hAe]; exact Or.inr h
  clear hP hD0 hAe
  have hl := lv_entry ([.ref h, .int (nI b)]) (n := 4) (Nat.le_of_ble_eq_true rfl)
  rw [lg_entry_eq]
  generalize (lg_sl ([.ref h, .int (nI b)]) ++ List.replicate (4 - (lg_sl ([.ref h, .int (nI b)])).length) Slot.unset).toArray = ls at hl ⊢
  have hl : lv_has ls 4 [(0, .ref h), (1, .int (nI b))] := hl
  refine lv_iconst (v := nI 0) hx hb dX4_sendReads_0 (by decide) ?_
  refine lv_istore_n (lv' := [(2, .int (nI 0)), (0, .ref h), (1, .int (nI b))]) hx hb dX4_sendReads_1 rfl hl (by decide) rfl (fun ls hl => ?_)
  refine lv_iconst (v := nI 0) hx hb dX4_sendReads_2 (by decide) ?_
  refine lv_istore_n (lv' := [(3, .int (nI 0)), (2, .int (nI 0)), (0, .ref h), (1, .int (nI b))]) hx hb dX4_sendReads_3 rfl hl (by decide) rfl (fun ls hl => ?_)
  refine bh_loop (σ := Nat) (fun (v : Nat) H locs ls => v ≤ S.1 0 ∧ bh_I D (bh_mw h ad c ((bh_srL S b g v).2)) A s.heap H locs ∧ lv_has ls 4 [(3, .int (nI v)), (2, .int (nI ((bh_srL S b g v).1))), (0, .ref h), (1, .int (nI b))]) (fun (v : Nat) => S.1 0 - v) (fun v H locs ls hx_1 ih_1 => ?_) 0 _ _ _ ⟨Nat.zero_le _, hI, lv_sub hl [0, 1, 2, 3] rfl⟩
  clear hl hI
  obtain ⟨hv, hI, hl⟩ := hx_1
  have hkp := bh_srL_kp S b g v
  refine lv_iload_n hx hb dX4_sendReads_4 rfl (lv_at hl 0 rfl) ?_
  refine lv_aload_n hx hb dX4_sendReads_5 rfl (lv_at hl 2 rfl) ?_
  refine bn_get (ci := 3) (v := .int (nI (S.1 0))) (C := RX4) (T := TX4) (N := 31) hx hb hts hinX4 hown hK hI 0 rfl rfl 0 (by decide) lk_90 rfl (by show some (Value.int (nI ((bh_srL S b g v).2.1 0))) = _; rw [hkp.1.1]) dX4_sendReads_6 ?_
  refine bn_cmp_ge (tgt := 54) hx hb (by omega) (by omega) dX4_sendReads_9 (by decide) (fun c_2 => ?_) (fun c_2 => ?_)
  · refine lv_iload_n hx hb dX4_sendReads_54 rfl (lv_at hl 1 rfl) ?_
    exact bn_reti hx hb hr hlocks hK ((bh_srL S b g v).2) hI (by rw [show v = S.1 0 by omega]; exact ⟨rfl, rfl⟩) dX4_sendReads_55
  · refine lv_aload_n hx hb dX4_sendReads_12 rfl (lv_at hl 2 rfl) ?_
    refine lv_iload_n hx hb dX4_sendReads_13 rfl (lv_at hl 3 rfl) ?_
    refine vp_callSi (bn_roV (As := [.int (nI b)]) (rest := []) ⟨hx, hb, hml, hown, hts⟩ (cm_asked l D c h ad (bh_srL S b g v).2 b h24 g (by rw [(hkp.2 9 (by omega)).1]; exact hg) hg24) (cwV 1 hts gX4_sendReads_X4_asked rfl rfl rfl (by decide +kernel) ⟨Nat.le_of_ble_eq_true rfl, Nat.le_of_ble_eq_true rfl⟩) hK hI 0 3 rfl rfl rfl rfl hl.1 (Nat.le_of_ble_eq_true rfl) dX4_sendReads_14 ⟨Nat.le_of_ble_eq_true rfl, Nat.le_of_ble_eq_true rfl⟩) (fun r_3 er_3 => ?_)
    rw [bh_ask_kp hkp] at er_3
    subst er_3
    refine lv_aload_n hx hb dX4_sendReads_17 rfl (lv_at hl 2 rfl) ?_
    refine bn_get (ci := 3) (v := .ref (ad 10)) (C := RX4) (T := TX4) (N := 31) hx hb hts hinX4 hown hK hI 0 rfl rfl 10 (by decide) lk_39 rfl (rfl) dX4_sendReads_18 ?_
    refine lv_iload_n hx hb dX4_sendReads_21 rfl (lv_at hl 3 rfl) ?_
    refine bn_iald (n := 25) (v := S.2.2.1 10 b) hx hb hK hI 10 0 rfl rfl (by omega) (by decide) (by rw [(hkp.2 10 (by omega)).1]) dX4_sendReads_22 ?_
    refine lv_iconst (v := -1) hx hb dX4_sendReads_23 (by decide) ?_
    refine lv_ixor hx hb dX4_sendReads_24 ?_
    refine lv_iand hx hb dX4_sendReads_25 ?_
    refine lv_iconst (v := nI 1) hx hb dX4_sendReads_26 (by decide) ?_
    refine lv_iload_n hx hb dX4_sendReads_27 rfl (lv_at hl 0 rfl) ?_
    refine lv_ishl hx hb dX4_sendReads_28 ?_
    refine lv_iand hx hb dX4_sendReads_29 ?_
    refine lv_if_ne (tgt := 36) hx hb dX4_sendReads_30 (by decide) (fun c_4 => ?_) (fun c_4 => ?_)
    · have q_1 : ¬ bh_srC S b g v = 0 := c_4
      refine lv_aload_n hx hb dX4_sendReads_36 rfl (lv_at hl 2 rfl) ?_
      refine lv_iconst (v := nI 2) hx hb dX4_sendReads_37 (by decide) ?_
      refine lv_iload_n hx hb dX4_sendReads_38 rfl (lv_at hl 3 rfl) ?_
      refine lv_iload_n hx hb dX4_sendReads_39 rfl (lv_at hl 0 rfl) ?_
      refine lv_iconst (v := -1) hx hb dX4_sendReads_40 (by decide) ?_
      refine lv_lconst (v := 0) hx hb dX4_sendReads_41 (by decide) ?_
      refine bn_muv (bn_muV (As := [.int (nI 2), .int (nI b), .int (nI v), .int (-1), .long (0)]) (rest := []) ⟨hx, hb, hml, hown, hts⟩ (cm_put l D c h ad _ ((bh_srL S b g v).2) 2 (nI b) (nI v) (-1) (0) (bh_srL_le ha b g v) (by omega) (by omega)) (cwV 5 hts gX4_sendReads_X4_put rfl rfl rfl (by decide +kernel) ⟨Nat.le_of_ble_eq_true rfl, Nat.le_of_ble_eq_true rfl⟩) hK hI 0 3 rfl rfl rfl rfl hl.1 (Nat.le_of_ble_eq_true rfl) dX4_sendReads_42 ⟨Nat.le_of_ble_eq_true rfl, Nat.le_of_ble_eq_true rfl⟩) hI hA (fun u_5 H locs eu_5 hI => ?_)
      subst eu_5
      refine lv_iinc (v := nI ((bh_srL S b g v).1 + 1)) (lv' := [(2, .int (nI ((bh_srL S b g v).1 + 1))), (3, .int (nI v)), (0, .ref h), (1, .int (nI b))]) hx hb dX4_sendReads_45 hl (k := 1) rfl (nI_1 _) (by decide) rfl (fun ls hl => ?_)
      refine lv_iinc (v := nI (v + 1)) (lv' := [(3, .int (nI (v + 1))), (2, .int (nI ((bh_srL S b g v).1 + 1))), (0, .ref h), (1, .int (nI b))]) hx hb dX4_sendReads_48 hl (k := 1) rfl (nI_1 _) (by decide) rfl (fun ls hl => ?_)
      refine lv_goto (tgt := 4) hx hb dX4_sendReads_51 (by decide) ?_
      exact ih_1 (v + 1) _ _ _ ⟨by omega, (by rw [show bh_srL S b g (v + 1) = _ from if_neg q_1]; exact hI), (by rw [show bh_srL S b g (v + 1) = _ from if_neg q_1]; exact (lv_sub hl [0, 1, 2, 3] rfl))⟩ (by show S.1 0 - (v + 1) < S.1 0 - v; omega)
    · have q_1 : bh_srC S b g v = 0 := c_4
      refine lv_goto (tgt := 48) hx hb dX4_sendReads_33 (by decide) ?_
      refine lv_iinc (v := nI (v + 1)) (lv' := [(3, .int (nI (v + 1))), (2, .int (nI ((bh_srL S b g v).1))), (0, .ref h), (1, .int (nI b))]) hx hb dX4_sendReads_48 hl (k := 0) rfl (nI_1 _) (by decide) rfl (fun ls hl => ?_)
      refine lv_goto (tgt := 4) hx hb dX4_sendReads_51 (by decide) ?_
      exact ih_1 (v + 1) _ _ _ ⟨by omega, (by rw [show bh_srL S b g (v + 1) = _ from if_pos q_1]; exact hI), (by rw [show bh_srL S b g (v + 1) = _ from if_pos q_1]; exact (lv_sub hl [0, 1, 2, 3] rfl))⟩ (by show S.1 0 - (v + 1) < S.1 0 - v; omega)
set_option maxHeartbeats 4000000 in
set_option maxRecDepth 100000 in
theorem cm_sendVotes (l : Launch) (D : va_G) (c : bh_C) (h : Nat) (ad : Nat → Nat) (sz : Nat) (S : mS) (b q : Nat) (h24 : b ≤ 24) (hq : q < 8) (ha : S.1 28 ≤ 400) (hn : S.1 0 ≤ 7) : Met l yX4_sendVotes wsX4_sendVotes ({ frames := 1, cells := 0, slots := 0, locals := 27 }) (va_Pc [.ref h, .int (nI b), .int (nI q)] (bh_prm D c (bh_mw h ad c (S)) sz)) (va_Qi (fun (r : Int32) (u : mS) => r = nI (bh_sv S b q).1 ∧ u = (bh_sv S b q).2) (fun u t => bh_post D c (bh_mw h ad c u) (va_A (bh_mw h ad c (S)) sz) t) (va_A (bh_mw h ad c (S)) sz)) 0 0 (va_A (bh_mw h ad c (S)) sz) := by
  refine Met.ofW (cc := cX4_sendVotes) (maxL := 5) (ret := (some .int)) (by decide) rfl ?_
  intro p e s m args below meth c0 s₁ B hml hv
  obtain ⟨rfl, hsz, hP, hK, hD0⟩ := hv
  have hx := B.exec
  have hb := B.bytes
  have hr := B.returns
  have hts := atoms_spec (ws := wsX4_sendVotes) B.pre
  have hown : s.vm.findClass RX4 = some m.cls := findClass_of_methodNamed B.named
  have hlocks := B.notSynchronized
  have hinX4 : ∀ w ∈ wsX40, w ∈ wsX4_sendVotes := fun _ h => List.mem_cons_of_mem _ (List.mem_append_right _ h)
  have lk_27 : (Cond.fieldLink RX4 27 "BallotHouseModel" "members" "[I").before _ s = true := hts _ (by decide +kernel)
  have lk_54 : (Cond.fieldLink RX4 54 "BallotHouseModel" "answers" "[I").before _ s = true := hts _ (by decide +kernel)
  have lk_60 : (Cond.fieldLink RX4 60 "BallotHouseModel" "says" "[J").before _ s = true := hts _ (by decide +kernel)
  have lk_90 : (Cond.fieldLink RX4 90 "BallotHouseModel" "voters" "I").before _ s = true := hts _ (by decide +kernel)
  subst hsz
  have hI := bh_start hP hD0
  generalize hAe : va_A (bh_mw h ad c (S)) s.heap.size = A at hI ⊢
  have hA : ∀ q : Nat, s.heap.size ≤ q → A q := fun q h => by rw [← hAe]; exact Or.inr h
  clear hP hD0 hAe
  have hl := lv_entry ([.ref h, .int (nI b), .int (nI q)]) (n := 5) (Nat.le_of_ble_eq_true rfl)
  rw [lg_entry_eq]
  generalize (lg_sl ([.ref h, .int (nI b), .int (nI q)]) ++ List.replicate (5 - (lg_sl ([.ref h, .int (nI b), .int (nI q)])).length) Slot.unset).toArray = ls at hl ⊢
  have hl : lv_has ls 5 [(0, .ref h), (1, .int (nI b)), (2, .int (nI q))] := hl
  refine lv_iconst (v := nI 0) hx hb dX4_sendVotes_0 (by decide) ?_
  refine lv_istore_n (lv' := [(3, .int (nI 0)), (0, .ref h), (1, .int (nI b)), (2, .int (nI q))]) hx hb dX4_sendVotes_1 rfl hl (by decide) rfl (fun ls hl => ?_)
  refine lv_iconst (v := nI 0) hx hb dX4_sendVotes_2 (by decide) ?_
  refine lv_istore (lv' := [(4, .int (nI 0)), (3, .int (nI 0)), (0, .ref h), (1, .int (nI b)), (2, .int (nI q))]) hx hb dX4_sendVotes_3 hl (by decide) rfl (fun ls hl => ?_)
  refine bh_loop (σ := Nat) (fun (v : Nat) H locs ls => v ≤ S.1 0 ∧ bh_I D (bh_mw h ad c ((bh_svL S b q v).2)) A s.heap H locs ∧ lv_has ls 5 [(4, .int (nI v)), (3, .int (nI ((bh_svL S b q v).1))), (0, .ref h), (1, .int (nI b)), (2, .int (nI q))]) (fun (v : Nat) => S.1 0 - v) (fun v H locs ls hx_1 ih_1 => ?_) 0 _ _ _ ⟨Nat.zero_le _, hI, lv_sub hl [0, 1, 2, 3, 4] rfl⟩
  clear hl hI
  obtain ⟨hv, hI, hl⟩ := hx_1
  have hkp := bh_svL_kp S b q v
  refine lv_iload hx hb dX4_sendVotes_5 (lv_at hl 0 rfl) ?_
  refine lv_aload_n hx hb dX4_sendVotes_7 rfl (lv_at hl 2 rfl) ?_
  refine bn_get (ci := 3) (v := .int (nI (S.1 0))) (C := RX4) (T := TX4) (N := 31) hx hb hts hinX4 hown hK hI 0 rfl rfl 0 (by decide) lk_90 rfl (by show some (Value.int (nI ((bh_svL S b q v).2.1 0))) = _; rw [hkp.1.1]) dX4_sendVotes_8 ?_
  refine bn_cmp_ge (tgt := 74) hx hb (by omega) (by omega) dX4_sendVotes_11 (by decide) (fun c_2 => ?_) (fun c_2 => ?_)
  · refine lv_iload_n hx hb dX4_sendVotes_74 rfl (lv_at hl 1 rfl) ?_
    exact bn_reti hx hb hr hlocks hK ((bh_svL S b q v).2) hI (by rw [show v = S.1 0 by omega]; exact ⟨rfl, rfl⟩) dX4_sendVotes_75
  · refine lv_aload_n hx hb dX4_sendVotes_14 rfl (lv_at hl 2 rfl) ?_
    refine bn_get (ci := 3) (v := .ref (ad 6)) (C := RX4) (T := TX4) (N := 31) hx hb hts hinX4 hown hK hI 0 rfl rfl 6 (by decide) lk_27 rfl (rfl) dX4_sendVotes_15 ?_
    refine lv_iload_n hx hb dX4_sendVotes_18 rfl (lv_at hl 3 rfl) ?_
    refine bn_iald (n := 25) (v := S.2.2.1 6 b) hx hb hK hI 6 0 rfl rfl (by omega) (by decide) (by rw [(hkp.2 6 (by omega)).1]) dX4_sendVotes_19 ?_
    refine lv_aload_n hx hb dX4_sendVotes_20 rfl (lv_at hl 2 rfl) ?_
    refine bn_get (ci := 3) (v := .ref (ad 15)) (C := RX4) (T := TX4) (N := 31) hx hb hts hinX4 hown hK hI 0 rfl rfl 15 (by decide) lk_54 rfl (rfl) dX4_sendVotes_21 ?_
    refine lv_bipush (v := nI 8) hx hb dX4_sendVotes_24 (by decide) ?_
    refine lv_iload_n hx hb dX4_sendVotes_26 rfl (lv_at hl 3 rfl) ?_
    refine bn_imul hx hb dX4_sendVotes_27 ?_
    refine lv_iload_n hx hb dX4_sendVotes_28 rfl (lv_at hl 4 rfl) ?_
    refine bn_iadd hx hb dX4_sendVotes_29 ?_
    refine bn_iald (n := 200) (v := S.2.2.1 15 (8 * b + q)) hx hb hK hI 15 0 rfl rfl (by omega) (by decide) (by rw [(hkp.2 15 (by omega)).1]) dX4_sendVotes_30 ?_
    refine lv_iconst (v := -1) hx hb dX4_sendVotes_31 (by decide) ?_
    refine lv_ixor hx hb dX4_sendVotes_32 ?_
    refine lv_iand hx hb dX4_sendVotes_33 ?_
    refine lv_iconst (v := nI 1) hx hb dX4_sendVotes_34 (by decide) ?_
    refine lv_iload hx hb dX4_sendVotes_35 (lv_at hl 0 rfl) ?_
    refine lv_ishl hx hb dX4_sendVotes_37 ?_
    refine lv_iand hx hb dX4_sendVotes_38 ?_
    refine lv_if_ne (tgt := 45) hx hb dX4_sendVotes_39 (by decide) (fun c_3 => ?_) (fun c_3 => ?_)
    · have q_1 : ¬ bh_svC S b q v = 0 := c_3
      refine lv_aload_n hx hb dX4_sendVotes_45 rfl (lv_at hl 2 rfl) ?_
      refine lv_iconst (v := nI 4) hx hb dX4_sendVotes_46 (by decide) ?_
      refine lv_iload_n hx hb dX4_sendVotes_47 rfl (lv_at hl 3 rfl) ?_
      refine lv_iload hx hb dX4_sendVotes_48 (lv_at hl 0 rfl) ?_
      refine lv_iload_n hx hb dX4_sendVotes_50 rfl (lv_at hl 4 rfl) ?_
      refine lv_aload_n hx hb dX4_sendVotes_51 rfl (lv_at hl 2 rfl) ?_
      refine bn_get (ci := 3) (v := .ref (ad 17)) (C := RX4) (T := TX4) (N := 31) hx hb hts hinX4 hown hK hI 0 rfl rfl 17 (by decide) lk_60 rfl (rfl) dX4_sendVotes_52 ?_
      refine lv_bipush (v := nI 8) hx hb dX4_sendVotes_55 (by decide) ?_
      refine lv_iload_n hx hb dX4_sendVotes_57 rfl (lv_at hl 3 rfl) ?_
      refine bn_imul hx hb dX4_sendVotes_58 ?_
      refine lv_iload_n hx hb dX4_sendVotes_59 rfl (lv_at hl 4 rfl) ?_
      refine bn_iadd hx hb dX4_sendVotes_60 ?_
      refine bn_lald (n := 200) (v := S.2.2.2 17 (8 * b + q)) hx hb hK hI 17 1 rfl rfl (by omega) (by decide) (by rw [(hkp.2 17 (by omega)).2]) dX4_sendVotes_61 ?_
      refine bn_muv (bn_muV (As := [.int (nI 4), .int (nI b), .int (nI v), .int (nI q), .long (S.2.2.2 17 (8 * b + q))]) (rest := []) ⟨hx, hb, hml, hown, hts⟩ (cm_put l D c h ad _ ((bh_svL S b q v).2) 4 (nI b) (nI v) (nI q) (S.2.2.2 17 (8 * b + q)) (bh_svL_le ha b q v) (by omega) (by omega)) (cwV 5 hts gX4_sendVotes_X4_put rfl rfl rfl (by decide +kernel) ⟨Nat.le_of_ble_eq_true rfl, Nat.le_of_ble_eq_true rfl⟩) hK hI 0 3 rfl rfl rfl rfl hl.1 (Nat.le_of_ble_eq_true rfl) dX4_sendVotes_62 ⟨Nat.le_of_ble_eq_true rfl, Nat.le_of_ble_eq_true rfl⟩) hI hA (fun u_4 H locs eu_4 hI => ?_)
      subst eu_4
      refine lv_iinc (v := nI ((bh_svL S b q v).1 + 1)) (lv' := [(3, .int (nI ((bh_svL S b q v).1 + 1))), (4, .int (nI v)), (0, .ref h), (1, .int (nI b)), (2, .int (nI q))]) hx hb dX4_sendVotes_65 hl (k := 1) rfl (nI_1 _) (by decide) rfl (fun ls hl => ?_)
      refine lv_iinc (v := nI (v + 1)) (lv' := [(4, .int (nI (v + 1))), (3, .int (nI ((bh_svL S b q v).1 + 1))), (0, .ref h), (1, .int (nI b)), (2, .int (nI q))]) hx hb dX4_sendVotes_68 hl (k := 1) rfl (nI_1 _) (by decide) rfl (fun ls hl => ?_)
      refine lv_goto (tgt := 5) hx hb dX4_sendVotes_71 (by decide) ?_
      exact ih_1 (v + 1) _ _ _ ⟨by omega, (by rw [show bh_svL S b q (v + 1) = _ from if_neg q_1]; exact hI), (by rw [show bh_svL S b q (v + 1) = _ from if_neg q_1]; exact (lv_sub hl [0, 1, 2, 3, 4] rfl))⟩ (by show S.1 0 - (v + 1) < S.1 0 - v; omega)
    · have q_1 : bh_svC S b q v = 0 := c_3
      refine lv_goto (tgt := 68) hx hb dX4_sendVotes_42 (by decide) ?_
      refine lv_iinc (v := nI (v + 1)) (lv' := [(4, .int (nI (v + 1))), (3, .int (nI ((bh_svL S b q v).1))), (0, .ref h), (1, .int (nI b)), (2, .int (nI q))]) hx hb dX4_sendVotes_68 hl (k := 0) rfl (nI_1 _) (by decide) rfl (fun ls hl => ?_)
      refine lv_goto (tgt := 5) hx hb dX4_sendVotes_71 (by decide) ?_
      exact ih_1 (v + 1) _ _ _ ⟨by omega, (by rw [show bh_svL S b q (v + 1) = _ from if_pos q_1]; exact hI), (by rw [show bh_svL S b q (v + 1) = _ from if_pos q_1]; exact (lv_sub hl [0, 1, 2, 3, 4] rfl))⟩ (by show S.1 0 - (v + 1) < S.1 0 - v; omega)
set_option maxHeartbeats 4000000 in
set_option maxRecDepth 100000 in
theorem cm_isRead (l : Launch) (D : va_G) (c : bh_C) (h : Nat) (ad : Nat → Nat) (S : mS) (b : Nat) (h24 : b ≤ 24) (g : Nat) (hg : S.2.2.1 9 b = nI g) (hg24 : g ≤ 24) : Met l yX4_isRead wsX4_isRead ({ frames := 1, cells := 0, slots := 0, locals := 22 }) (va_Pc [.ref h, .int (nI b)] (bh_pre D c (bh_mw h ad c (S)))) (vp_Si (fun r => r = bh_tf (bh_isr S b g))) 0 0 (fun _ => False) := by
  refine Met.ofW (cc := cX4_isRead) (maxL := 4) (ret := (some .boolean)) (by decide) rfl ?_
  intro p e s m args below meth c0 s₁ B hml hv
  obtain ⟨rfl, hP, hK, hD0⟩ := hv
  have hx := B.exec
  have hb := B.bytes
  have hr := B.returns
  have hts := atoms_spec (ws := wsX4_isRead) B.pre
  have hown : s.vm.findClass RX4 = some m.cls := findClass_of_methodNamed B.named
  have hlocks := B.notSynchronized
  have hinX4 : ∀ w ∈ wsX40, w ∈ wsX4_isRead := fun _ h => List.mem_cons_of_mem _ (List.mem_append_right _ h)
  have lk_27 : (Cond.fieldLink RX4 27 "BallotHouseModel" "members" "[I").before _ s = true := hts _ (by decide +kernel)
  have lk_30 : (Cond.fieldLink RX4 30 "BallotHouseModel" "reads" "[I").before _ s = true := hts _ (by decide +kernel)
  have lk_39 : (Cond.fieldLink RX4 39 "BallotHouseModel" "readers" "[I").before _ s = true := hts _ (by decide +kernel)
  have hI : bh_I D (bh_mw h ad c (S)) (fun _ => True) s.heap s.heap [] := ⟨hP, hD0, va_S.rf⟩
  have hl := lv_entry ([.ref h, .int (nI b)]) (n := 4) (Nat.le_of_ble_eq_true rfl)
  rw [lg_entry_eq]
  generalize (lg_sl ([.ref h, .int (nI b)]) ++ List.replicate (4 - (lg_sl ([.ref h, .int (nI b)])).length) Slot.unset).toArray = ls at hl ⊢
  have hl : lv_has ls 4 [(0, .ref h), (1, .int (nI b))] := hl
  have hf := bh_fr_le hg24
  refine lv_iconst (v := nI 1) hx hb dX4_isRead_0 (by decide) ?_
  refine lv_istore_n (lv' := [(2, .int (nI 1)), (0, .ref h), (1, .int (nI b))]) hx hb dX4_isRead_1 rfl hl (by decide) rfl (fun ls hl => ?_)
  refine lv_aload_n hx hb dX4_isRead_2 rfl (lv_at hl 1 rfl) ?_
  refine lv_iload_n hx hb dX4_isRead_3 rfl (lv_at hl 2 rfl) ?_
  refine vp_callSi (bn_roV (As := [.int (nI b)]) (rest := []) ⟨hx, hb, hml, hown, hts⟩ (cm_firstRead l D c h ad S b h24 g hg hg24) (cwV 1 hts gX4_isRead_X4_firstRead rfl rfl rfl (by decide +kernel) ⟨Nat.le_of_ble_eq_true rfl, Nat.le_of_ble_eq_true rfl⟩) hK hI 0 3 rfl rfl rfl rfl hl.1 (Nat.le_of_ble_eq_true rfl) dX4_isRead_4 ⟨Nat.le_of_ble_eq_true rfl, Nat.le_of_ble_eq_true rfl⟩) (fun r_1 er_1 => ?_)
  subst er_1
  refine lv_istore_n (lv' := [(3, .int (nI (bh_fr g))), (2, .int (nI 1)), (0, .ref h), (1, .int (nI b))]) hx hb dX4_isRead_7 rfl hl (by decide) rfl (fun ls hl => ?_)
  refine bh_loop (σ := Nat) (fun (d : Nat) H locs ls => H = s.heap ∧ locs = [] ∧ d ≤ b - bh_fr g ∧ lv_has ls 4 [(3, .int (nI (bh_fr g + d))), (2, .int (bh_tf (bh_isrL S b (bh_fr g) d))), (0, .ref h), (1, .int (nI b))]) (fun (d : Nat) => b - bh_fr g - d) (fun d H locs ls hx_2 ih_2 => ?_) 0 _ _ _ ⟨rfl, rfl, Nat.zero_le _, lv_sub hl [0, 1, 2, 3] rfl⟩
  clear hl
  obtain ⟨rfl, rfl, hd, hl⟩ := hx_2
  refine lv_iload_n hx hb dX4_isRead_8 rfl (lv_at hl 0 rfl) ?_
  refine lv_iload_n hx hb dX4_isRead_9 rfl (lv_at hl 3 rfl) ?_
  refine bn_cmp_ge (tgt := 54) hx hb (by omega) (by omega) dX4_isRead_10 (by decide) (fun c_3 => ?_) (fun c_3 => ?_)
  · refine lv_iload_n hx hb dX4_isRead_54 rfl (lv_at hl 1 rfl) ?_
    exact bn_rotz hx hb hr hlocks (by unfold bh_isr; rw [show d = b - bh_fr g by omega]) (bh_tf_nar _) dX4_isRead_55
  · refine lv_iload_n hx hb dX4_isRead_13 rfl (lv_at hl 1 rfl) ?_
    refine lv_if_eq (tgt := 54) hx hb dX4_isRead_14 (by decide) (fun c_4 => ?_) (fun c_4 => ?_)
    · refine lv_iload_n hx hb dX4_isRead_54 rfl (lv_at hl 1 rfl) ?_
      exact bn_rotz hx hb hr hlocks (by unfold bh_isr; rw [bh_isrL_f (bh_tf_eq c_4) hd, bh_tf_eq c_4]) (bh_tf_nar _) dX4_isRead_55
    · have q_1 := c_4
      refine lv_aload_n hx hb dX4_isRead_17 rfl (lv_at hl 2 rfl) ?_
      refine bn_get (ci := 3) (v := .ref (ad 10)) (C := RX4) (T := TX4) (N := 31) hx hb hts hinX4 hown hK hI 0 rfl rfl 10 (by decide) lk_39 rfl (rfl) dX4_isRead_18 ?_
      refine lv_iload_n hx hb dX4_isRead_21 rfl (lv_at hl 3 rfl) ?_
      refine bn_iald (n := 25) (v := S.2.2.1 10 b) hx hb hK hI 10 0 rfl rfl (by omega) (by decide) (rfl) dX4_isRead_22 ?_
      refine lv_aload_n hx hb dX4_isRead_23 rfl (lv_at hl 2 rfl) ?_
      refine bn_get (ci := 3) (v := .ref (ad 6)) (C := RX4) (T := TX4) (N := 31) hx hb hts hinX4 hown hK hI 0 rfl rfl 6 (by decide) lk_27 rfl (rfl) dX4_isRead_24 ?_
      refine lv_iload_n hx hb dX4_isRead_27 rfl (lv_at hl 0 rfl) ?_
      refine bn_iald (n := 25) (v := S.2.2.1 6 (bh_fr g + d)) hx hb hK hI 6 0 rfl rfl (by omega) (by decide) (rfl) dX4_isRead_28 ?_
      refine lv_iand hx hb dX4_isRead_29 ?_
      refine vp_callSi (bn_roS (As := [.int ((S.2.2.1 10 b) &&& (S.2.2.1 6 (bh_fr g + d)))]) (rest := []) ⟨hx, hb, hml, hown, hts⟩ (cm_many l (S.2.2.1 10 b &&& S.2.2.1 6 (bh_fr g + d))) (va_cwS 1 hts gX4_isRead_X4_many rfl rfl rfl (by decide +kernel) ⟨Nat.le_of_ble_eq_true rfl, Nat.le_of_ble_eq_true rfl⟩) rfl hl.1 (Nat.le_of_ble_eq_true rfl) dX4_isRead_30 ⟨Nat.le_of_ble_eq_true rfl, Nat.le_of_ble_eq_true rfl⟩) (fun r_5 er_5 => ?_)
      subst er_5
      refine lv_aload_n hx hb dX4_isRead_33 rfl (lv_at hl 2 rfl) ?_
      refine bn_get (ci := 3) (v := .ref (ad 7)) (C := RX4) (T := TX4) (N := 31) hx hb hts hinX4 hown hK hI 0 rfl rfl 7 (by decide) lk_30 rfl (rfl) dX4_isRead_34 ?_
      refine lv_iload_n hx hb dX4_isRead_37 rfl (lv_at hl 0 rfl) ?_
      refine bn_iald (n := 25) (v := S.2.2.1 7 (bh_fr g + d)) hx hb hK hI 7 0 rfl rfl (by omega) (by decide) (rfl) dX4_isRead_38 ?_
      refine lv_icmp_lt (tgt := 46) hx hb dX4_isRead_39 (by decide) (fun c_6 => ?_) (fun c_6 => ?_)
      · refine lv_iconst (v := nI 0) hx hb dX4_isRead_46 (by decide) ?_
        refine lv_topi (fun z_7 ez_7 => ?_)
        obtain rfl : z_7 = bh_tf (bh_isrL S b (bh_fr g) (d + 1)) := ez_7.trans (bh_isr_n c_6)
        refine lv_istore_n (lv' := [(2, .int (bh_tf (bh_isrL S b (bh_fr g) (d + 1)))), (3, .int (nI (bh_fr g + d))), (0, .ref h), (1, .int (nI b))]) hx hb dX4_isRead_47 rfl hl (by decide) rfl (fun ls hl => ?_)
        refine lv_iinc (v := nI (bh_fr g + d + 1)) (lv' := [(3, .int (nI (bh_fr g + d + 1))), (2, .int (bh_tf (bh_isrL S b (bh_fr g) (d + 1)))), (0, .ref h), (1, .int (nI b))]) hx hb dX4_isRead_48 hl (k := 1) rfl (nI_1 _) (by decide) rfl (fun ls hl => ?_)
        refine lv_goto (tgt := 8) hx hb dX4_isRead_51 (by decide) ?_
        exact ih_2 (d + 1) _ _ _ ⟨rfl, rfl, by omega, lv_sub hl [0, 1, 2, 3] rfl⟩ (by show b - bh_fr g - (d + 1) < b - bh_fr g - d; omega)
      · refine lv_iconst (v := nI 1) hx hb dX4_isRead_42 (by decide) ?_
        refine lv_topi (fun z_8 ez_8 => ?_)
        obtain rfl : z_8 = bh_tf (bh_isrL S b (bh_fr g) (d + 1)) := ez_8.trans (bh_isr_t q_1 c_6)
        refine lv_goto (tgt := 47) hx hb dX4_isRead_43 (by decide) ?_
        refine lv_istore_n (lv' := [(2, .int (bh_tf (bh_isrL S b (bh_fr g) (d + 1)))), (3, .int (nI (bh_fr g + d))), (0, .ref h), (1, .int (nI b))]) hx hb dX4_isRead_47 rfl hl (by decide) rfl (fun ls hl => ?_)
        refine lv_iinc (v := nI (bh_fr g + d + 1)) (lv' := [(3, .int (nI (bh_fr g + d + 1))), (2, .int (bh_tf (bh_isrL S b (bh_fr g) (d + 1)))), (0, .ref h), (1, .int (nI b))]) hx hb dX4_isRead_48 hl (k := 1) rfl (nI_1 _) (by decide) rfl (fun ls hl => ?_)
        refine lv_goto (tgt := 8) hx hb dX4_isRead_51 (by decide) ?_
        exact ih_2 (d + 1) _ _ _ ⟨rfl, rfl, by omega, lv_sub hl [0, 1, 2, 3] rfl⟩ (by show b - bh_fr g - (d + 1) < b - bh_fr g - d; omega)
set_option maxHeartbeats 4000000 in
set_option maxRecDepth 100000 in
theorem cm_isMoved (l : Launch) (D : va_G) (c : bh_C) (h : Nat) (ad : Nat → Nat) (S : mS) (b : Nat) (h24 : b ≤ 24) : Met l yX4_isMoved wsX4_isMoved ({ frames := 0, cells := 0, slots := 0, locals := 0 }) (va_Pc [.ref h, .int (nI b)] (bh_pre D c (bh_mw h ad c (S)))) (vp_Si (fun r => r = bh_tf (bh_mvd S b))) 0 0 (fun _ => False) := by
  refine Met.ofW (cc := cX4_isMoved) (maxL := 2) (ret := (some .boolean)) (by decide) rfl ?_
  intro p e s m args below meth c0 s₁ B hml hv
  obtain ⟨rfl, hP, hK, hD0⟩ := hv
  have hx := B.exec
  have hb := B.bytes
  have hr := B.returns
  have hts := atoms_spec (ws := wsX4_isMoved) B.pre
  have hown : s.vm.findClass RX4 = some m.cls := findClass_of_methodNamed B.named
  have hlocks := B.notSynchronized
  have hinX4 : ∀ w ∈ wsX40, w ∈ wsX4_isMoved := fun _ h => List.mem_cons_of_mem _ (List.mem_append_right _ h)
  have lk_42 : (Cond.fieldLink RX4 42 "BallotHouseModel" "found" "[I").before _ s = true := hts _ (by decide +kernel)
  have lk_48 : (Cond.fieldLink RX4 48 "BallotHouseModel" "known" "[I").before _ s = true := hts _ (by decide +kernel)
  have hI : bh_I D (bh_mw h ad c (S)) (fun _ => True) s.heap s.heap [] := ⟨hP, hD0, va_S.rf⟩
  have hl := lv_entry ([.ref h, .int (nI b)]) (n := 2) (Nat.le_of_ble_eq_true rfl)
  rw [lg_entry_eq]
  generalize (lg_sl ([.ref h, .int (nI b)]) ++ List.replicate (2 - (lg_sl ([.ref h, .int (nI b)])).length) Slot.unset).toArray = ls at hl ⊢
  have hl : lv_has ls 2 [(0, .ref h), (1, .int (nI b))] := hl
  refine lv_aload_n hx hb dX4_isMoved_0 rfl (lv_at hl 0 rfl) ?_
  refine bn_get (ci := 3) (v := .ref (ad 11)) (C := RX4) (T := TX4) (N := 31) hx hb hts hinX4 hown hK hI 0 rfl rfl 11 (by decide) lk_42 rfl (rfl) dX4_isMoved_1 ?_
  refine lv_iload_n hx hb dX4_isMoved_4 rfl (lv_at hl 1 rfl) ?_
  refine bn_iald (n := 25) (v := S.2.2.1 11 b) hx hb hK hI 11 0 rfl rfl (by omega) (by decide) (rfl) dX4_isMoved_5 ?_
  refine lv_aload_n hx hb dX4_isMoved_6 rfl (lv_at hl 0 rfl) ?_
  refine bn_get (ci := 3) (v := .ref (ad 13)) (C := RX4) (T := TX4) (N := 31) hx hb hts hinX4 hown hK hI 0 rfl rfl 13 (by decide) lk_48 rfl (rfl) dX4_isMoved_7 ?_
  refine lv_iload_n hx hb dX4_isMoved_10 rfl (lv_at hl 1 rfl) ?_
  refine bn_iald (n := 25) (v := S.2.2.1 13 b) hx hb hK hI 13 0 rfl rfl (by omega) (by decide) (rfl) dX4_isMoved_11 ?_
  refine lv_iconst (v := -1) hx hb dX4_isMoved_12 (by decide) ?_
  refine lv_ixor hx hb dX4_isMoved_13 ?_
  refine lv_iand hx hb dX4_isMoved_14 ?_
  refine lv_if_ne (tgt := 22) hx hb dX4_isMoved_15 (by decide) (fun c_1 => ?_) (fun c_1 => ?_)
  · refine lv_iconst (v := nI 0) hx hb dX4_isMoved_22 (by decide) ?_
    exact bn_rotz hx hb hr hlocks (by unfold bh_mvd; rw [decide_eq_false c_1]; rfl) (by decide) dX4_isMoved_23
  · refine lv_iconst (v := nI 1) hx hb dX4_isMoved_18 (by decide) ?_
    refine lv_goto (tgt := 23) hx hb dX4_isMoved_19 (by decide) ?_
    exact bn_rotz hx hb hr hlocks (by unfold bh_mvd; rw [decide_eq_true c_1]; rfl) (by decide) dX4_isMoved_23
set_option maxHeartbeats 4000000 in
set_option maxRecDepth 100000 in
theorem cm_beginAsking (l : Launch) (D : va_G) (c : bh_C) (h : Nat) (ad : Nat → Nat) (sz : Nat) (S : mS) (b : Nat) (h24 : b ≤ 24) (ha : S.1 28 ≤ 400) : Met l yX4_beginAsking wsX4_beginAsking ({ frames := 1, cells := 0, slots := 0, locals := 27 }) (va_Pc [.ref h, .int (nI b)] (bh_prm D c (bh_mw h ad c (S)) sz)) (va_Qv (fun u : mS => u = bh_bask S b) (fun u t => bh_post D c (bh_mw h ad c u) (va_A (bh_mw h ad c (S)) sz) t) (va_A (bh_mw h ad c (S)) sz)) 0 0 (va_A (bh_mw h ad c (S)) sz) := by
  refine Met.ofW (cc := cX4_beginAsking) (maxL := 2) (ret := none) (by decide) rfl ?_
  intro p e s m args below meth c0 s₁ B hml hv
  obtain ⟨rfl, hsz, hP, hK, hD0⟩ := hv
  have hx := B.exec
  have hb := B.bytes
  have hr := B.returns
  have hts := atoms_spec (ws := wsX4_beginAsking) B.pre
  have hown : s.vm.findClass RX4 = some m.cls := findClass_of_methodNamed B.named
  have hlocks := B.notSynchronized
  have hinX4 : ∀ w ∈ wsX40, w ∈ wsX4_beginAsking := fun _ h => List.mem_cons_of_mem _ (List.mem_append_right _ h)
  have lk_24 : (Cond.fieldLink RX4 24 "BallotHouseModel" "state" "[I").before _ s = true := hts _ (by decide +kernel)
  subst hsz
  have hI := bh_start hP hD0
  generalize hAe : va_A (bh_mw h ad c (S)) s.heap.size = A at hI ⊢
  have hA : ∀ q : Nat, s.heap.size ≤ q → A q := fun q h => by rw [← hAe]; exact Or.inr h
  clear hP hD0 hAe
  have hl := lv_entry ([.ref h, .int (nI b)]) (n := 2) (Nat.le_of_ble_eq_true rfl)
  rw [lg_entry_eq]
  generalize (lg_sl ([.ref h, .int (nI b)]) ++ List.replicate (2 - (lg_sl ([.ref h, .int (nI b)])).length) Slot.unset).toArray = ls at hl ⊢
  have hl : lv_has ls 2 [(0, .ref h), (1, .int (nI b))] := hl
  refine lv_aload_n hx hb dX4_beginAsking_0 rfl (lv_at hl 0 rfl) ?_
  refine bn_get (ci := 3) (v := .ref (ad 5)) (C := RX4) (T := TX4) (N := 31) hx hb hts hinX4 hown hK hI 0 rfl rfl 5 (by decide) lk_24 rfl (rfl) dX4_beginAsking_1 ?_
  refine lv_iload_n hx hb dX4_beginAsking_4 rfl (lv_at hl 1 rfl) ?_
  refine lv_iconst (v := nI 3) hx hb dX4_beginAsking_5 (by decide) ?_
  refine bn_iast (n := 25) (ws' := bh_mw h ad c (bh_r S 5 b (nI 3))) hx hb hK hI 5 0 rfl rfl (by omega) (by decide) dX4_beginAsking_6 rfl (fun H locs hI => ?_)
  refine lv_aload_n hx hb dX4_beginAsking_7 rfl (lv_at hl 0 rfl) ?_
  refine lv_bipush (v := nI 6) hx hb dX4_beginAsking_8 (by decide) ?_
  refine lv_iload_n hx hb dX4_beginAsking_10 rfl (lv_at hl 1 rfl) ?_
  refine lv_iconst (v := -1) hx hb dX4_beginAsking_11 (by decide) ?_
  refine lv_iconst (v := -1) hx hb dX4_beginAsking_12 (by decide) ?_
  refine lv_lconst (v := 0) hx hb dX4_beginAsking_13 (by decide) ?_
  refine bn_muv (bn_muV (As := [.int (nI 6), .int (nI b), .int (-1), .int (-1), .long (0)]) (rest := []) ⟨hx, hb, hml, hown, hts⟩ (cm_put l D c h ad _ (bh_r S 5 b (nI 3)) 6 (nI b) (-1) (-1) (0) (ha) (by omega) (by omega)) (cwV 5 hts gX4_beginAsking_X4_put rfl rfl rfl (by decide +kernel) ⟨Nat.le_of_ble_eq_true rfl, Nat.le_of_ble_eq_true rfl⟩) hK hI 0 3 rfl rfl rfl rfl hl.1 (Nat.le_of_ble_eq_true rfl) dX4_beginAsking_14 ⟨Nat.le_of_ble_eq_true rfl, Nat.le_of_ble_eq_true rfl⟩) hI hA (fun u_1 H locs eu_1 hI => ?_)
  subst eu_1
  exact bn_retv hx hb hr hlocks hK (bh_put (bh_r S 5 b (nI 3)) (nI 6) (nI b) (-1) (-1) 0 bh_z0 bh_z1) hI (rfl) dX4_beginAsking_17
set_option maxHeartbeats 4000000 in
set_option maxRecDepth 100000 in
theorem cm_beginMoving (l : Launch) (D : va_G) (c : bh_C) (h : Nat) (ad : Nat → Nat) (sz : Nat) (S : mS) (b : Nat) (h24 : b ≤ 24) (ha : S.1 28 ≤ 400) (hn : S.1 0 ≤ 7) : Met l yX4_beginMoving wsX4_beginMoving ({ frames := 2, cells := 0, slots := 0, locals := 51 }) (va_Pc [.ref h, .int (nI b)] (bh_prm D c (bh_mw h ad c (S)) sz)) (va_Qv (fun u : mS => u = bh_bmo S b) (fun u t => bh_post D c (bh_mw h ad c u) (va_A (bh_mw h ad c (S)) sz) t) (va_A (bh_mw h ad c (S)) sz)) 0 0 (va_A (bh_mw h ad c (S)) sz) := by
  refine Met.ofW (cc := cX4_beginMoving) (maxL := 3) (ret := none) (by decide) rfl ?_
  intro p e s m args below meth c0 s₁ B hml hv
  obtain ⟨rfl, hsz, hP, hK, hD0⟩ := hv
  have hx := B.exec
  have hb := B.bytes
  have hr := B.returns
  have hts := atoms_spec (ws := wsX4_beginMoving) B.pre
  have hown : s.vm.findClass RX4 = some m.cls := findClass_of_methodNamed B.named
  have hlocks := B.notSynchronized
  have hinX4 : ∀ w ∈ wsX40, w ∈ wsX4_beginMoving := fun _ h => List.mem_cons_of_mem _ (List.mem_append_right _ h)
  have lk_24 : (Cond.fieldLink RX4 24 "BallotHouseModel" "state" "[I").before _ s = true := hts _ (by decide +kernel)
  have lk_42 : (Cond.fieldLink RX4 42 "BallotHouseModel" "found" "[I").before _ s = true := hts _ (by decide +kernel)
  subst hsz
  have hI := bh_start hP hD0
  generalize hAe : va_A (bh_mw h ad c (S)) s.heap.size = A at hI ⊢
  have hA : ∀ q : Nat, s.heap.size ≤ q → A q := fun q h => by rw [← hAe]; exact Or.inr h
  clear hP hD0 hAe
  have hl := lv_entry ([.ref h, .int (nI b)]) (n := 3) (Nat.le_of_ble_eq_true rfl)
  rw [lg_entry_eq]
  generalize (lg_sl ([.ref h, .int (nI b)]) ++ List.replicate (3 - (lg_sl ([.ref h, .int (nI b)])).length) Slot.unset).toArray = ls at hl ⊢
  have hl : lv_has ls 3 [(0, .ref h), (1, .int (nI b))] := hl
  refine lv_aload_n hx hb dX4_beginMoving_0 rfl (lv_at hl 0 rfl) ?_
  refine bn_get (ci := 3) (v := .ref (ad 5)) (C := RX4) (T := TX4) (N := 31) hx hb hts hinX4 hown hK hI 0 rfl rfl 5 (by decide) lk_24 rfl (rfl) dX4_beginMoving_1 ?_
  refine lv_iload_n hx hb dX4_beginMoving_4 rfl (lv_at hl 1 rfl) ?_
  refine lv_iconst (v := nI 2) hx hb dX4_beginMoving_5 (by decide) ?_
  refine bn_iast (n := 25) (ws' := bh_mw h ad c (bh_r S 5 b (nI 2))) hx hb hK hI 5 0 rfl rfl (by omega) (by decide) dX4_beginMoving_6 rfl (fun H locs hI => ?_)
  refine lv_iconst (v := nI 0) hx hb dX4_beginMoving_7 (by decide) ?_
  refine lv_istore_n (lv' := [(2, .int (nI 0)), (0, .ref h), (1, .int (nI b))]) hx hb dX4_beginMoving_8 rfl hl (by decide) rfl (fun ls hl => ?_)
  refine bh_loop (σ := Nat) (fun (q : Nat) H locs ls => q ≤ 8 ∧ bh_I D (bh_mw h ad c (bh_bmL (bh_r S 5 b (nI 2)) b q)) A s.heap H locs ∧ lv_has ls 3 [(2, .int (nI q)), (0, .ref h), (1, .int (nI b))]) (fun (q : Nat) => 8 - q) (fun q H locs ls hx_1 ih_1 => ?_) 0 _ _ _ ⟨Nat.zero_le 8, hI, lv_sub hl [0, 1, 2] rfl⟩
  clear hl hI
  obtain ⟨hq, hI, hl⟩ := hx_1
  have hkp := bh_bmL_kp (bh_r S 5 b (nI 2)) b q
  have hle := bh_bmL_le (S := bh_r S 5 b (nI 2)) ha b q
  refine lv_iload_n hx hb dX4_beginMoving_9 rfl (lv_at hl 0 rfl) ?_
  refine lv_bipush (v := nI 8) hx hb dX4_beginMoving_10 (by decide) ?_
  refine bn_cmp_ge (tgt := 42) hx hb (by omega) (by omega) dX4_beginMoving_12 (by decide) (fun c_2 => ?_) (fun c_2 => ?_)
  · obtain rfl : q = 8 := by omega
    refine lv_aload_n hx hb dX4_beginMoving_42 rfl (lv_at hl 1 rfl) ?_
    refine lv_iload_n hx hb dX4_beginMoving_43 rfl (lv_at hl 2 rfl) ?_
    refine vp_callSi (bn_roV (As := [.int (nI b)]) (rest := []) ⟨hx, hb, hml, hown, hts⟩ (cm_isMoved l D c h ad (bh_bmL (bh_r S 5 b (nI 2)) b 8) b h24) (cwV 1 hts gX4_beginMoving_X4_isMoved rfl rfl rfl (by decide +kernel) ⟨Nat.le_of_ble_eq_true rfl, Nat.le_of_ble_eq_true rfl⟩) hK hI 0 3 rfl rfl rfl rfl hl.1 (Nat.le_of_ble_eq_true rfl) dX4_beginMoving_44 ⟨Nat.le_of_ble_eq_true rfl, Nat.le_of_ble_eq_true rfl⟩) (fun r_3 er_3 => ?_)
    subst er_3
    refine lv_if_eq (tgt := 55) hx hb dX4_beginMoving_47 (by decide) (fun c_4 => ?_) (fun c_4 => ?_)
    · have q_2 : ¬ bh_mvd (bh_bmL (bh_r S 5 b (nI 2)) b 8) b = true := by rw [bh_tf_eq c_4]; decide
      exact bn_retv hx hb hr hlocks hK (bh_bmL (bh_r S 5 b (nI 2)) b 8) hI (by unfold bh_bmo; rw [if_neg q_2]) dX4_beginMoving_55
    · have q_2 := bh_tf_ne c_4
      refine lv_aload_n hx hb dX4_beginMoving_50 rfl (lv_at hl 1 rfl) ?_
      refine lv_iload_n hx hb dX4_beginMoving_51 rfl (lv_at hl 2 rfl) ?_
      refine bn_muv (bn_muV (As := [.int (nI b)]) (rest := []) ⟨hx, hb, hml, hown, hts⟩ (cm_beginAsking l D c h ad _ (bh_bmL (bh_r S 5 b (nI 2)) b 8) b h24 hle) (cwV 1 hts gX4_beginMoving_X4_beginAsking rfl rfl rfl (by decide +kernel) ⟨Nat.le_of_ble_eq_true rfl, Nat.le_of_ble_eq_true rfl⟩) hK hI 0 3 rfl rfl rfl rfl hl.1 (Nat.le_of_ble_eq_true rfl) dX4_beginMoving_52 ⟨Nat.le_of_ble_eq_true rfl, Nat.le_of_ble_eq_true rfl⟩) hI hA (fun u_5 H locs eu_5 hI => ?_)
      subst eu_5
      exact bn_retv hx hb hr hlocks hK (bh_bask (bh_bmL (bh_r S 5 b (nI 2)) b 8) b) hI (by unfold bh_bmo; rw [if_pos q_2]) dX4_beginMoving_55
  · refine lv_aload_n hx hb dX4_beginMoving_15 rfl (lv_at hl 1 rfl) ?_
    refine bn_get (ci := 3) (v := .ref (ad 11)) (C := RX4) (T := TX4) (N := 31) hx hb hts hinX4 hown hK hI 0 rfl rfl 11 (by decide) lk_42 rfl (rfl) dX4_beginMoving_16 ?_
    refine lv_iload_n hx hb dX4_beginMoving_19 rfl (lv_at hl 2 rfl) ?_
    refine bn_iald (n := 25) (v := (bh_r S 5 b (nI 2)).2.2.1 11 b) hx hb hK hI 11 0 rfl rfl (by omega) (by decide) (by rw [(hkp.2 11 (by omega)).1]) dX4_beginMoving_20 ?_
    refine lv_iload_n hx hb dX4_beginMoving_21 rfl (lv_at hl 0 rfl) ?_
    refine lv_ishr hx hb dX4_beginMoving_22 ?_
    refine lv_iconst (v := nI 1) hx hb dX4_beginMoving_23 (by decide) ?_
    refine lv_iand hx hb dX4_beginMoving_24 ?_
    refine lv_iconst (v := nI 1) hx hb dX4_beginMoving_25 (by decide) ?_
    refine lv_icmp_ne (tgt := 36) hx hb dX4_beginMoving_26 (by decide) (fun c_6 => ?_) (fun c_6 => ?_)
    · have q_1 : ¬ ((bh_r S 5 b (nI 2)).2.2.1 11 b >>> (nI q &&& 31)) &&& nI 1 = nI 1 := c_6
      refine lv_iinc (v := nI (q + 1)) (lv' := [(2, .int (nI (q + 1))), (0, .ref h), (1, .int (nI b))]) hx hb dX4_beginMoving_36 hl (k := 0) rfl (nI_1 _) (by decide) rfl (fun ls hl => ?_)
      refine lv_goto (tgt := 9) hx hb dX4_beginMoving_39 (by decide) ?_
      exact ih_1 (q + 1) _ _ _ ⟨by omega, (by rw [show bh_bmL (bh_r S 5 b (nI 2)) b (q + 1) = _ from if_neg q_1]; exact hI), lv_sub hl [0, 1, 2] rfl⟩ (by show 8 - (q + 1) < 8 - q; omega)
    · have q_1 : ((bh_r S 5 b (nI 2)).2.2.1 11 b >>> (nI q &&& 31)) &&& nI 1 = nI 1 := c_6
      refine lv_aload_n hx hb dX4_beginMoving_29 rfl (lv_at hl 1 rfl) ?_
      refine lv_iload_n hx hb dX4_beginMoving_30 rfl (lv_at hl 2 rfl) ?_
      refine lv_iload_n hx hb dX4_beginMoving_31 rfl (lv_at hl 0 rfl) ?_
      refine bn_mui (bn_muV (As := [.int (nI b), .int (nI q)]) (rest := []) ⟨hx, hb, hml, hown, hts⟩ (cm_sendVotes l D c h ad _ (bh_bmL (bh_r S 5 b (nI 2)) b q) b q h24 (by omega) hle (by rw [hkp.1.1]; exact hn)) (cwV 2 hts gX4_beginMoving_X4_sendVotes rfl rfl rfl (by decide +kernel) ⟨Nat.le_of_ble_eq_true rfl, Nat.le_of_ble_eq_true rfl⟩) hK hI 0 3 rfl rfl rfl rfl hl.1 (Nat.le_of_ble_eq_true rfl) dX4_beginMoving_32 ⟨Nat.le_of_ble_eq_true rfl, Nat.le_of_ble_eq_true rfl⟩) hI hA (fun r_7 u_7 H locs eu_7 hI => ?_)
      obtain ⟨er_7, eu_7⟩ := eu_7
      subst er_7
      subst eu_7
      refine lv_pop hx hb dX4_beginMoving_35 rfl ?_
      refine lv_iinc (v := nI (q + 1)) (lv' := [(2, .int (nI (q + 1))), (0, .ref h), (1, .int (nI b))]) hx hb dX4_beginMoving_36 hl (k := 0) rfl (nI_1 _) (by decide) rfl (fun ls hl => ?_)
      refine lv_goto (tgt := 9) hx hb dX4_beginMoving_39 (by decide) ?_
      exact ih_1 (q + 1) _ _ _ ⟨by omega, (by rw [show bh_bmL (bh_r S 5 b (nI 2)) b (q + 1) = _ from if_pos q_1]; exact hI), lv_sub hl [0, 1, 2] rfl⟩ (by show 8 - (q + 1) < 8 - q; omega)
set_option maxHeartbeats 4000000 in
set_option maxRecDepth 100000 in
theorem cm_beginReading (l : Launch) (D : va_G) (c : bh_C) (h : Nat) (ad : Nat → Nat) (sz : Nat) (S : mS) (b : Nat) (h24 : b ≤ 24) (g : Nat) (hg : S.2.2.1 9 b = nI g) (hg24 : g ≤ 24) (ha : S.1 28 ≤ 400) (hn : S.1 0 ≤ 7) : Met l yX4_beginReading wsX4_beginReading ({ frames := 3, cells := 0, slots := 0, locals := 73 }) (va_Pc [.ref h, .int (nI b)] (bh_prm D c (bh_mw h ad c (S)) sz)) (va_Qv (fun u : mS => u = bh_bre S b g) (fun u t => bh_post D c (bh_mw h ad c u) (va_A (bh_mw h ad c (S)) sz) t) (va_A (bh_mw h ad c (S)) sz)) 0 0 (va_A (bh_mw h ad c (S)) sz) := by
  refine Met.ofW (cc := cX4_beginReading) (maxL := 2) (ret := none) (by decide) rfl ?_
  intro p e s m args below meth c0 s₁ B hml hv
  obtain ⟨rfl, hsz, hP, hK, hD0⟩ := hv
  have hx := B.exec
  have hb := B.bytes
  have hr := B.returns
  have hts := atoms_spec (ws := wsX4_beginReading) B.pre
  have hown : s.vm.findClass RX4 = some m.cls := findClass_of_methodNamed B.named
  have hlocks := B.notSynchronized
  have hinX4 : ∀ w ∈ wsX40, w ∈ wsX4_beginReading := fun _ h => List.mem_cons_of_mem _ (List.mem_append_right _ h)
  have lk_24 : (Cond.fieldLink RX4 24 "BallotHouseModel" "state" "[I").before _ s = true := hts _ (by decide +kernel)
  subst hsz
  have hI := bh_start hP hD0
  generalize hAe : va_A (bh_mw h ad c (S)) s.heap.size = A at hI ⊢
  have hA : ∀ q : Nat, s.heap.size ≤ q → A q := fun q h => by rw [← hAe]; exact Or.inr h
  clear hP hD0 hAe
  have hl := lv_entry ([.ref h, .int (nI b)]) (n := 2) (Nat.le_of_ble_eq_true rfl)
  rw [lg_entry_eq]
  generalize (lg_sl ([.ref h, .int (nI b)]) ++ List.replicate (2 - (lg_sl ([.ref h, .int (nI b)])).length) Slot.unset).toArray = ls at hl ⊢
  have hl : lv_has ls 2 [(0, .ref h), (1, .int (nI b))] := hl
  refine lv_aload_n hx hb dX4_beginReading_0 rfl (lv_at hl 0 rfl) ?_
  refine bn_get (ci := 3) (v := .ref (ad 5)) (C := RX4) (T := TX4) (N := 31) hx hb hts hinX4 hown hK hI 0 rfl rfl 5 (by decide) lk_24 rfl (rfl) dX4_beginReading_1 ?_
  refine lv_iload_n hx hb dX4_beginReading_4 rfl (lv_at hl 1 rfl) ?_
  refine lv_iconst (v := nI 1) hx hb dX4_beginReading_5 (by decide) ?_
  refine bn_iast (n := 25) (ws' := bh_mw h ad c (bh_r S 5 b (nI 1))) hx hb hK hI 5 0 rfl rfl (by omega) (by decide) dX4_beginReading_6 rfl (fun H locs hI => ?_)
  refine lv_aload_n hx hb dX4_beginReading_7 rfl (lv_at hl 0 rfl) ?_
  refine lv_iload_n hx hb dX4_beginReading_8 rfl (lv_at hl 1 rfl) ?_
  refine bn_mui (bn_muV (As := [.int (nI b)]) (rest := []) ⟨hx, hb, hml, hown, hts⟩ (cm_sendReads l D c h ad _ (bh_r S 5 b (nI 1)) b h24 g hg hg24 ha hn) (cwV 1 hts gX4_beginReading_X4_sendReads rfl rfl rfl (by decide +kernel) ⟨Nat.le_of_ble_eq_true rfl, Nat.le_of_ble_eq_true rfl⟩) hK hI 0 3 rfl rfl rfl rfl hl.1 (Nat.le_of_ble_eq_true rfl) dX4_beginReading_9 ⟨Nat.le_of_ble_eq_true rfl, Nat.le_of_ble_eq_true rfl⟩) hI hA (fun r_1 u_1 H locs eu_1 hI => ?_)
  obtain ⟨er_1, eu_1⟩ := eu_1
  subst er_1
  subst eu_1
  refine lv_pop hx hb dX4_beginReading_12 rfl ?_
  have hkp := bh_srL_kp (bh_r S 5 b (nI 1)) b g (S.1 0)
  have hle := bh_srL_le (S := bh_r S 5 b (nI 1)) ha b g (S.1 0)
  refine lv_aload_n hx hb dX4_beginReading_13 rfl (lv_at hl 0 rfl) ?_
  refine lv_iload_n hx hb dX4_beginReading_14 rfl (lv_at hl 1 rfl) ?_
  refine vp_callSi (bn_roV (As := [.int (nI b)]) (rest := []) ⟨hx, hb, hml, hown, hts⟩ (cm_isRead l D c h ad ((bh_sr (bh_r S 5 b (nI 1)) b g).2) b h24 g ((congrFun (hkp.2 9 (by omega)).1 b).trans hg) hg24) (cwV 1 hts gX4_beginReading_X4_isRead rfl rfl rfl (by decide +kernel) ⟨Nat.le_of_ble_eq_true rfl, Nat.le_of_ble_eq_true rfl⟩) hK hI 0 3 rfl rfl rfl rfl hl.1 (Nat.le_of_ble_eq_true rfl) dX4_beginReading_15 ⟨Nat.le_of_ble_eq_true rfl, Nat.le_of_ble_eq_true rfl⟩) (fun r_2 er_2 => ?_)
  subst er_2
  refine lv_if_eq (tgt := 26) hx hb dX4_beginReading_18 (by decide) (fun c_3 => ?_) (fun c_3 => ?_)
  · have q_2 : ¬ bh_isr (bh_sr (bh_r S 5 b (nI 1)) b g).2 b g = true := by rw [bh_tf_eq c_3]; decide
    exact bn_retv hx hb hr hlocks hK ((bh_sr (bh_r S 5 b (nI 1)) b g).2) hI (by unfold bh_bre; rw [if_neg q_2]) dX4_beginReading_26
  · have q_2 := bh_tf_ne c_3
    refine lv_aload_n hx hb dX4_beginReading_21 rfl (lv_at hl 0 rfl) ?_
    refine lv_iload_n hx hb dX4_beginReading_22 rfl (lv_at hl 1 rfl) ?_
    refine bn_muv (bn_muV (As := [.int (nI b)]) (rest := []) ⟨hx, hb, hml, hown, hts⟩ (cm_beginMoving l D c h ad _ ((bh_sr (bh_r S 5 b (nI 1)) b g).2) b h24 hle (by rw [show ((bh_sr (bh_r S 5 b (nI 1)) b g).2).1 0 = S.1 0 from hkp.1.1]; exact hn)) (cwV 1 hts gX4_beginReading_X4_beginMoving rfl rfl rfl (by decide +kernel) ⟨Nat.le_of_ble_eq_true rfl, Nat.le_of_ble_eq_true rfl⟩) hK hI 0 3 rfl rfl rfl rfl hl.1 (Nat.le_of_ble_eq_true rfl) dX4_beginReading_23 ⟨Nat.le_of_ble_eq_true rfl, Nat.le_of_ble_eq_true rfl⟩) hI hA (fun u_4 H locs eu_4 hI => ?_)
    subst eu_4
    exact bn_retv hx hb hr hlocks hK (bh_bmo (bh_sr (bh_r S 5 b (nI 1)) b g).2 b) hI (by unfold bh_bre; rw [if_pos q_2]) dX4_beginReading_26
end
section
set_option maxHeartbeats 4000000 in
set_option maxRecDepth 100000 in
theorem cm_comesRead (l : Launch) (D : va_G) (c : bh_C) (h : Nat) (ad : Nat → Nat) (sz : Nat) (S : mS) (b v : Nat) (h24 : b ≤ 24) (hv : v < 7) (ha : S.1 28 ≤ 400) : Met l yX4_comesRead wsX4_comesRead ({ frames := 1, cells := 0, slots := 0, locals := 27 }) (va_Pc [.ref h, .int (nI b), .int (nI v)] (bh_prm D c (bh_mw h ad c (S)) sz)) (va_Qv (fun u : mS => u = bh_cre S b v) (fun u t => bh_post D c (bh_mw h ad c u) (va_A (bh_mw h ad c (S)) sz) t) (va_A (bh_mw h ad c (S)) sz)) 0 0 (va_A (bh_mw h ad c (S)) sz) := by
  refine Met.ofW (cc := cX4_comesRead) (maxL := 3) (ret := none) (by decide) rfl ?_
  intro p e s m args below meth c0 s₁ B hml hv
  obtain ⟨rfl, hsz, hP, hK, hD0⟩ := hv
  have hx := B.exec
  have hb := B.bytes
  have hr := B.returns
  have hts := atoms_spec (ws := wsX4_comesRead) B.pre
  have hown : s.vm.findClass RX4 = some m.cls := findClass_of_methodNamed B.named
  have hlocks := B.notSynchronized
  have hinX4 : ∀ w ∈ wsX40, w ∈ wsX4_comesRead := fun _ h => List.mem_cons_of_mem _ (List.mem_append_right _ h)
  have lk_7 : (Cond.fieldLink RX4 7 "BallotHouseModel" "promise" "[I").before _ s = true := hts _ (by decide +kernel)
  subst hsz
  have hI := bh_start hP hD0
  generalize hAe : va_A (bh_mw h ad c (S)) s.heap.size = A at hI ⊢
  have hA : ∀ q : Nat, s.heap.size ≤ q → A q := fun q h => by rw [← hAe]; exact Or.inr h
  clear hP hD0 hAe
  have hl := lv_entry ([.ref h, .int (nI b), .int (nI v)]) (n := 3) (Nat.le_of_ble_eq_true rfl)
  rw [lg_entry_eq]
  generalize (lg_sl ([.ref h, .int (nI b), .int (nI v)]) ++ List.replicate (3 - (lg_sl ([.ref h, .int (nI b), .int (nI v)])).length) Slot.unset).toArray = ls at hl ⊢
  have hl : lv_has ls 3 [(0, .ref h), (1, .int (nI b)), (2, .int (nI v))] := hl
  refine lv_aload_n hx hb dX4_comesRead_0 rfl (lv_at hl 0 rfl) ?_
  refine bn_get (ci := 3) (v := .ref (ad 1)) (C := RX4) (T := TX4) (N := 31) hx hb hts hinX4 hown hK hI 0 rfl rfl 1 (by decide) lk_7 rfl (rfl) dX4_comesRead_1 ?_
  refine lv_iload_n hx hb dX4_comesRead_4 rfl (lv_at hl 2 rfl) ?_
  refine bn_iald (n := 7) (v := S.2.2.1 1 v) hx hb hK hI 1 0 rfl rfl (by omega) (by decide) (rfl) dX4_comesRead_5 ?_
  refine lv_iload_n hx hb dX4_comesRead_6 rfl (lv_at hl 1 rfl) ?_
  refine lv_icmp_le (tgt := 11) hx hb dX4_comesRead_7 (by decide) (fun c_1 => ?_) (fun c_1 => ?_)
  · refine lv_aload_n hx hb dX4_comesRead_11 rfl (lv_at hl 0 rfl) ?_
    refine bn_get (ci := 3) (v := .ref (ad 1)) (C := RX4) (T := TX4) (N := 31) hx hb hts hinX4 hown hK hI 0 rfl rfl 1 (by decide) lk_7 rfl (rfl) dX4_comesRead_12 ?_
    refine lv_iload_n hx hb dX4_comesRead_15 rfl (lv_at hl 2 rfl) ?_
    refine lv_iload_n hx hb dX4_comesRead_16 rfl (lv_at hl 1 rfl) ?_
    refine bn_iast (n := 7) (ws' := bh_mw h ad c (bh_r S 1 v (nI b))) hx hb hK hI 1 0 rfl rfl (by omega) (by decide) dX4_comesRead_17 rfl (fun H locs hI => ?_)
    refine lv_aload_n hx hb dX4_comesRead_18 rfl (lv_at hl 0 rfl) ?_
    refine lv_iconst (v := nI 3) hx hb dX4_comesRead_19 (by decide) ?_
    refine lv_iload_n hx hb dX4_comesRead_20 rfl (lv_at hl 1 rfl) ?_
    refine lv_iload_n hx hb dX4_comesRead_21 rfl (lv_at hl 2 rfl) ?_
    refine lv_iconst (v := -1) hx hb dX4_comesRead_22 (by decide) ?_
    refine lv_lconst (v := 0) hx hb dX4_comesRead_23 (by decide) ?_
    refine bn_muv (bn_muV (As := [.int (nI 3), .int (nI b), .int (nI v), .int (-1), .long (0)]) (rest := []) ⟨hx, hb, hml, hown, hts⟩ (cm_put3 l D c h ad _ (bh_r S 1 v (nI b)) (nI b) v (-1) (0) (ha) hv) (cwV 5 hts gX4_comesRead_X4_put rfl rfl rfl (by decide +kernel) ⟨Nat.le_of_ble_eq_true rfl, Nat.le_of_ble_eq_true rfl⟩) hK hI 0 3 rfl rfl rfl rfl hl.1 (Nat.le_of_ble_eq_true rfl) dX4_comesRead_24 ⟨Nat.le_of_ble_eq_true rfl, Nat.le_of_ble_eq_true rfl⟩) hI hA (fun u_2 H locs eu_2 hI => ?_)
    subst eu_2
    exact bn_retv hx hb hr hlocks hK (bh_put (bh_r S 1 v (nI b)) (nI 3) (nI b) (nI v) (-1) 0 (fun k => S.2.2.1 2 (8 * v + k)) (fun k => S.2.2.2 3 (8 * v + k))) hI (by unfold bh_cre; rw [if_pos c_1]) dX4_comesRead_27
  · exact bn_retv hx hb hr hlocks hK (S) hI (by unfold bh_cre; rw [if_neg c_1]) dX4_comesRead_10
set_option maxHeartbeats 4000000 in
set_option maxRecDepth 100000 in
theorem cm_comesVote (l : Launch) (D : va_G) (c : bh_C) (h : Nat) (ad : Nat → Nat) (sz : Nat) (S : mS) (b v q : Nat) (x : Int64) (h24 : b ≤ 24) (hv : v < 7) (hq : q < 8) (ha : S.1 28 ≤ 400) : Met l yX4_comesVote wsX4_comesVote ({ frames := 1, cells := 0, slots := 0, locals := 27 }) (va_Pc [.ref h, .int (nI b), .int (nI v), .int (nI q), .long (x)] (bh_prm D c (bh_mw h ad c (S)) sz)) (va_Qv (fun u : mS => u = bh_cvo S b v q x) (fun u t => bh_post D c (bh_mw h ad c u) (va_A (bh_mw h ad c (S)) sz) t) (va_A (bh_mw h ad c (S)) sz)) 0 0 (va_A (bh_mw h ad c (S)) sz) := by
  refine Met.ofW (cc := cX4_comesVote) (maxL := 6) (ret := none) (by decide) rfl ?_
  intro p e s m args below meth c0 s₁ B hml hv
  obtain ⟨rfl, hsz, hP, hK, hD0⟩ := hv
  have hx := B.exec
  have hb := B.bytes
  have hr := B.returns
  have hts := atoms_spec (ws := wsX4_comesVote) B.pre
  have hown : s.vm.findClass RX4 = some m.cls := findClass_of_methodNamed B.named
  have hlocks := B.notSynchronized
  have hinX4 : ∀ w ∈ wsX40, w ∈ wsX4_comesVote := fun _ h => List.mem_cons_of_mem _ (List.mem_append_right _ h)
  have lk_7 : (Cond.fieldLink RX4 7 "BallotHouseModel" "promise" "[I").before _ s = true := hts _ (by decide +kernel)
  have lk_13 : (Cond.fieldLink RX4 13 "BallotHouseModel" "vote" "[I").before _ s = true := hts _ (by decide +kernel)
  have lk_16 : (Cond.fieldLink RX4 16 "BallotHouseModel" "value" "[J").before _ s = true := hts _ (by decide +kernel)
  have lk_57 : (Cond.fieldLink RX4 57 "BallotHouseModel" "voted" "[I").before _ s = true := hts _ (by decide +kernel)
  subst hsz
  have hI := bh_start hP hD0
  generalize hAe : va_A (bh_mw h ad c (S)) s.heap.size = A at hI ⊢
  have hA : ∀ q : Nat, s.heap.size ≤ q → A q := fun q h => by rw [← hAe]; exact Or.inr h
  clear hP hD0 hAe
  have hl := lv_entry ([.ref h, .int (nI b), .int (nI v), .int (nI q), .long (x)]) (n := 6) (Nat.le_of_ble_eq_true rfl)
  rw [lg_entry_eq]
  generalize (lg_sl ([.ref h, .int (nI b), .int (nI v), .int (nI q), .long (x)]) ++ List.replicate (6 - (lg_sl ([.ref h, .int (nI b), .int (nI v), .int (nI q), .long (x)])).length) Slot.unset).toArray = ls at hl ⊢
  have hl : lv_has ls 6 [(0, .ref h), (1, .int (nI b)), (2, .int (nI v)), (3, .int (nI q)), (4, .long (x))] := hl
  refine lv_aload_n hx hb dX4_comesVote_0 rfl (lv_at hl 0 rfl) ?_
  refine bn_get (ci := 3) (v := .ref (ad 1)) (C := RX4) (T := TX4) (N := 31) hx hb hts hinX4 hown hK hI 0 rfl rfl 1 (by decide) lk_7 rfl (rfl) dX4_comesVote_1 ?_
  refine lv_iload_n hx hb dX4_comesVote_4 rfl (lv_at hl 2 rfl) ?_
  refine bn_iald (n := 7) (v := S.2.2.1 1 v) hx hb hK hI 1 0 rfl rfl (by omega) (by decide) (rfl) dX4_comesVote_5 ?_
  refine lv_iload_n hx hb dX4_comesVote_6 rfl (lv_at hl 1 rfl) ?_
  refine lv_icmp_le (tgt := 11) hx hb dX4_comesVote_7 (by decide) (fun c_1 => ?_) (fun c_1 => ?_)
  · refine lv_aload_n hx hb dX4_comesVote_11 rfl (lv_at hl 0 rfl) ?_
    refine bn_get (ci := 3) (v := .ref (ad 1)) (C := RX4) (T := TX4) (N := 31) hx hb hts hinX4 hown hK hI 0 rfl rfl 1 (by decide) lk_7 rfl (rfl) dX4_comesVote_12 ?_
    refine lv_iload_n hx hb dX4_comesVote_15 rfl (lv_at hl 2 rfl) ?_
    refine lv_iload_n hx hb dX4_comesVote_16 rfl (lv_at hl 1 rfl) ?_
    refine bn_iast (n := 7) (ws' := bh_mw h ad c (bh_r S 1 v (nI b))) hx hb hK hI 1 0 rfl rfl (by omega) (by decide) dX4_comesVote_17 rfl (fun H locs hI => ?_)
    refine lv_aload_n hx hb dX4_comesVote_18 rfl (lv_at hl 0 rfl) ?_
    refine bn_get (ci := 3) (v := .ref (ad 2)) (C := RX4) (T := TX4) (N := 31) hx hb hts hinX4 hown hK hI 0 rfl rfl 2 (by decide) lk_13 rfl (rfl) dX4_comesVote_19 ?_
    refine lv_bipush (v := nI 8) hx hb dX4_comesVote_22 (by decide) ?_
    refine lv_iload_n hx hb dX4_comesVote_24 rfl (lv_at hl 2 rfl) ?_
    refine bn_imul hx hb dX4_comesVote_25 ?_
    refine lv_iload_n hx hb dX4_comesVote_26 rfl (lv_at hl 3 rfl) ?_
    refine bn_iadd hx hb dX4_comesVote_27 ?_
    refine lv_iload_n hx hb dX4_comesVote_28 rfl (lv_at hl 1 rfl) ?_
    refine bn_iast (n := 56) (ws' := bh_mw h ad c (bh_r (bh_r S 1 v (nI b)) 2 ((8 * v) + q) (nI b))) hx hb hK hI 2 0 rfl rfl (by omega) (by decide) dX4_comesVote_29 rfl (fun H locs hI => ?_)
    refine lv_aload_n hx hb dX4_comesVote_30 rfl (lv_at hl 0 rfl) ?_
    refine bn_get (ci := 3) (v := .ref (ad 3)) (C := RX4) (T := TX4) (N := 31) hx hb hts hinX4 hown hK hI 0 rfl rfl 3 (by decide) lk_16 rfl (rfl) dX4_comesVote_31 ?_
    refine lv_bipush (v := nI 8) hx hb dX4_comesVote_34 (by decide) ?_
    refine lv_iload_n hx hb dX4_comesVote_36 rfl (lv_at hl 2 rfl) ?_
    refine bn_imul hx hb dX4_comesVote_37 ?_
    refine lv_iload_n hx hb dX4_comesVote_38 rfl (lv_at hl 3 rfl) ?_
    refine bn_iadd hx hb dX4_comesVote_39 ?_
    refine lv_lload hx hb dX4_comesVote_40 (lv_at hl 4 rfl) ?_
    refine bn_last (n := 56) (ws' := bh_mw h ad c (bh_l (bh_r (bh_r S 1 v (nI b)) 2 ((8 * v) + q) (nI b)) 3 ((8 * v) + q) x)) hx hb hK hI 3 1 rfl rfl (by omega) (by decide) dX4_comesVote_42 rfl (fun H locs hI => ?_)
    refine lv_aload_n hx hb dX4_comesVote_43 rfl (lv_at hl 0 rfl) ?_
    refine bn_get (ci := 3) (v := .ref (ad 16)) (C := RX4) (T := TX4) (N := 31) hx hb hts hinX4 hown hK hI 0 rfl rfl 16 (by decide) lk_57 rfl (rfl) dX4_comesVote_44 ?_
    refine lv_bipush (v := nI 8) hx hb dX4_comesVote_47 (by decide) ?_
    refine lv_iload_n hx hb dX4_comesVote_49 rfl (lv_at hl 1 rfl) ?_
    refine bn_imul hx hb dX4_comesVote_50 ?_
    refine lv_iload_n hx hb dX4_comesVote_51 rfl (lv_at hl 3 rfl) ?_
    refine bn_iadd hx hb dX4_comesVote_52 ?_
    refine lv_dup2_11 hx hb dX4_comesVote_53 rfl rfl ?_
    refine bn_iald (n := 200) (v := S.2.2.1 16 ((8 * b) + q)) hx hb hK hI 16 0 rfl rfl (by omega) (by decide) (rfl) dX4_comesVote_54 ?_
    refine lv_iconst (v := nI 1) hx hb dX4_comesVote_55 (by decide) ?_
    refine lv_iload_n hx hb dX4_comesVote_56 rfl (lv_at hl 2 rfl) ?_
    refine lv_ishl hx hb dX4_comesVote_57 ?_
    refine lv_ior hx hb dX4_comesVote_58 ?_
    refine bn_iast (n := 200) (ws' := bh_mw h ad c (bh_r (bh_l (bh_r (bh_r S 1 v (nI b)) 2 ((8 * v) + q) (nI b)) 3 ((8 * v) + q) x) 16 ((8 * b) + q) ((S.2.2.1 16 ((8 * b) + q)) ||| ((nI 1) <<< ((nI v) &&& 31))))) hx hb hK hI 16 0 rfl rfl (by omega) (by decide) dX4_comesVote_59 rfl (fun H locs hI => ?_)
    refine lv_aload_n hx hb dX4_comesVote_60 rfl (lv_at hl 0 rfl) ?_
    refine lv_iconst (v := nI 5) hx hb dX4_comesVote_61 (by decide) ?_
    refine lv_iload_n hx hb dX4_comesVote_62 rfl (lv_at hl 1 rfl) ?_
    refine lv_iload_n hx hb dX4_comesVote_63 rfl (lv_at hl 2 rfl) ?_
    refine lv_iload_n hx hb dX4_comesVote_64 rfl (lv_at hl 3 rfl) ?_
    refine lv_lconst (v := 0) hx hb dX4_comesVote_65 (by decide) ?_
    refine bn_muv (bn_muV (As := [.int (nI 5), .int (nI b), .int (nI v), .int (nI q), .long (0)]) (rest := []) ⟨hx, hb, hml, hown, hts⟩ (cm_put l D c h ad _ (bh_r (bh_l (bh_r (bh_r S 1 v (nI b)) 2 ((8 * v) + q) (nI b)) 3 ((8 * v) + q) x) 16 ((8 * b) + q) ((S.2.2.1 16 ((8 * b) + q)) ||| ((nI 1) <<< ((nI v) &&& 31)))) 5 (nI b) (nI v) (nI q) (0) (ha) (by omega) (by omega)) (cwV 5 hts gX4_comesVote_X4_put rfl rfl rfl (by decide +kernel) ⟨Nat.le_of_ble_eq_true rfl, Nat.le_of_ble_eq_true rfl⟩) hK hI 0 3 rfl rfl rfl rfl hl.1 (Nat.le_of_ble_eq_true rfl) dX4_comesVote_66 ⟨Nat.le_of_ble_eq_true rfl, Nat.le_of_ble_eq_true rfl⟩) hI hA (fun u_2 H locs eu_2 hI => ?_)
    subst eu_2
    exact bn_retv hx hb hr hlocks hK (bh_put (bh_r (bh_l (bh_r (bh_r S 1 v (nI b)) 2 ((8 * v) + q) (nI b)) 3 ((8 * v) + q) x) 16 ((8 * b) + q) ((S.2.2.1 16 ((8 * b) + q)) ||| ((nI 1) <<< ((nI v) &&& 31)))) (nI 5) (nI b) (nI v) (nI q) 0 bh_z0 bh_z1) hI (by unfold bh_cvo; rw [if_pos c_1]; rfl) dX4_comesVote_69
  · exact bn_retv hx hb hr hlocks hK (S) hI (by unfold bh_cvo; rw [if_neg c_1]) dX4_comesVote_10
set_option maxHeartbeats 4000000 in
set_option maxRecDepth 100000 in
theorem cm_comesReadAnswer (l : Launch) (D : va_G) (c : bh_C) (h : Nat) (ad : Nat → Nat) (sz : Nat) (S : mS) (b v : Nat) (h24 : b ≤ 24) (hv : v < 7) (g : Nat) (hg : S.2.2.1 9 b = nI g) (hg24 : g ≤ 24) (ha : S.1 28 ≤ 400) (hn : S.1 0 ≤ 7) : Met l yX4_comesReadAnswer wsX4_comesReadAnswer ({ frames := 3, cells := 0, slots := 0, locals := 73 }) (va_Pc [.ref h, .int (nI b), .int (nI v)] (bh_prm D c (bh_mw h ad c (S)) sz)) (va_Qv (fun u : mS => u = bh_cra S b v g) (fun u t => bh_post D c (bh_mw h ad c u) (va_A (bh_mw h ad c (S)) sz) t) (va_A (bh_mw h ad c (S)) sz)) 0 0 (va_A (bh_mw h ad c (S)) sz) := by
  refine Met.ofW (cc := cX4_comesReadAnswer) (maxL := 4) (ret := none) (by decide) rfl ?_
  intro p e s m args below meth c0 s₁ B hml hv
  obtain ⟨rfl, hsz, hP, hK, hD0⟩ := hv
  have hx := B.exec
  have hb := B.bytes
  have hr := B.returns
  have hts := atoms_spec (ws := wsX4_comesReadAnswer) B.pre
  have hown : s.vm.findClass RX4 = some m.cls := findClass_of_methodNamed B.named
  have hlocks := B.notSynchronized
  have hinX4 : ∀ w ∈ wsX40, w ∈ wsX4_comesReadAnswer := fun _ h => List.mem_cons_of_mem _ (List.mem_append_right _ h)
  have lk_24 : (Cond.fieldLink RX4 24 "BallotHouseModel" "state" "[I").before _ s = true := hts _ (by decide +kernel)
  have lk_39 : (Cond.fieldLink RX4 39 "BallotHouseModel" "readers" "[I").before _ s = true := hts _ (by decide +kernel)
  have lk_42 : (Cond.fieldLink RX4 42 "BallotHouseModel" "found" "[I").before _ s = true := hts _ (by decide +kernel)
  have lk_51 : (Cond.fieldLink RX4 51 "BallotHouseModel" "foundBy" "[I").before _ s = true := hts _ (by decide +kernel)
  have lk_60 : (Cond.fieldLink RX4 60 "BallotHouseModel" "says" "[J").before _ s = true := hts _ (by decide +kernel)
  have lk_84 : (Cond.fieldLink RX4 84 "BallotHouseModel" "gotVote" "[I").before _ s = true := hts _ (by decide +kernel)
  have lk_87 : (Cond.fieldLink RX4 87 "BallotHouseModel" "gotValue" "[J").before _ s = true := hts _ (by decide +kernel)
  subst hsz
  have hI := bh_start hP hD0
  generalize hAe : va_A (bh_mw h ad c (S)) s.heap.size = A at hI ⊢
  have hA : ∀ q : Nat, s.heap.size ≤ q → A q := fun q h => by rw [← hAe]; exact Or.inr h
  clear hP hD0 hAe
  have hl := lv_entry ([.ref h, .int (nI b), .int (nI v)]) (n := 4) (Nat.le_of_ble_eq_true rfl)
  rw [lg_entry_eq]
  generalize (lg_sl ([.ref h, .int (nI b), .int (nI v)]) ++ List.replicate (4 - (lg_sl ([.ref h, .int (nI b), .int (nI v)])).length) Slot.unset).toArray = ls at hl ⊢
  have hl : lv_has ls 4 [(0, .ref h), (1, .int (nI b)), (2, .int (nI v))] := hl
  refine lv_aload_n hx hb dX4_comesReadAnswer_0 rfl (lv_at hl 0 rfl) ?_
  refine bn_get (ci := 3) (v := .ref (ad 5)) (C := RX4) (T := TX4) (N := 31) hx hb hts hinX4 hown hK hI 0 rfl rfl 5 (by decide) lk_24 rfl (rfl) dX4_comesReadAnswer_1 ?_
  refine lv_iload_n hx hb dX4_comesReadAnswer_4 rfl (lv_at hl 1 rfl) ?_
  refine bn_iald (n := 25) (v := S.2.2.1 5 b) hx hb hK hI 5 0 rfl rfl (by omega) (by decide) (rfl) dX4_comesReadAnswer_5 ?_
  refine lv_iconst (v := nI 1) hx hb dX4_comesReadAnswer_6 (by decide) ?_
  refine lv_icmp_ne (tgt := 24) hx hb dX4_comesReadAnswer_7 (by decide) (fun c_1 => ?_) (fun c_1 => ?_)
  · exact bn_retv hx hb hr hlocks hK (S) hI (by unfold bh_cra; rw [if_neg (fun z => c_1 z.1)]) dX4_comesReadAnswer_24
  · refine lv_aload_n hx hb dX4_comesReadAnswer_10 rfl (lv_at hl 0 rfl) ?_
    refine bn_get (ci := 3) (v := .ref (ad 10)) (C := RX4) (T := TX4) (N := 31) hx hb hts hinX4 hown hK hI 0 rfl rfl 10 (by decide) lk_39 rfl (rfl) dX4_comesReadAnswer_11 ?_
    refine lv_iload_n hx hb dX4_comesReadAnswer_14 rfl (lv_at hl 1 rfl) ?_
    refine bn_iald (n := 25) (v := S.2.2.1 10 b) hx hb hK hI 10 0 rfl rfl (by omega) (by decide) (rfl) dX4_comesReadAnswer_15 ?_
    refine lv_iload_n hx hb dX4_comesReadAnswer_16 rfl (lv_at hl 2 rfl) ?_
    refine lv_ishr hx hb dX4_comesReadAnswer_17 ?_
    refine lv_iconst (v := nI 1) hx hb dX4_comesReadAnswer_18 (by decide) ?_
    refine lv_iand hx hb dX4_comesReadAnswer_19 ?_
    refine lv_iconst (v := nI 1) hx hb dX4_comesReadAnswer_20 (by decide) ?_
    refine lv_icmp_ne (tgt := 25) hx hb dX4_comesReadAnswer_21 (by decide) (fun c_2 => ?_) (fun c_2 => ?_)
    · have q_0 : S.2.2.1 5 b = nI 1 ∧ ¬ (S.2.2.1 10 b >>> (nI v &&& 31)) &&& nI 1 = nI 1 := ⟨c_1, c_2⟩
      refine lv_aload_n hx hb dX4_comesReadAnswer_25 rfl (lv_at hl 0 rfl) ?_
      refine bn_get (ci := 3) (v := .ref (ad 10)) (C := RX4) (T := TX4) (N := 31) hx hb hts hinX4 hown hK hI 0 rfl rfl 10 (by decide) lk_39 rfl (rfl) dX4_comesReadAnswer_26 ?_
      refine lv_iload_n hx hb dX4_comesReadAnswer_29 rfl (lv_at hl 1 rfl) ?_
      refine lv_dup2_11 hx hb dX4_comesReadAnswer_30 rfl rfl ?_
      refine bn_iald (n := 25) (v := S.2.2.1 10 b) hx hb hK hI 10 0 rfl rfl (by omega) (by decide) (rfl) dX4_comesReadAnswer_31 ?_
      refine lv_iconst (v := nI 1) hx hb dX4_comesReadAnswer_32 (by decide) ?_
      refine lv_iload_n hx hb dX4_comesReadAnswer_33 rfl (lv_at hl 2 rfl) ?_
      refine lv_ishl hx hb dX4_comesReadAnswer_34 ?_
      refine lv_ior hx hb dX4_comesReadAnswer_35 ?_
      refine bn_iast (n := 25) (ws' := bh_mw h ad c (bh_r S 10 b ((S.2.2.1 10 b) ||| ((nI 1) <<< ((nI v) &&& 31))))) hx hb hK hI 10 0 rfl rfl (by omega) (by decide) dX4_comesReadAnswer_36 rfl (fun H locs hI => ?_)
      refine lv_iconst (v := nI 0) hx hb dX4_comesReadAnswer_37 (by decide) ?_
      refine lv_istore_n (lv' := [(3, .int (nI 0)), (0, .ref h), (1, .int (nI b)), (2, .int (nI v))]) hx hb dX4_comesReadAnswer_38 rfl hl (by decide) rfl (fun ls hl => ?_)
      refine bh_loop (σ := Nat) (fun (q : Nat) H locs ls => q ≤ 8 ∧ bh_I D (bh_mw h ad c (bh_raL (bh_r S 10 b (S.2.2.1 10 b ||| bh_bit v)) b q)) A s.heap H locs ∧ lv_has ls 4 [(3, .int (nI q)), (0, .ref h), (1, .int (nI b)), (2, .int (nI v))]) (fun (q : Nat) => 8 - q) (fun q H locs ls hx_3 ih_3 => ?_) 0 _ _ _ ⟨Nat.zero_le 8, hI, lv_sub hl [0, 1, 2, 3] rfl⟩
      clear hl hI
      obtain ⟨hq, hI, hl⟩ := hx_3
      refine lv_iload_n hx hb dX4_comesReadAnswer_39 rfl (lv_at hl 0 rfl) ?_
      refine lv_bipush (v := nI 8) hx hb dX4_comesReadAnswer_40 (by decide) ?_
      refine bn_cmp_ge (tgt := 120) hx hb (by omega) (by omega) dX4_comesReadAnswer_42 (by decide) (fun c_4 => ?_) (fun c_4 => ?_)
      · obtain rfl : q = 8 := by omega
        have hn2 := bh_ra_n S b v
        rw [bh_ra_def] at hI
        refine lv_aload_n hx hb dX4_comesReadAnswer_120 rfl (lv_at hl 1 rfl) ?_
        refine lv_iload_n hx hb dX4_comesReadAnswer_121 rfl (lv_at hl 2 rfl) ?_
        refine vp_callSi (bn_roV (As := [.int (nI b)]) (rest := []) ⟨hx, hb, hml, hown, hts⟩ (cm_isRead l D c h ad (bh_ra S b v) b h24 g ((congrFun (bh_ra_9 S b v) b).trans hg) hg24) (cwV 1 hts gX4_comesReadAnswer_X4_isRead rfl rfl rfl (by decide +kernel) ⟨Nat.le_of_ble_eq_true rfl, Nat.le_of_ble_eq_true rfl⟩) hK hI 0 3 rfl rfl rfl rfl hl.1 (Nat.le_of_ble_eq_true rfl) dX4_comesReadAnswer_122 ⟨Nat.le_of_ble_eq_true rfl, Nat.le_of_ble_eq_true rfl⟩) (fun r_5 er_5 => ?_)
        subst er_5
        refine lv_if_eq (tgt := 133) hx hb dX4_comesReadAnswer_125 (by decide) (fun c_6 => ?_) (fun c_6 => ?_)
        · have q_2 : ¬ bh_isr (bh_ra S b v) b g = true := by rw [bh_tf_eq c_6]; decide
          exact bn_retv hx hb hr hlocks hK (bh_ra S b v) hI (by unfold bh_cra; rw [if_pos q_0, if_neg q_2]) dX4_comesReadAnswer_133
        · have q_2 := bh_tf_ne c_6
          refine lv_aload_n hx hb dX4_comesReadAnswer_128 rfl (lv_at hl 1 rfl) ?_
          refine lv_iload_n hx hb dX4_comesReadAnswer_129 rfl (lv_at hl 2 rfl) ?_
          refine bn_muv (bn_muV (As := [.int (nI b)]) (rest := []) ⟨hx, hb, hml, hown, hts⟩ (cm_beginMoving l D c h ad _ (bh_ra S b v) b h24 (by rw [hn2]; exact ha) (by rw [hn2]; exact hn)) (cwV 1 hts gX4_comesReadAnswer_X4_beginMoving rfl rfl rfl (by decide +kernel) ⟨Nat.le_of_ble_eq_true rfl, Nat.le_of_ble_eq_true rfl⟩) hK hI 0 3 rfl rfl rfl rfl hl.1 (Nat.le_of_ble_eq_true rfl) dX4_comesReadAnswer_130 ⟨Nat.le_of_ble_eq_true rfl, Nat.le_of_ble_eq_true rfl⟩) hI hA (fun u_7 H locs eu_7 hI => ?_)
          subst eu_7
          exact bn_retv hx hb hr hlocks hK (bh_bmo (bh_ra S b v) b) hI (by unfold bh_cra; rw [if_pos q_0, if_pos q_2]) dX4_comesReadAnswer_133
      · refine lv_aload_n hx hb dX4_comesReadAnswer_45 rfl (lv_at hl 1 rfl) ?_
        refine bn_get (ci := 3) (v := .ref (ad 29)) (C := RX4) (T := TX4) (N := 31) hx hb hts hinX4 hown hK hI 0 rfl rfl 29 (by decide) lk_84 rfl (rfl) dX4_comesReadAnswer_46 ?_
        refine lv_iload_n hx hb dX4_comesReadAnswer_49 rfl (lv_at hl 0 rfl) ?_
        refine bn_iald (n := 8) (v := (bh_raL (bh_r S 10 b (S.2.2.1 10 b ||| bh_bit v)) b q).2.2.1 29 q) hx hb hK hI 25 0 rfl rfl (by omega) (by decide) (rfl) dX4_comesReadAnswer_50 ?_
        refine lv_aload_n hx hb dX4_comesReadAnswer_51 rfl (lv_at hl 1 rfl) ?_
        refine bn_get (ci := 3) (v := .ref (ad 14)) (C := RX4) (T := TX4) (N := 31) hx hb hts hinX4 hown hK hI 0 rfl rfl 14 (by decide) lk_51 rfl (rfl) dX4_comesReadAnswer_52 ?_
        refine lv_bipush (v := nI 8) hx hb dX4_comesReadAnswer_55 (by decide) ?_
        refine lv_iload_n hx hb dX4_comesReadAnswer_57 rfl (lv_at hl 2 rfl) ?_
        refine bn_imul hx hb dX4_comesReadAnswer_58 ?_
        refine lv_iload_n hx hb dX4_comesReadAnswer_59 rfl (lv_at hl 0 rfl) ?_
        refine bn_iadd hx hb dX4_comesReadAnswer_60 ?_
        refine bn_iald (n := 200) (v := (bh_raL (bh_r S 10 b (S.2.2.1 10 b ||| bh_bit v)) b q).2.2.1 14 ((8 * b) + q)) hx hb hK hI 14 0 rfl rfl (by omega) (by decide) (rfl) dX4_comesReadAnswer_61 ?_
        refine lv_icmp_gt (tgt := 68) hx hb dX4_comesReadAnswer_62 (by decide) (fun c_8 => ?_) (fun c_8 => ?_)
        · have q_1 : (bh_raL (bh_r S 10 b (S.2.2.1 10 b ||| bh_bit v)) b q).2.2.1 14 (8 * b + q) < (bh_raL (bh_r S 10 b (S.2.2.1 10 b ||| bh_bit v)) b q).2.2.1 29 q := c_8
          refine lv_aload_n hx hb dX4_comesReadAnswer_68 rfl (lv_at hl 1 rfl) ?_
          refine bn_get (ci := 3) (v := .ref (ad 14)) (C := RX4) (T := TX4) (N := 31) hx hb hts hinX4 hown hK hI 0 rfl rfl 14 (by decide) lk_51 rfl (rfl) dX4_comesReadAnswer_69 ?_
          refine lv_bipush (v := nI 8) hx hb dX4_comesReadAnswer_72 (by decide) ?_
          refine lv_iload_n hx hb dX4_comesReadAnswer_74 rfl (lv_at hl 2 rfl) ?_
          refine bn_imul hx hb dX4_comesReadAnswer_75 ?_
          refine lv_iload_n hx hb dX4_comesReadAnswer_76 rfl (lv_at hl 0 rfl) ?_
          refine bn_iadd hx hb dX4_comesReadAnswer_77 ?_
          refine lv_aload_n hx hb dX4_comesReadAnswer_78 rfl (lv_at hl 1 rfl) ?_
          refine bn_get (ci := 3) (v := .ref (ad 29)) (C := RX4) (T := TX4) (N := 31) hx hb hts hinX4 hown hK hI 0 rfl rfl 29 (by decide) lk_84 rfl (rfl) dX4_comesReadAnswer_79 ?_
          refine lv_iload_n hx hb dX4_comesReadAnswer_82 rfl (lv_at hl 0 rfl) ?_
          refine bn_iald (n := 8) (v := (bh_raL (bh_r S 10 b (S.2.2.1 10 b ||| bh_bit v)) b q).2.2.1 29 q) hx hb hK hI 25 0 rfl rfl (by omega) (by decide) (rfl) dX4_comesReadAnswer_83 ?_
          refine bn_iast (n := 200) (ws' := bh_mw h ad c (bh_r (bh_raL (bh_r S 10 b (S.2.2.1 10 b ||| bh_bit v)) b q) 14 ((8 * b) + q) ((bh_raL (bh_r S 10 b (S.2.2.1 10 b ||| bh_bit v)) b q).2.2.1 29 q))) hx hb hK hI 14 0 rfl rfl (by omega) (by decide) dX4_comesReadAnswer_84 rfl (fun H locs hI => ?_)
          refine lv_aload_n hx hb dX4_comesReadAnswer_85 rfl (lv_at hl 1 rfl) ?_
          refine bn_get (ci := 3) (v := .ref (ad 17)) (C := RX4) (T := TX4) (N := 31) hx hb hts hinX4 hown hK hI 0 rfl rfl 17 (by decide) lk_60 rfl (rfl) dX4_comesReadAnswer_86 ?_
          refine lv_bipush (v := nI 8) hx hb dX4_comesReadAnswer_89 (by decide) ?_
          refine lv_iload_n hx hb dX4_comesReadAnswer_91 rfl (lv_at hl 2 rfl) ?_
          refine bn_imul hx hb dX4_comesReadAnswer_92 ?_
          refine lv_iload_n hx hb dX4_comesReadAnswer_93 rfl (lv_at hl 0 rfl) ?_
          refine bn_iadd hx hb dX4_comesReadAnswer_94 ?_
          refine lv_aload_n hx hb dX4_comesReadAnswer_95 rfl (lv_at hl 1 rfl) ?_
          refine bn_get (ci := 3) (v := .ref (ad 30)) (C := RX4) (T := TX4) (N := 31) hx hb hts hinX4 hown hK hI 0 rfl rfl 30 (by decide) lk_87 rfl (rfl) dX4_comesReadAnswer_96 ?_
          refine lv_iload_n hx hb dX4_comesReadAnswer_99 rfl (lv_at hl 0 rfl) ?_
          refine bn_lald (n := 8) (v := (bh_raL (bh_r S 10 b (S.2.2.1 10 b ||| bh_bit v)) b q).2.2.2 30 q) hx hb hK hI 26 1 rfl rfl (by omega) (by decide) (rfl) dX4_comesReadAnswer_100 ?_
          refine bn_last (n := 200) (ws' := bh_mw h ad c (bh_l (bh_r (bh_raL (bh_r S 10 b (S.2.2.1 10 b ||| bh_bit v)) b q) 14 ((8 * b) + q) ((bh_raL (bh_r S 10 b (S.2.2.1 10 b ||| bh_bit v)) b q).2.2.1 29 q)) 17 ((8 * b) + q) ((bh_raL (bh_r S 10 b (S.2.2.1 10 b ||| bh_bit v)) b q).2.2.2 30 q))) hx hb hK hI 17 1 rfl rfl (by omega) (by decide) dX4_comesReadAnswer_101 rfl (fun H locs hI => ?_)
          refine lv_aload_n hx hb dX4_comesReadAnswer_102 rfl (lv_at hl 1 rfl) ?_
          refine bn_get (ci := 3) (v := .ref (ad 11)) (C := RX4) (T := TX4) (N := 31) hx hb hts hinX4 hown hK hI 0 rfl rfl 11 (by decide) lk_42 rfl (rfl) dX4_comesReadAnswer_103 ?_
          refine lv_iload_n hx hb dX4_comesReadAnswer_106 rfl (lv_at hl 2 rfl) ?_
          refine lv_dup2_11 hx hb dX4_comesReadAnswer_107 rfl rfl ?_
          refine bn_iald (n := 25) (v := (bh_raL (bh_r S 10 b (S.2.2.1 10 b ||| bh_bit v)) b q).2.2.1 11 b) hx hb hK hI 11 0 rfl rfl (by omega) (by decide) (rfl) dX4_comesReadAnswer_108 ?_
          refine lv_iconst (v := nI 1) hx hb dX4_comesReadAnswer_109 (by decide) ?_
          refine lv_iload_n hx hb dX4_comesReadAnswer_110 rfl (lv_at hl 0 rfl) ?_
          refine lv_ishl hx hb dX4_comesReadAnswer_111 ?_
          refine lv_ior hx hb dX4_comesReadAnswer_112 ?_
          refine bn_iast (n := 25) (ws' := bh_mw h ad c (bh_r (bh_l (bh_r (bh_raL (bh_r S 10 b (S.2.2.1 10 b ||| bh_bit v)) b q) 14 ((8 * b) + q) ((bh_raL (bh_r S 10 b (S.2.2.1 10 b ||| bh_bit v)) b q).2.2.1 29 q)) 17 ((8 * b) + q) ((bh_raL (bh_r S 10 b (S.2.2.1 10 b ||| bh_bit v)) b q).2.2.2 30 q)) 11 b (((bh_raL (bh_r S 10 b (S.2.2.1 10 b ||| bh_bit v)) b q).2.2.1 11 b) ||| ((nI 1) <<< ((nI q) &&& 31))))) hx hb hK hI 11 0 rfl rfl (by omega) (by decide) dX4_comesReadAnswer_113 rfl (fun H locs hI => ?_)
          refine lv_iinc (v := nI (q + 1)) (lv' := [(3, .int (nI (q + 1))), (0, .ref h), (1, .int (nI b)), (2, .int (nI v))]) hx hb dX4_comesReadAnswer_114 hl (k := 0) rfl (nI_1 _) (by decide) rfl (fun ls hl => ?_)
          refine lv_goto (tgt := 39) hx hb dX4_comesReadAnswer_117 (by decide) ?_
          exact ih_3 (q + 1) _ _ _ ⟨by omega, (by rw [show bh_raL (bh_r S 10 b (S.2.2.1 10 b ||| bh_bit v)) b (q + 1) = _ from if_pos q_1]; exact hI), lv_sub hl [0, 1, 2, 3] rfl⟩ (by show 8 - (q + 1) < 8 - q; omega)
        · have q_1 : ¬ (bh_raL (bh_r S 10 b (S.2.2.1 10 b ||| bh_bit v)) b q).2.2.1 14 (8 * b + q) < (bh_raL (bh_r S 10 b (S.2.2.1 10 b ||| bh_bit v)) b q).2.2.1 29 q := c_8
          refine lv_goto (tgt := 114) hx hb dX4_comesReadAnswer_65 (by decide) ?_
          refine lv_iinc (v := nI (q + 1)) (lv' := [(3, .int (nI (q + 1))), (0, .ref h), (1, .int (nI b)), (2, .int (nI v))]) hx hb dX4_comesReadAnswer_114 hl (k := 0) rfl (nI_1 _) (by decide) rfl (fun ls hl => ?_)
          refine lv_goto (tgt := 39) hx hb dX4_comesReadAnswer_117 (by decide) ?_
          exact ih_3 (q + 1) _ _ _ ⟨by omega, (by rw [show bh_raL (bh_r S 10 b (S.2.2.1 10 b ||| bh_bit v)) b (q + 1) = _ from if_neg q_1]; exact hI), lv_sub hl [0, 1, 2, 3] rfl⟩ (by show 8 - (q + 1) < 8 - q; omega)
    · exact bn_retv hx hb hr hlocks hK (S) hI (by unfold bh_cra; rw [if_neg (fun z => z.2 c_2)]) dX4_comesReadAnswer_24
set_option maxHeartbeats 4000000 in
set_option maxRecDepth 100000 in
theorem cm_comesVoteAnswer (l : Launch) (D : va_G) (c : bh_C) (h : Nat) (ad : Nat → Nat) (sz : Nat) (S : mS) (b v q : Nat) (h24 : b ≤ 24) (hv : v < 7) (hq : q < 8) (ha : S.1 28 ≤ 400) : Met l yX4_comesVoteAnswer wsX4_comesVoteAnswer ({ frames := 2, cells := 0, slots := 0, locals := 48 }) (va_Pc [.ref h, .int (nI b), .int (nI v), .int (nI q)] (bh_prm D c (bh_mw h ad c (S)) sz)) (va_Qv (fun u : mS => u = bh_cva S b v q) (fun u t => bh_post D c (bh_mw h ad c u) (va_A (bh_mw h ad c (S)) sz) t) (va_A (bh_mw h ad c (S)) sz)) 0 0 (va_A (bh_mw h ad c (S)) sz) := by
  refine Met.ofW (cc := cX4_comesVoteAnswer) (maxL := 4) (ret := none) (by decide) rfl ?_
  intro p e s m args below meth c0 s₁ B hml hv
  obtain ⟨rfl, hsz, hP, hK, hD0⟩ := hv
  have hx := B.exec
  have hb := B.bytes
  have hr := B.returns
  have hts := atoms_spec (ws := wsX4_comesVoteAnswer) B.pre
  have hown : s.vm.findClass RX4 = some m.cls := findClass_of_methodNamed B.named
  have hlocks := B.notSynchronized
  have hinX4 : ∀ w ∈ wsX40, w ∈ wsX4_comesVoteAnswer := fun _ h => List.mem_cons_of_mem _ (List.mem_append_right _ h)
  have lk_24 : (Cond.fieldLink RX4 24 "BallotHouseModel" "state" "[I").before _ s = true := hts _ (by decide +kernel)
  have lk_33 : (Cond.fieldLink RX4 33 "BallotHouseModel" "writes" "[I").before _ s = true := hts _ (by decide +kernel)
  have lk_48 : (Cond.fieldLink RX4 48 "BallotHouseModel" "known" "[I").before _ s = true := hts _ (by decide +kernel)
  have lk_54 : (Cond.fieldLink RX4 54 "BallotHouseModel" "answers" "[I").before _ s = true := hts _ (by decide +kernel)
  subst hsz
  have hI := bh_start hP hD0
  generalize hAe : va_A (bh_mw h ad c (S)) s.heap.size = A at hI ⊢
  have hA : ∀ q : Nat, s.heap.size ≤ q → A q := fun q h => by rw [← hAe]; exact Or.inr h
  clear hP hD0 hAe
  have hl := lv_entry ([.ref h, .int (nI b), .int (nI v), .int (nI q)]) (n := 4) (Nat.le_of_ble_eq_true rfl)
  rw [lg_entry_eq]
  generalize (lg_sl ([.ref h, .int (nI b), .int (nI v), .int (nI q)]) ++ List.replicate (4 - (lg_sl ([.ref h, .int (nI b), .int (nI v), .int (nI q)])).length) Slot.unset).toArray = ls at hl ⊢
  have hl : lv_has ls 4 [(0, .ref h), (1, .int (nI b)), (2, .int (nI v)), (3, .int (nI q))] := hl
  refine lv_aload_n hx hb dX4_comesVoteAnswer_0 rfl (lv_at hl 0 rfl) ?_
  refine bn_get (ci := 3) (v := .ref (ad 5)) (C := RX4) (T := TX4) (N := 31) hx hb hts hinX4 hown hK hI 0 rfl rfl 5 (by decide) lk_24 rfl (rfl) dX4_comesVoteAnswer_1 ?_
  refine lv_iload_n hx hb dX4_comesVoteAnswer_4 rfl (lv_at hl 1 rfl) ?_
  refine bn_iald (n := 25) (v := S.2.2.1 5 b) hx hb hK hI 5 0 rfl rfl (by omega) (by decide) (rfl) dX4_comesVoteAnswer_5 ?_
  refine lv_iconst (v := nI 2) hx hb dX4_comesVoteAnswer_6 (by decide) ?_
  refine lv_icmp_ge (tgt := 11) hx hb dX4_comesVoteAnswer_7 (by decide) (fun c_1 => ?_) (fun c_1 => ?_)
  · have q_0 := c_1
    refine lv_aload_n hx hb dX4_comesVoteAnswer_11 rfl (lv_at hl 0 rfl) ?_
    refine bn_get (ci := 3) (v := .ref (ad 15)) (C := RX4) (T := TX4) (N := 31) hx hb hts hinX4 hown hK hI 0 rfl rfl 15 (by decide) lk_54 rfl (rfl) dX4_comesVoteAnswer_12 ?_
    refine lv_bipush (v := nI 8) hx hb dX4_comesVoteAnswer_15 (by decide) ?_
    refine lv_iload_n hx hb dX4_comesVoteAnswer_17 rfl (lv_at hl 1 rfl) ?_
    refine bn_imul hx hb dX4_comesVoteAnswer_18 ?_
    refine lv_iload_n hx hb dX4_comesVoteAnswer_19 rfl (lv_at hl 3 rfl) ?_
    refine bn_iadd hx hb dX4_comesVoteAnswer_20 ?_
    refine lv_dup2_11 hx hb dX4_comesVoteAnswer_21 rfl rfl ?_
    refine bn_iald (n := 200) (v := S.2.2.1 15 ((8 * b) + q)) hx hb hK hI 15 0 rfl rfl (by omega) (by decide) (rfl) dX4_comesVoteAnswer_22 ?_
    refine lv_iconst (v := nI 1) hx hb dX4_comesVoteAnswer_23 (by decide) ?_
    refine lv_iload_n hx hb dX4_comesVoteAnswer_24 rfl (lv_at hl 2 rfl) ?_
    refine lv_ishl hx hb dX4_comesVoteAnswer_25 ?_
    refine lv_ior hx hb dX4_comesVoteAnswer_26 ?_
    refine bn_iast (n := 200) (ws' := bh_mw h ad c (bh_r S 15 ((8 * b) + q) ((S.2.2.1 15 ((8 * b) + q)) ||| ((nI 1) <<< ((nI v) &&& 31))))) hx hb hK hI 15 0 rfl rfl (by omega) (by decide) dX4_comesVoteAnswer_27 rfl (fun H locs hI => ?_)
    refine lv_aload_n hx hb dX4_comesVoteAnswer_28 rfl (lv_at hl 0 rfl) ?_
    refine bn_get (ci := 3) (v := .ref (ad 15)) (C := RX4) (T := TX4) (N := 31) hx hb hts hinX4 hown hK hI 0 rfl rfl 15 (by decide) lk_54 rfl (rfl) dX4_comesVoteAnswer_29 ?_
    refine lv_bipush (v := nI 8) hx hb dX4_comesVoteAnswer_32 (by decide) ?_
    refine lv_iload_n hx hb dX4_comesVoteAnswer_34 rfl (lv_at hl 1 rfl) ?_
    refine bn_imul hx hb dX4_comesVoteAnswer_35 ?_
    refine lv_iload_n hx hb dX4_comesVoteAnswer_36 rfl (lv_at hl 3 rfl) ?_
    refine bn_iadd hx hb dX4_comesVoteAnswer_37 ?_
    refine bn_iald (n := 200) (v := S.2.2.1 15 (8 * b + q) ||| bh_bit v) hx hb hK hI 15 0 rfl rfl (by omega) (by decide) (if_pos rfl) dX4_comesVoteAnswer_38 ?_
    refine vp_callSi (bn_roS (As := [.int (S.2.2.1 15 (8 * b + q) ||| bh_bit v)]) (rest := []) ⟨hx, hb, hml, hown, hts⟩ (cm_many l (S.2.2.1 15 (8 * b + q) ||| bh_bit v)) (va_cwS 1 hts gX4_comesVoteAnswer_X4_many rfl rfl rfl (by decide +kernel) ⟨Nat.le_of_ble_eq_true rfl, Nat.le_of_ble_eq_true rfl⟩) rfl hl.1 (Nat.le_of_ble_eq_true rfl) dX4_comesVoteAnswer_39 ⟨Nat.le_of_ble_eq_true rfl, Nat.le_of_ble_eq_true rfl⟩) (fun r_2 er_2 => ?_)
    subst er_2
    refine lv_aload_n hx hb dX4_comesVoteAnswer_42 rfl (lv_at hl 0 rfl) ?_
    refine bn_get (ci := 3) (v := .ref (ad 8)) (C := RX4) (T := TX4) (N := 31) hx hb hts hinX4 hown hK hI 0 rfl rfl 8 (by decide) lk_33 rfl (rfl) dX4_comesVoteAnswer_43 ?_
    refine lv_iload_n hx hb dX4_comesVoteAnswer_46 rfl (lv_at hl 1 rfl) ?_
    refine bn_iald (n := 25) (v := S.2.2.1 8 b) hx hb hK hI 8 0 rfl rfl (by omega) (by decide) (rfl) dX4_comesVoteAnswer_47 ?_
    refine lv_icmp_lt (tgt := 63) hx hb dX4_comesVoteAnswer_48 (by decide) (fun c_3 => ?_) (fun c_3 => ?_)
    · have q_3 : bh_va2 S b v q = bh_va1 S b v q := if_pos c_3
      have hI : bh_I D (bh_mw h ad c (bh_va2 S b v q)) A s.heap H locs := by rw [q_3]; exact hI
      have h5 : (bh_va2 S b v q).2.2.1 5 = S.2.2.1 5 := by rw [q_3]; rfl
      have h1 : (bh_va2 S b v q).1 = S.1 := by rw [q_3]; rfl
      refine lv_aload_n hx hb dX4_comesVoteAnswer_63 rfl (lv_at hl 0 rfl) ?_
      refine bn_get (ci := 3) (v := .ref (ad 5)) (C := RX4) (T := TX4) (N := 31) hx hb hts hinX4 hown hK hI 0 rfl rfl 5 (by decide) lk_24 rfl (rfl) dX4_comesVoteAnswer_64 ?_
      refine lv_iload_n hx hb dX4_comesVoteAnswer_67 rfl (lv_at hl 1 rfl) ?_
      refine bn_iald (n := 25) (v := S.2.2.1 5 b) hx hb hK hI 5 0 rfl rfl (by omega) (by decide) (by rw [h5]) dX4_comesVoteAnswer_68 ?_
      refine lv_iconst (v := nI 2) hx hb dX4_comesVoteAnswer_69 (by decide) ?_
      refine lv_icmp_ne (tgt := 86) hx hb dX4_comesVoteAnswer_70 (by decide) (fun c_4 => ?_) (fun c_4 => ?_)
      · exact bn_retv hx hb hr hlocks hK (bh_va2 S b v q) hI (by unfold bh_cva; rw [if_pos q_0, if_neg (fun z => c_4 z.1)]) dX4_comesVoteAnswer_86
      · have q_4 := c_4
        refine lv_aload_n hx hb dX4_comesVoteAnswer_73 rfl (lv_at hl 0 rfl) ?_
        refine lv_iload_n hx hb dX4_comesVoteAnswer_74 rfl (lv_at hl 1 rfl) ?_
        refine vp_callSi (bn_roV (As := [.int (nI b)]) (rest := []) ⟨hx, hb, hml, hown, hts⟩ (cm_isMoved l D c h ad (bh_va2 S b v q) b h24) (cwV 1 hts gX4_comesVoteAnswer_X4_isMoved rfl rfl rfl (by decide +kernel) ⟨Nat.le_of_ble_eq_true rfl, Nat.le_of_ble_eq_true rfl⟩) hK hI 0 3 rfl rfl rfl rfl hl.1 (Nat.le_of_ble_eq_true rfl) dX4_comesVoteAnswer_75 ⟨Nat.le_of_ble_eq_true rfl, Nat.le_of_ble_eq_true rfl⟩) (fun r_5 er_5 => ?_)
        subst er_5
        refine lv_if_eq (tgt := 86) hx hb dX4_comesVoteAnswer_78 (by decide) (fun c_6 => ?_) (fun c_6 => ?_)
        · have q_2 : ¬ bh_mvd (bh_va2 S b v q) b = true := by rw [bh_tf_eq c_6]; decide
          exact bn_retv hx hb hr hlocks hK (bh_va2 S b v q) hI (by unfold bh_cva; rw [if_pos q_0, if_neg (fun z => q_2 z.2)]) dX4_comesVoteAnswer_86
        · have q_2 := bh_tf_ne c_6
          refine lv_aload_n hx hb dX4_comesVoteAnswer_81 rfl (lv_at hl 0 rfl) ?_
          refine lv_iload_n hx hb dX4_comesVoteAnswer_82 rfl (lv_at hl 1 rfl) ?_
          refine bn_muv (bn_muV (As := [.int (nI b)]) (rest := []) ⟨hx, hb, hml, hown, hts⟩ (cm_beginAsking l D c h ad _ (bh_va2 S b v q) b h24 (by rw [h1]; exact ha)) (cwV 1 hts gX4_comesVoteAnswer_X4_beginAsking rfl rfl rfl (by decide +kernel) ⟨Nat.le_of_ble_eq_true rfl, Nat.le_of_ble_eq_true rfl⟩) hK hI 0 3 rfl rfl rfl rfl hl.1 (Nat.le_of_ble_eq_true rfl) dX4_comesVoteAnswer_83 ⟨Nat.le_of_ble_eq_true rfl, Nat.le_of_ble_eq_true rfl⟩) hI hA (fun u_7 H locs eu_7 hI => ?_)
          subst eu_7
          exact bn_retv hx hb hr hlocks hK (bh_bask (bh_va2 S b v q) b) hI (by unfold bh_cva; rw [if_pos q_0, if_pos ⟨q_4, q_2⟩]) dX4_comesVoteAnswer_86
    · have q_3 : bh_va2 S b v q = bh_r (bh_va1 S b v q) 13 b (S.2.2.1 13 b ||| bh_bit q) := if_neg c_3
      refine lv_aload_n hx hb dX4_comesVoteAnswer_51 rfl (lv_at hl 0 rfl) ?_
      refine bn_get (ci := 3) (v := .ref (ad 13)) (C := RX4) (T := TX4) (N := 31) hx hb hts hinX4 hown hK hI 0 rfl rfl 13 (by decide) lk_48 rfl (rfl) dX4_comesVoteAnswer_52 ?_
      refine lv_iload_n hx hb dX4_comesVoteAnswer_55 rfl (lv_at hl 1 rfl) ?_
      refine lv_dup2_11 hx hb dX4_comesVoteAnswer_56 rfl rfl ?_
      refine bn_iald (n := 25) (v := S.2.2.1 13 b) hx hb hK hI 13 0 rfl rfl (by omega) (by decide) (rfl) dX4_comesVoteAnswer_57 ?_
      refine lv_iconst (v := nI 1) hx hb dX4_comesVoteAnswer_58 (by decide) ?_
      refine lv_iload_n hx hb dX4_comesVoteAnswer_59 rfl (lv_at hl 3 rfl) ?_
      refine lv_ishl hx hb dX4_comesVoteAnswer_60 ?_
      refine lv_ior hx hb dX4_comesVoteAnswer_61 ?_
      refine bn_iast (n := 25) (ws' := bh_mw h ad c (bh_r (bh_r S 15 ((8 * b) + q) ((S.2.2.1 15 ((8 * b) + q)) ||| ((nI 1) <<< ((nI v) &&& 31)))) 13 b ((S.2.2.1 13 b) ||| ((nI 1) <<< ((nI q) &&& 31))))) hx hb hK hI 13 0 rfl rfl (by omega) (by decide) dX4_comesVoteAnswer_62 rfl (fun H locs hI => ?_)
      have hI : bh_I D (bh_mw h ad c (bh_va2 S b v q)) A s.heap H locs := by rw [q_3]; exact hI
      have h5 : (bh_va2 S b v q).2.2.1 5 = S.2.2.1 5 := by rw [q_3]; rfl
      have h1 : (bh_va2 S b v q).1 = S.1 := by rw [q_3]; rfl
      refine lv_aload_n hx hb dX4_comesVoteAnswer_63 rfl (lv_at hl 0 rfl) ?_
      refine bn_get (ci := 3) (v := .ref (ad 5)) (C := RX4) (T := TX4) (N := 31) hx hb hts hinX4 hown hK hI 0 rfl rfl 5 (by decide) lk_24 rfl (rfl) dX4_comesVoteAnswer_64 ?_
      refine lv_iload_n hx hb dX4_comesVoteAnswer_67 rfl (lv_at hl 1 rfl) ?_
      refine bn_iald (n := 25) (v := S.2.2.1 5 b) hx hb hK hI 5 0 rfl rfl (by omega) (by decide) (by rw [h5]) dX4_comesVoteAnswer_68 ?_
      refine lv_iconst (v := nI 2) hx hb dX4_comesVoteAnswer_69 (by decide) ?_
      refine lv_icmp_ne (tgt := 86) hx hb dX4_comesVoteAnswer_70 (by decide) (fun c_8 => ?_) (fun c_8 => ?_)
      · exact bn_retv hx hb hr hlocks hK (bh_va2 S b v q) hI (by unfold bh_cva; rw [if_pos q_0, if_neg (fun z => c_8 z.1)]) dX4_comesVoteAnswer_86
      · have q_4 := c_8
        refine lv_aload_n hx hb dX4_comesVoteAnswer_73 rfl (lv_at hl 0 rfl) ?_
        refine lv_iload_n hx hb dX4_comesVoteAnswer_74 rfl (lv_at hl 1 rfl) ?_
        refine vp_callSi (bn_roV (As := [.int (nI b)]) (rest := []) ⟨hx, hb, hml, hown, hts⟩ (cm_isMoved l D c h ad (bh_va2 S b v q) b h24) (cwV 1 hts gX4_comesVoteAnswer_X4_isMoved rfl rfl rfl (by decide +kernel) ⟨Nat.le_of_ble_eq_true rfl, Nat.le_of_ble_eq_true rfl⟩) hK hI 0 3 rfl rfl rfl rfl hl.1 (Nat.le_of_ble_eq_true rfl) dX4_comesVoteAnswer_75 ⟨Nat.le_of_ble_eq_true rfl, Nat.le_of_ble_eq_true rfl⟩) (fun r_9 er_9 => ?_)
        subst er_9
        refine lv_if_eq (tgt := 86) hx hb dX4_comesVoteAnswer_78 (by decide) (fun c_10 => ?_) (fun c_10 => ?_)
        · have q_2 : ¬ bh_mvd (bh_va2 S b v q) b = true := by rw [bh_tf_eq c_10]; decide
          exact bn_retv hx hb hr hlocks hK (bh_va2 S b v q) hI (by unfold bh_cva; rw [if_pos q_0, if_neg (fun z => q_2 z.2)]) dX4_comesVoteAnswer_86
        · have q_2 := bh_tf_ne c_10
          refine lv_aload_n hx hb dX4_comesVoteAnswer_81 rfl (lv_at hl 0 rfl) ?_
          refine lv_iload_n hx hb dX4_comesVoteAnswer_82 rfl (lv_at hl 1 rfl) ?_
          refine bn_muv (bn_muV (As := [.int (nI b)]) (rest := []) ⟨hx, hb, hml, hown, hts⟩ (cm_beginAsking l D c h ad _ (bh_va2 S b v q) b h24 (by rw [h1]; exact ha)) (cwV 1 hts gX4_comesVoteAnswer_X4_beginAsking rfl rfl rfl (by decide +kernel) ⟨Nat.le_of_ble_eq_true rfl, Nat.le_of_ble_eq_true rfl⟩) hK hI 0 3 rfl rfl rfl rfl hl.1 (Nat.le_of_ble_eq_true rfl) dX4_comesVoteAnswer_83 ⟨Nat.le_of_ble_eq_true rfl, Nat.le_of_ble_eq_true rfl⟩) hI hA (fun u_11 H locs eu_11 hI => ?_)
          subst eu_11
          exact bn_retv hx hb hr hlocks hK (bh_bask (bh_va2 S b v q) b) hI (by unfold bh_cva; rw [if_pos q_0, if_pos ⟨q_4, q_2⟩]) dX4_comesVoteAnswer_86
  · exact bn_retv hx hb hr hlocks hK (S) hI (by unfold bh_cva; rw [if_neg c_1]) dX4_comesVoteAnswer_10
set_option maxHeartbeats 4000000 in
set_option maxRecDepth 100000 in
theorem cm_canBe (l : Launch) (D : va_G) (c : bh_C) (h : Nat) (ad : Nat → Nat) (S : mS) (k : Nat) (hk : k < 400) (hv : S.2.2.1 21 k = nI 2 ∨ S.2.2.1 21 k = nI 4 → ∃ v, v < 7 ∧ S.2.2.1 23 k = nI v) : Met l yX4_canBe wsX4_canBe ({ frames := 0, cells := 0, slots := 0, locals := 0 }) (va_Pc [.ref h, .int (nI k)] (bh_pre D c (bh_mw h ad c (S)))) (vp_Si (fun r => r = bh_tf (bh_cb S k))) 0 0 (fun _ => False) := by
  refine Met.ofW (cc := cX4_canBe) (maxL := 2) (ret := (some .boolean)) (by decide) rfl ?_
  intro p e s m args below meth c0 s₁ B hml hv
  obtain ⟨rfl, hP, hK, hD0⟩ := hv
  have hx := B.exec
  have hb := B.bytes
  have hr := B.returns
  have hts := atoms_spec (ws := wsX4_canBe) B.pre
  have hown : s.vm.findClass RX4 = some m.cls := findClass_of_methodNamed B.named
  have hlocks := B.notSynchronized
  have hinX4 : ∀ w ∈ wsX40, w ∈ wsX4_canBe := fun _ h => List.mem_cons_of_mem _ (List.mem_append_right _ h)
  have lk_20 : (Cond.fieldLink RX4 20 "BallotHouseModel" "silent" "[Z").before _ s = true := hts _ (by decide +kernel)
  have lk_63 : (Cond.fieldLink RX4 63 "BallotHouseModel" "airKind" "[I").before _ s = true := hts _ (by decide +kernel)
  have lk_69 : (Cond.fieldLink RX4 69 "BallotHouseModel" "airVoter" "[I").before _ s = true := hts _ (by decide +kernel)
  have hI : bh_I D (bh_mw h ad c (S)) (fun _ => True) s.heap s.heap [] := ⟨hP, hD0, va_S.rf⟩
  have hl := lv_entry ([.ref h, .int (nI k)]) (n := 2) (Nat.le_of_ble_eq_true rfl)
  rw [lg_entry_eq]
  generalize (lg_sl ([.ref h, .int (nI k)]) ++ List.replicate (2 - (lg_sl ([.ref h, .int (nI k)])).length) Slot.unset).toArray = ls at hl ⊢
  have hl : lv_has ls 2 [(0, .ref h), (1, .int (nI k))] := hl
  refine lv_aload_n hx hb dX4_canBe_0 rfl (lv_at hl 0 rfl) ?_
  refine bn_get (ci := 3) (v := .ref (ad 21)) (C := RX4) (T := TX4) (N := 31) hx hb hts hinX4 hown hK hI 0 rfl rfl 21 (by decide) lk_63 rfl (rfl) dX4_canBe_1 ?_
  refine lv_iload_n hx hb dX4_canBe_4 rfl (lv_at hl 1 rfl) ?_
  refine bn_iald (n := 400) (v := S.2.2.1 21 k) hx hb hK hI 18 0 rfl rfl (by omega) (by decide) (rfl) dX4_canBe_5 ?_
  refine lv_iconst (v := nI 2) hx hb dX4_canBe_6 (by decide) ?_
  refine lv_icmp_eq (tgt := 20) hx hb dX4_canBe_7 (by decide) (fun c_1 => ?_) (fun c_1 => ?_)
  · obtain ⟨v, hv7, ev⟩ := hv (Or.inl c_1)
    have q_1 := Or.inl (b := S.2.2.1 21 k = nI 4) c_1
    refine lv_aload_n hx hb dX4_canBe_20 rfl (lv_at hl 0 rfl) ?_
    refine bn_get (ci := 3) (v := .ref (ad 4)) (C := RX4) (T := TX4) (N := 31) hx hb hts hinX4 hown hK hI 0 rfl rfl 4 (by decide) lk_20 rfl (rfl) dX4_canBe_21 ?_
    refine lv_aload_n hx hb dX4_canBe_24 rfl (lv_at hl 0 rfl) ?_
    refine bn_get (ci := 3) (v := .ref (ad 23)) (C := RX4) (T := TX4) (N := 31) hx hb hts hinX4 hown hK hI 0 rfl rfl 23 (by decide) lk_69 rfl (rfl) dX4_canBe_25 ?_
    refine lv_iload_n hx hb dX4_canBe_28 rfl (lv_at hl 1 rfl) ?_
    refine bn_iald (n := 400) (v := nI v) hx hb hK hI 20 0 rfl rfl (by omega) (by decide) (ev) dX4_canBe_29 ?_
    refine bn_zald (n := 7) (v := S.2.2.1 4 v) hx hb hK hI 4 2 rfl rfl (by omega) (by decide) (rfl) dX4_canBe_30 ?_
    refine lv_if_ne (tgt := 38) hx hb dX4_canBe_31 (by decide) (fun c_2 => ?_) (fun c_2 => ?_)
    · refine lv_iconst (v := nI 0) hx hb dX4_canBe_38 (by decide) ?_
      exact bn_rotz hx hb hr hlocks (by unfold bh_cb; rw [ev, nI_clamp (by omega), decide_eq_true q_1, decide_eq_false c_2]; rfl) (by decide) dX4_canBe_39
    · refine lv_iconst (v := nI 1) hx hb dX4_canBe_34 (by decide) ?_
      refine lv_goto (tgt := 39) hx hb dX4_canBe_35 (by decide) ?_
      exact bn_rotz hx hb hr hlocks (by unfold bh_cb; rw [ev, nI_clamp (by omega), decide_eq_true q_1, decide_eq_true c_2]; rfl) (by decide) dX4_canBe_39
  · refine lv_aload_n hx hb dX4_canBe_10 rfl (lv_at hl 0 rfl) ?_
    refine bn_get (ci := 3) (v := .ref (ad 21)) (C := RX4) (T := TX4) (N := 31) hx hb hts hinX4 hown hK hI 0 rfl rfl 21 (by decide) lk_63 rfl (rfl) dX4_canBe_11 ?_
    refine lv_iload_n hx hb dX4_canBe_14 rfl (lv_at hl 1 rfl) ?_
    refine bn_iald (n := 400) (v := S.2.2.1 21 k) hx hb hK hI 18 0 rfl rfl (by omega) (by decide) (rfl) dX4_canBe_15 ?_
    refine lv_iconst (v := nI 4) hx hb dX4_canBe_16 (by decide) ?_
    refine lv_icmp_ne (tgt := 34) hx hb dX4_canBe_17 (by decide) (fun c_3 => ?_) (fun c_3 => ?_)
    · refine lv_iconst (v := nI 1) hx hb dX4_canBe_34 (by decide) ?_
      refine lv_goto (tgt := 39) hx hb dX4_canBe_35 (by decide) ?_
      exact bn_rotz hx hb hr hlocks (by unfold bh_cb; rw [decide_eq_false (fun z => z.elim c_1 c_3)]; rfl) (by decide) dX4_canBe_39
    · obtain ⟨v, hv7, ev⟩ := hv (Or.inr c_3)
      have q_1 := Or.inr (a := S.2.2.1 21 k = nI 2) c_3
      refine lv_aload_n hx hb dX4_canBe_20 rfl (lv_at hl 0 rfl) ?_
      refine bn_get (ci := 3) (v := .ref (ad 4)) (C := RX4) (T := TX4) (N := 31) hx hb hts hinX4 hown hK hI 0 rfl rfl 4 (by decide) lk_20 rfl (rfl) dX4_canBe_21 ?_
      refine lv_aload_n hx hb dX4_canBe_24 rfl (lv_at hl 0 rfl) ?_
      refine bn_get (ci := 3) (v := .ref (ad 23)) (C := RX4) (T := TX4) (N := 31) hx hb hts hinX4 hown hK hI 0 rfl rfl 23 (by decide) lk_69 rfl (rfl) dX4_canBe_25 ?_
      refine lv_iload_n hx hb dX4_canBe_28 rfl (lv_at hl 1 rfl) ?_
      refine bn_iald (n := 400) (v := nI v) hx hb hK hI 20 0 rfl rfl (by omega) (by decide) (ev) dX4_canBe_29 ?_
      refine bn_zald (n := 7) (v := S.2.2.1 4 v) hx hb hK hI 4 2 rfl rfl (by omega) (by decide) (rfl) dX4_canBe_30 ?_
      refine lv_if_ne (tgt := 38) hx hb dX4_canBe_31 (by decide) (fun c_4 => ?_) (fun c_4 => ?_)
      · refine lv_iconst (v := nI 0) hx hb dX4_canBe_38 (by decide) ?_
        exact bn_rotz hx hb hr hlocks (by unfold bh_cb; rw [ev, nI_clamp (by omega), decide_eq_true q_1, decide_eq_false c_4]; rfl) (by decide) dX4_canBe_39
      · refine lv_iconst (v := nI 1) hx hb dX4_canBe_34 (by decide) ?_
        refine lv_goto (tgt := 39) hx hb dX4_canBe_35 (by decide) ?_
        exact bn_rotz hx hb hr hlocks (by unfold bh_cb; rw [ev, nI_clamp (by omega), decide_eq_true q_1, decide_eq_true c_4]; rfl) (by decide) dX4_canBe_39
set_option maxHeartbeats 4000000 in
set_option maxRecDepth 100000 in
theorem cm_deliver (l : Launch) (D : va_G) (c : bh_C) (h : Nat) (ad : Nat → Nat) (sz : Nat) (S : mS) (k w b v q g : Nat) (ha : S.1 28 ≤ 400) (hn : S.1 0 ≤ 7) (hk : k < S.1 28) (hL : bh_let S k w b v q g) (hcb : bh_cb S k = true) : Met l yX4_deliver wsX4_deliver ({ frames := 4, cells := 0, slots := 0, locals := 96 }) (va_Pc [.ref h, .int (nI k)] (bh_prm D c (bh_mw h ad c (S)) sz)) (va_Qi (fun (r : Int32) (u : mS) => r = nI 1 ∧ u = bh_do (bh_off S k) w b v q g (S.2.2.2 26 k)) (fun u t => bh_post D c (bh_mw h ad c u) (va_A (bh_mw h ad c (S)) sz) t) (va_A (bh_mw h ad c (S)) sz)) 0 0 (va_A (bh_mw h ad c (S)) sz) := by
  refine Met.ofW (cc := cX4_deliver) (maxL := 9) (ret := (some .boolean)) (by decide) rfl ?_
  intro p e s m args below meth c0 s₁ B hml hv
  obtain ⟨rfl, hsz, hP, hK, hD0⟩ := hv
  have hx := B.exec
  have hb := B.bytes
  have hr := B.returns
  have hts := atoms_spec (ws := wsX4_deliver) B.pre
  have hown : s.vm.findClass RX4 = some m.cls := findClass_of_methodNamed B.named
  have hlocks := B.notSynchronized
  have hinX4 : ∀ w ∈ wsX40, w ∈ wsX4_deliver := fun _ h => List.mem_cons_of_mem _ (List.mem_append_right _ h)
  have lk_24 : (Cond.fieldLink RX4 24 "BallotHouseModel" "state" "[I").before _ s = true := hts _ (by decide +kernel)
  have lk_36 : (Cond.fieldLink RX4 36 "BallotHouseModel" "behind" "[I").before _ s = true := hts _ (by decide +kernel)
  have lk_63 : (Cond.fieldLink RX4 63 "BallotHouseModel" "airKind" "[I").before _ s = true := hts _ (by decide +kernel)
  have lk_66 : (Cond.fieldLink RX4 66 "BallotHouseModel" "airBallot" "[I").before _ s = true := hts _ (by decide +kernel)
  have lk_69 : (Cond.fieldLink RX4 69 "BallotHouseModel" "airVoter" "[I").before _ s = true := hts _ (by decide +kernel)
  have lk_72 : (Cond.fieldLink RX4 72 "BallotHouseModel" "airPlace" "[I").before _ s = true := hts _ (by decide +kernel)
  have lk_75 : (Cond.fieldLink RX4 75 "BallotHouseModel" "airVote" "[I").before _ s = true := hts _ (by decide +kernel)
  have lk_78 : (Cond.fieldLink RX4 78 "BallotHouseModel" "airValue" "[J").before _ s = true := hts _ (by decide +kernel)
  have lk_81 : (Cond.fieldLink RX4 81 "BallotHouseModel" "airValues" "[J").before _ s = true := hts _ (by decide +kernel)
  have lk_84 : (Cond.fieldLink RX4 84 "BallotHouseModel" "gotVote" "[I").before _ s = true := hts _ (by decide +kernel)
  have lk_87 : (Cond.fieldLink RX4 87 "BallotHouseModel" "gotValue" "[J").before _ s = true := hts _ (by decide +kernel)
  have lk_97 : (Cond.fieldLink RX4 97 "BallotHouseModel" "air" "I").before _ s = true := hts _ (by decide +kernel)
  have lk_111 : (Cond.fieldLink RX4 111 "BallotHouseModel" "complete" "I").before _ s = true := hts _ (by decide +kernel)
  subst hsz
  have hI := bh_start hP hD0
  generalize hAe : va_A (bh_mw h ad c (S)) s.heap.size = A at hI ⊢
  have hA : ∀ q : Nat, s.heap.size ≤ q → A q := fun q h => by rw [← hAe]; exact Or.inr h
  clear hP hD0 hAe
  have hl := lv_entry ([.ref h, .int (nI k)]) (n := 9) (Nat.le_of_ble_eq_true rfl)
  rw [lg_entry_eq]
  generalize (lg_sl ([.ref h, .int (nI k)]) ++ List.replicate (9 - (lg_sl ([.ref h, .int (nI k)])).length) Slot.unset).toArray = ls at hl ⊢
  have hl : lv_has ls 9 [(0, .ref h), (1, .int (nI k))] := hl
  obtain ⟨hL21, hL22, hL9, hLw, h24, hg24, hL23, hL24⟩ := hL
  have hcv : S.2.2.1 21 k = nI 2 ∨ S.2.2.1 21 k = nI 4 → ∃ v, v < 7 ∧ S.2.2.1 23 k = nI v := fun z => ⟨v, (hL23 (z.elim (fun z => by have := (nI_eq (by omega) (by omega)).mp (hL21.symm.trans z); omega) (fun z => by have := (nI_eq (by omega) (by omega)).mp (hL21.symm.trans z); omega))).2, (hL23 (z.elim (fun z => by have := (nI_eq (by omega) (by omega)).mp (hL21.symm.trans z); omega) (fun z => by have := (nI_eq (by omega) (by omega)).mp (hL21.symm.trans z); omega))).1⟩
  have hoa : (bh_off S k).1 28 ≤ 400 := by rw [bh_off_28]; omega
  have hon : (bh_off S k).1 0 ≤ 7 := by rw [bh_off_0]; exact hn
  have ho9 : (bh_off S k).2.2.1 9 b = nI g := by rw [bh_off_r S k (by omega)]; exact hL9
  refine lv_iload_n hx hb dX4_deliver_0 rfl (lv_at hl 1 rfl) ?_
  refine lv_if_lt (tgt := 20) hx hb dX4_deliver_1 (by decide) (fun c_1 => ?_) (fun c_1 => ?_)
  · exact absurd c_1 (nI_pos (by omega))
  · refine lv_iload_n hx hb dX4_deliver_4 rfl (lv_at hl 1 rfl) ?_
    refine lv_aload_n hx hb dX4_deliver_5 rfl (lv_at hl 0 rfl) ?_
    refine bn_get (ci := 3) (v := .int (nI (S.1 28))) (C := RX4) (T := TX4) (N := 31) hx hb hts hinX4 hown hK hI 0 rfl rfl 28 (by decide) lk_97 rfl (rfl) dX4_deliver_6 ?_
    refine bn_cmp_ge (tgt := 20) hx hb (by omega) (by omega) dX4_deliver_9 (by decide) (fun c_2 => ?_) (fun c_2 => ?_)
    · exact absurd c_2 (by omega)
    · refine lv_aload_n hx hb dX4_deliver_12 rfl (lv_at hl 0 rfl) ?_
      refine lv_iload_n hx hb dX4_deliver_13 rfl (lv_at hl 1 rfl) ?_
      refine vp_callSi (bn_roV (As := [.int (nI k)]) (rest := []) ⟨hx, hb, hml, hown, hts⟩ (cm_canBe l D c h ad S k (by omega) hcv) (cwV 1 hts gX4_deliver_X4_canBe rfl rfl rfl (by decide +kernel) ⟨Nat.le_of_ble_eq_true rfl, Nat.le_of_ble_eq_true rfl⟩) hK hI 0 3 rfl rfl rfl rfl hl.1 (Nat.le_of_ble_eq_true rfl) dX4_deliver_14 ⟨Nat.le_of_ble_eq_true rfl, Nat.le_of_ble_eq_true rfl⟩) (fun r_3 er_3 => ?_)
      rw [hcb] at er_3
      subst er_3
      refine lv_if_ne (tgt := 22) hx hb dX4_deliver_17 (by decide) (fun c_4 => ?_) (fun c_4 => ?_)
      · refine lv_aload_n hx hb dX4_deliver_22 rfl (lv_at hl 0 rfl) ?_
        refine bn_get (ci := 3) (v := .ref (ad 21)) (C := RX4) (T := TX4) (N := 31) hx hb hts hinX4 hown hK hI 0 rfl rfl 21 (by decide) lk_63 rfl (rfl) dX4_deliver_23 ?_
        refine lv_iload_n hx hb dX4_deliver_26 rfl (lv_at hl 1 rfl) ?_
        refine bn_iald (n := 400) (v := nI w) hx hb hK hI 18 0 rfl rfl (by omega) (by decide) (hL21) dX4_deliver_27 ?_
        refine lv_istore_n (lv' := [(2, .int (nI w)), (0, .ref h), (1, .int (nI k))]) hx hb dX4_deliver_28 rfl hl (by decide) rfl (fun ls hl => ?_)
        refine lv_aload_n hx hb dX4_deliver_29 rfl (lv_at hl 1 rfl) ?_
        refine bn_get (ci := 3) (v := .ref (ad 22)) (C := RX4) (T := TX4) (N := 31) hx hb hts hinX4 hown hK hI 0 rfl rfl 22 (by decide) lk_66 rfl (rfl) dX4_deliver_30 ?_
        refine lv_iload_n hx hb dX4_deliver_33 rfl (lv_at hl 2 rfl) ?_
        refine bn_iald (n := 400) (v := nI b) hx hb hK hI 19 0 rfl rfl (by omega) (by decide) (hL22) dX4_deliver_34 ?_
        refine lv_istore_n (lv' := [(3, .int (nI b)), (2, .int (nI w)), (0, .ref h), (1, .int (nI k))]) hx hb dX4_deliver_35 rfl hl (by decide) rfl (fun ls hl => ?_)
        refine lv_aload_n hx hb dX4_deliver_36 rfl (lv_at hl 2 rfl) ?_
        refine bn_get (ci := 3) (v := .ref (ad 23)) (C := RX4) (T := TX4) (N := 31) hx hb hts hinX4 hown hK hI 0 rfl rfl 23 (by decide) lk_69 rfl (rfl) dX4_deliver_37 ?_
        refine lv_iload_n hx hb dX4_deliver_40 rfl (lv_at hl 3 rfl) ?_
        refine bn_iald (n := 400) (v := S.2.2.1 23 k) hx hb hK hI 20 0 rfl rfl (by omega) (by decide) (rfl) dX4_deliver_41 ?_
        refine lv_istore (lv' := [(4, .int (S.2.2.1 23 k)), (3, .int (nI b)), (2, .int (nI w)), (0, .ref h), (1, .int (nI k))]) hx hb dX4_deliver_42 hl (by decide) rfl (fun ls hl => ?_)
        refine lv_aload_n hx hb dX4_deliver_44 rfl (lv_at hl 3 rfl) ?_
        refine bn_get (ci := 3) (v := .ref (ad 24)) (C := RX4) (T := TX4) (N := 31) hx hb hts hinX4 hown hK hI 0 rfl rfl 24 (by decide) lk_72 rfl (rfl) dX4_deliver_45 ?_
        refine lv_iload_n hx hb dX4_deliver_48 rfl (lv_at hl 4 rfl) ?_
        refine bn_iald (n := 400) (v := S.2.2.1 24 k) hx hb hK hI 21 0 rfl rfl (by omega) (by decide) (rfl) dX4_deliver_49 ?_
        refine lv_istore (lv' := [(5, .int (S.2.2.1 24 k)), (4, .int (S.2.2.1 23 k)), (3, .int (nI b)), (2, .int (nI w)), (0, .ref h), (1, .int (nI k))]) hx hb dX4_deliver_50 hl (by decide) rfl (fun ls hl => ?_)
        refine lv_aload_n hx hb dX4_deliver_52 rfl (lv_at hl 4 rfl) ?_
        refine bn_get (ci := 3) (v := .ref (ad 26)) (C := RX4) (T := TX4) (N := 31) hx hb hts hinX4 hown hK hI 0 rfl rfl 26 (by decide) lk_78 rfl (rfl) dX4_deliver_53 ?_
        refine lv_iload_n hx hb dX4_deliver_56 rfl (lv_at hl 5 rfl) ?_
        refine bn_lald (n := 400) (v := S.2.2.2 26 k) hx hb hK hI 23 1 rfl rfl (by omega) (by decide) (rfl) dX4_deliver_57 ?_
        refine lv_lstore (lv' := [(6, .long (S.2.2.2 26 k)), (5, .int (S.2.2.1 24 k)), (4, .int (S.2.2.1 23 k)), (3, .int (nI b)), (2, .int (nI w)), (0, .ref h), (1, .int (nI k))]) hx hb dX4_deliver_58 hl (by decide) rfl (fun ls hl => ?_)
        refine lv_iconst (v := nI 0) hx hb dX4_deliver_60 (by decide) ?_
        refine lv_istore (lv' := [(8, .int (nI 0)), (6, .long (S.2.2.2 26 k)), (5, .int (S.2.2.1 24 k)), (4, .int (S.2.2.1 23 k)), (3, .int (nI b)), (2, .int (nI w)), (0, .ref h), (1, .int (nI k))]) hx hb dX4_deliver_61 hl (by decide) rfl (fun ls hl => ?_)
        refine bh_loop (σ := Nat) (fun (j : Nat) H locs ls => j ≤ 8 ∧ bh_I D (bh_mw h ad c (bh_got S k j)) A s.heap H locs ∧ lv_has ls 9 [(8, .int (nI j)), (6, .long (S.2.2.2 26 k)), (5, .int (S.2.2.1 24 k)), (4, .int (S.2.2.1 23 k)), (3, .int (nI b)), (2, .int (nI w)), (0, .ref h), (1, .int (nI k))]) (fun (j : Nat) => 8 - j) (fun j H locs ls hx_5 ih_5 => ?_) 0 _ _ _ ⟨Nat.zero_le 8, hI, lv_sub hl [0, 1, 2, 3, 4, 5, 6, 7] rfl⟩
        clear hl hI
        obtain ⟨hj, hI, hl⟩ := hx_5
        refine lv_iload hx hb dX4_deliver_63 (lv_at hl 0 rfl) ?_
        refine lv_bipush (v := nI 8) hx hb dX4_deliver_65 (by decide) ?_
        refine bn_cmp_ge (tgt := 114) hx hb (by omega) (by omega) dX4_deliver_67 (by decide) (fun c_6 => ?_) (fun c_6 => ?_)
        · obtain rfl : j = 8 := by omega
          refine lv_aload_n hx hb dX4_deliver_114 rfl (lv_at hl 6 rfl) ?_
          refine lv_iload_n hx hb dX4_deliver_115 rfl (lv_at hl 7 rfl) ?_
          refine bn_muv (bn_muV (As := [.int (nI k)]) (rest := []) ⟨hx, hb, hml, hown, hts⟩ (cm_take l D c h ad _ (bh_got S k 8) k (by rw [bh_got_n]; exact ha) (by rw [bh_got_n]; exact hk)) (cwV 1 hts gX4_deliver_X4_take rfl rfl rfl (by decide +kernel) ⟨Nat.le_of_ble_eq_true rfl, Nat.le_of_ble_eq_true rfl⟩) hK hI 0 3 rfl rfl rfl rfl hl.1 (Nat.le_of_ble_eq_true rfl) dX4_deliver_116 ⟨Nat.le_of_ble_eq_true rfl, Nat.le_of_ble_eq_true rfl⟩) hI hA (fun u_7 H locs eu_7 hI => ?_)
          subst eu_7
          refine lv_iload_n hx hb dX4_deliver_119 rfl (lv_at hl 5 rfl) ?_
          rcases (show w = 1 ∨ w = 2 ∨ w = 3 ∨ w = 4 ∨ w = 5 ∨ w = 6 ∨ w = 7 by omega) with hw | hw | hw | hw | hw | hw | hw
          · subst hw
            refine lv_tableIn (tgt := 160) hx hb dX4_deliver_120 (by decide) (by decide) rfl (by decide) ?_
            refine lv_aload_n hx hb dX4_deliver_160 rfl (lv_at hl 6 rfl) ?_
            refine bn_get (ci := 3) (v := .ref (ad 5)) (C := RX4) (T := TX4) (N := 31) hx hb hts hinX4 hown hK hI 0 rfl rfl 5 (by decide) lk_24 rfl (rfl) dX4_deliver_161 ?_
            refine lv_iload_n hx hb dX4_deliver_164 rfl (lv_at hl 4 rfl) ?_
            refine bn_iald (n := 25) (v := (bh_off S k).2.2.1 5 b) hx hb hK hI 5 0 rfl rfl (by omega) (by decide) (rfl) dX4_deliver_165 ?_
            refine lv_if_ne (tgt := 279) hx hb dX4_deliver_166 (by decide) (fun c_8 => ?_) (fun c_8 => ?_)
            · refine lv_iconst (v := nI 1) hx hb dX4_deliver_279 (by decide) ?_
              exact bn_retz hx hb hr hlocks hK (bh_off S k) hI (⟨rfl, by show _ = bh_do (bh_off S k) 1 b v q g (S.2.2.2 26 k); unfold bh_do; rw [if_pos rfl]; rw [if_neg c_8]⟩) (by decide) dX4_deliver_280
            · refine lv_aload_n hx hb dX4_deliver_169 rfl (lv_at hl 6 rfl) ?_
              refine lv_iload_n hx hb dX4_deliver_170 rfl (lv_at hl 4 rfl) ?_
              refine bn_muv (bn_muV (As := [.int (nI b)]) (rest := []) ⟨hx, hb, hml, hown, hts⟩ (cm_beginReading l D c h ad _ (bh_off S k) b h24 g ho9 hg24 hoa hon) (cwV 1 hts gX4_deliver_X4_beginReading rfl rfl rfl (by decide +kernel) ⟨Nat.le_of_ble_eq_true rfl, Nat.le_of_ble_eq_true rfl⟩) hK hI 0 3 rfl rfl rfl rfl hl.1 (Nat.le_of_ble_eq_true rfl) dX4_deliver_171 ⟨Nat.le_of_ble_eq_true rfl, Nat.le_of_ble_eq_true rfl⟩) hI hA (fun u_9 H locs eu_9 hI => ?_)
              subst eu_9
              refine lv_goto (tgt := 279) hx hb dX4_deliver_174 (by decide) ?_
              refine lv_iconst (v := nI 1) hx hb dX4_deliver_279 (by decide) ?_
              exact bn_retz hx hb hr hlocks hK (bh_bre (bh_off S k) b g) hI (⟨rfl, by show _ = bh_do (bh_off S k) 1 b v q g (S.2.2.2 26 k); unfold bh_do; rw [if_pos rfl]; rw [if_pos c_8]⟩) (by decide) dX4_deliver_280
          · subst hw
            refine lv_tableIn (tgt := 177) hx hb dX4_deliver_120 (by decide) (by decide) rfl (by decide) ?_
            obtain ⟨ev, hv7⟩ := hL23 (by omega)
            rw [ev] at hl
            refine lv_aload_n hx hb dX4_deliver_177 rfl (lv_at hl 6 rfl) ?_
            refine lv_iload_n hx hb dX4_deliver_178 rfl (lv_at hl 4 rfl) ?_
            refine lv_iload hx hb dX4_deliver_179 (lv_at hl 3 rfl) ?_
            refine bn_muv (bn_muV (As := [.int (nI b), .int (nI v)]) (rest := []) ⟨hx, hb, hml, hown, hts⟩ (cm_comesRead l D c h ad _ (bh_off S k) b v h24 hv7 hoa) (cwV 2 hts gX4_deliver_X4_comesRead rfl rfl rfl (by decide +kernel) ⟨Nat.le_of_ble_eq_true rfl, Nat.le_of_ble_eq_true rfl⟩) hK hI 0 3 rfl rfl rfl rfl hl.1 (Nat.le_of_ble_eq_true rfl) dX4_deliver_181 ⟨Nat.le_of_ble_eq_true rfl, Nat.le_of_ble_eq_true rfl⟩) hI hA (fun u_10 H locs eu_10 hI => ?_)
            subst eu_10
            refine lv_goto (tgt := 279) hx hb dX4_deliver_184 (by decide) ?_
            refine lv_iconst (v := nI 1) hx hb dX4_deliver_279 (by decide) ?_
            exact bn_retz hx hb hr hlocks hK (bh_cre (bh_off S k) b v) hI (⟨rfl, by show _ = bh_do (bh_off S k) 2 b v q g (S.2.2.2 26 k); unfold bh_do; rw [if_neg (by omega), if_pos rfl]⟩) (by decide) dX4_deliver_280
          · subst hw
            refine lv_tableIn (tgt := 187) hx hb dX4_deliver_120 (by decide) (by decide) rfl (by decide) ?_
            obtain ⟨ev, hv7⟩ := hL23 (by omega)
            rw [ev] at hl
            refine lv_aload_n hx hb dX4_deliver_187 rfl (lv_at hl 6 rfl) ?_
            refine lv_iload_n hx hb dX4_deliver_188 rfl (lv_at hl 4 rfl) ?_
            refine lv_iload hx hb dX4_deliver_189 (lv_at hl 3 rfl) ?_
            refine bn_muv (bn_muV (As := [.int (nI b), .int (nI v)]) (rest := []) ⟨hx, hb, hml, hown, hts⟩ (cm_comesReadAnswer l D c h ad _ (bh_off S k) b v h24 hv7 g ho9 hg24 hoa hon) (cwV 2 hts gX4_deliver_X4_comesReadAnswer rfl rfl rfl (by decide +kernel) ⟨Nat.le_of_ble_eq_true rfl, Nat.le_of_ble_eq_true rfl⟩) hK hI 0 3 rfl rfl rfl rfl hl.1 (Nat.le_of_ble_eq_true rfl) dX4_deliver_191 ⟨Nat.le_of_ble_eq_true rfl, Nat.le_of_ble_eq_true rfl⟩) hI hA (fun u_11 H locs eu_11 hI => ?_)
            subst eu_11
            refine lv_goto (tgt := 279) hx hb dX4_deliver_194 (by decide) ?_
            refine lv_iconst (v := nI 1) hx hb dX4_deliver_279 (by decide) ?_
            exact bn_retz hx hb hr hlocks hK (bh_cra (bh_off S k) b v g) hI (⟨rfl, by show _ = bh_do (bh_off S k) 3 b v q g (S.2.2.2 26 k); unfold bh_do; rw [if_neg (by omega), if_neg (by omega), if_pos rfl]⟩) (by decide) dX4_deliver_280
          · subst hw
            refine lv_tableIn (tgt := 197) hx hb dX4_deliver_120 (by decide) (by decide) rfl (by decide) ?_
            obtain ⟨ev, hv7⟩ := hL23 (by omega)
            rw [ev] at hl
            obtain ⟨eq, hq8⟩ := hL24 (by omega)
            rw [eq] at hl
            refine lv_aload_n hx hb dX4_deliver_197 rfl (lv_at hl 6 rfl) ?_
            refine lv_iload_n hx hb dX4_deliver_198 rfl (lv_at hl 4 rfl) ?_
            refine lv_iload hx hb dX4_deliver_199 (lv_at hl 3 rfl) ?_
            refine lv_iload hx hb dX4_deliver_201 (lv_at hl 2 rfl) ?_
            refine lv_lload hx hb dX4_deliver_203 (lv_at hl 1 rfl) ?_
            refine bn_muv (bn_muV (As := [.int (nI b), .int (nI v), .int (nI q), .long (S.2.2.2 26 k)]) (rest := []) ⟨hx, hb, hml, hown, hts⟩ (cm_comesVote l D c h ad _ (bh_off S k) b v q (S.2.2.2 26 k) h24 hv7 hq8 hoa) (cwV 4 hts gX4_deliver_X4_comesVote rfl rfl rfl (by decide +kernel) ⟨Nat.le_of_ble_eq_true rfl, Nat.le_of_ble_eq_true rfl⟩) hK hI 0 3 rfl rfl rfl rfl hl.1 (Nat.le_of_ble_eq_true rfl) dX4_deliver_205 ⟨Nat.le_of_ble_eq_true rfl, Nat.le_of_ble_eq_true rfl⟩) hI hA (fun u_12 H locs eu_12 hI => ?_)
            subst eu_12
            refine lv_goto (tgt := 279) hx hb dX4_deliver_208 (by decide) ?_
            refine lv_iconst (v := nI 1) hx hb dX4_deliver_279 (by decide) ?_
            exact bn_retz hx hb hr hlocks hK (bh_cvo (bh_off S k) b v q (S.2.2.2 26 k)) hI (⟨rfl, by show _ = bh_do (bh_off S k) 4 b v q g (S.2.2.2 26 k); unfold bh_do; rw [if_neg (by omega), if_neg (by omega), if_neg (by omega), if_pos rfl]⟩) (by decide) dX4_deliver_280
          · subst hw
            refine lv_tableIn (tgt := 211) hx hb dX4_deliver_120 (by decide) (by decide) rfl (by decide) ?_
            obtain ⟨ev, hv7⟩ := hL23 (by omega)
            rw [ev] at hl
            obtain ⟨eq, hq8⟩ := hL24 (by omega)
            rw [eq] at hl
            refine lv_aload_n hx hb dX4_deliver_211 rfl (lv_at hl 6 rfl) ?_
            refine lv_iload_n hx hb dX4_deliver_212 rfl (lv_at hl 4 rfl) ?_
            refine lv_iload hx hb dX4_deliver_213 (lv_at hl 3 rfl) ?_
            refine lv_iload hx hb dX4_deliver_215 (lv_at hl 2 rfl) ?_
            refine bn_muv (bn_muV (As := [.int (nI b), .int (nI v), .int (nI q)]) (rest := []) ⟨hx, hb, hml, hown, hts⟩ (cm_comesVoteAnswer l D c h ad _ (bh_off S k) b v q h24 hv7 hq8 hoa) (cwV 3 hts gX4_deliver_X4_comesVoteAnswer rfl rfl rfl (by decide +kernel) ⟨Nat.le_of_ble_eq_true rfl, Nat.le_of_ble_eq_true rfl⟩) hK hI 0 3 rfl rfl rfl rfl hl.1 (Nat.le_of_ble_eq_true rfl) dX4_deliver_217 ⟨Nat.le_of_ble_eq_true rfl, Nat.le_of_ble_eq_true rfl⟩) hI hA (fun u_13 H locs eu_13 hI => ?_)
            subst eu_13
            refine lv_goto (tgt := 279) hx hb dX4_deliver_220 (by decide) ?_
            refine lv_iconst (v := nI 1) hx hb dX4_deliver_279 (by decide) ?_
            exact bn_retz hx hb hr hlocks hK (bh_cva (bh_off S k) b v q) hI (⟨rfl, by show _ = bh_do (bh_off S k) 5 b v q g (S.2.2.2 26 k); unfold bh_do; rw [if_neg (by omega), if_neg (by omega), if_neg (by omega), if_neg (by omega), if_pos rfl]⟩) (by decide) dX4_deliver_280
          · subst hw
            refine lv_tableIn (tgt := 223) hx hb dX4_deliver_120 (by decide) (by decide) rfl (by decide) ?_
            refine lv_aload_n hx hb dX4_deliver_223 rfl (lv_at hl 6 rfl) ?_
            refine bn_get (ci := 3) (v := .int ((bh_off S k).2.1 19)) (C := RX4) (T := TX4) (N := 31) hx hb hts hinX4 hown hK hI 0 rfl rfl 19 (by decide) lk_111 rfl (rfl) dX4_deliver_224 ?_
            refine lv_aload_n hx hb dX4_deliver_227 rfl (lv_at hl 6 rfl) ?_
            refine bn_get (ci := 3) (v := .ref (ad 9)) (C := RX4) (T := TX4) (N := 31) hx hb hts hinX4 hown hK hI 0 rfl rfl 9 (by decide) lk_36 rfl (rfl) dX4_deliver_228 ?_
            refine lv_iload_n hx hb dX4_deliver_231 rfl (lv_at hl 4 rfl) ?_
            refine bn_iald (n := 25) (v := (bh_off S k).2.2.1 9 b) hx hb hK hI 9 0 rfl rfl (by omega) (by decide) (rfl) dX4_deliver_232 ?_
            refine lv_icmp_eq (tgt := 244) hx hb dX4_deliver_233 (by decide) (fun c_14 => ?_) (fun c_14 => ?_)
            · refine lv_aload_n hx hb dX4_deliver_244 rfl (lv_at hl 6 rfl) ?_
              refine lv_iload_n hx hb dX4_deliver_245 rfl (lv_at hl 4 rfl) ?_
              refine bn_put (ci := 3) (v := .int (nI b)) (ty := .int) (C := RX4) (T := TX4) (N := 31) (ws' := bh_mw h ad c (bh_i (bh_off S k) 19 (nI b))) hx hb hts hinX4 tyX4 tyX4_ok nmX4 hown hK hI 0 rfl rfl 19 (by decide) lk_111 rfl rfl rfl rfl rfl (Nat.le_of_ble_eq_true rfl) dX4_deliver_246 rfl (fun H locs hI => ?_)
              refine lv_aload_n hx hb dX4_deliver_249 rfl (lv_at hl 6 rfl) ?_
              refine lv_bipush (v := nI 7) hx hb dX4_deliver_250 (by decide) ?_
              refine lv_iload_n hx hb dX4_deliver_252 rfl (lv_at hl 4 rfl) ?_
              refine lv_iconst (v := -1) hx hb dX4_deliver_253 (by decide) ?_
              refine lv_iconst (v := -1) hx hb dX4_deliver_254 (by decide) ?_
              refine lv_lconst (v := 0) hx hb dX4_deliver_255 (by decide) ?_
              refine bn_muv (bn_muV (As := [.int (nI 7), .int (nI b), .int (-1), .int (-1), .long (0)]) (rest := []) ⟨hx, hb, hml, hown, hts⟩ (cm_put l D c h ad _ (bh_i (bh_off S k) 19 (nI b)) 7 (nI b) (-1) (-1) (0) (hoa) (by omega) (by omega)) (cwV 5 hts gX4_deliver_X4_put rfl rfl rfl (by decide +kernel) ⟨Nat.le_of_ble_eq_true rfl, Nat.le_of_ble_eq_true rfl⟩) hK hI 0 3 rfl rfl rfl rfl hl.1 (Nat.le_of_ble_eq_true rfl) dX4_deliver_256 ⟨Nat.le_of_ble_eq_true rfl, Nat.le_of_ble_eq_true rfl⟩) hI hA (fun u_15 H locs eu_15 hI => ?_)
              subst eu_15
              refine lv_goto (tgt := 279) hx hb dX4_deliver_259 (by decide) ?_
              refine lv_iconst (v := nI 1) hx hb dX4_deliver_279 (by decide) ?_
              exact bn_retz hx hb hr hlocks hK (bh_put (bh_i (bh_off S k) 19 (nI b)) (nI 7) (nI b) (-1) (-1) 0 bh_z0 bh_z1) hI (⟨rfl, by show _ = bh_do (bh_off S k) 6 b v q g (S.2.2.2 26 k); unfold bh_do; rw [if_neg (by omega), if_neg (by omega), if_neg (by omega), if_neg (by omega), if_neg (by omega), if_pos rfl]; rw [if_pos (Or.inl c_14)]⟩) (by decide) dX4_deliver_280
            · refine lv_aload_n hx hb dX4_deliver_236 rfl (lv_at hl 6 rfl) ?_
              refine bn_get (ci := 3) (v := .int ((bh_off S k).2.1 19)) (C := RX4) (T := TX4) (N := 31) hx hb hts hinX4 hown hK hI 0 rfl rfl 19 (by decide) lk_111 rfl (rfl) dX4_deliver_237 ?_
              refine lv_iload_n hx hb dX4_deliver_240 rfl (lv_at hl 4 rfl) ?_
              refine lv_icmp_ne (tgt := 279) hx hb dX4_deliver_241 (by decide) (fun c_16 => ?_) (fun c_16 => ?_)
              · refine lv_iconst (v := nI 1) hx hb dX4_deliver_279 (by decide) ?_
                exact bn_retz hx hb hr hlocks hK (bh_off S k) hI (⟨rfl, by show _ = bh_do (bh_off S k) 6 b v q g (S.2.2.2 26 k); unfold bh_do; rw [if_neg (by omega), if_neg (by omega), if_neg (by omega), if_neg (by omega), if_neg (by omega), if_pos rfl]; rw [if_neg (fun z => z.elim c_14 c_16)]⟩) (by decide) dX4_deliver_280
              · refine lv_aload_n hx hb dX4_deliver_244 rfl (lv_at hl 6 rfl) ?_
                refine lv_iload_n hx hb dX4_deliver_245 rfl (lv_at hl 4 rfl) ?_
                refine bn_put (ci := 3) (v := .int (nI b)) (ty := .int) (C := RX4) (T := TX4) (N := 31) (ws' := bh_mw h ad c (bh_i (bh_off S k) 19 (nI b))) hx hb hts hinX4 tyX4 tyX4_ok nmX4 hown hK hI 0 rfl rfl 19 (by decide) lk_111 rfl rfl rfl rfl rfl (Nat.le_of_ble_eq_true rfl) dX4_deliver_246 rfl (fun H locs hI => ?_)
                refine lv_aload_n hx hb dX4_deliver_249 rfl (lv_at hl 6 rfl) ?_
                refine lv_bipush (v := nI 7) hx hb dX4_deliver_250 (by decide) ?_
                refine lv_iload_n hx hb dX4_deliver_252 rfl (lv_at hl 4 rfl) ?_
                refine lv_iconst (v := -1) hx hb dX4_deliver_253 (by decide) ?_
                refine lv_iconst (v := -1) hx hb dX4_deliver_254 (by decide) ?_
                refine lv_lconst (v := 0) hx hb dX4_deliver_255 (by decide) ?_
                refine bn_muv (bn_muV (As := [.int (nI 7), .int (nI b), .int (-1), .int (-1), .long (0)]) (rest := []) ⟨hx, hb, hml, hown, hts⟩ (cm_put l D c h ad _ (bh_i (bh_off S k) 19 (nI b)) 7 (nI b) (-1) (-1) (0) (hoa) (by omega) (by omega)) (cwV 5 hts gX4_deliver_X4_put rfl rfl rfl (by decide +kernel) ⟨Nat.le_of_ble_eq_true rfl, Nat.le_of_ble_eq_true rfl⟩) hK hI 0 3 rfl rfl rfl rfl hl.1 (Nat.le_of_ble_eq_true rfl) dX4_deliver_256 ⟨Nat.le_of_ble_eq_true rfl, Nat.le_of_ble_eq_true rfl⟩) hI hA (fun u_17 H locs eu_17 hI => ?_)
                subst eu_17
                refine lv_goto (tgt := 279) hx hb dX4_deliver_259 (by decide) ?_
                refine lv_iconst (v := nI 1) hx hb dX4_deliver_279 (by decide) ?_
                exact bn_retz hx hb hr hlocks hK (bh_put (bh_i (bh_off S k) 19 (nI b)) (nI 7) (nI b) (-1) (-1) 0 bh_z0 bh_z1) hI (⟨rfl, by show _ = bh_do (bh_off S k) 6 b v q g (S.2.2.2 26 k); unfold bh_do; rw [if_neg (by omega), if_neg (by omega), if_neg (by omega), if_neg (by omega), if_neg (by omega), if_pos rfl]; rw [if_pos (Or.inr c_16)]⟩) (by decide) dX4_deliver_280
          · subst hw
            refine lv_tableOut (tgt := 262) hx hb dX4_deliver_120 (by decide) (by decide) ?_
            refine lv_aload_n hx hb dX4_deliver_262 rfl (lv_at hl 6 rfl) ?_
            refine bn_get (ci := 3) (v := .ref (ad 5)) (C := RX4) (T := TX4) (N := 31) hx hb hts hinX4 hown hK hI 0 rfl rfl 5 (by decide) lk_24 rfl (rfl) dX4_deliver_263 ?_
            refine lv_iload_n hx hb dX4_deliver_266 rfl (lv_at hl 4 rfl) ?_
            refine bn_iald (n := 25) (v := (bh_off S k).2.2.1 5 b) hx hb hK hI 5 0 rfl rfl (by omega) (by decide) (rfl) dX4_deliver_267 ?_
            refine lv_iconst (v := nI 3) hx hb dX4_deliver_268 (by decide) ?_
            refine lv_icmp_ne (tgt := 279) hx hb dX4_deliver_269 (by decide) (fun c_18 => ?_) (fun c_18 => ?_)
            · refine lv_iconst (v := nI 1) hx hb dX4_deliver_279 (by decide) ?_
              exact bn_retz hx hb hr hlocks hK (bh_off S k) hI (⟨rfl, by show _ = bh_do (bh_off S k) 7 b v q g (S.2.2.2 26 k); unfold bh_do; rw [if_neg (by omega), if_neg (by omega), if_neg (by omega), if_neg (by omega), if_neg (by omega), if_neg (by omega)]; rw [if_neg c_18]⟩) (by decide) dX4_deliver_280
            · refine lv_aload_n hx hb dX4_deliver_272 rfl (lv_at hl 6 rfl) ?_
              refine bn_get (ci := 3) (v := .ref (ad 5)) (C := RX4) (T := TX4) (N := 31) hx hb hts hinX4 hown hK hI 0 rfl rfl 5 (by decide) lk_24 rfl (rfl) dX4_deliver_273 ?_
              refine lv_iload_n hx hb dX4_deliver_276 rfl (lv_at hl 4 rfl) ?_
              refine lv_iconst (v := nI 4) hx hb dX4_deliver_277 (by decide) ?_
              refine bn_iast (n := 25) (ws' := bh_mw h ad c (bh_r (bh_off S k) 5 b (nI 4))) hx hb hK hI 5 0 rfl rfl (by omega) (by decide) dX4_deliver_278 rfl (fun H locs hI => ?_)
              refine lv_iconst (v := nI 1) hx hb dX4_deliver_279 (by decide) ?_
              exact bn_retz hx hb hr hlocks hK (bh_r (bh_off S k) 5 b (nI 4)) hI (⟨rfl, by show _ = bh_do (bh_off S k) 7 b v q g (S.2.2.2 26 k); unfold bh_do; rw [if_neg (by omega), if_neg (by omega), if_neg (by omega), if_neg (by omega), if_neg (by omega), if_neg (by omega)]; rw [if_pos c_18]⟩) (by decide) dX4_deliver_280
        · refine lv_aload_n hx hb dX4_deliver_70 rfl (lv_at hl 6 rfl) ?_
          refine bn_get (ci := 3) (v := .ref (ad 29)) (C := RX4) (T := TX4) (N := 31) hx hb hts hinX4 hown hK hI 0 rfl rfl 29 (by decide) lk_84 rfl (rfl) dX4_deliver_71 ?_
          refine lv_iload hx hb dX4_deliver_74 (lv_at hl 0 rfl) ?_
          refine lv_aload_n hx hb dX4_deliver_76 rfl (lv_at hl 6 rfl) ?_
          refine bn_get (ci := 3) (v := .ref (ad 25)) (C := RX4) (T := TX4) (N := 31) hx hb hts hinX4 hown hK hI 0 rfl rfl 25 (by decide) lk_75 rfl (rfl) dX4_deliver_77 ?_
          refine lv_bipush (v := nI 8) hx hb dX4_deliver_80 (by decide) ?_
          refine lv_iload_n hx hb dX4_deliver_82 rfl (lv_at hl 7 rfl) ?_
          refine bn_imul hx hb dX4_deliver_83 ?_
          refine lv_iload hx hb dX4_deliver_84 (lv_at hl 0 rfl) ?_
          refine bn_iadd hx hb dX4_deliver_86 ?_
          refine bn_iald (n := 3200) (v := S.2.2.1 25 (8 * k + j)) hx hb hK hI 22 0 rfl rfl (by omega) (by decide) (by rw [bh_got_r S k j (by omega)]) dX4_deliver_87 ?_
          refine bn_iast (n := 8) (ws' := bh_mw h ad c (bh_r (bh_got S k j) 29 j (S.2.2.1 25 (8 * k + j)))) hx hb hK hI 25 0 rfl rfl (by omega) (by decide) dX4_deliver_88 rfl (fun H locs hI => ?_)
          refine lv_aload_n hx hb dX4_deliver_89 rfl (lv_at hl 6 rfl) ?_
          refine bn_get (ci := 3) (v := .ref (ad 30)) (C := RX4) (T := TX4) (N := 31) hx hb hts hinX4 hown hK hI 0 rfl rfl 30 (by decide) lk_87 rfl (rfl) dX4_deliver_90 ?_
          refine lv_iload hx hb dX4_deliver_93 (lv_at hl 0 rfl) ?_
          refine lv_aload_n hx hb dX4_deliver_95 rfl (lv_at hl 6 rfl) ?_
          refine bn_get (ci := 3) (v := .ref (ad 27)) (C := RX4) (T := TX4) (N := 31) hx hb hts hinX4 hown hK hI 0 rfl rfl 27 (by decide) lk_81 rfl (rfl) dX4_deliver_96 ?_
          refine lv_bipush (v := nI 8) hx hb dX4_deliver_99 (by decide) ?_
          refine lv_iload_n hx hb dX4_deliver_101 rfl (lv_at hl 7 rfl) ?_
          refine bn_imul hx hb dX4_deliver_102 ?_
          refine lv_iload hx hb dX4_deliver_103 (lv_at hl 0 rfl) ?_
          refine bn_iadd hx hb dX4_deliver_105 ?_
          refine bn_lald (n := 3200) (v := S.2.2.2 27 (8 * k + j)) hx hb hK hI 24 1 rfl rfl (by omega) (by decide) (by show (bh_got S k j).2.2.2 27 _ = _; rw [bh_got_l S k j (by omega)]) dX4_deliver_106 ?_
          refine bn_last (n := 8) (ws' := bh_mw h ad c (bh_l (bh_r (bh_got S k j) 29 j (S.2.2.1 25 (8 * k + j))) 30 j (S.2.2.2 27 (8 * k + j)))) hx hb hK hI 26 1 rfl rfl (by omega) (by decide) dX4_deliver_107 rfl (fun H locs hI => ?_)
          refine lv_iinc (v := nI (j + 1)) (lv' := [(8, .int (nI (j + 1))), (6, .long (S.2.2.2 26 k)), (5, .int (S.2.2.1 24 k)), (4, .int (S.2.2.1 23 k)), (3, .int (nI b)), (2, .int (nI w)), (0, .ref h), (1, .int (nI k))]) hx hb dX4_deliver_108 hl (k := 0) rfl (nI_1 _) (by decide) rfl (fun ls hl => ?_)
          refine lv_goto (tgt := 63) hx hb dX4_deliver_111 (by decide) ?_
          exact ih_5 (j + 1) _ _ _ ⟨by omega, hI, lv_sub hl [0, 1, 2, 3, 4, 5, 6, 7] rfl⟩ (by show 8 - (j + 1) < 8 - j; omega)
      · first | exact absurd c_4 (by decide) | exact absurd (by decide) c_4
end
section
/-! the reference's outer methods as functions -/
def bh_dlv (S : mS) (k : Nat) : mS := bh_do (bh_off S k) (S.2.2.1 21 k).toNatClampNeg (S.2.2.1 22 k).toNatClampNeg (S.2.2.1 23 k).toNatClampNeg (S.2.2.1 24 k).toNatClampNeg (S.2.2.1 9 (S.2.2.1 22 k).toNatClampNeg).toNatClampNeg (S.2.2.2 26 k)
def bh_lok (S : mS) (k : Nat) : Prop := bh_let S k (S.2.2.1 21 k).toNatClampNeg (S.2.2.1 22 k).toNatClampNeg (S.2.2.1 23 k).toNatClampNeg (S.2.2.1 24 k).toNatClampNeg (S.2.2.1 9 (S.2.2.1 22 k).toNatClampNeg).toNatClampNeg
theorem bh_lok_cv {S : mS} {k : Nat} (h : bh_lok S k) : S.2.2.1 21 k = nI 2 ∨ S.2.2.1 21 k = nI 4 → ∃ v, v < 7 ∧ S.2.2.1 23 k = nI v := by
  intro z
  obtain ⟨h1, -, -, hw, -, -, h2, -⟩ := h
  generalize (S.2.2.1 21 k).toNatClampNeg = w at h1 hw h2
  have hw2 : 2 ≤ w ∧ w ≤ 5 := by
    rcases z with z | z
    · have := (nI_eq (by omega) (by omega)).mp (h1.symm.trans z)
      omega
    · have := (nI_eq (by omega) (by omega)).mp (h1.symm.trans z)
      omega
  exact ⟨_, (h2 hw2).2, (h2 hw2).1⟩
def bh_ff (S : mS) : Nat → Nat → Nat
  | 0, j => j
  | f + 1, j => if bh_cb S j = true then j else bh_ff S f (j + 1)
def bh_fst (S : mS) : Nat := bh_ff S (S.1 28) 0
theorem bh_ff_le (S : mS) (f j : Nat) : bh_ff S f j ≤ j + f := by
  induction f generalizing j with
  | zero => exact Nat.le_refl _
  | succ f ih =>
    unfold bh_ff
    split
    · omega
    · have := ih (j + 1)
      omega
theorem bh_ff_cb (S : mS) (f j : Nat) (h : bh_ff S f j < j + f) : bh_cb S (bh_ff S f j) = true := by
  induction f generalizing j with
  | zero => exact absurd h (Nat.lt_irrefl _)
  | succ f ih =>
    unfold bh_ff at h ⊢
    split
    · next hc => exact hc
    · next hc =>
      rw [if_neg hc] at h
      exact ih (j + 1) (by omega)
theorem bh_fst_le (S : mS) : bh_fst S ≤ S.1 28 := by
  have := bh_ff_le S (S.1 28) 0
  unfold bh_fst
  omega
theorem bh_fst_cb {S : mS} (h : bh_fst S < S.1 28) : bh_cb S (bh_fst S) = true := bh_ff_cb S _ 0 (by unfold bh_fst at h; omega)
def bh_stl : mS → Nat → Nat × mS
  | S, 0 => (0, S)
  | S, n + 1 => if bh_fst S < S.1 28 then ((bh_stl (bh_dlv S (bh_fst S)) n).1 + 1, (bh_stl (bh_dlv S (bh_fst S)) n).2) else (0, S)
theorem bh_stl_s (S : mS) (n : Nat) (h : bh_fst S < S.1 28) : bh_stl S (n + 1) = ((bh_stl (bh_dlv S (bh_fst S)) n).1 + 1, (bh_stl (bh_dlv S (bh_fst S)) n).2) := by
  rw [bh_stl]
  exact if_pos h
theorem bh_stl_e (S : mS) (n : Nat) (h : ¬ bh_fst S < S.1 28) : bh_stl S n = (0, S) := by
  cases n with
  | zero => rw [bh_stl]
  | succ n => rw [bh_stl]; exact if_neg h
def bh_pro (S : mS) (b p : Nat) (x : Int64) : mS := (bh_sv (bh_l (bh_r S 12 b (S.2.2.1 12 b ||| bh_bit p)) 17 (8 * b + p) x) b p).2
def bh_agC (S : mS) (b p : Nat) : Int32 := (((S.2.2.1 11 b ||| S.2.2.1 12 b) &&& (S.2.2.1 13 b ^^^ -1)) >>> (nI p &&& 31)) &&& nI 1
def bh_agL (S : mS) (b : Nat) : Nat → Nat × mS
  | 0 => (0, S)
  | p + 1 => if bh_agC S b p = nI 1 then ((bh_agL S b p).1 + (bh_sv (bh_agL S b p).2 b p).1, (bh_sv (bh_agL S b p).2 b p).2) else bh_agL S b p
theorem bh_agL_kp (S : mS) (b p : Nat) : bh_kp S (bh_agL S b p).2 := by
  induction p with
  | zero => exact bh_kp.rf S
  | succ p ih =>
    unfold bh_agL
    split
    · exact ih.tr (bh_svL_kp _ _ _ _)
    · exact ih
theorem bh_agL_le {S : mS} (h : S.1 28 ≤ 400) (b p : Nat) : (bh_agL S b p).2.1 28 ≤ 400 := by
  induction p with
  | zero => exact h
  | succ p ih =>
    unfold bh_agL
    split
    · exact bh_svL_le ih _ _ _
    · exact ih
def bh_ag (S : mS) (b g : Nat) : Nat × mS :=
  if S.2.2.1 5 b = nI 0 then (1, bh_put S (nI 1) (nI b) (-1) (-1) 0 bh_z0 bh_z1)
  else if S.2.2.1 5 b = nI 1 then bh_sr S b g
  else if S.2.2.1 5 b = nI 3 then (1, bh_put S (nI 6) (nI b) (-1) (-1) 0 bh_z0 bh_z1)
  else bh_agL S b 8
abbrev bh_blC (S : mS) (x y z : Int32) : Prop := ¬ x < 0 ∧ x < nI 1 <<< (nI (S.1 0) &&& 31) ∧ ¬ bh_many x = 0 ∧ ¬ y < nI 1 ∧ ¬ bh_many x < y ∧ ¬ z < nI 1 ∧ ¬ bh_many x < z ∧ ¬ y + z ≤ bh_many x ∧ ¬ S.1 18 = 24
def bh_blA (S : mS) (x y z : Int32) : mS := bh_r (bh_r (bh_r (bh_r (bh_n S 18 (S.1 18 + 1)) 6 (S.1 18 + 1) x) 7 (S.1 18 + 1) y) 8 (S.1 18 + 1) z) 9 (S.1 18 + 1) (S.2.1 19)
def bh_bal (S : mS) (x y z : Int32) : mS := bh_put (bh_blA S x y z) (nI 1) (nI (S.1 18 + 1)) (-1) (-1) 0 bh_z0 bh_z1
def bh_cho (S : mS) (b p : Nat) : Bool := decide (S.2.2.1 8 b ≤ bh_many (S.2.2.1 16 (8 * b + p) &&& S.2.2.1 6 b))
/-- the first ballot from b on that chose, of f ballots; 0 if none -/
def bh_chL (S : mS) (p : Nat) : Nat → Nat → Option Nat
  | 0, _ => none
  | f + 1, b => if bh_cho S b p = true then some b else bh_chL S p f (b + 1)
def bh_ch (S : mS) (p : Nat) : Option Nat := bh_chL S p (S.1 18) 1
def bh_oi (o : Option Nat) : Int32 := match o with
  | none => -1
  | some b => nI b
theorem bh_chL_in (S : mS) (p f b : Nat) {j : Nat} (h : bh_chL S p f b = some j) : b ≤ j ∧ j < b + f := by
  induction f generalizing b with
  | zero => cases h
  | succ f ih =>
    unfold bh_chL at h
    split at h
    · cases h
      omega
    · have := ih (b + 1) h
      omega
def bh_chv (S : mS) (p : Nat) : Int64 := match bh_ch S p with
  | none => 0
  | some b => S.2.2.2 17 (8 * b + p)
/-- after f ballots: is all that was chosen one value -/
def bh_one (S : mS) (p : Nat) : Nat → Bool
  | 0 => true
  | f + 1 => if bh_cho S (f + 1) p = true then bh_one S p f && decide (S.2.2.2 17 (8 * (f + 1) + p) = bh_chv S p) else bh_one S p f
def bh_abL (S : mS) (k : Nat) : Nat → Int32
  | 0 => nI 0
  | p + 1 => bh_abL S k p ||| (if 0 < S.2.2.1 25 (8 * k + p) then bh_bit p else nI 0)
def bh_sil (S : mS) (v : Nat) (x : Int32) : mS := bh_r S 4 v x
def bh_tw (S : mS) (k : Nat) : mS := bh_n (bh_cp S k (S.1 28)) 28 (S.1 28 + 1)

theorem bh_ix_none {x : Int32} {n : Nat} (h : bh_ix x n = none) : x.toInt < 0 ∨ (n : Int) ≤ x.toInt := by
  unfold bh_ix at h
  split at h
  · cases h
  · omega
theorem bh_ixb_none {x : Int32} {n : Nat} (h : bh_ixb x n = none) : x.toInt < 1 ∨ (n : Int) < x.toInt := by
  unfold bh_ixb at h
  split at h
  · cases h
  · omega
def bh_mprom (S : mS) (x : Int32) : Int32 := match bh_ix x (S.1 0) with
  | none => -1
  | some v => S.2.2.1 1 v
def bh_mvote (S : mS) (x y : Int32) : Int32 := match bh_ix x (S.1 0) with
  | none => -1
  | some v => match bh_ix y 8 with
    | none => -1
    | some q => S.2.2.1 2 (8 * v + q)
def bh_mvalue (S : mS) (x y : Int32) : Int64 := match bh_ix x (S.1 0) with
  | none => 0
  | some v => match bh_ix y 8 with
    | none => 0
    | some q => S.2.2.2 3 (8 * v + q)
def bh_mof (S : mS) (x y : Int32) : Int32 := match bh_ixb x (S.1 18) with
  | none => -1
  | some b => match bh_ix y 9 with
    | none => -1
    | some j => S.2.2.1 (5 + j) b
def bh_mansw (S : mS) (x y : Int32) : Int32 := match bh_ixb x (S.1 18) with
  | none => -1
  | some b => match bh_ix y 8 with
    | none => -1
    | some q => S.2.2.1 15 (8 * b + q)
def bh_msaid (S : mS) (x y : Int32) : Int64 := match bh_ixb x (S.1 18) with
  | none => 0
  | some b => match bh_ix y 8 with
    | none => 0
    | some q => S.2.2.2 17 (8 * b + q)
def bh_mcho (S : mS) (x : Int32) : Int32 := match bh_ix x 8 with
  | none => -1
  | some q => bh_oi (bh_ch S q)
def bh_mchv (S : mS) (x : Int32) : Int64 := match bh_ix x 8 with
  | none => 0
  | some q => bh_chv S q
def bh_mone (S : mS) (x : Int32) : Int32 := match bh_ix x 8 with
  | none => nI 1
  | some q => bh_tf (bh_one S q (S.1 18))
def bh_mair (S : mS) (x y : Int32) : Int32 := match bh_ix x (S.1 28) with
  | none => -1
  | some k => match bh_ix y 5 with
    | none => -1
    | some j => if j = 4 then bh_abL S k 8 else S.2.2.1 (21 + j) k
def bh_mabo (S : mS) (x : Int32) : Int32 := match bh_ix x 5 with
  | none => -1
  | some j => if j = 0 then nI (S.1 0) else if j = 1 then nI (S.1 18) else if j = 2 then S.2.1 19 else if j = 3 then nI (S.1 28) else S.2.1 20
def bh_mlose (S : mS) (x : Int32) : Int32 × mS := match bh_ix x (S.1 28) with
  | none => (nI 0, S)
  | some k => (nI 1, bh_take S k)
def bh_mtw (S : mS) (x : Int32) : Int32 × mS := match bh_ix x (S.1 28) with
  | none => (nI 0, S)
  | some k => if S.1 28 = 400 then (nI 0, S) else (nI 1, bh_tw S k)
def bh_msil (S : mS) (x z : Int32) : Int32 × mS := match bh_ix x (S.1 0) with
  | none => (nI 0, S)
  | some v => (nI 1, bh_sil S v z)
def bh_mdel (S : mS) (x : Int32) : Int32 × mS := match bh_ix x (S.1 28) with
  | none => (nI 0, S)
  | some k => if bh_cb S k = true then (nI 1, bh_dlv S k) else (nI 0, S)
def bh_mpro (S : mS) (x y : Int32) (z : Int64) : Int32 × mS := match bh_ixb x (S.1 18) with
  | none => (nI 0, S)
  | some b => match bh_ix y 8 with
    | none => (nI 0, S)
    | some q => if S.2.2.1 5 b = nI 4 ∧ ¬ ((S.2.2.1 11 b ||| S.2.2.1 12 b) >>> (nI q &&& 31)) &&& nI 1 = nI 1 then (nI 1, bh_pro S b q z) else (nI 0, S)
def bh_magn (S : mS) (x : Int32) : Int32 × mS := match bh_ixb x (S.1 18) with
  | none => (-1, S)
  | some b => (nI (bh_ag S b (S.2.2.1 9 b).toNatClampNeg).1, (bh_ag S b (S.2.2.1 9 b).toNatClampNeg).2)
def bh_mbal (S : mS) (x y z : Int32) : Int32 × mS := if bh_blC S x y z then (nI (S.1 18 + 1), bh_bal S x y z) else (-1, S)
def bh_mstl (S : mS) (x : Int32) : Int32 × mS := if x < 0 then (-1, S) else (nI (bh_stl S x.toNatClampNeg).1, (bh_stl S x.toNatClampNeg).2)
theorem bh_lcmp_eq {x y : Int64} (h : lg_cmp x y = 0) : x = y := by
  unfold lg_cmp at h
  split at h
  · exact absurd h (by decide)
  · split at h
    · assumption
    · exact absurd h (by decide)
theorem bh_lcmp_ne {x y : Int64} (h : ¬ lg_cmp x y = 0) : ¬ x = y := by
  intro e
  apply h
  subst e
  simp [lg_cmp]
theorem bh_st4 (x : Int32) : x = nI 0 ∨ x = nI 1 ∨ x = nI 2 ∨ x = nI 3 ∨ bh_ix x 4 = none := by
  rcases h : bh_ix x 4 with _ | j
  · exact Or.inr (Or.inr (Or.inr (Or.inr rfl)))
  · obtain ⟨hj, rfl⟩ := bh_ix_some h
    rcases (show j = 0 ∨ j = 1 ∨ j = 2 ∨ j = 3 by omega) with rfl | rfl | rfl | rfl <;> simp
theorem bh_stl_n {S T : mS} {n t m : Nat} (h : bh_stl S n = (t + (bh_stl T m).1, (bh_stl T m).2)) (hm : 0 < m) (hf : bh_fst T < T.1 28) : bh_stl S n = (t + 1 + (bh_stl (bh_dlv T (bh_fst T)) (m - 1)).1, (bh_stl (bh_dlv T (bh_fst T)) (m - 1)).2) := by
  obtain ⟨k, rfl⟩ : ∃ k, m = k + 1 := ⟨m - 1, by omega⟩
  rw [h, bh_stl_s T k hf, Nat.add_sub_cancel]
  simp only [Prod.mk.injEq, and_true]
  omega
end
section
set_option maxHeartbeats 4000000 in
set_option maxRecDepth 100000 in
theorem cm_promise (l : Launch) (D : va_G) (c : bh_C) (h : Nat) (ad : Nat → Nat) (S : mS) (x : Int32) (hn : S.1 0 ≤ 7) : Met l yX4_promise wsX4_promise ({ frames := 1, cells := 0, slots := 0, locals := 21 }) (va_Pc [.ref h, .int (x)] (bh_pre D c (bh_mw h ad c (S)))) (vp_Si (fun r => r = bh_mprom S x)) 0 0 (fun _ => False) := by
  refine Met.ofW (cc := cX4_promise) (maxL := 2) (ret := (some .int)) (by decide) rfl ?_
  intro p e s m args below meth c0 s₁ B hml hv
  obtain ⟨rfl, hP, hK, hD0⟩ := hv
  have hx := B.exec
  have hb := B.bytes
  have hr := B.returns
  have hts := atoms_spec (ws := wsX4_promise) B.pre
  have hown : s.vm.findClass RX4 = some m.cls := findClass_of_methodNamed B.named
  have hlocks := B.notSynchronized
  have hinX4 : ∀ w ∈ wsX40, w ∈ wsX4_promise := fun _ h => List.mem_cons_of_mem _ (List.mem_append_right _ h)
  have lk_7 : (Cond.fieldLink RX4 7 "BallotHouseModel" "promise" "[I").before _ s = true := hts _ (by decide +kernel)
  have hI : bh_I D (bh_mw h ad c (S)) (fun _ => True) s.heap s.heap [] := ⟨hP, hD0, va_S.rf⟩
  have hl := lv_entry ([.ref h, .int (x)]) (n := 2) (Nat.le_of_ble_eq_true rfl)
  rw [lg_entry_eq]
  generalize (lg_sl ([.ref h, .int (x)]) ++ List.replicate (2 - (lg_sl ([.ref h, .int (x)])).length) Slot.unset).toArray = ls at hl ⊢
  have hl : lv_has ls 2 [(0, .ref h), (1, .int (x))] := hl
  rcases hx1 : bh_ix x (S.1 0) with _ | v
  · refine lv_aload_n hx hb dX4_promise_0 rfl (lv_at hl 0 rfl) ?_
    refine lv_iload_n hx hb dX4_promise_1 rfl (lv_at hl 1 rfl) ?_
    refine vp_callSi (bn_roV (As := [.int (x)]) (rest := []) ⟨hx, hb, hml, hown, hts⟩ (cm_isVoter l D c h ad S (x) hn) (cwV 1 hts gX4_promise_X4_isVoter rfl rfl rfl (by decide +kernel) ⟨Nat.le_of_ble_eq_true rfl, Nat.le_of_ble_eq_true rfl⟩) hK hI 0 3 rfl rfl rfl rfl hl.1 (Nat.le_of_ble_eq_true rfl) dX4_promise_2 ⟨Nat.le_of_ble_eq_true rfl, Nat.le_of_ble_eq_true rfl⟩) (fun r_1 er_1 => ?_)
    obtain rfl : r_1 = nI 0 := by rw [er_1, hx1]; rfl
    refine lv_if_eq (tgt := 17) hx hb dX4_promise_5 (by decide) (fun c_2 => ?_) (fun c_2 => ?_)
    · refine lv_iconst (v := -1) hx hb dX4_promise_17 (by decide) ?_
      exact bn_roti hx hb hr hlocks (by unfold bh_mprom; rw [hx1]) dX4_promise_18
    · first | exact absurd c_2 (by decide) | exact absurd (by decide) c_2
  · obtain ⟨hv, rfl⟩ := bh_ix_some hx1
    refine lv_aload_n hx hb dX4_promise_0 rfl (lv_at hl 0 rfl) ?_
    refine lv_iload_n hx hb dX4_promise_1 rfl (lv_at hl 1 rfl) ?_
    refine vp_callSi (bn_roV (As := [.int (nI v)]) (rest := []) ⟨hx, hb, hml, hown, hts⟩ (cm_isVoter l D c h ad S (nI v) hn) (cwV 1 hts gX4_promise_X4_isVoter rfl rfl rfl (by decide +kernel) ⟨Nat.le_of_ble_eq_true rfl, Nat.le_of_ble_eq_true rfl⟩) hK hI 0 3 rfl rfl rfl rfl hl.1 (Nat.le_of_ble_eq_true rfl) dX4_promise_2 ⟨Nat.le_of_ble_eq_true rfl, Nat.le_of_ble_eq_true rfl⟩) (fun r_3 er_3 => ?_)
    obtain rfl : r_3 = nI 1 := by rw [er_3, hx1]; rfl
    refine lv_if_eq (tgt := 17) hx hb dX4_promise_5 (by decide) (fun c_4 => ?_) (fun c_4 => ?_)
    · first | exact absurd c_4 (by decide) | exact absurd (by decide) c_4
    · refine lv_aload_n hx hb dX4_promise_8 rfl (lv_at hl 0 rfl) ?_
      refine bn_get (ci := 3) (v := .ref (ad 1)) (C := RX4) (T := TX4) (N := 31) hx hb hts hinX4 hown hK hI 0 rfl rfl 1 (by decide) lk_7 rfl (rfl) dX4_promise_9 ?_
      refine lv_iload_n hx hb dX4_promise_12 rfl (lv_at hl 1 rfl) ?_
      refine bn_iald (n := 7) (v := S.2.2.1 1 v) hx hb hK hI 1 0 rfl rfl (by omega) (by decide) (rfl) dX4_promise_13 ?_
      refine lv_goto (tgt := 18) hx hb dX4_promise_14 (by decide) ?_
      exact bn_roti hx hb hr hlocks (by unfold bh_mprom; rw [hx1]) dX4_promise_18
set_option maxHeartbeats 4000000 in
set_option maxRecDepth 100000 in
theorem cm_vote (l : Launch) (D : va_G) (c : bh_C) (h : Nat) (ad : Nat → Nat) (S : mS) (x y : Int32) (hn : S.1 0 ≤ 7) : Met l yX4_vote wsX4_vote ({ frames := 1, cells := 0, slots := 0, locals := 21 }) (va_Pc [.ref h, .int (x), .int (y)] (bh_pre D c (bh_mw h ad c (S)))) (vp_Si (fun r => r = bh_mvote S x y)) 0 0 (fun _ => False) := by
  refine Met.ofW (cc := cX4_vote) (maxL := 3) (ret := (some .int)) (by decide) rfl ?_
  intro p e s m args below meth c0 s₁ B hml hv
  obtain ⟨rfl, hP, hK, hD0⟩ := hv
  have hx := B.exec
  have hb := B.bytes
  have hr := B.returns
  have hts := atoms_spec (ws := wsX4_vote) B.pre
  have hown : s.vm.findClass RX4 = some m.cls := findClass_of_methodNamed B.named
  have hlocks := B.notSynchronized
  have hinX4 : ∀ w ∈ wsX40, w ∈ wsX4_vote := fun _ h => List.mem_cons_of_mem _ (List.mem_append_right _ h)
  have lk_13 : (Cond.fieldLink RX4 13 "BallotHouseModel" "vote" "[I").before _ s = true := hts _ (by decide +kernel)
  have hI : bh_I D (bh_mw h ad c (S)) (fun _ => True) s.heap s.heap [] := ⟨hP, hD0, va_S.rf⟩
  have hl := lv_entry ([.ref h, .int (x), .int (y)]) (n := 3) (Nat.le_of_ble_eq_true rfl)
  rw [lg_entry_eq]
  generalize (lg_sl ([.ref h, .int (x), .int (y)]) ++ List.replicate (3 - (lg_sl ([.ref h, .int (x), .int (y)])).length) Slot.unset).toArray = ls at hl ⊢
  have hl : lv_has ls 3 [(0, .ref h), (1, .int (x)), (2, .int (y))] := hl
  rcases hx1 : bh_ix x (S.1 0) with _ | v
  · refine lv_aload_n hx hb dX4_vote_0 rfl (lv_at hl 0 rfl) ?_
    refine lv_iload_n hx hb dX4_vote_1 rfl (lv_at hl 1 rfl) ?_
    refine vp_callSi (bn_roV (As := [.int (x)]) (rest := []) ⟨hx, hb, hml, hown, hts⟩ (cm_isVoter l D c h ad S (x) hn) (cwV 1 hts gX4_vote_X4_isVoter rfl rfl rfl (by decide +kernel) ⟨Nat.le_of_ble_eq_true rfl, Nat.le_of_ble_eq_true rfl⟩) hK hI 0 3 rfl rfl rfl rfl hl.1 (Nat.le_of_ble_eq_true rfl) dX4_vote_2 ⟨Nat.le_of_ble_eq_true rfl, Nat.le_of_ble_eq_true rfl⟩) (fun r_1 er_1 => ?_)
    obtain rfl : r_1 = nI 0 := by rw [er_1, hx1]; rfl
    refine lv_if_eq (tgt := 29) hx hb dX4_vote_5 (by decide) (fun c_2 => ?_) (fun c_2 => ?_)
    · refine lv_iconst (v := -1) hx hb dX4_vote_29 (by decide) ?_
      exact bn_roti hx hb hr hlocks (by unfold bh_mvote; rw [hx1]) dX4_vote_30
    · first | exact absurd c_2 (by decide) | exact absurd (by decide) c_2
  · obtain ⟨hv, rfl⟩ := bh_ix_some hx1
    refine lv_aload_n hx hb dX4_vote_0 rfl (lv_at hl 0 rfl) ?_
    refine lv_iload_n hx hb dX4_vote_1 rfl (lv_at hl 1 rfl) ?_
    refine vp_callSi (bn_roV (As := [.int (nI v)]) (rest := []) ⟨hx, hb, hml, hown, hts⟩ (cm_isVoter l D c h ad S (nI v) hn) (cwV 1 hts gX4_vote_X4_isVoter rfl rfl rfl (by decide +kernel) ⟨Nat.le_of_ble_eq_true rfl, Nat.le_of_ble_eq_true rfl⟩) hK hI 0 3 rfl rfl rfl rfl hl.1 (Nat.le_of_ble_eq_true rfl) dX4_vote_2 ⟨Nat.le_of_ble_eq_true rfl, Nat.le_of_ble_eq_true rfl⟩) (fun r_3 er_3 => ?_)
    obtain rfl : r_3 = nI 1 := by rw [er_3, hx1]; rfl
    refine lv_if_eq (tgt := 29) hx hb dX4_vote_5 (by decide) (fun c_4 => ?_) (fun c_4 => ?_)
    · first | exact absurd c_4 (by decide) | exact absurd (by decide) c_4
    · rcases hx2 : bh_ix y 8 with _ | q
      · refine lv_iload_n hx hb dX4_vote_8 rfl (lv_at hl 2 rfl) ?_
        refine vp_callSi (bn_roS (As := [.int (y)]) (rest := []) ⟨hx, hb, hml, hown, hts⟩ (cm_isPlace l (y)) (va_cwS 1 hts gX4_vote_X4_isPlace rfl rfl rfl (by decide +kernel) ⟨Nat.le_of_ble_eq_true rfl, Nat.le_of_ble_eq_true rfl⟩) rfl hl.1 (Nat.le_of_ble_eq_true rfl) dX4_vote_9 ⟨Nat.le_of_ble_eq_true rfl, Nat.le_of_ble_eq_true rfl⟩) (fun r_5 er_5 => ?_)
        obtain rfl : r_5 = nI 0 := by rw [er_5, hx2]; rfl
        refine lv_if_eq (tgt := 29) hx hb dX4_vote_12 (by decide) (fun c_6 => ?_) (fun c_6 => ?_)
        · refine lv_iconst (v := -1) hx hb dX4_vote_29 (by decide) ?_
          exact bn_roti hx hb hr hlocks (by unfold bh_mvote; rw [hx1]; dsimp only; rw [hx2]) dX4_vote_30
        · first | exact absurd c_6 (by decide) | exact absurd (by decide) c_6
      · obtain ⟨hq, rfl⟩ := bh_ix_some hx2
        refine lv_iload_n hx hb dX4_vote_8 rfl (lv_at hl 2 rfl) ?_
        refine vp_callSi (bn_roS (As := [.int (nI q)]) (rest := []) ⟨hx, hb, hml, hown, hts⟩ (cm_isPlace l (nI q)) (va_cwS 1 hts gX4_vote_X4_isPlace rfl rfl rfl (by decide +kernel) ⟨Nat.le_of_ble_eq_true rfl, Nat.le_of_ble_eq_true rfl⟩) rfl hl.1 (Nat.le_of_ble_eq_true rfl) dX4_vote_9 ⟨Nat.le_of_ble_eq_true rfl, Nat.le_of_ble_eq_true rfl⟩) (fun r_7 er_7 => ?_)
        obtain rfl : r_7 = nI 1 := by rw [er_7, hx2]; rfl
        refine lv_if_eq (tgt := 29) hx hb dX4_vote_12 (by decide) (fun c_8 => ?_) (fun c_8 => ?_)
        · first | exact absurd c_8 (by decide) | exact absurd (by decide) c_8
        · refine lv_aload_n hx hb dX4_vote_15 rfl (lv_at hl 0 rfl) ?_
          refine bn_get (ci := 3) (v := .ref (ad 2)) (C := RX4) (T := TX4) (N := 31) hx hb hts hinX4 hown hK hI 0 rfl rfl 2 (by decide) lk_13 rfl (rfl) dX4_vote_16 ?_
          refine lv_bipush (v := nI 8) hx hb dX4_vote_19 (by decide) ?_
          refine lv_iload_n hx hb dX4_vote_21 rfl (lv_at hl 1 rfl) ?_
          refine bn_imul hx hb dX4_vote_22 ?_
          refine lv_iload_n hx hb dX4_vote_23 rfl (lv_at hl 2 rfl) ?_
          refine bn_iadd hx hb dX4_vote_24 ?_
          refine bn_iald (n := 56) (v := S.2.2.1 2 ((8 * v) + q)) hx hb hK hI 2 0 rfl rfl (by omega) (by decide) (rfl) dX4_vote_25 ?_
          refine lv_goto (tgt := 30) hx hb dX4_vote_26 (by decide) ?_
          exact bn_roti hx hb hr hlocks (by unfold bh_mvote; rw [hx1]; dsimp only; rw [hx2]) dX4_vote_30
set_option maxHeartbeats 4000000 in
set_option maxRecDepth 100000 in
theorem cm_value (l : Launch) (D : va_G) (c : bh_C) (h : Nat) (ad : Nat → Nat) (S : mS) (x y : Int32) (hn : S.1 0 ≤ 7) : Met l yX4_value wsX4_value ({ frames := 1, cells := 0, slots := 0, locals := 21 }) (va_Pc [.ref h, .int (x), .int (y)] (bh_pre D c (bh_mw h ad c (S)))) (vp_Sl (fun r => r = bh_mvalue S x y)) 0 0 (fun _ => False) := by
  refine Met.ofW (cc := cX4_value) (maxL := 3) (ret := (some .long)) (by decide) rfl ?_
  intro p e s m args below meth c0 s₁ B hml hv
  obtain ⟨rfl, hP, hK, hD0⟩ := hv
  have hx := B.exec
  have hb := B.bytes
  have hr := B.returns
  have hts := atoms_spec (ws := wsX4_value) B.pre
  have hown : s.vm.findClass RX4 = some m.cls := findClass_of_methodNamed B.named
  have hlocks := B.notSynchronized
  have hinX4 : ∀ w ∈ wsX40, w ∈ wsX4_value := fun _ h => List.mem_cons_of_mem _ (List.mem_append_right _ h)
  have lk_16 : (Cond.fieldLink RX4 16 "BallotHouseModel" "value" "[J").before _ s = true := hts _ (by decide +kernel)
  have hI : bh_I D (bh_mw h ad c (S)) (fun _ => True) s.heap s.heap [] := ⟨hP, hD0, va_S.rf⟩
  have hl := lv_entry ([.ref h, .int (x), .int (y)]) (n := 3) (Nat.le_of_ble_eq_true rfl)
  rw [lg_entry_eq]
  generalize (lg_sl ([.ref h, .int (x), .int (y)]) ++ List.replicate (3 - (lg_sl ([.ref h, .int (x), .int (y)])).length) Slot.unset).toArray = ls at hl ⊢
  have hl : lv_has ls 3 [(0, .ref h), (1, .int (x)), (2, .int (y))] := hl
  rcases hx1 : bh_ix x (S.1 0) with _ | v
  · refine lv_aload_n hx hb dX4_value_0 rfl (lv_at hl 0 rfl) ?_
    refine lv_iload_n hx hb dX4_value_1 rfl (lv_at hl 1 rfl) ?_
    refine vp_callSi (bn_roV (As := [.int (x)]) (rest := []) ⟨hx, hb, hml, hown, hts⟩ (cm_isVoter l D c h ad S (x) hn) (cwV 1 hts gX4_value_X4_isVoter rfl rfl rfl (by decide +kernel) ⟨Nat.le_of_ble_eq_true rfl, Nat.le_of_ble_eq_true rfl⟩) hK hI 0 3 rfl rfl rfl rfl hl.1 (Nat.le_of_ble_eq_true rfl) dX4_value_2 ⟨Nat.le_of_ble_eq_true rfl, Nat.le_of_ble_eq_true rfl⟩) (fun r_1 er_1 => ?_)
    obtain rfl : r_1 = nI 0 := by rw [er_1, hx1]; rfl
    refine lv_if_eq (tgt := 29) hx hb dX4_value_5 (by decide) (fun c_2 => ?_) (fun c_2 => ?_)
    · refine lv_lconst (v := 0) hx hb dX4_value_29 (by decide) ?_
      exact bn_rotl hx hb hr hlocks (by unfold bh_mvalue; rw [hx1]) dX4_value_30
    · first | exact absurd c_2 (by decide) | exact absurd (by decide) c_2
  · obtain ⟨hv, rfl⟩ := bh_ix_some hx1
    refine lv_aload_n hx hb dX4_value_0 rfl (lv_at hl 0 rfl) ?_
    refine lv_iload_n hx hb dX4_value_1 rfl (lv_at hl 1 rfl) ?_
    refine vp_callSi (bn_roV (As := [.int (nI v)]) (rest := []) ⟨hx, hb, hml, hown, hts⟩ (cm_isVoter l D c h ad S (nI v) hn) (cwV 1 hts gX4_value_X4_isVoter rfl rfl rfl (by decide +kernel) ⟨Nat.le_of_ble_eq_true rfl, Nat.le_of_ble_eq_true rfl⟩) hK hI 0 3 rfl rfl rfl rfl hl.1 (Nat.le_of_ble_eq_true rfl) dX4_value_2 ⟨Nat.le_of_ble_eq_true rfl, Nat.le_of_ble_eq_true rfl⟩) (fun r_3 er_3 => ?_)
    obtain rfl : r_3 = nI 1 := by rw [er_3, hx1]; rfl
    refine lv_if_eq (tgt := 29) hx hb dX4_value_5 (by decide) (fun c_4 => ?_) (fun c_4 => ?_)
    · first | exact absurd c_4 (by decide) | exact absurd (by decide) c_4
    · rcases hx2 : bh_ix y 8 with _ | q
      · refine lv_iload_n hx hb dX4_value_8 rfl (lv_at hl 2 rfl) ?_
        refine vp_callSi (bn_roS (As := [.int (y)]) (rest := []) ⟨hx, hb, hml, hown, hts⟩ (cm_isPlace l (y)) (va_cwS 1 hts gX4_value_X4_isPlace rfl rfl rfl (by decide +kernel) ⟨Nat.le_of_ble_eq_true rfl, Nat.le_of_ble_eq_true rfl⟩) rfl hl.1 (Nat.le_of_ble_eq_true rfl) dX4_value_9 ⟨Nat.le_of_ble_eq_true rfl, Nat.le_of_ble_eq_true rfl⟩) (fun r_5 er_5 => ?_)
        obtain rfl : r_5 = nI 0 := by rw [er_5, hx2]; rfl
        refine lv_if_eq (tgt := 29) hx hb dX4_value_12 (by decide) (fun c_6 => ?_) (fun c_6 => ?_)
        · refine lv_lconst (v := 0) hx hb dX4_value_29 (by decide) ?_
          exact bn_rotl hx hb hr hlocks (by unfold bh_mvalue; rw [hx1]; dsimp only; rw [hx2]) dX4_value_30
        · first | exact absurd c_6 (by decide) | exact absurd (by decide) c_6
      · obtain ⟨hq, rfl⟩ := bh_ix_some hx2
        refine lv_iload_n hx hb dX4_value_8 rfl (lv_at hl 2 rfl) ?_
        refine vp_callSi (bn_roS (As := [.int (nI q)]) (rest := []) ⟨hx, hb, hml, hown, hts⟩ (cm_isPlace l (nI q)) (va_cwS 1 hts gX4_value_X4_isPlace rfl rfl rfl (by decide +kernel) ⟨Nat.le_of_ble_eq_true rfl, Nat.le_of_ble_eq_true rfl⟩) rfl hl.1 (Nat.le_of_ble_eq_true rfl) dX4_value_9 ⟨Nat.le_of_ble_eq_true rfl, Nat.le_of_ble_eq_true rfl⟩) (fun r_7 er_7 => ?_)
        obtain rfl : r_7 = nI 1 := by rw [er_7, hx2]; rfl
        refine lv_if_eq (tgt := 29) hx hb dX4_value_12 (by decide) (fun c_8 => ?_) (fun c_8 => ?_)
        · first | exact absurd c_8 (by decide) | exact absurd (by decide) c_8
        · refine lv_aload_n hx hb dX4_value_15 rfl (lv_at hl 0 rfl) ?_
          refine bn_get (ci := 3) (v := .ref (ad 3)) (C := RX4) (T := TX4) (N := 31) hx hb hts hinX4 hown hK hI 0 rfl rfl 3 (by decide) lk_16 rfl (rfl) dX4_value_16 ?_
          refine lv_bipush (v := nI 8) hx hb dX4_value_19 (by decide) ?_
          refine lv_iload_n hx hb dX4_value_21 rfl (lv_at hl 1 rfl) ?_
          refine bn_imul hx hb dX4_value_22 ?_
          refine lv_iload_n hx hb dX4_value_23 rfl (lv_at hl 2 rfl) ?_
          refine bn_iadd hx hb dX4_value_24 ?_
          refine bn_lald (n := 56) (v := S.2.2.2 3 ((8 * v) + q)) hx hb hK hI 3 1 rfl rfl (by omega) (by decide) (rfl) dX4_value_25 ?_
          refine lv_goto (tgt := 30) hx hb dX4_value_26 (by decide) ?_
          exact bn_rotl hx hb hr hlocks (by unfold bh_mvalue; rw [hx1]; dsimp only; rw [hx2]) dX4_value_30
set_option maxHeartbeats 4000000 in
set_option maxRecDepth 100000 in
theorem cm_answered (l : Launch) (D : va_G) (c : bh_C) (h : Nat) (ad : Nat → Nat) (S : mS) (x y : Int32) (hk24 : S.1 18 ≤ 24) : Met l yX4_answered wsX4_answered ({ frames := 1, cells := 0, slots := 0, locals := 21 }) (va_Pc [.ref h, .int (x), .int (y)] (bh_pre D c (bh_mw h ad c (S)))) (vp_Si (fun r => r = bh_mansw S x y)) 0 0 (fun _ => False) := by
  refine Met.ofW (cc := cX4_answered) (maxL := 3) (ret := (some .int)) (by decide) rfl ?_
  intro p e s m args below meth c0 s₁ B hml hv
  obtain ⟨rfl, hP, hK, hD0⟩ := hv
  have hx := B.exec
  have hb := B.bytes
  have hr := B.returns
  have hts := atoms_spec (ws := wsX4_answered) B.pre
  have hown : s.vm.findClass RX4 = some m.cls := findClass_of_methodNamed B.named
  have hlocks := B.notSynchronized
  have hinX4 : ∀ w ∈ wsX40, w ∈ wsX4_answered := fun _ h => List.mem_cons_of_mem _ (List.mem_append_right _ h)
  have lk_54 : (Cond.fieldLink RX4 54 "BallotHouseModel" "answers" "[I").before _ s = true := hts _ (by decide +kernel)
  have hI : bh_I D (bh_mw h ad c (S)) (fun _ => True) s.heap s.heap [] := ⟨hP, hD0, va_S.rf⟩
  have hl := lv_entry ([.ref h, .int (x), .int (y)]) (n := 3) (Nat.le_of_ble_eq_true rfl)
  rw [lg_entry_eq]
  generalize (lg_sl ([.ref h, .int (x), .int (y)]) ++ List.replicate (3 - (lg_sl ([.ref h, .int (x), .int (y)])).length) Slot.unset).toArray = ls at hl ⊢
  have hl : lv_has ls 3 [(0, .ref h), (1, .int (x)), (2, .int (y))] := hl
  rcases hx1 : bh_ixb x (S.1 18) with _ | b
  · refine lv_aload_n hx hb dX4_answered_0 rfl (lv_at hl 0 rfl) ?_
    refine lv_iload_n hx hb dX4_answered_1 rfl (lv_at hl 1 rfl) ?_
    refine vp_callSi (bn_roV (As := [.int (x)]) (rest := []) ⟨hx, hb, hml, hown, hts⟩ (cm_isBallot l D c h ad S (x) hk24) (cwV 1 hts gX4_answered_X4_isBallot rfl rfl rfl (by decide +kernel) ⟨Nat.le_of_ble_eq_true rfl, Nat.le_of_ble_eq_true rfl⟩) hK hI 0 3 rfl rfl rfl rfl hl.1 (Nat.le_of_ble_eq_true rfl) dX4_answered_2 ⟨Nat.le_of_ble_eq_true rfl, Nat.le_of_ble_eq_true rfl⟩) (fun r_1 er_1 => ?_)
    obtain rfl : r_1 = nI 0 := by rw [er_1, hx1]; rfl
    refine lv_if_eq (tgt := 29) hx hb dX4_answered_5 (by decide) (fun c_2 => ?_) (fun c_2 => ?_)
    · refine lv_iconst (v := -1) hx hb dX4_answered_29 (by decide) ?_
      exact bn_roti hx hb hr hlocks (by unfold bh_mansw; rw [hx1]) dX4_answered_30
    · first | exact absurd c_2 (by decide) | exact absurd (by decide) c_2
  · obtain ⟨hb1, hb2, rfl⟩ := bh_ixb_some hx1
    refine lv_aload_n hx hb dX4_answered_0 rfl (lv_at hl 0 rfl) ?_
    refine lv_iload_n hx hb dX4_answered_1 rfl (lv_at hl 1 rfl) ?_
    refine vp_callSi (bn_roV (As := [.int (nI b)]) (rest := []) ⟨hx, hb, hml, hown, hts⟩ (cm_isBallot l D c h ad S (nI b) hk24) (cwV 1 hts gX4_answered_X4_isBallot rfl rfl rfl (by decide +kernel) ⟨Nat.le_of_ble_eq_true rfl, Nat.le_of_ble_eq_true rfl⟩) hK hI 0 3 rfl rfl rfl rfl hl.1 (Nat.le_of_ble_eq_true rfl) dX4_answered_2 ⟨Nat.le_of_ble_eq_true rfl, Nat.le_of_ble_eq_true rfl⟩) (fun r_3 er_3 => ?_)
    obtain rfl : r_3 = nI 1 := by rw [er_3, hx1]; rfl
    refine lv_if_eq (tgt := 29) hx hb dX4_answered_5 (by decide) (fun c_4 => ?_) (fun c_4 => ?_)
    · first | exact absurd c_4 (by decide) | exact absurd (by decide) c_4
    · rcases hx2 : bh_ix y 8 with _ | q
      · refine lv_iload_n hx hb dX4_answered_8 rfl (lv_at hl 2 rfl) ?_
        refine vp_callSi (bn_roS (As := [.int (y)]) (rest := []) ⟨hx, hb, hml, hown, hts⟩ (cm_isPlace l (y)) (va_cwS 1 hts gX4_answered_X4_isPlace rfl rfl rfl (by decide +kernel) ⟨Nat.le_of_ble_eq_true rfl, Nat.le_of_ble_eq_true rfl⟩) rfl hl.1 (Nat.le_of_ble_eq_true rfl) dX4_answered_9 ⟨Nat.le_of_ble_eq_true rfl, Nat.le_of_ble_eq_true rfl⟩) (fun r_5 er_5 => ?_)
        obtain rfl : r_5 = nI 0 := by rw [er_5, hx2]; rfl
        refine lv_if_eq (tgt := 29) hx hb dX4_answered_12 (by decide) (fun c_6 => ?_) (fun c_6 => ?_)
        · refine lv_iconst (v := -1) hx hb dX4_answered_29 (by decide) ?_
          exact bn_roti hx hb hr hlocks (by unfold bh_mansw; rw [hx1]; dsimp only; rw [hx2]) dX4_answered_30
        · first | exact absurd c_6 (by decide) | exact absurd (by decide) c_6
      · obtain ⟨hq, rfl⟩ := bh_ix_some hx2
        refine lv_iload_n hx hb dX4_answered_8 rfl (lv_at hl 2 rfl) ?_
        refine vp_callSi (bn_roS (As := [.int (nI q)]) (rest := []) ⟨hx, hb, hml, hown, hts⟩ (cm_isPlace l (nI q)) (va_cwS 1 hts gX4_answered_X4_isPlace rfl rfl rfl (by decide +kernel) ⟨Nat.le_of_ble_eq_true rfl, Nat.le_of_ble_eq_true rfl⟩) rfl hl.1 (Nat.le_of_ble_eq_true rfl) dX4_answered_9 ⟨Nat.le_of_ble_eq_true rfl, Nat.le_of_ble_eq_true rfl⟩) (fun r_7 er_7 => ?_)
        obtain rfl : r_7 = nI 1 := by rw [er_7, hx2]; rfl
        refine lv_if_eq (tgt := 29) hx hb dX4_answered_12 (by decide) (fun c_8 => ?_) (fun c_8 => ?_)
        · first | exact absurd c_8 (by decide) | exact absurd (by decide) c_8
        · refine lv_aload_n hx hb dX4_answered_15 rfl (lv_at hl 0 rfl) ?_
          refine bn_get (ci := 3) (v := .ref (ad 15)) (C := RX4) (T := TX4) (N := 31) hx hb hts hinX4 hown hK hI 0 rfl rfl 15 (by decide) lk_54 rfl (rfl) dX4_answered_16 ?_
          refine lv_bipush (v := nI 8) hx hb dX4_answered_19 (by decide) ?_
          refine lv_iload_n hx hb dX4_answered_21 rfl (lv_at hl 1 rfl) ?_
          refine bn_imul hx hb dX4_answered_22 ?_
          refine lv_iload_n hx hb dX4_answered_23 rfl (lv_at hl 2 rfl) ?_
          refine bn_iadd hx hb dX4_answered_24 ?_
          refine bn_iald (n := 200) (v := S.2.2.1 15 ((8 * b) + q)) hx hb hK hI 15 0 rfl rfl (by omega) (by decide) (rfl) dX4_answered_25 ?_
          refine lv_goto (tgt := 30) hx hb dX4_answered_26 (by decide) ?_
          exact bn_roti hx hb hr hlocks (by unfold bh_mansw; rw [hx1]; dsimp only; rw [hx2]) dX4_answered_30
set_option maxHeartbeats 4000000 in
set_option maxRecDepth 100000 in
theorem cm_said (l : Launch) (D : va_G) (c : bh_C) (h : Nat) (ad : Nat → Nat) (S : mS) (x y : Int32) (hk24 : S.1 18 ≤ 24) : Met l yX4_said wsX4_said ({ frames := 1, cells := 0, slots := 0, locals := 21 }) (va_Pc [.ref h, .int (x), .int (y)] (bh_pre D c (bh_mw h ad c (S)))) (vp_Sl (fun r => r = bh_msaid S x y)) 0 0 (fun _ => False) := by
  refine Met.ofW (cc := cX4_said) (maxL := 3) (ret := (some .long)) (by decide) rfl ?_
  intro p e s m args below meth c0 s₁ B hml hv
  obtain ⟨rfl, hP, hK, hD0⟩ := hv
  have hx := B.exec
  have hb := B.bytes
  have hr := B.returns
  have hts := atoms_spec (ws := wsX4_said) B.pre
  have hown : s.vm.findClass RX4 = some m.cls := findClass_of_methodNamed B.named
  have hlocks := B.notSynchronized
  have hinX4 : ∀ w ∈ wsX40, w ∈ wsX4_said := fun _ h => List.mem_cons_of_mem _ (List.mem_append_right _ h)
  have lk_60 : (Cond.fieldLink RX4 60 "BallotHouseModel" "says" "[J").before _ s = true := hts _ (by decide +kernel)
  have hI : bh_I D (bh_mw h ad c (S)) (fun _ => True) s.heap s.heap [] := ⟨hP, hD0, va_S.rf⟩
  have hl := lv_entry ([.ref h, .int (x), .int (y)]) (n := 3) (Nat.le_of_ble_eq_true rfl)
  rw [lg_entry_eq]
  generalize (lg_sl ([.ref h, .int (x), .int (y)]) ++ List.replicate (3 - (lg_sl ([.ref h, .int (x), .int (y)])).length) Slot.unset).toArray = ls at hl ⊢
  have hl : lv_has ls 3 [(0, .ref h), (1, .int (x)), (2, .int (y))] := hl
  rcases hx1 : bh_ixb x (S.1 18) with _ | b
  · refine lv_aload_n hx hb dX4_said_0 rfl (lv_at hl 0 rfl) ?_
    refine lv_iload_n hx hb dX4_said_1 rfl (lv_at hl 1 rfl) ?_
    refine vp_callSi (bn_roV (As := [.int (x)]) (rest := []) ⟨hx, hb, hml, hown, hts⟩ (cm_isBallot l D c h ad S (x) hk24) (cwV 1 hts gX4_said_X4_isBallot rfl rfl rfl (by decide +kernel) ⟨Nat.le_of_ble_eq_true rfl, Nat.le_of_ble_eq_true rfl⟩) hK hI 0 3 rfl rfl rfl rfl hl.1 (Nat.le_of_ble_eq_true rfl) dX4_said_2 ⟨Nat.le_of_ble_eq_true rfl, Nat.le_of_ble_eq_true rfl⟩) (fun r_1 er_1 => ?_)
    obtain rfl : r_1 = nI 0 := by rw [er_1, hx1]; rfl
    refine lv_if_eq (tgt := 29) hx hb dX4_said_5 (by decide) (fun c_2 => ?_) (fun c_2 => ?_)
    · refine lv_lconst (v := 0) hx hb dX4_said_29 (by decide) ?_
      exact bn_rotl hx hb hr hlocks (by unfold bh_msaid; rw [hx1]) dX4_said_30
    · first | exact absurd c_2 (by decide) | exact absurd (by decide) c_2
  · obtain ⟨hb1, hb2, rfl⟩ := bh_ixb_some hx1
    refine lv_aload_n hx hb dX4_said_0 rfl (lv_at hl 0 rfl) ?_
    refine lv_iload_n hx hb dX4_said_1 rfl (lv_at hl 1 rfl) ?_
    refine vp_callSi (bn_roV (As := [.int (nI b)]) (rest := []) ⟨hx, hb, hml, hown, hts⟩ (cm_isBallot l D c h ad S (nI b) hk24) (cwV 1 hts gX4_said_X4_isBallot rfl rfl rfl (by decide +kernel) ⟨Nat.le_of_ble_eq_true rfl, Nat.le_of_ble_eq_true rfl⟩) hK hI 0 3 rfl rfl rfl rfl hl.1 (Nat.le_of_ble_eq_true rfl) dX4_said_2 ⟨Nat.le_of_ble_eq_true rfl, Nat.le_of_ble_eq_true rfl⟩) (fun r_3 er_3 => ?_)
    obtain rfl : r_3 = nI 1 := by rw [er_3, hx1]; rfl
    refine lv_if_eq (tgt := 29) hx hb dX4_said_5 (by decide) (fun c_4 => ?_) (fun c_4 => ?_)
    · first | exact absurd c_4 (by decide) | exact absurd (by decide) c_4
    · rcases hx2 : bh_ix y 8 with _ | q
      · refine lv_iload_n hx hb dX4_said_8 rfl (lv_at hl 2 rfl) ?_
        refine vp_callSi (bn_roS (As := [.int (y)]) (rest := []) ⟨hx, hb, hml, hown, hts⟩ (cm_isPlace l (y)) (va_cwS 1 hts gX4_said_X4_isPlace rfl rfl rfl (by decide +kernel) ⟨Nat.le_of_ble_eq_true rfl, Nat.le_of_ble_eq_true rfl⟩) rfl hl.1 (Nat.le_of_ble_eq_true rfl) dX4_said_9 ⟨Nat.le_of_ble_eq_true rfl, Nat.le_of_ble_eq_true rfl⟩) (fun r_5 er_5 => ?_)
        obtain rfl : r_5 = nI 0 := by rw [er_5, hx2]; rfl
        refine lv_if_eq (tgt := 29) hx hb dX4_said_12 (by decide) (fun c_6 => ?_) (fun c_6 => ?_)
        · refine lv_lconst (v := 0) hx hb dX4_said_29 (by decide) ?_
          exact bn_rotl hx hb hr hlocks (by unfold bh_msaid; rw [hx1]; dsimp only; rw [hx2]) dX4_said_30
        · first | exact absurd c_6 (by decide) | exact absurd (by decide) c_6
      · obtain ⟨hq, rfl⟩ := bh_ix_some hx2
        refine lv_iload_n hx hb dX4_said_8 rfl (lv_at hl 2 rfl) ?_
        refine vp_callSi (bn_roS (As := [.int (nI q)]) (rest := []) ⟨hx, hb, hml, hown, hts⟩ (cm_isPlace l (nI q)) (va_cwS 1 hts gX4_said_X4_isPlace rfl rfl rfl (by decide +kernel) ⟨Nat.le_of_ble_eq_true rfl, Nat.le_of_ble_eq_true rfl⟩) rfl hl.1 (Nat.le_of_ble_eq_true rfl) dX4_said_9 ⟨Nat.le_of_ble_eq_true rfl, Nat.le_of_ble_eq_true rfl⟩) (fun r_7 er_7 => ?_)
        obtain rfl : r_7 = nI 1 := by rw [er_7, hx2]; rfl
        refine lv_if_eq (tgt := 29) hx hb dX4_said_12 (by decide) (fun c_8 => ?_) (fun c_8 => ?_)
        · first | exact absurd c_8 (by decide) | exact absurd (by decide) c_8
        · refine lv_aload_n hx hb dX4_said_15 rfl (lv_at hl 0 rfl) ?_
          refine bn_get (ci := 3) (v := .ref (ad 17)) (C := RX4) (T := TX4) (N := 31) hx hb hts hinX4 hown hK hI 0 rfl rfl 17 (by decide) lk_60 rfl (rfl) dX4_said_16 ?_
          refine lv_bipush (v := nI 8) hx hb dX4_said_19 (by decide) ?_
          refine lv_iload_n hx hb dX4_said_21 rfl (lv_at hl 1 rfl) ?_
          refine bn_imul hx hb dX4_said_22 ?_
          refine lv_iload_n hx hb dX4_said_23 rfl (lv_at hl 2 rfl) ?_
          refine bn_iadd hx hb dX4_said_24 ?_
          refine bn_lald (n := 200) (v := S.2.2.2 17 ((8 * b) + q)) hx hb hK hI 17 1 rfl rfl (by omega) (by decide) (rfl) dX4_said_25 ?_
          refine lv_goto (tgt := 30) hx hb dX4_said_26 (by decide) ?_
          exact bn_rotl hx hb hr hlocks (by unfold bh_msaid; rw [hx1]; dsimp only; rw [hx2]) dX4_said_30
set_option maxHeartbeats 4000000 in
set_option maxRecDepth 100000 in
theorem cm_of (l : Launch) (D : va_G) (c : bh_C) (h : Nat) (ad : Nat → Nat) (S : mS) (x y : Int32) (hk24 : S.1 18 ≤ 24) : Met l yX4_of wsX4_of ({ frames := 1, cells := 0, slots := 0, locals := 21 }) (va_Pc [.ref h, .int (x), .int (y)] (bh_pre D c (bh_mw h ad c (S)))) (vp_Si (fun r => r = bh_mof S x y)) 0 0 (fun _ => False) := by
  refine Met.ofW (cc := cX4_of) (maxL := 3) (ret := (some .int)) (by decide) rfl ?_
  intro p e s m args below meth c0 s₁ B hml hv
  obtain ⟨rfl, hP, hK, hD0⟩ := hv
  have hx := B.exec
  have hb := B.bytes
  have hr := B.returns
  have hts := atoms_spec (ws := wsX4_of) B.pre
  have hown : s.vm.findClass RX4 = some m.cls := findClass_of_methodNamed B.named
  have hlocks := B.notSynchronized
  have hinX4 : ∀ w ∈ wsX40, w ∈ wsX4_of := fun _ h => List.mem_cons_of_mem _ (List.mem_append_right _ h)
  have lk_24 : (Cond.fieldLink RX4 24 "BallotHouseModel" "state" "[I").before _ s = true := hts _ (by decide +kernel)
  have lk_27 : (Cond.fieldLink RX4 27 "BallotHouseModel" "members" "[I").before _ s = true := hts _ (by decide +kernel)
  have lk_30 : (Cond.fieldLink RX4 30 "BallotHouseModel" "reads" "[I").before _ s = true := hts _ (by decide +kernel)
  have lk_33 : (Cond.fieldLink RX4 33 "BallotHouseModel" "writes" "[I").before _ s = true := hts _ (by decide +kernel)
  have lk_36 : (Cond.fieldLink RX4 36 "BallotHouseModel" "behind" "[I").before _ s = true := hts _ (by decide +kernel)
  have lk_39 : (Cond.fieldLink RX4 39 "BallotHouseModel" "readers" "[I").before _ s = true := hts _ (by decide +kernel)
  have lk_42 : (Cond.fieldLink RX4 42 "BallotHouseModel" "found" "[I").before _ s = true := hts _ (by decide +kernel)
  have lk_45 : (Cond.fieldLink RX4 45 "BallotHouseModel" "proposed" "[I").before _ s = true := hts _ (by decide +kernel)
  have lk_48 : (Cond.fieldLink RX4 48 "BallotHouseModel" "known" "[I").before _ s = true := hts _ (by decide +kernel)
  have hI : bh_I D (bh_mw h ad c (S)) (fun _ => True) s.heap s.heap [] := ⟨hP, hD0, va_S.rf⟩
  have hl := lv_entry ([.ref h, .int (x), .int (y)]) (n := 3) (Nat.le_of_ble_eq_true rfl)
  rw [lg_entry_eq]
  generalize (lg_sl ([.ref h, .int (x), .int (y)]) ++ List.replicate (3 - (lg_sl ([.ref h, .int (x), .int (y)])).length) Slot.unset).toArray = ls at hl ⊢
  have hl : lv_has ls 3 [(0, .ref h), (1, .int (x)), (2, .int (y))] := hl
  rcases hx1 : bh_ixb x (S.1 18) with _ | b
  · refine lv_aload_n hx hb dX4_of_0 rfl (lv_at hl 0 rfl) ?_
    refine lv_iload_n hx hb dX4_of_1 rfl (lv_at hl 1 rfl) ?_
    refine vp_callSi (bn_roV (As := [.int (x)]) (rest := []) ⟨hx, hb, hml, hown, hts⟩ (cm_isBallot l D c h ad S (x) hk24) (cwV 1 hts gX4_of_X4_isBallot rfl rfl rfl (by decide +kernel) ⟨Nat.le_of_ble_eq_true rfl, Nat.le_of_ble_eq_true rfl⟩) hK hI 0 3 rfl rfl rfl rfl hl.1 (Nat.le_of_ble_eq_true rfl) dX4_of_2 ⟨Nat.le_of_ble_eq_true rfl, Nat.le_of_ble_eq_true rfl⟩) (fun r_1 er_1 => ?_)
    obtain rfl : r_1 = nI 0 := by rw [er_1, hx1]; rfl
    refine lv_if_ne (tgt := 10) hx hb dX4_of_5 (by decide) (fun c_2 => ?_) (fun c_2 => ?_)
    · first | exact absurd c_2 (by decide) | exact absurd (by decide) c_2
    · refine lv_iconst (v := -1) hx hb dX4_of_8 (by decide) ?_
      exact bn_roti hx hb hr hlocks (by unfold bh_mof; rw [hx1]) dX4_of_9
  · obtain ⟨hb1, hb2, rfl⟩ := bh_ixb_some hx1
    refine lv_aload_n hx hb dX4_of_0 rfl (lv_at hl 0 rfl) ?_
    refine lv_iload_n hx hb dX4_of_1 rfl (lv_at hl 1 rfl) ?_
    refine vp_callSi (bn_roV (As := [.int (nI b)]) (rest := []) ⟨hx, hb, hml, hown, hts⟩ (cm_isBallot l D c h ad S (nI b) hk24) (cwV 1 hts gX4_of_X4_isBallot rfl rfl rfl (by decide +kernel) ⟨Nat.le_of_ble_eq_true rfl, Nat.le_of_ble_eq_true rfl⟩) hK hI 0 3 rfl rfl rfl rfl hl.1 (Nat.le_of_ble_eq_true rfl) dX4_of_2 ⟨Nat.le_of_ble_eq_true rfl, Nat.le_of_ble_eq_true rfl⟩) (fun r_3 er_3 => ?_)
    obtain rfl : r_3 = nI 1 := by rw [er_3, hx1]; rfl
    refine lv_if_ne (tgt := 10) hx hb dX4_of_5 (by decide) (fun c_4 => ?_) (fun c_4 => ?_)
    · rcases hx2 : bh_ix y 9 with _ | j
      · refine lv_iload_n hx hb dX4_of_10 rfl (lv_at hl 2 rfl) ?_
        refine lv_tableOut (tgt := 123) hx hb dX4_of_11 (by have := bh_ix_none hx2; omega) (by decide) ?_
        refine lv_iconst (v := -1) hx hb dX4_of_123 (by decide) ?_
        exact bn_roti hx hb hr hlocks (by unfold bh_mof; rw [hx1]; dsimp only; rw [hx2]) dX4_of_124
      · obtain ⟨hj, rfl⟩ := bh_ix_some hx2
        refine lv_iload_n hx hb dX4_of_10 rfl (lv_at hl 2 rfl) ?_
        rcases (show j = 0 ∨ j = 1 ∨ j = 2 ∨ j = 3 ∨ j = 4 ∨ j = 5 ∨ j = 6 ∨ j = 7 ∨ j = 8 by omega) with rfl | rfl | rfl | rfl | rfl | rfl | rfl | rfl | rfl
        · refine lv_tableIn (tgt := 60) hx hb dX4_of_11 (by decide) (by decide) rfl (by decide) ?_
          refine lv_aload_n hx hb dX4_of_60 rfl (lv_at hl 0 rfl) ?_
          refine bn_get (ci := 3) (v := .ref (ad 5)) (C := RX4) (T := TX4) (N := 31) hx hb hts hinX4 hown hK hI 0 rfl rfl 5 (by decide) lk_24 rfl (rfl) dX4_of_61 ?_
          refine lv_iload_n hx hb dX4_of_64 rfl (lv_at hl 1 rfl) ?_
          refine bn_iald (n := 25) (v := S.2.2.1 5 b) hx hb hK hI 5 0 rfl rfl (by omega) (by decide) (rfl) dX4_of_65 ?_
          exact bn_roti hx hb hr hlocks (by unfold bh_mof; rw [hx1]; dsimp only; rw [hx2]) dX4_of_66
        · refine lv_tableIn (tgt := 67) hx hb dX4_of_11 (by decide) (by decide) rfl (by decide) ?_
          refine lv_aload_n hx hb dX4_of_67 rfl (lv_at hl 0 rfl) ?_
          refine bn_get (ci := 3) (v := .ref (ad 6)) (C := RX4) (T := TX4) (N := 31) hx hb hts hinX4 hown hK hI 0 rfl rfl 6 (by decide) lk_27 rfl (rfl) dX4_of_68 ?_
          refine lv_iload_n hx hb dX4_of_71 rfl (lv_at hl 1 rfl) ?_
          refine bn_iald (n := 25) (v := S.2.2.1 6 b) hx hb hK hI 6 0 rfl rfl (by omega) (by decide) (rfl) dX4_of_72 ?_
          exact bn_roti hx hb hr hlocks (by unfold bh_mof; rw [hx1]; dsimp only; rw [hx2]) dX4_of_73
        · refine lv_tableIn (tgt := 74) hx hb dX4_of_11 (by decide) (by decide) rfl (by decide) ?_
          refine lv_aload_n hx hb dX4_of_74 rfl (lv_at hl 0 rfl) ?_
          refine bn_get (ci := 3) (v := .ref (ad 7)) (C := RX4) (T := TX4) (N := 31) hx hb hts hinX4 hown hK hI 0 rfl rfl 7 (by decide) lk_30 rfl (rfl) dX4_of_75 ?_
          refine lv_iload_n hx hb dX4_of_78 rfl (lv_at hl 1 rfl) ?_
          refine bn_iald (n := 25) (v := S.2.2.1 7 b) hx hb hK hI 7 0 rfl rfl (by omega) (by decide) (rfl) dX4_of_79 ?_
          exact bn_roti hx hb hr hlocks (by unfold bh_mof; rw [hx1]; dsimp only; rw [hx2]) dX4_of_80
        · refine lv_tableIn (tgt := 81) hx hb dX4_of_11 (by decide) (by decide) rfl (by decide) ?_
          refine lv_aload_n hx hb dX4_of_81 rfl (lv_at hl 0 rfl) ?_
          refine bn_get (ci := 3) (v := .ref (ad 8)) (C := RX4) (T := TX4) (N := 31) hx hb hts hinX4 hown hK hI 0 rfl rfl 8 (by decide) lk_33 rfl (rfl) dX4_of_82 ?_
          refine lv_iload_n hx hb dX4_of_85 rfl (lv_at hl 1 rfl) ?_
          refine bn_iald (n := 25) (v := S.2.2.1 8 b) hx hb hK hI 8 0 rfl rfl (by omega) (by decide) (rfl) dX4_of_86 ?_
          exact bn_roti hx hb hr hlocks (by unfold bh_mof; rw [hx1]; dsimp only; rw [hx2]) dX4_of_87
        · refine lv_tableIn (tgt := 88) hx hb dX4_of_11 (by decide) (by decide) rfl (by decide) ?_
          refine lv_aload_n hx hb dX4_of_88 rfl (lv_at hl 0 rfl) ?_
          refine bn_get (ci := 3) (v := .ref (ad 9)) (C := RX4) (T := TX4) (N := 31) hx hb hts hinX4 hown hK hI 0 rfl rfl 9 (by decide) lk_36 rfl (rfl) dX4_of_89 ?_
          refine lv_iload_n hx hb dX4_of_92 rfl (lv_at hl 1 rfl) ?_
          refine bn_iald (n := 25) (v := S.2.2.1 9 b) hx hb hK hI 9 0 rfl rfl (by omega) (by decide) (rfl) dX4_of_93 ?_
          exact bn_roti hx hb hr hlocks (by unfold bh_mof; rw [hx1]; dsimp only; rw [hx2]) dX4_of_94
        · refine lv_tableIn (tgt := 95) hx hb dX4_of_11 (by decide) (by decide) rfl (by decide) ?_
          refine lv_aload_n hx hb dX4_of_95 rfl (lv_at hl 0 rfl) ?_
          refine bn_get (ci := 3) (v := .ref (ad 10)) (C := RX4) (T := TX4) (N := 31) hx hb hts hinX4 hown hK hI 0 rfl rfl 10 (by decide) lk_39 rfl (rfl) dX4_of_96 ?_
          refine lv_iload_n hx hb dX4_of_99 rfl (lv_at hl 1 rfl) ?_
          refine bn_iald (n := 25) (v := S.2.2.1 10 b) hx hb hK hI 10 0 rfl rfl (by omega) (by decide) (rfl) dX4_of_100 ?_
          exact bn_roti hx hb hr hlocks (by unfold bh_mof; rw [hx1]; dsimp only; rw [hx2]) dX4_of_101
        · refine lv_tableIn (tgt := 102) hx hb dX4_of_11 (by decide) (by decide) rfl (by decide) ?_
          refine lv_aload_n hx hb dX4_of_102 rfl (lv_at hl 0 rfl) ?_
          refine bn_get (ci := 3) (v := .ref (ad 11)) (C := RX4) (T := TX4) (N := 31) hx hb hts hinX4 hown hK hI 0 rfl rfl 11 (by decide) lk_42 rfl (rfl) dX4_of_103 ?_
          refine lv_iload_n hx hb dX4_of_106 rfl (lv_at hl 1 rfl) ?_
          refine bn_iald (n := 25) (v := S.2.2.1 11 b) hx hb hK hI 11 0 rfl rfl (by omega) (by decide) (rfl) dX4_of_107 ?_
          exact bn_roti hx hb hr hlocks (by unfold bh_mof; rw [hx1]; dsimp only; rw [hx2]) dX4_of_108
        · refine lv_tableIn (tgt := 109) hx hb dX4_of_11 (by decide) (by decide) rfl (by decide) ?_
          refine lv_aload_n hx hb dX4_of_109 rfl (lv_at hl 0 rfl) ?_
          refine bn_get (ci := 3) (v := .ref (ad 12)) (C := RX4) (T := TX4) (N := 31) hx hb hts hinX4 hown hK hI 0 rfl rfl 12 (by decide) lk_45 rfl (rfl) dX4_of_110 ?_
          refine lv_iload_n hx hb dX4_of_113 rfl (lv_at hl 1 rfl) ?_
          refine bn_iald (n := 25) (v := S.2.2.1 12 b) hx hb hK hI 12 0 rfl rfl (by omega) (by decide) (rfl) dX4_of_114 ?_
          exact bn_roti hx hb hr hlocks (by unfold bh_mof; rw [hx1]; dsimp only; rw [hx2]) dX4_of_115
        · refine lv_tableIn (tgt := 116) hx hb dX4_of_11 (by decide) (by decide) rfl (by decide) ?_
          refine lv_aload_n hx hb dX4_of_116 rfl (lv_at hl 0 rfl) ?_
          refine bn_get (ci := 3) (v := .ref (ad 13)) (C := RX4) (T := TX4) (N := 31) hx hb hts hinX4 hown hK hI 0 rfl rfl 13 (by decide) lk_48 rfl (rfl) dX4_of_117 ?_
          refine lv_iload_n hx hb dX4_of_120 rfl (lv_at hl 1 rfl) ?_
          refine bn_iald (n := 25) (v := S.2.2.1 13 b) hx hb hK hI 13 0 rfl rfl (by omega) (by decide) (rfl) dX4_of_121 ?_
          exact bn_roti hx hb hr hlocks (by unfold bh_mof; rw [hx1]; dsimp only; rw [hx2]) dX4_of_122
    · first | exact absurd c_4 (by decide) | exact absurd (by decide) c_4
set_option maxHeartbeats 4000000 in
set_option maxRecDepth 100000 in
theorem cm_about (l : Launch) (D : va_G) (c : bh_C) (h : Nat) (ad : Nat → Nat) (S : mS) (x : Int32) : Met l yX4_about wsX4_about ({ frames := 0, cells := 0, slots := 0, locals := 0 }) (va_Pc [.ref h, .int (x)] (bh_pre D c (bh_mw h ad c (S)))) (vp_Si (fun r => r = bh_mabo S x)) 0 0 (fun _ => False) := by
  refine Met.ofW (cc := cX4_about) (maxL := 2) (ret := (some .int)) (by decide) rfl ?_
  intro p e s m args below meth c0 s₁ B hml hv
  obtain ⟨rfl, hP, hK, hD0⟩ := hv
  have hx := B.exec
  have hb := B.bytes
  have hr := B.returns
  have hts := atoms_spec (ws := wsX4_about) B.pre
  have hown : s.vm.findClass RX4 = some m.cls := findClass_of_methodNamed B.named
  have hlocks := B.notSynchronized
  have hinX4 : ∀ w ∈ wsX40, w ∈ wsX4_about := fun _ h => List.mem_cons_of_mem _ (List.mem_append_right _ h)
  have lk_90 : (Cond.fieldLink RX4 90 "BallotHouseModel" "voters" "I").before _ s = true := hts _ (by decide +kernel)
  have lk_94 : (Cond.fieldLink RX4 94 "BallotHouseModel" "ballots" "I").before _ s = true := hts _ (by decide +kernel)
  have lk_97 : (Cond.fieldLink RX4 97 "BallotHouseModel" "air" "I").before _ s = true := hts _ (by decide +kernel)
  have lk_100 : (Cond.fieldLink RX4 100 "BallotHouseModel" "lost" "I").before _ s = true := hts _ (by decide +kernel)
  have lk_111 : (Cond.fieldLink RX4 111 "BallotHouseModel" "complete" "I").before _ s = true := hts _ (by decide +kernel)
  have hI : bh_I D (bh_mw h ad c (S)) (fun _ => True) s.heap s.heap [] := ⟨hP, hD0, va_S.rf⟩
  have hl := lv_entry ([.ref h, .int (x)]) (n := 2) (Nat.le_of_ble_eq_true rfl)
  rw [lg_entry_eq]
  generalize (lg_sl ([.ref h, .int (x)]) ++ List.replicate (2 - (lg_sl ([.ref h, .int (x)])).length) Slot.unset).toArray = ls at hl ⊢
  have hl : lv_has ls 2 [(0, .ref h), (1, .int (x))] := hl
  rcases hx1 : bh_ix x 5 with _ | j
  · refine lv_iload_n hx hb dX4_about_0 rfl (lv_at hl 1 rfl) ?_
    refine lv_tableOut (tgt := 61) hx hb dX4_about_1 (by have := bh_ix_none hx1; omega) (by decide) ?_
    refine lv_iconst (v := -1) hx hb dX4_about_61 (by decide) ?_
    exact bn_roti hx hb hr hlocks (by unfold bh_mabo; rw [hx1]) dX4_about_62
  · obtain ⟨hj, rfl⟩ := bh_ix_some hx1
    refine lv_iload_n hx hb dX4_about_0 rfl (lv_at hl 1 rfl) ?_
    rcases (show j = 0 ∨ j = 1 ∨ j = 2 ∨ j = 3 ∨ j = 4 by omega) with rfl | rfl | rfl | rfl | rfl
    · refine lv_tableIn (tgt := 36) hx hb dX4_about_1 (by decide) (by decide) rfl (by decide) ?_
      refine lv_aload_n hx hb dX4_about_36 rfl (lv_at hl 0 rfl) ?_
      refine bn_get (ci := 3) (v := .int (nI (S.1 0))) (C := RX4) (T := TX4) (N := 31) hx hb hts hinX4 hown hK hI 0 rfl rfl 0 (by decide) lk_90 rfl (rfl) dX4_about_37 ?_
      exact bn_roti hx hb hr hlocks (by unfold bh_mabo; rw [hx1]; rfl) dX4_about_40
    · refine lv_tableIn (tgt := 41) hx hb dX4_about_1 (by decide) (by decide) rfl (by decide) ?_
      refine lv_aload_n hx hb dX4_about_41 rfl (lv_at hl 0 rfl) ?_
      refine bn_get (ci := 3) (v := .int (nI (S.1 18))) (C := RX4) (T := TX4) (N := 31) hx hb hts hinX4 hown hK hI 0 rfl rfl 18 (by decide) lk_94 rfl (rfl) dX4_about_42 ?_
      exact bn_roti hx hb hr hlocks (by unfold bh_mabo; rw [hx1]; rfl) dX4_about_45
    · refine lv_tableIn (tgt := 46) hx hb dX4_about_1 (by decide) (by decide) rfl (by decide) ?_
      refine lv_aload_n hx hb dX4_about_46 rfl (lv_at hl 0 rfl) ?_
      refine bn_get (ci := 3) (v := .int (S.2.1 19)) (C := RX4) (T := TX4) (N := 31) hx hb hts hinX4 hown hK hI 0 rfl rfl 19 (by decide) lk_111 rfl (rfl) dX4_about_47 ?_
      exact bn_roti hx hb hr hlocks (by unfold bh_mabo; rw [hx1]; rfl) dX4_about_50
    · refine lv_tableIn (tgt := 51) hx hb dX4_about_1 (by decide) (by decide) rfl (by decide) ?_
      refine lv_aload_n hx hb dX4_about_51 rfl (lv_at hl 0 rfl) ?_
      refine bn_get (ci := 3) (v := .int (nI (S.1 28))) (C := RX4) (T := TX4) (N := 31) hx hb hts hinX4 hown hK hI 0 rfl rfl 28 (by decide) lk_97 rfl (rfl) dX4_about_52 ?_
      exact bn_roti hx hb hr hlocks (by unfold bh_mabo; rw [hx1]; rfl) dX4_about_55
    · refine lv_tableIn (tgt := 56) hx hb dX4_about_1 (by decide) (by decide) rfl (by decide) ?_
      refine lv_aload_n hx hb dX4_about_56 rfl (lv_at hl 0 rfl) ?_
      refine bn_get (ci := 3) (v := .int (S.2.1 20)) (C := RX4) (T := TX4) (N := 31) hx hb hts hinX4 hown hK hI 0 rfl rfl 20 (by decide) lk_100 rfl (rfl) dX4_about_57 ?_
      exact bn_roti hx hb hr hlocks (by unfold bh_mabo; rw [hx1]; rfl) dX4_about_60
set_option maxHeartbeats 4000000 in
set_option maxRecDepth 100000 in
theorem cm_air (l : Launch) (D : va_G) (c : bh_C) (h : Nat) (ad : Nat → Nat) (S : mS) (x y : Int32) (ha : S.1 28 ≤ 400) : Met l yX4_air wsX4_air ({ frames := 0, cells := 0, slots := 0, locals := 0 }) (va_Pc [.ref h, .int (x), .int (y)] (bh_pre D c (bh_mw h ad c (S)))) (vp_Si (fun r => r = bh_mair S x y)) 0 0 (fun _ => False) := by
  refine Met.ofW (cc := cX4_air) (maxL := 5) (ret := (some .int)) (by decide) rfl ?_
  intro p e s m args below meth c0 s₁ B hml hv
  obtain ⟨rfl, hP, hK, hD0⟩ := hv
  have hx := B.exec
  have hb := B.bytes
  have hr := B.returns
  have hts := atoms_spec (ws := wsX4_air) B.pre
  have hown : s.vm.findClass RX4 = some m.cls := findClass_of_methodNamed B.named
  have hlocks := B.notSynchronized
  have hinX4 : ∀ w ∈ wsX40, w ∈ wsX4_air := fun _ h => List.mem_cons_of_mem _ (List.mem_append_right _ h)
  have lk_63 : (Cond.fieldLink RX4 63 "BallotHouseModel" "airKind" "[I").before _ s = true := hts _ (by decide +kernel)
  have lk_66 : (Cond.fieldLink RX4 66 "BallotHouseModel" "airBallot" "[I").before _ s = true := hts _ (by decide +kernel)
  have lk_69 : (Cond.fieldLink RX4 69 "BallotHouseModel" "airVoter" "[I").before _ s = true := hts _ (by decide +kernel)
  have lk_72 : (Cond.fieldLink RX4 72 "BallotHouseModel" "airPlace" "[I").before _ s = true := hts _ (by decide +kernel)
  have lk_75 : (Cond.fieldLink RX4 75 "BallotHouseModel" "airVote" "[I").before _ s = true := hts _ (by decide +kernel)
  have lk_97 : (Cond.fieldLink RX4 97 "BallotHouseModel" "air" "I").before _ s = true := hts _ (by decide +kernel)
  have hI : bh_I D (bh_mw h ad c (S)) (fun _ => True) s.heap s.heap [] := ⟨hP, hD0, va_S.rf⟩
  have hl := lv_entry ([.ref h, .int (x), .int (y)]) (n := 5) (Nat.le_of_ble_eq_true rfl)
  rw [lg_entry_eq]
  generalize (lg_sl ([.ref h, .int (x), .int (y)]) ++ List.replicate (5 - (lg_sl ([.ref h, .int (x), .int (y)])).length) Slot.unset).toArray = ls at hl ⊢
  have hl : lv_has ls 5 [(0, .ref h), (1, .int (x)), (2, .int (y))] := hl
  rcases hx1 : bh_ix x (S.1 28) with _ | k
  · refine lv_iload_n hx hb dX4_air_0 rfl (lv_at hl 1 rfl) ?_
    refine lv_if_lt (tgt := 12) hx hb dX4_air_1 (by decide) (fun c_1 => ?_) (fun c_1 => ?_)
    · refine lv_iconst (v := -1) hx hb dX4_air_12 (by decide) ?_
      exact bn_roti hx hb hr hlocks (by unfold bh_mair; rw [hx1]) dX4_air_13
    · refine lv_iload_n hx hb dX4_air_4 rfl (lv_at hl 1 rfl) ?_
      refine lv_aload_n hx hb dX4_air_5 rfl (lv_at hl 0 rfl) ?_
      refine bn_get (ci := 3) (v := .int (nI (S.1 28))) (C := RX4) (T := TX4) (N := 31) hx hb hts hinX4 hown hK hI 0 rfl rfl 28 (by decide) lk_97 rfl (rfl) dX4_air_6 ?_
      refine lv_icmp_lt (tgt := 14) hx hb dX4_air_9 (by decide) (fun c_2 => ?_) (fun c_2 => ?_)
      · exfalso
        have q1 := bh_ix_none hx1
        have q2 := c_1
        have q3 := c_2
        simp only [bh_ltI, bh_leI, bh_t0, nI_toInt (show S.1 28 < 2 ^ 31 by omega)] at q2 q3
        omega
      · refine lv_iconst (v := -1) hx hb dX4_air_12 (by decide) ?_
        exact bn_roti hx hb hr hlocks (by unfold bh_mair; rw [hx1]) dX4_air_13
  · obtain ⟨hk, rfl⟩ := bh_ix_some hx1
    refine lv_iload_n hx hb dX4_air_0 rfl (lv_at hl 1 rfl) ?_
    refine lv_if_lt (tgt := 12) hx hb dX4_air_1 (by decide) (fun c_3 => ?_) (fun c_3 => ?_)
    · exact absurd c_3 (nI_pos (by omega))
    · refine lv_iload_n hx hb dX4_air_4 rfl (lv_at hl 1 rfl) ?_
      refine lv_aload_n hx hb dX4_air_5 rfl (lv_at hl 0 rfl) ?_
      refine bn_get (ci := 3) (v := .int (nI (S.1 28))) (C := RX4) (T := TX4) (N := 31) hx hb hts hinX4 hown hK hI 0 rfl rfl 28 (by decide) lk_97 rfl (rfl) dX4_air_6 ?_
      refine bn_cmp_lt (tgt := 14) hx hb (by omega) (by omega) dX4_air_9 (by decide) (fun c_4 => ?_) (fun c_4 => ?_)
      · rcases hx2 : bh_ix y 5 with _ | j
        · refine lv_iload_n hx hb dX4_air_14 rfl (lv_at hl 2 rfl) ?_
          refine lv_tableOut (tgt := 122) hx hb dX4_air_15 (by have := bh_ix_none hx2; omega) (by decide) ?_
          refine lv_iconst (v := -1) hx hb dX4_air_122 (by decide) ?_
          exact bn_roti hx hb hr hlocks (by unfold bh_mair; rw [hx1]; dsimp only; rw [hx2]) dX4_air_123
        · obtain ⟨hj, rfl⟩ := bh_ix_some hx2
          refine lv_iload_n hx hb dX4_air_14 rfl (lv_at hl 2 rfl) ?_
          rcases (show j = 0 ∨ j = 1 ∨ j = 2 ∨ j = 3 ∨ j = 4 by omega) with rfl | rfl | rfl | rfl | rfl
          · refine lv_tableIn (tgt := 48) hx hb dX4_air_15 (by decide) (by decide) rfl (by decide) ?_
            refine lv_aload_n hx hb dX4_air_48 rfl (lv_at hl 0 rfl) ?_
            refine bn_get (ci := 3) (v := .ref (ad 21)) (C := RX4) (T := TX4) (N := 31) hx hb hts hinX4 hown hK hI 0 rfl rfl 21 (by decide) lk_63 rfl (rfl) dX4_air_49 ?_
            refine lv_iload_n hx hb dX4_air_52 rfl (lv_at hl 1 rfl) ?_
            refine bn_iald (n := 400) (v := S.2.2.1 21 k) hx hb hK hI 18 0 rfl rfl (by omega) (by decide) (rfl) dX4_air_53 ?_
            exact bn_roti hx hb hr hlocks (by unfold bh_mair; rw [hx1]; dsimp only; rw [hx2]; rfl) dX4_air_54
          · refine lv_tableIn (tgt := 55) hx hb dX4_air_15 (by decide) (by decide) rfl (by decide) ?_
            refine lv_aload_n hx hb dX4_air_55 rfl (lv_at hl 0 rfl) ?_
            refine bn_get (ci := 3) (v := .ref (ad 22)) (C := RX4) (T := TX4) (N := 31) hx hb hts hinX4 hown hK hI 0 rfl rfl 22 (by decide) lk_66 rfl (rfl) dX4_air_56 ?_
            refine lv_iload_n hx hb dX4_air_59 rfl (lv_at hl 1 rfl) ?_
            refine bn_iald (n := 400) (v := S.2.2.1 22 k) hx hb hK hI 19 0 rfl rfl (by omega) (by decide) (rfl) dX4_air_60 ?_
            exact bn_roti hx hb hr hlocks (by unfold bh_mair; rw [hx1]; dsimp only; rw [hx2]; rfl) dX4_air_61
          · refine lv_tableIn (tgt := 62) hx hb dX4_air_15 (by decide) (by decide) rfl (by decide) ?_
            refine lv_aload_n hx hb dX4_air_62 rfl (lv_at hl 0 rfl) ?_
            refine bn_get (ci := 3) (v := .ref (ad 23)) (C := RX4) (T := TX4) (N := 31) hx hb hts hinX4 hown hK hI 0 rfl rfl 23 (by decide) lk_69 rfl (rfl) dX4_air_63 ?_
            refine lv_iload_n hx hb dX4_air_66 rfl (lv_at hl 1 rfl) ?_
            refine bn_iald (n := 400) (v := S.2.2.1 23 k) hx hb hK hI 20 0 rfl rfl (by omega) (by decide) (rfl) dX4_air_67 ?_
            exact bn_roti hx hb hr hlocks (by unfold bh_mair; rw [hx1]; dsimp only; rw [hx2]; rfl) dX4_air_68
          · refine lv_tableIn (tgt := 69) hx hb dX4_air_15 (by decide) (by decide) rfl (by decide) ?_
            refine lv_aload_n hx hb dX4_air_69 rfl (lv_at hl 0 rfl) ?_
            refine bn_get (ci := 3) (v := .ref (ad 24)) (C := RX4) (T := TX4) (N := 31) hx hb hts hinX4 hown hK hI 0 rfl rfl 24 (by decide) lk_72 rfl (rfl) dX4_air_70 ?_
            refine lv_iload_n hx hb dX4_air_73 rfl (lv_at hl 1 rfl) ?_
            refine bn_iald (n := 400) (v := S.2.2.1 24 k) hx hb hK hI 21 0 rfl rfl (by omega) (by decide) (rfl) dX4_air_74 ?_
            exact bn_roti hx hb hr hlocks (by unfold bh_mair; rw [hx1]; dsimp only; rw [hx2]; rfl) dX4_air_75
          · refine lv_tableIn (tgt := 76) hx hb dX4_air_15 (by decide) (by decide) rfl (by decide) ?_
            refine lv_iconst (v := nI 0) hx hb dX4_air_76 (by decide) ?_
            refine lv_istore_n (lv' := [(3, .int (nI 0)), (0, .ref h), (1, .int (nI k)), (2, .int (nI 4))]) hx hb dX4_air_77 rfl hl (by decide) rfl (fun ls hl => ?_)
            refine lv_iconst (v := nI 0) hx hb dX4_air_78 (by decide) ?_
            refine lv_istore (lv' := [(4, .int (nI 0)), (3, .int (nI 0)), (0, .ref h), (1, .int (nI k)), (2, .int (nI 4))]) hx hb dX4_air_79 hl (by decide) rfl (fun ls hl => ?_)
            refine bh_loop (σ := Nat) (fun (q : Nat) H locs ls => H = s.heap ∧ locs = [] ∧ q ≤ 8 ∧ lv_has ls 5 [(4, .int (nI q)), (3, .int (bh_abL S k q)), (0, .ref h), (1, .int (nI k))]) (fun (q : Nat) => 8 - q) (fun q H locs ls hx_5 ih_5 => ?_) 0 _ _ _ ⟨rfl, rfl, Nat.zero_le 8, lv_sub hl [0, 1, 2, 3] rfl⟩
            clear hl
            obtain ⟨rfl, rfl, hq, hl⟩ := hx_5
            refine lv_iload hx hb dX4_air_81 (lv_at hl 0 rfl) ?_
            refine lv_bipush (v := nI 8) hx hb dX4_air_83 (by decide) ?_
            refine bn_cmp_ge (tgt := 120) hx hb (by omega) (by omega) dX4_air_85 (by decide) (fun c_6 => ?_) (fun c_6 => ?_)
            · refine lv_iload_n hx hb dX4_air_120 rfl (lv_at hl 1 rfl) ?_
              exact bn_roti hx hb hr hlocks (by unfold bh_mair; rw [hx1]; dsimp only; rw [hx2]; show _ = bh_abL S k 8; rw [show q = 8 by omega]) dX4_air_121
            · refine lv_iload_n hx hb dX4_air_88 rfl (lv_at hl 1 rfl) ?_
              refine lv_aload_n hx hb dX4_air_89 rfl (lv_at hl 2 rfl) ?_
              refine bn_get (ci := 3) (v := .ref (ad 25)) (C := RX4) (T := TX4) (N := 31) hx hb hts hinX4 hown hK hI 0 rfl rfl 25 (by decide) lk_75 rfl (rfl) dX4_air_90 ?_
              refine lv_bipush (v := nI 8) hx hb dX4_air_93 (by decide) ?_
              refine lv_iload_n hx hb dX4_air_95 rfl (lv_at hl 3 rfl) ?_
              refine bn_imul hx hb dX4_air_96 ?_
              refine lv_iload hx hb dX4_air_97 (lv_at hl 0 rfl) ?_
              refine bn_iadd hx hb dX4_air_99 ?_
              refine bn_iald (n := 3200) (v := S.2.2.1 25 ((8 * k) + q)) hx hb hK hI 22 0 rfl rfl (by omega) (by decide) (rfl) dX4_air_100 ?_
              refine lv_if_le (tgt := 111) hx hb dX4_air_101 (by decide) (fun c_7 => ?_) (fun c_7 => ?_)
              · refine lv_iconst (v := nI 0) hx hb dX4_air_111 (by decide) ?_
                refine lv_topi (fun z_8 ez_8 => ?_)
                obtain rfl : z_8 = if 0 < S.2.2.1 25 (8 * k + q) then bh_bit q else nI 0 := ez_8.trans ((if_neg (Int32.not_lt.mpr c_7)).symm)
                refine lv_ior hx hb dX4_air_112 ?_
                refine lv_istore_n (lv' := [(3, .int ((bh_abL S k q) ||| (if 0 < S.2.2.1 25 (8 * k + q) then bh_bit q else nI 0))), (4, .int (nI q)), (0, .ref h), (1, .int (nI k))]) hx hb dX4_air_113 rfl hl (by decide) rfl (fun ls hl => ?_)
                refine lv_iinc (v := nI (q + 1)) (lv' := [(4, .int (nI (q + 1))), (3, .int ((bh_abL S k q) ||| (if 0 < S.2.2.1 25 (8 * k + q) then bh_bit q else nI 0))), (0, .ref h), (1, .int (nI k))]) hx hb dX4_air_114 hl (k := 1) rfl (nI_1 _) (by decide) rfl (fun ls hl => ?_)
                refine lv_goto (tgt := 81) hx hb dX4_air_117 (by decide) ?_
                exact ih_5 (q + 1) _ _ _ ⟨rfl, rfl, by omega, lv_sub hl [0, 1, 2, 3] rfl⟩ (by show 8 - (q + 1) < 8 - q; omega)
              · refine lv_iconst (v := nI 1) hx hb dX4_air_104 (by decide) ?_
                refine lv_iload hx hb dX4_air_105 (lv_at hl 0 rfl) ?_
                refine lv_ishl hx hb dX4_air_107 ?_
                refine lv_topi (fun z_9 ez_9 => ?_)
                obtain rfl : z_9 = if 0 < S.2.2.1 25 (8 * k + q) then bh_bit q else nI 0 := ez_9.trans ((if_pos (Int32.not_le.mp c_7)).symm)
                refine lv_goto (tgt := 112) hx hb dX4_air_108 (by decide) ?_
                refine lv_ior hx hb dX4_air_112 ?_
                refine lv_istore_n (lv' := [(3, .int ((bh_abL S k q) ||| (if 0 < S.2.2.1 25 (8 * k + q) then bh_bit q else nI 0))), (4, .int (nI q)), (0, .ref h), (1, .int (nI k))]) hx hb dX4_air_113 rfl hl (by decide) rfl (fun ls hl => ?_)
                refine lv_iinc (v := nI (q + 1)) (lv' := [(4, .int (nI (q + 1))), (3, .int ((bh_abL S k q) ||| (if 0 < S.2.2.1 25 (8 * k + q) then bh_bit q else nI 0))), (0, .ref h), (1, .int (nI k))]) hx hb dX4_air_114 hl (k := 1) rfl (nI_1 _) (by decide) rfl (fun ls hl => ?_)
                refine lv_goto (tgt := 81) hx hb dX4_air_117 (by decide) ?_
                exact ih_5 (q + 1) _ _ _ ⟨rfl, rfl, by omega, lv_sub hl [0, 1, 2, 3] rfl⟩ (by show 8 - (q + 1) < 8 - q; omega)
      · exact absurd c_4 (by omega)
set_option maxHeartbeats 4000000 in
set_option maxRecDepth 100000 in
theorem cm_isChosen (l : Launch) (D : va_G) (c : bh_C) (h : Nat) (ad : Nat → Nat) (S : mS) (b q : Nat) (h24 : b ≤ 24) (hq : q < 8) : Met l yX4_isChosen wsX4_isChosen ({ frames := 1, cells := 0, slots := 0, locals := 22 }) (va_Pc [.ref h, .int (nI b), .int (nI q)] (bh_pre D c (bh_mw h ad c (S)))) (vp_Si (fun r => r = bh_tf (bh_cho S b q))) 0 0 (fun _ => False) := by
  refine Met.ofW (cc := cX4_isChosen) (maxL := 3) (ret := (some .boolean)) (by decide) rfl ?_
  intro p e s m args below meth c0 s₁ B hml hv
  obtain ⟨rfl, hP, hK, hD0⟩ := hv
  have hx := B.exec
  have hb := B.bytes
  have hr := B.returns
  have hts := atoms_spec (ws := wsX4_isChosen) B.pre
  have hown : s.vm.findClass RX4 = some m.cls := findClass_of_methodNamed B.named
  have hlocks := B.notSynchronized
  have hinX4 : ∀ w ∈ wsX40, w ∈ wsX4_isChosen := fun _ h => List.mem_cons_of_mem _ (List.mem_append_right _ h)
  have lk_27 : (Cond.fieldLink RX4 27 "BallotHouseModel" "members" "[I").before _ s = true := hts _ (by decide +kernel)
  have lk_33 : (Cond.fieldLink RX4 33 "BallotHouseModel" "writes" "[I").before _ s = true := hts _ (by decide +kernel)
  have lk_57 : (Cond.fieldLink RX4 57 "BallotHouseModel" "voted" "[I").before _ s = true := hts _ (by decide +kernel)
  have hI : bh_I D (bh_mw h ad c (S)) (fun _ => True) s.heap s.heap [] := ⟨hP, hD0, va_S.rf⟩
  have hl := lv_entry ([.ref h, .int (nI b), .int (nI q)]) (n := 3) (Nat.le_of_ble_eq_true rfl)
  rw [lg_entry_eq]
  generalize (lg_sl ([.ref h, .int (nI b), .int (nI q)]) ++ List.replicate (3 - (lg_sl ([.ref h, .int (nI b), .int (nI q)])).length) Slot.unset).toArray = ls at hl ⊢
  have hl : lv_has ls 3 [(0, .ref h), (1, .int (nI b)), (2, .int (nI q))] := hl
  refine lv_aload_n hx hb dX4_isChosen_0 rfl (lv_at hl 0 rfl) ?_
  refine bn_get (ci := 3) (v := .ref (ad 16)) (C := RX4) (T := TX4) (N := 31) hx hb hts hinX4 hown hK hI 0 rfl rfl 16 (by decide) lk_57 rfl (rfl) dX4_isChosen_1 ?_
  refine lv_bipush (v := nI 8) hx hb dX4_isChosen_4 (by decide) ?_
  refine lv_iload_n hx hb dX4_isChosen_6 rfl (lv_at hl 1 rfl) ?_
  refine bn_imul hx hb dX4_isChosen_7 ?_
  refine lv_iload_n hx hb dX4_isChosen_8 rfl (lv_at hl 2 rfl) ?_
  refine bn_iadd hx hb dX4_isChosen_9 ?_
  refine bn_iald (n := 200) (v := S.2.2.1 16 ((8 * b) + q)) hx hb hK hI 16 0 rfl rfl (by omega) (by decide) (rfl) dX4_isChosen_10 ?_
  refine lv_aload_n hx hb dX4_isChosen_11 rfl (lv_at hl 0 rfl) ?_
  refine bn_get (ci := 3) (v := .ref (ad 6)) (C := RX4) (T := TX4) (N := 31) hx hb hts hinX4 hown hK hI 0 rfl rfl 6 (by decide) lk_27 rfl (rfl) dX4_isChosen_12 ?_
  refine lv_iload_n hx hb dX4_isChosen_15 rfl (lv_at hl 1 rfl) ?_
  refine bn_iald (n := 25) (v := S.2.2.1 6 b) hx hb hK hI 6 0 rfl rfl (by omega) (by decide) (rfl) dX4_isChosen_16 ?_
  refine lv_iand hx hb dX4_isChosen_17 ?_
  refine vp_callSi (bn_roS (As := [.int ((S.2.2.1 16 ((8 * b) + q)) &&& (S.2.2.1 6 b))]) (rest := []) ⟨hx, hb, hml, hown, hts⟩ (cm_many l (S.2.2.1 16 (8 * b + q) &&& S.2.2.1 6 b)) (va_cwS 1 hts gX4_isChosen_X4_many rfl rfl rfl (by decide +kernel) ⟨Nat.le_of_ble_eq_true rfl, Nat.le_of_ble_eq_true rfl⟩) rfl hl.1 (Nat.le_of_ble_eq_true rfl) dX4_isChosen_18 ⟨Nat.le_of_ble_eq_true rfl, Nat.le_of_ble_eq_true rfl⟩) (fun r_1 er_1 => ?_)
  subst er_1
  refine lv_aload_n hx hb dX4_isChosen_21 rfl (lv_at hl 0 rfl) ?_
  refine bn_get (ci := 3) (v := .ref (ad 8)) (C := RX4) (T := TX4) (N := 31) hx hb hts hinX4 hown hK hI 0 rfl rfl 8 (by decide) lk_33 rfl (rfl) dX4_isChosen_22 ?_
  refine lv_iload_n hx hb dX4_isChosen_25 rfl (lv_at hl 1 rfl) ?_
  refine bn_iald (n := 25) (v := S.2.2.1 8 b) hx hb hK hI 8 0 rfl rfl (by omega) (by decide) (rfl) dX4_isChosen_26 ?_
  refine lv_icmp_lt (tgt := 34) hx hb dX4_isChosen_27 (by decide) (fun c_2 => ?_) (fun c_2 => ?_)
  · refine lv_iconst (v := nI 0) hx hb dX4_isChosen_34 (by decide) ?_
    exact bn_rotz hx hb hr hlocks (by unfold bh_cho; rw [decide_eq_false (Int32.not_le.mpr c_2)]; rfl) (by decide) dX4_isChosen_35
  · refine lv_iconst (v := nI 1) hx hb dX4_isChosen_30 (by decide) ?_
    refine lv_goto (tgt := 35) hx hb dX4_isChosen_31 (by decide) ?_
    exact bn_rotz hx hb hr hlocks (by unfold bh_cho; rw [decide_eq_true (Int32.not_lt.mp c_2)]; rfl) (by decide) dX4_isChosen_35
set_option maxHeartbeats 4000000 in
set_option maxRecDepth 100000 in
theorem cm_chosen (l : Launch) (D : va_G) (c : bh_C) (h : Nat) (ad : Nat → Nat) (S : mS) (x : Int32) (hk24 : S.1 18 ≤ 24) : Met l yX4_chosen wsX4_chosen ({ frames := 2, cells := 0, slots := 0, locals := 44 }) (va_Pc [.ref h, .int (x)] (bh_pre D c (bh_mw h ad c (S)))) (vp_Si (fun r => r = bh_mcho S x)) 0 0 (fun _ => False) := by
  refine Met.ofW (cc := cX4_chosen) (maxL := 3) (ret := (some .int)) (by decide) rfl ?_
  intro p e s m args below meth c0 s₁ B hml hv
  obtain ⟨rfl, hP, hK, hD0⟩ := hv
  have hx := B.exec
  have hb := B.bytes
  have hr := B.returns
  have hts := atoms_spec (ws := wsX4_chosen) B.pre
  have hown : s.vm.findClass RX4 = some m.cls := findClass_of_methodNamed B.named
  have hlocks := B.notSynchronized
  have hinX4 : ∀ w ∈ wsX40, w ∈ wsX4_chosen := fun _ h => List.mem_cons_of_mem _ (List.mem_append_right _ h)
  have lk_94 : (Cond.fieldLink RX4 94 "BallotHouseModel" "ballots" "I").before _ s = true := hts _ (by decide +kernel)
  have hI : bh_I D (bh_mw h ad c (S)) (fun _ => True) s.heap s.heap [] := ⟨hP, hD0, va_S.rf⟩
  have hl := lv_entry ([.ref h, .int (x)]) (n := 3) (Nat.le_of_ble_eq_true rfl)
  rw [lg_entry_eq]
  generalize (lg_sl ([.ref h, .int (x)]) ++ List.replicate (3 - (lg_sl ([.ref h, .int (x)])).length) Slot.unset).toArray = ls at hl ⊢
  have hl : lv_has ls 3 [(0, .ref h), (1, .int (x))] := hl
  rcases hx1 : bh_ix x 8 with _ | q
  · refine lv_iconst (v := nI 1) hx hb dX4_chosen_0 (by decide) ?_
    refine lv_istore_n (lv' := [(2, .int (nI 1)), (0, .ref h), (1, .int (x))]) hx hb dX4_chosen_1 rfl hl (by decide) rfl (fun ls hl => ?_)
    refine lv_iload_n hx hb dX4_chosen_2 rfl (lv_at hl 0 rfl) ?_
    refine lv_aload_n hx hb dX4_chosen_3 rfl (lv_at hl 1 rfl) ?_
    refine bn_get (ci := 3) (v := .int (nI (S.1 18))) (C := RX4) (T := TX4) (N := 31) hx hb hts hinX4 hown hK hI 0 rfl rfl 18 (by decide) lk_94 rfl (rfl) dX4_chosen_4 ?_
    refine bn_cmp_gt (tgt := 34) hx hb (by omega) (by omega) dX4_chosen_7 (by decide) (fun c_1 => ?_) (fun c_1 => ?_)
    · refine lv_iconst (v := -1) hx hb dX4_chosen_34 (by decide) ?_
      exact bn_roti hx hb hr hlocks (by unfold bh_mcho; rw [hx1]) dX4_chosen_35
    · refine lv_iload_n hx hb dX4_chosen_10 rfl (lv_at hl 2 rfl) ?_
      refine vp_callSi (bn_roS (As := [.int (x)]) (rest := []) ⟨hx, hb, hml, hown, hts⟩ (cm_isPlace l (x)) (va_cwS 1 hts gX4_chosen_X4_isPlace rfl rfl rfl (by decide +kernel) ⟨Nat.le_of_ble_eq_true rfl, Nat.le_of_ble_eq_true rfl⟩) rfl hl.1 (Nat.le_of_ble_eq_true rfl) dX4_chosen_11 ⟨Nat.le_of_ble_eq_true rfl, Nat.le_of_ble_eq_true rfl⟩) (fun r_2 er_2 => ?_)
      obtain rfl : r_2 = nI 0 := by rw [er_2, hx1]; rfl
      refine lv_if_eq (tgt := 34) hx hb dX4_chosen_14 (by decide) (fun c_3 => ?_) (fun c_3 => ?_)
      · refine lv_iconst (v := -1) hx hb dX4_chosen_34 (by decide) ?_
        exact bn_roti hx hb hr hlocks (by unfold bh_mcho; rw [hx1]) dX4_chosen_35
      · first | exact absurd c_3 (by decide) | exact absurd (by decide) c_3
  · obtain ⟨hq, rfl⟩ := bh_ix_some hx1
    refine lv_iconst (v := nI 1) hx hb dX4_chosen_0 (by decide) ?_
    refine lv_istore_n (lv' := [(2, .int (nI 1)), (0, .ref h), (1, .int (nI q))]) hx hb dX4_chosen_1 rfl hl (by decide) rfl (fun ls hl => ?_)
    refine bh_loop (σ := Nat) (fun (b : Nat) H locs ls => H = s.heap ∧ locs = [] ∧ (1 ≤ b ∧ b ≤ S.1 18 + 1) ∧ bh_chL S q (S.1 18 + 1 - b) b = bh_ch S q ∧ lv_has ls 3 [(2, .int (nI b)), (0, .ref h), (1, .int (nI q))]) (fun (b : Nat) => S.1 18 + 1 - b) (fun b H locs ls hx_4 ih_4 => ?_) 1 _ _ _ ⟨rfl, rfl, ⟨Nat.le_refl 1, by omega⟩, rfl, lv_sub hl [0, 1, 2] rfl⟩
    clear hl
    obtain ⟨rfl, rfl, hb1, hch, hl⟩ := hx_4
    refine lv_iload_n hx hb dX4_chosen_2 rfl (lv_at hl 0 rfl) ?_
    refine lv_aload_n hx hb dX4_chosen_3 rfl (lv_at hl 1 rfl) ?_
    refine bn_get (ci := 3) (v := .int (nI (S.1 18))) (C := RX4) (T := TX4) (N := 31) hx hb hts hinX4 hown hK hI 0 rfl rfl 18 (by decide) lk_94 rfl (rfl) dX4_chosen_4 ?_
    refine bn_cmp_gt (tgt := 34) hx hb (by omega) (by omega) dX4_chosen_7 (by decide) (fun c_5 => ?_) (fun c_5 => ?_)
    · refine lv_iconst (v := -1) hx hb dX4_chosen_34 (by decide) ?_
      exact bn_roti hx hb hr hlocks (by unfold bh_mcho; rw [hx1]; show _ = bh_oi (bh_ch S q); rw [← hch, show S.1 18 + 1 - b = 0 by omega]; rfl) dX4_chosen_35
    · refine lv_iload_n hx hb dX4_chosen_10 rfl (lv_at hl 2 rfl) ?_
      refine vp_callSi (bn_roS (As := [.int (nI q)]) (rest := []) ⟨hx, hb, hml, hown, hts⟩ (cm_isPlace l (nI q)) (va_cwS 1 hts gX4_chosen_X4_isPlace rfl rfl rfl (by decide +kernel) ⟨Nat.le_of_ble_eq_true rfl, Nat.le_of_ble_eq_true rfl⟩) rfl hl.1 (Nat.le_of_ble_eq_true rfl) dX4_chosen_11 ⟨Nat.le_of_ble_eq_true rfl, Nat.le_of_ble_eq_true rfl⟩) (fun r_6 er_6 => ?_)
      obtain rfl : r_6 = nI 1 := by rw [er_6, hx1]; rfl
      refine lv_if_eq (tgt := 34) hx hb dX4_chosen_14 (by decide) (fun c_7 => ?_) (fun c_7 => ?_)
      · first | exact absurd c_7 (by decide) | exact absurd (by decide) c_7
      · refine lv_aload_n hx hb dX4_chosen_17 rfl (lv_at hl 1 rfl) ?_
        refine lv_iload_n hx hb dX4_chosen_18 rfl (lv_at hl 0 rfl) ?_
        refine lv_iload_n hx hb dX4_chosen_19 rfl (lv_at hl 2 rfl) ?_
        refine vp_callSi (bn_roV (As := [.int (nI b), .int (nI q)]) (rest := []) ⟨hx, hb, hml, hown, hts⟩ (cm_isChosen l D c h ad S (b) q (by omega) hq) (cwV 2 hts gX4_chosen_X4_isChosen rfl rfl rfl (by decide +kernel) ⟨Nat.le_of_ble_eq_true rfl, Nat.le_of_ble_eq_true rfl⟩) hK hI 0 3 rfl rfl rfl rfl hl.1 (Nat.le_of_ble_eq_true rfl) dX4_chosen_20 ⟨Nat.le_of_ble_eq_true rfl, Nat.le_of_ble_eq_true rfl⟩) (fun r_8 er_8 => ?_)
        subst er_8
        refine lv_if_eq (tgt := 28) hx hb dX4_chosen_23 (by decide) (fun c_9 => ?_) (fun c_9 => ?_)
        · have q_1 := c_9
          refine lv_iinc (v := nI (b + 1)) (lv' := [(2, .int (nI (b + 1))), (0, .ref h), (1, .int (nI q))]) hx hb dX4_chosen_28 hl (k := 0) rfl (nI_1 _) (by decide) rfl (fun ls hl => ?_)
          refine lv_goto (tgt := 2) hx hb dX4_chosen_31 (by decide) ?_
          exact ih_4 (b + 1) _ _ _ ⟨rfl, rfl, ⟨by omega, by omega⟩, by rw [← hch, show S.1 18 + 1 - b = (S.1 18 + 1 - (b + 1)) + 1 by omega]; exact (if_neg (by rw [bh_tf_eq q_1]; decide)).symm, lv_sub hl [0, 1, 2] rfl⟩ (by show S.1 18 + 1 - (b + 1) < S.1 18 + 1 - b; omega)
        · have q_1 := bh_tf_ne c_9
          refine lv_iload_n hx hb dX4_chosen_26 rfl (lv_at hl 0 rfl) ?_
          exact bn_roti hx hb hr hlocks (by unfold bh_mcho; rw [hx1]; show _ = bh_oi (bh_ch S q); rw [← hch, show S.1 18 + 1 - b = (S.1 18 - b) + 1 by omega, show bh_chL S q (S.1 18 - b + 1) b = some b from if_pos q_1]; rfl) dX4_chosen_27
set_option maxHeartbeats 4000000 in
set_option maxRecDepth 100000 in
theorem cm_chosenValue (l : Launch) (D : va_G) (c : bh_C) (h : Nat) (ad : Nat → Nat) (S : mS) (x : Int32) (hk24 : S.1 18 ≤ 24) : Met l yX4_chosenValue wsX4_chosenValue ({ frames := 3, cells := 0, slots := 0, locals := 66 }) (va_Pc [.ref h, .int (x)] (bh_pre D c (bh_mw h ad c (S)))) (vp_Sl (fun r => r = bh_mchv S x)) 0 0 (fun _ => False) := by
  refine Met.ofW (cc := cX4_chosenValue) (maxL := 3) (ret := (some .long)) (by decide) rfl ?_
  intro p e s m args below meth c0 s₁ B hml hv
  obtain ⟨rfl, hP, hK, hD0⟩ := hv
  have hx := B.exec
  have hb := B.bytes
  have hr := B.returns
  have hts := atoms_spec (ws := wsX4_chosenValue) B.pre
  have hown : s.vm.findClass RX4 = some m.cls := findClass_of_methodNamed B.named
  have hlocks := B.notSynchronized
  have hinX4 : ∀ w ∈ wsX40, w ∈ wsX4_chosenValue := fun _ h => List.mem_cons_of_mem _ (List.mem_append_right _ h)
  have lk_60 : (Cond.fieldLink RX4 60 "BallotHouseModel" "says" "[J").before _ s = true := hts _ (by decide +kernel)
  have hI : bh_I D (bh_mw h ad c (S)) (fun _ => True) s.heap s.heap [] := ⟨hP, hD0, va_S.rf⟩
  have hl := lv_entry ([.ref h, .int (x)]) (n := 3) (Nat.le_of_ble_eq_true rfl)
  rw [lg_entry_eq]
  generalize (lg_sl ([.ref h, .int (x)]) ++ List.replicate (3 - (lg_sl ([.ref h, .int (x)])).length) Slot.unset).toArray = ls at hl ⊢
  have hl : lv_has ls 3 [(0, .ref h), (1, .int (x))] := hl
  rcases hx1 : bh_ix x 8 with _ | q
  · refine lv_aload_n hx hb dX4_chosenValue_0 rfl (lv_at hl 0 rfl) ?_
    refine lv_iload_n hx hb dX4_chosenValue_1 rfl (lv_at hl 1 rfl) ?_
    refine vp_callSi (bn_roV (As := [.int (x)]) (rest := []) ⟨hx, hb, hml, hown, hts⟩ (cm_chosen l D c h ad S (x) hk24) (cwV 1 hts gX4_chosenValue_X4_chosen rfl rfl rfl (by decide +kernel) ⟨Nat.le_of_ble_eq_true rfl, Nat.le_of_ble_eq_true rfl⟩) hK hI 0 3 rfl rfl rfl rfl hl.1 (Nat.le_of_ble_eq_true rfl) dX4_chosenValue_2 ⟨Nat.le_of_ble_eq_true rfl, Nat.le_of_ble_eq_true rfl⟩) (fun r_1 er_1 => ?_)
    obtain rfl : r_1 = -1 := by rw [er_1]; unfold bh_mcho; rw [hx1]
    refine lv_istore_n (lv' := [(2, .int (-1)), (0, .ref h), (1, .int (x))]) hx hb dX4_chosenValue_5 rfl hl (by decide) rfl (fun ls hl => ?_)
    refine lv_iload_n hx hb dX4_chosenValue_6 rfl (lv_at hl 0 rfl) ?_
    refine lv_if_ge (tgt := 14) hx hb dX4_chosenValue_7 (by decide) (fun c_2 => ?_) (fun c_2 => ?_)
    · exact absurd c_2 (by decide)
    · refine lv_lconst (v := 0) hx hb dX4_chosenValue_10 (by decide) ?_
      refine lv_goto (tgt := 25) hx hb dX4_chosenValue_11 (by decide) ?_
      exact bn_rotl hx hb hr hlocks (by unfold bh_mchv; rw [hx1]) dX4_chosenValue_25
  · obtain ⟨hq, rfl⟩ := bh_ix_some hx1
    refine lv_aload_n hx hb dX4_chosenValue_0 rfl (lv_at hl 0 rfl) ?_
    rcases hch : bh_ch S q with _ | b
    · refine lv_iload_n hx hb dX4_chosenValue_1 rfl (lv_at hl 1 rfl) ?_
      refine vp_callSi (bn_roV (As := [.int (nI q)]) (rest := []) ⟨hx, hb, hml, hown, hts⟩ (cm_chosen l D c h ad S (nI q) hk24) (cwV 1 hts gX4_chosenValue_X4_chosen rfl rfl rfl (by decide +kernel) ⟨Nat.le_of_ble_eq_true rfl, Nat.le_of_ble_eq_true rfl⟩) hK hI 0 3 rfl rfl rfl rfl hl.1 (Nat.le_of_ble_eq_true rfl) dX4_chosenValue_2 ⟨Nat.le_of_ble_eq_true rfl, Nat.le_of_ble_eq_true rfl⟩) (fun r_3 er_3 => ?_)
      obtain rfl : r_3 = -1 := by rw [er_3]; unfold bh_mcho; rw [hx1]; show bh_oi (bh_ch S q) = _; rw [hch]; rfl
      refine lv_istore_n (lv' := [(2, .int (-1)), (0, .ref h), (1, .int (nI q))]) hx hb dX4_chosenValue_5 rfl hl (by decide) rfl (fun ls hl => ?_)
      refine lv_iload_n hx hb dX4_chosenValue_6 rfl (lv_at hl 0 rfl) ?_
      refine lv_if_ge (tgt := 14) hx hb dX4_chosenValue_7 (by decide) (fun c_4 => ?_) (fun c_4 => ?_)
      · exact absurd c_4 (by decide)
      · refine lv_lconst (v := 0) hx hb dX4_chosenValue_10 (by decide) ?_
        refine lv_goto (tgt := 25) hx hb dX4_chosenValue_11 (by decide) ?_
        exact bn_rotl hx hb hr hlocks (by unfold bh_mchv; rw [hx1]; show _ = bh_chv S q; unfold bh_chv; rw [hch]) dX4_chosenValue_25
    · have hbb := bh_chL_in S q _ _ hch
      refine lv_iload_n hx hb dX4_chosenValue_1 rfl (lv_at hl 1 rfl) ?_
      refine vp_callSi (bn_roV (As := [.int (nI q)]) (rest := []) ⟨hx, hb, hml, hown, hts⟩ (cm_chosen l D c h ad S (nI q) hk24) (cwV 1 hts gX4_chosenValue_X4_chosen rfl rfl rfl (by decide +kernel) ⟨Nat.le_of_ble_eq_true rfl, Nat.le_of_ble_eq_true rfl⟩) hK hI 0 3 rfl rfl rfl rfl hl.1 (Nat.le_of_ble_eq_true rfl) dX4_chosenValue_2 ⟨Nat.le_of_ble_eq_true rfl, Nat.le_of_ble_eq_true rfl⟩) (fun r_5 er_5 => ?_)
      obtain rfl : r_5 = nI b := by rw [er_5]; unfold bh_mcho; rw [hx1]; show bh_oi (bh_ch S q) = _; rw [hch]; rfl
      refine lv_istore_n (lv' := [(2, .int (nI b)), (0, .ref h), (1, .int (nI q))]) hx hb dX4_chosenValue_5 rfl hl (by decide) rfl (fun ls hl => ?_)
      refine lv_iload_n hx hb dX4_chosenValue_6 rfl (lv_at hl 0 rfl) ?_
      refine lv_if_ge (tgt := 14) hx hb dX4_chosenValue_7 (by decide) (fun c_6 => ?_) (fun c_6 => ?_)
      · refine lv_aload_n hx hb dX4_chosenValue_14 rfl (lv_at hl 1 rfl) ?_
        refine bn_get (ci := 3) (v := .ref (ad 17)) (C := RX4) (T := TX4) (N := 31) hx hb hts hinX4 hown hK hI 0 rfl rfl 17 (by decide) lk_60 rfl (rfl) dX4_chosenValue_15 ?_
        refine lv_bipush (v := nI 8) hx hb dX4_chosenValue_18 (by decide) ?_
        refine lv_iload_n hx hb dX4_chosenValue_20 rfl (lv_at hl 0 rfl) ?_
        refine bn_imul hx hb dX4_chosenValue_21 ?_
        refine lv_iload_n hx hb dX4_chosenValue_22 rfl (lv_at hl 2 rfl) ?_
        refine bn_iadd hx hb dX4_chosenValue_23 ?_
        refine bn_lald (n := 200) (v := S.2.2.2 17 ((8 * b) + q)) hx hb hK hI 17 1 rfl rfl (by omega) (by decide) (rfl) dX4_chosenValue_24 ?_
        exact bn_rotl hx hb hr hlocks (by unfold bh_mchv; rw [hx1]; show _ = bh_chv S q; unfold bh_chv; rw [hch]) dX4_chosenValue_25
      · exact absurd (nI_pos' (by omega)) c_6
set_option maxHeartbeats 4000000 in
set_option maxRecDepth 100000 in
theorem cm_isOne (l : Launch) (D : va_G) (c : bh_C) (h : Nat) (ad : Nat → Nat) (S : mS) (x : Int32) (hk24 : S.1 18 ≤ 24) : Met l yX4_isOne wsX4_isOne ({ frames := 4, cells := 0, slots := 0, locals := 88 }) (va_Pc [.ref h, .int (x)] (bh_pre D c (bh_mw h ad c (S)))) (vp_Si (fun r => r = bh_mone S x)) 0 0 (fun _ => False) := by
  refine Met.ofW (cc := cX4_isOne) (maxL := 4) (ret := (some .boolean)) (by decide) rfl ?_
  intro p e s m args below meth c0 s₁ B hml hv
  obtain ⟨rfl, hP, hK, hD0⟩ := hv
  have hx := B.exec
  have hb := B.bytes
  have hr := B.returns
  have hts := atoms_spec (ws := wsX4_isOne) B.pre
  have hown : s.vm.findClass RX4 = some m.cls := findClass_of_methodNamed B.named
  have hlocks := B.notSynchronized
  have hinX4 : ∀ w ∈ wsX40, w ∈ wsX4_isOne := fun _ h => List.mem_cons_of_mem _ (List.mem_append_right _ h)
  have lk_60 : (Cond.fieldLink RX4 60 "BallotHouseModel" "says" "[J").before _ s = true := hts _ (by decide +kernel)
  have lk_94 : (Cond.fieldLink RX4 94 "BallotHouseModel" "ballots" "I").before _ s = true := hts _ (by decide +kernel)
  have hI : bh_I D (bh_mw h ad c (S)) (fun _ => True) s.heap s.heap [] := ⟨hP, hD0, va_S.rf⟩
  have hl := lv_entry ([.ref h, .int (x)]) (n := 4) (Nat.le_of_ble_eq_true rfl)
  rw [lg_entry_eq]
  generalize (lg_sl ([.ref h, .int (x)]) ++ List.replicate (4 - (lg_sl ([.ref h, .int (x)])).length) Slot.unset).toArray = ls at hl ⊢
  have hl : lv_has ls 4 [(0, .ref h), (1, .int (x))] := hl
  rcases hx1 : bh_ix x 8 with _ | q
  · refine lv_iconst (v := nI 1) hx hb dX4_isOne_0 (by decide) ?_
    refine lv_istore_n (lv' := [(2, .int (nI 1)), (0, .ref h), (1, .int (x))]) hx hb dX4_isOne_1 rfl hl (by decide) rfl (fun ls hl => ?_)
    refine lv_iconst (v := nI 1) hx hb dX4_isOne_2 (by decide) ?_
    refine lv_istore_n (lv' := [(3, .int (nI 1)), (2, .int (nI 1)), (0, .ref h), (1, .int (x))]) hx hb dX4_isOne_3 rfl hl (by decide) rfl (fun ls hl => ?_)
    refine lv_iload_n hx hb dX4_isOne_4 rfl (lv_at hl 0 rfl) ?_
    refine lv_aload_n hx hb dX4_isOne_5 rfl (lv_at hl 2 rfl) ?_
    refine bn_get (ci := 3) (v := .int (nI (S.1 18))) (C := RX4) (T := TX4) (N := 31) hx hb hts hinX4 hown hK hI 0 rfl rfl 18 (by decide) lk_94 rfl (rfl) dX4_isOne_6 ?_
    refine bn_cmp_gt (tgt := 64) hx hb (by omega) (by omega) dX4_isOne_9 (by decide) (fun c_1 => ?_) (fun c_1 => ?_)
    · refine lv_iload_n hx hb dX4_isOne_64 rfl (lv_at hl 1 rfl) ?_
      exact bn_rotz hx hb hr hlocks (by unfold bh_mone; rw [hx1]) (by first | decide | exact bh_tf_nar _) dX4_isOne_65
    · refine lv_iload_n hx hb dX4_isOne_12 rfl (lv_at hl 3 rfl) ?_
      refine vp_callSi (bn_roS (As := [.int (x)]) (rest := []) ⟨hx, hb, hml, hown, hts⟩ (cm_isPlace l (x)) (va_cwS 1 hts gX4_isOne_X4_isPlace rfl rfl rfl (by decide +kernel) ⟨Nat.le_of_ble_eq_true rfl, Nat.le_of_ble_eq_true rfl⟩) rfl hl.1 (Nat.le_of_ble_eq_true rfl) dX4_isOne_13 ⟨Nat.le_of_ble_eq_true rfl, Nat.le_of_ble_eq_true rfl⟩) (fun r_2 er_2 => ?_)
      obtain rfl : r_2 = nI 0 := by rw [er_2, hx1]; rfl
      refine lv_if_eq (tgt := 64) hx hb dX4_isOne_16 (by decide) (fun c_3 => ?_) (fun c_3 => ?_)
      · refine lv_iload_n hx hb dX4_isOne_64 rfl (lv_at hl 1 rfl) ?_
        exact bn_rotz hx hb hr hlocks (by unfold bh_mone; rw [hx1]) (by first | decide | exact bh_tf_nar _) dX4_isOne_65
      · first | exact absurd c_3 (by decide) | exact absurd (by decide) c_3
  · obtain ⟨hq, rfl⟩ := bh_ix_some hx1
    refine lv_iconst (v := nI 1) hx hb dX4_isOne_0 (by decide) ?_
    refine lv_istore_n (lv' := [(2, .int (nI 1)), (0, .ref h), (1, .int (nI q))]) hx hb dX4_isOne_1 rfl hl (by decide) rfl (fun ls hl => ?_)
    refine lv_iconst (v := nI 1) hx hb dX4_isOne_2 (by decide) ?_
    refine lv_istore_n (lv' := [(3, .int (nI 1)), (2, .int (nI 1)), (0, .ref h), (1, .int (nI q))]) hx hb dX4_isOne_3 rfl hl (by decide) rfl (fun ls hl => ?_)
    refine bh_loop (σ := Nat) (fun (f : Nat) H locs ls => H = s.heap ∧ locs = [] ∧ f ≤ S.1 18 ∧ lv_has ls 4 [(3, .int (nI (f + 1))), (2, .int (bh_tf (bh_one S q f))), (0, .ref h), (1, .int (nI q))]) (fun (f : Nat) => S.1 18 - f) (fun f H locs ls hx_4 ih_4 => ?_) 0 _ _ _ ⟨rfl, rfl, Nat.zero_le _, lv_sub hl [0, 1, 2, 3] rfl⟩
    clear hl
    obtain ⟨rfl, rfl, hf, hl⟩ := hx_4
    refine lv_iload_n hx hb dX4_isOne_4 rfl (lv_at hl 0 rfl) ?_
    refine lv_aload_n hx hb dX4_isOne_5 rfl (lv_at hl 2 rfl) ?_
    refine bn_get (ci := 3) (v := .int (nI (S.1 18))) (C := RX4) (T := TX4) (N := 31) hx hb hts hinX4 hown hK hI 0 rfl rfl 18 (by decide) lk_94 rfl (rfl) dX4_isOne_6 ?_
    refine bn_cmp_gt (tgt := 64) hx hb (by omega) (by omega) dX4_isOne_9 (by decide) (fun c_5 => ?_) (fun c_5 => ?_)
    · refine lv_iload_n hx hb dX4_isOne_64 rfl (lv_at hl 1 rfl) ?_
      exact bn_rotz hx hb hr hlocks (by unfold bh_mone; rw [hx1]; show _ = bh_tf (bh_one S q (S.1 18)); rw [show f = S.1 18 by omega]) (by first | decide | exact bh_tf_nar _) dX4_isOne_65
    · refine lv_iload_n hx hb dX4_isOne_12 rfl (lv_at hl 3 rfl) ?_
      refine vp_callSi (bn_roS (As := [.int (nI q)]) (rest := []) ⟨hx, hb, hml, hown, hts⟩ (cm_isPlace l (nI q)) (va_cwS 1 hts gX4_isOne_X4_isPlace rfl rfl rfl (by decide +kernel) ⟨Nat.le_of_ble_eq_true rfl, Nat.le_of_ble_eq_true rfl⟩) rfl hl.1 (Nat.le_of_ble_eq_true rfl) dX4_isOne_13 ⟨Nat.le_of_ble_eq_true rfl, Nat.le_of_ble_eq_true rfl⟩) (fun r_6 er_6 => ?_)
      obtain rfl : r_6 = nI 1 := by rw [er_6, hx1]; rfl
      refine lv_if_eq (tgt := 64) hx hb dX4_isOne_16 (by decide) (fun c_7 => ?_) (fun c_7 => ?_)
      · first | exact absurd c_7 (by decide) | exact absurd (by decide) c_7
      · refine lv_aload_n hx hb dX4_isOne_19 rfl (lv_at hl 2 rfl) ?_
        refine lv_iload_n hx hb dX4_isOne_20 rfl (lv_at hl 0 rfl) ?_
        refine lv_iload_n hx hb dX4_isOne_21 rfl (lv_at hl 3 rfl) ?_
        refine vp_callSi (bn_roV (As := [.int (nI (f + 1)), .int (nI q)]) (rest := []) ⟨hx, hb, hml, hown, hts⟩ (cm_isChosen l D c h ad S (f + 1) q (by omega) hq) (cwV 2 hts gX4_isOne_X4_isChosen rfl rfl rfl (by decide +kernel) ⟨Nat.le_of_ble_eq_true rfl, Nat.le_of_ble_eq_true rfl⟩) hK hI 0 3 rfl rfl rfl rfl hl.1 (Nat.le_of_ble_eq_true rfl) dX4_isOne_22 ⟨Nat.le_of_ble_eq_true rfl, Nat.le_of_ble_eq_true rfl⟩) (fun r_8 er_8 => ?_)
        subst er_8
        refine lv_if_eq (tgt := 58) hx hb dX4_isOne_25 (by decide) (fun c_9 => ?_) (fun c_9 => ?_)
        · have q_1 := c_9
          refine lv_iinc (v := nI (f + 1 + 1)) (lv' := [(3, .int (nI (f + 1 + 1))), (2, .int (bh_tf (bh_one S q f))), (0, .ref h), (1, .int (nI q))]) hx hb dX4_isOne_58 hl (k := 0) rfl (nI_1 _) (by decide) rfl (fun ls hl => ?_)
          refine lv_goto (tgt := 4) hx hb dX4_isOne_61 (by decide) ?_
          exact ih_4 (f + 1) _ _ _ ⟨rfl, rfl, by omega, (by rw [show bh_one S q (f + 1) = bh_one S q f from if_neg (by rw [bh_tf_eq q_1]; decide)]; exact (lv_sub hl [0, 1, 2, 3] rfl))⟩ (by show S.1 18 - (f + 1) < S.1 18 - f; omega)
        · have q_1 := bh_tf_ne c_9
          refine lv_iload_n hx hb dX4_isOne_28 rfl (lv_at hl 1 rfl) ?_
          refine lv_if_eq (tgt := 56) hx hb dX4_isOne_29 (by decide) (fun c_10 => ?_) (fun c_10 => ?_)
          · have q_2 := bh_tf_eq c_10
            refine lv_iconst (v := nI 0) hx hb dX4_isOne_56 (by decide) ?_
            refine lv_topi (fun z_11 ez_11 => ?_)
            obtain rfl : z_11 = bh_tf (bh_one S q (f + 1)) := ez_11.trans (by unfold bh_one; rw [if_pos q_1, q_2]; rfl)
            refine lv_istore_n (lv' := [(2, .int (bh_tf (bh_one S q (f + 1)))), (3, .int (nI (f + 1))), (0, .ref h), (1, .int (nI q))]) hx hb dX4_isOne_57 rfl hl (by decide) rfl (fun ls hl => ?_)
            refine lv_iinc (v := nI (f + 1 + 1)) (lv' := [(3, .int (nI (f + 1 + 1))), (2, .int (bh_tf (bh_one S q (f + 1)))), (0, .ref h), (1, .int (nI q))]) hx hb dX4_isOne_58 hl (k := 1) rfl (nI_1 _) (by decide) rfl (fun ls hl => ?_)
            refine lv_goto (tgt := 4) hx hb dX4_isOne_61 (by decide) ?_
            exact ih_4 (f + 1) _ _ _ ⟨rfl, rfl, by omega, ((lv_sub hl [0, 1, 2, 3] rfl))⟩ (by show S.1 18 - (f + 1) < S.1 18 - f; omega)
          · have q_2 := bh_tf_ne c_10
            refine lv_aload_n hx hb dX4_isOne_32 rfl (lv_at hl 2 rfl) ?_
            refine bn_get (ci := 3) (v := .ref (ad 17)) (C := RX4) (T := TX4) (N := 31) hx hb hts hinX4 hown hK hI 0 rfl rfl 17 (by decide) lk_60 rfl (rfl) dX4_isOne_33 ?_
            refine lv_bipush (v := nI 8) hx hb dX4_isOne_36 (by decide) ?_
            refine lv_iload_n hx hb dX4_isOne_38 rfl (lv_at hl 0 rfl) ?_
            refine bn_imul hx hb dX4_isOne_39 ?_
            refine lv_iload_n hx hb dX4_isOne_40 rfl (lv_at hl 3 rfl) ?_
            refine bn_iadd hx hb dX4_isOne_41 ?_
            refine bn_lald (n := 200) (v := S.2.2.2 17 ((8 * (f + 1)) + q)) hx hb hK hI 17 1 rfl rfl (by omega) (by decide) (rfl) dX4_isOne_42 ?_
            refine lv_aload_n hx hb dX4_isOne_43 rfl (lv_at hl 2 rfl) ?_
            refine lv_iload_n hx hb dX4_isOne_44 rfl (lv_at hl 3 rfl) ?_
            refine vp_callSl (bn_roV (As := [.int (nI q)]) (rest := [.long (S.2.2.2 17 ((8 * (f + 1)) + q))]) ⟨hx, hb, hml, hown, hts⟩ (cm_chosenValue l D c h ad S (nI q) hk24) (cwV 1 hts gX4_isOne_X4_chosenValue rfl rfl rfl (by decide +kernel) ⟨Nat.le_of_ble_eq_true rfl, Nat.le_of_ble_eq_true rfl⟩) hK hI 0 3 rfl rfl rfl rfl hl.1 (Nat.le_of_ble_eq_true rfl) dX4_isOne_45 ⟨Nat.le_of_ble_eq_true rfl, Nat.le_of_ble_eq_true rfl⟩) (fun r_12 er_12 => ?_)
            obtain rfl : r_12 = bh_chv S q := by rw [er_12]; unfold bh_mchv; rw [hx1]
            refine W.lcmp hx hb dX4_isOne_48 ?_
            refine lv_if_ne (tgt := 56) hx hb dX4_isOne_49 (by decide) (fun c_13 => ?_) (fun c_13 => ?_)
            · have q_3 := bh_lcmp_ne c_13
              refine lv_iconst (v := nI 0) hx hb dX4_isOne_56 (by decide) ?_
              refine lv_topi (fun z_14 ez_14 => ?_)
              obtain rfl : z_14 = bh_tf (bh_one S q (f + 1)) := ez_14.trans (by unfold bh_one; rw [if_pos q_1, decide_eq_false q_3, Bool.and_false]; rfl)
              refine lv_istore_n (lv' := [(2, .int (bh_tf (bh_one S q (f + 1)))), (3, .int (nI (f + 1))), (0, .ref h), (1, .int (nI q))]) hx hb dX4_isOne_57 rfl hl (by decide) rfl (fun ls hl => ?_)
              refine lv_iinc (v := nI (f + 1 + 1)) (lv' := [(3, .int (nI (f + 1 + 1))), (2, .int (bh_tf (bh_one S q (f + 1)))), (0, .ref h), (1, .int (nI q))]) hx hb dX4_isOne_58 hl (k := 1) rfl (nI_1 _) (by decide) rfl (fun ls hl => ?_)
              refine lv_goto (tgt := 4) hx hb dX4_isOne_61 (by decide) ?_
              exact ih_4 (f + 1) _ _ _ ⟨rfl, rfl, by omega, ((lv_sub hl [0, 1, 2, 3] rfl))⟩ (by show S.1 18 - (f + 1) < S.1 18 - f; omega)
            · have q_3 := bh_lcmp_eq c_13
              refine lv_iconst (v := nI 1) hx hb dX4_isOne_52 (by decide) ?_
              refine lv_topi (fun z_15 ez_15 => ?_)
              obtain rfl : z_15 = bh_tf (bh_one S q (f + 1)) := ez_15.trans (by unfold bh_one; rw [if_pos q_1, q_2, decide_eq_true q_3]; rfl)
              refine lv_goto (tgt := 57) hx hb dX4_isOne_53 (by decide) ?_
              refine lv_istore_n (lv' := [(2, .int (bh_tf (bh_one S q (f + 1)))), (3, .int (nI (f + 1))), (0, .ref h), (1, .int (nI q))]) hx hb dX4_isOne_57 rfl hl (by decide) rfl (fun ls hl => ?_)
              refine lv_iinc (v := nI (f + 1 + 1)) (lv' := [(3, .int (nI (f + 1 + 1))), (2, .int (bh_tf (bh_one S q (f + 1)))), (0, .ref h), (1, .int (nI q))]) hx hb dX4_isOne_58 hl (k := 1) rfl (nI_1 _) (by decide) rfl (fun ls hl => ?_)
              refine lv_goto (tgt := 4) hx hb dX4_isOne_61 (by decide) ?_
              exact ih_4 (f + 1) _ _ _ ⟨rfl, rfl, by omega, ((lv_sub hl [0, 1, 2, 3] rfl))⟩ (by show S.1 18 - (f + 1) < S.1 18 - f; omega)
set_option maxHeartbeats 4000000 in
set_option maxRecDepth 100000 in
theorem cm_lose (l : Launch) (D : va_G) (c : bh_C) (h : Nat) (ad : Nat → Nat) (sz : Nat) (S : mS) (x : Int32) (ha : S.1 28 ≤ 400) : Met l yX4_lose wsX4_lose ({ frames := 2, cells := 0, slots := 0, locals := 45 }) (va_Pc [.ref h, .int (x)] (bh_prm D c (bh_mw h ad c (S)) sz)) (va_Qi (fun (r : Int32) (u : mS) => r = (bh_mlose S x).1 ∧ u = (bh_mlose S x).2) (fun u t => bh_post D c (bh_mw h ad c u) (va_A (bh_mw h ad c (S)) sz) t) (va_A (bh_mw h ad c (S)) sz)) 0 0 (va_A (bh_mw h ad c (S)) sz) := by
  refine Met.ofW (cc := cX4_lose) (maxL := 2) (ret := (some .boolean)) (by decide) rfl ?_
  intro p e s m args below meth c0 s₁ B hml hv
  obtain ⟨rfl, hsz, hP, hK, hD0⟩ := hv
  have hx := B.exec
  have hb := B.bytes
  have hr := B.returns
  have hts := atoms_spec (ws := wsX4_lose) B.pre
  have hown : s.vm.findClass RX4 = some m.cls := findClass_of_methodNamed B.named
  have hlocks := B.notSynchronized
  have hinX4 : ∀ w ∈ wsX40, w ∈ wsX4_lose := fun _ h => List.mem_cons_of_mem _ (List.mem_append_right _ h)
  have lk_97 : (Cond.fieldLink RX4 97 "BallotHouseModel" "air" "I").before _ s = true := hts _ (by decide +kernel)
  subst hsz
  have hI := bh_start hP hD0
  generalize hAe : va_A (bh_mw h ad c (S)) s.heap.size = A at hI ⊢
  have hA : ∀ q : Nat, s.heap.size ≤ q → A q := fun q h => by rw [← hAe]; exact Or.inr h
  clear hP hD0 hAe
  have hl := lv_entry ([.ref h, .int (x)]) (n := 2) (Nat.le_of_ble_eq_true rfl)
  rw [lg_entry_eq]
  generalize (lg_sl ([.ref h, .int (x)]) ++ List.replicate (2 - (lg_sl ([.ref h, .int (x)])).length) Slot.unset).toArray = ls at hl ⊢
  have hl : lv_has ls 2 [(0, .ref h), (1, .int (x))] := hl
  rcases hx1 : bh_ix x (S.1 28) with _ | k
  · refine lv_iload_n hx hb dX4_lose_0 rfl (lv_at hl 1 rfl) ?_
    refine lv_if_lt (tgt := 12) hx hb dX4_lose_1 (by decide) (fun c_1 => ?_) (fun c_1 => ?_)
    · refine lv_iconst (v := nI 0) hx hb dX4_lose_12 (by decide) ?_
      exact bn_retz hx hb hr hlocks hK (S) hI (by unfold bh_mlose; rw [hx1]; exact ⟨rfl, rfl⟩) (by decide) dX4_lose_13
    · refine lv_iload_n hx hb dX4_lose_4 rfl (lv_at hl 1 rfl) ?_
      refine lv_aload_n hx hb dX4_lose_5 rfl (lv_at hl 0 rfl) ?_
      refine bn_get (ci := 3) (v := .int (nI (S.1 28))) (C := RX4) (T := TX4) (N := 31) hx hb hts hinX4 hown hK hI 0 rfl rfl 28 (by decide) lk_97 rfl (rfl) dX4_lose_6 ?_
      refine lv_icmp_lt (tgt := 14) hx hb dX4_lose_9 (by decide) (fun c_2 => ?_) (fun c_2 => ?_)
      · exfalso
        have q1 := bh_ix_none hx1
        have q2 := c_1
        have q3 := c_2
        simp only [bh_ltI, bh_leI, bh_t0, nI_toInt (show S.1 28 < 2 ^ 31 by omega)] at q2 q3
        omega
      · refine lv_iconst (v := nI 0) hx hb dX4_lose_12 (by decide) ?_
        exact bn_retz hx hb hr hlocks hK (S) hI (by unfold bh_mlose; rw [hx1]; exact ⟨rfl, rfl⟩) (by decide) dX4_lose_13
  · obtain ⟨hk, rfl⟩ := bh_ix_some hx1
    refine lv_iload_n hx hb dX4_lose_0 rfl (lv_at hl 1 rfl) ?_
    refine lv_if_lt (tgt := 12) hx hb dX4_lose_1 (by decide) (fun c_3 => ?_) (fun c_3 => ?_)
    · exact absurd c_3 (nI_pos (by omega))
    · refine lv_iload_n hx hb dX4_lose_4 rfl (lv_at hl 1 rfl) ?_
      refine lv_aload_n hx hb dX4_lose_5 rfl (lv_at hl 0 rfl) ?_
      refine bn_get (ci := 3) (v := .int (nI (S.1 28))) (C := RX4) (T := TX4) (N := 31) hx hb hts hinX4 hown hK hI 0 rfl rfl 28 (by decide) lk_97 rfl (rfl) dX4_lose_6 ?_
      refine bn_cmp_lt (tgt := 14) hx hb (by omega) (by omega) dX4_lose_9 (by decide) (fun c_4 => ?_) (fun c_4 => ?_)
      · refine lv_aload_n hx hb dX4_lose_14 rfl (lv_at hl 0 rfl) ?_
        refine lv_iload_n hx hb dX4_lose_15 rfl (lv_at hl 1 rfl) ?_
        refine bn_muv (bn_muV (As := [.int (nI k)]) (rest := []) ⟨hx, hb, hml, hown, hts⟩ (cm_take l D c h ad _ S k ha hk) (cwV 1 hts gX4_lose_X4_take rfl rfl rfl (by decide +kernel) ⟨Nat.le_of_ble_eq_true rfl, Nat.le_of_ble_eq_true rfl⟩) hK hI 0 3 rfl rfl rfl rfl hl.1 (Nat.le_of_ble_eq_true rfl) dX4_lose_16 ⟨Nat.le_of_ble_eq_true rfl, Nat.le_of_ble_eq_true rfl⟩) hI hA (fun u_5 H locs eu_5 hI => ?_)
        subst eu_5
        refine lv_iconst (v := nI 1) hx hb dX4_lose_19 (by decide) ?_
        exact bn_retz hx hb hr hlocks hK (bh_take S k) hI (by unfold bh_mlose; rw [hx1]; exact ⟨rfl, rfl⟩) (by decide) dX4_lose_20
      · exact absurd c_4 (by omega)
set_option maxHeartbeats 4000000 in
set_option maxRecDepth 100000 in
theorem cm_twice (l : Launch) (D : va_G) (c : bh_C) (h : Nat) (ad : Nat → Nat) (sz : Nat) (S : mS) (x : Int32) (ha : S.1 28 ≤ 400) : Met l yX4_twice wsX4_twice ({ frames := 1, cells := 0, slots := 0, locals := 23 }) (va_Pc [.ref h, .int (x)] (bh_prm D c (bh_mw h ad c (S)) sz)) (va_Qi (fun (r : Int32) (u : mS) => r = (bh_mtw S x).1 ∧ u = (bh_mtw S x).2) (fun u t => bh_post D c (bh_mw h ad c u) (va_A (bh_mw h ad c (S)) sz) t) (va_A (bh_mw h ad c (S)) sz)) 0 0 (va_A (bh_mw h ad c (S)) sz) := by
  refine Met.ofW (cc := cX4_twice) (maxL := 2) (ret := (some .boolean)) (by decide) rfl ?_
  intro p e s m args below meth c0 s₁ B hml hv
  obtain ⟨rfl, hsz, hP, hK, hD0⟩ := hv
  have hx := B.exec
  have hb := B.bytes
  have hr := B.returns
  have hts := atoms_spec (ws := wsX4_twice) B.pre
  have hown : s.vm.findClass RX4 = some m.cls := findClass_of_methodNamed B.named
  have hlocks := B.notSynchronized
  have hinX4 : ∀ w ∈ wsX40, w ∈ wsX4_twice := fun _ h => List.mem_cons_of_mem _ (List.mem_append_right _ h)
  have lk_97 : (Cond.fieldLink RX4 97 "BallotHouseModel" "air" "I").before _ s = true := hts _ (by decide +kernel)
  subst hsz
  have hI := bh_start hP hD0
  generalize hAe : va_A (bh_mw h ad c (S)) s.heap.size = A at hI ⊢
  have hA : ∀ q : Nat, s.heap.size ≤ q → A q := fun q h => by rw [← hAe]; exact Or.inr h
  clear hP hD0 hAe
  have hl := lv_entry ([.ref h, .int (x)]) (n := 2) (Nat.le_of_ble_eq_true rfl)
  rw [lg_entry_eq]
  generalize (lg_sl ([.ref h, .int (x)]) ++ List.replicate (2 - (lg_sl ([.ref h, .int (x)])).length) Slot.unset).toArray = ls at hl ⊢
  have hl : lv_has ls 2 [(0, .ref h), (1, .int (x))] := hl
  rcases hx1 : bh_ix x (S.1 28) with _ | k
  · refine lv_iload_n hx hb dX4_twice_0 rfl (lv_at hl 1 rfl) ?_
    refine lv_if_lt (tgt := 22) hx hb dX4_twice_1 (by decide) (fun c_1 => ?_) (fun c_1 => ?_)
    · refine lv_iconst (v := nI 0) hx hb dX4_twice_22 (by decide) ?_
      exact bn_retz hx hb hr hlocks hK (S) hI (by unfold bh_mtw; rw [hx1]; exact ⟨rfl, rfl⟩) (by decide) dX4_twice_23
    · refine lv_iload_n hx hb dX4_twice_4 rfl (lv_at hl 1 rfl) ?_
      refine lv_aload_n hx hb dX4_twice_5 rfl (lv_at hl 0 rfl) ?_
      refine bn_get (ci := 3) (v := .int (nI (S.1 28))) (C := RX4) (T := TX4) (N := 31) hx hb hts hinX4 hown hK hI 0 rfl rfl 28 (by decide) lk_97 rfl (rfl) dX4_twice_6 ?_
      refine lv_icmp_ge (tgt := 22) hx hb dX4_twice_9 (by decide) (fun c_2 => ?_) (fun c_2 => ?_)
      · refine lv_iconst (v := nI 0) hx hb dX4_twice_22 (by decide) ?_
        exact bn_retz hx hb hr hlocks hK (S) hI (by unfold bh_mtw; rw [hx1]; exact ⟨rfl, rfl⟩) (by decide) dX4_twice_23
      · exfalso
        have q1 := bh_ix_none hx1
        have q2 := c_1
        have q3 := c_2
        simp only [bh_ltI, bh_leI, bh_t0, nI_toInt (show S.1 28 < 2 ^ 31 by omega)] at q2 q3
        omega
  · obtain ⟨hk, rfl⟩ := bh_ix_some hx1
    refine lv_iload_n hx hb dX4_twice_0 rfl (lv_at hl 1 rfl) ?_
    refine lv_if_lt (tgt := 22) hx hb dX4_twice_1 (by decide) (fun c_3 => ?_) (fun c_3 => ?_)
    · exact absurd c_3 (nI_pos (by omega))
    · refine lv_iload_n hx hb dX4_twice_4 rfl (lv_at hl 1 rfl) ?_
      refine lv_aload_n hx hb dX4_twice_5 rfl (lv_at hl 0 rfl) ?_
      refine bn_get (ci := 3) (v := .int (nI (S.1 28))) (C := RX4) (T := TX4) (N := 31) hx hb hts hinX4 hown hK hI 0 rfl rfl 28 (by decide) lk_97 rfl (rfl) dX4_twice_6 ?_
      refine bn_cmp_ge (tgt := 22) hx hb (by omega) (by omega) dX4_twice_9 (by decide) (fun c_4 => ?_) (fun c_4 => ?_)
      · exact absurd c_4 (by omega)
      · refine lv_aload_n hx hb dX4_twice_12 rfl (lv_at hl 0 rfl) ?_
        refine bn_get (ci := 3) (v := .int (nI (S.1 28))) (C := RX4) (T := TX4) (N := 31) hx hb hts hinX4 hown hK hI 0 rfl rfl 28 (by decide) lk_97 rfl (rfl) dX4_twice_13 ?_
        refine lv_sipush (v := nI 400) hx hb dX4_twice_16 (by decide) ?_
        refine bn_cmp_ne (tgt := 24) hx hb (by omega) (by omega) dX4_twice_19 (by decide) (fun c_5 => ?_) (fun c_5 => ?_)
        · refine lv_aload_n hx hb dX4_twice_24 rfl (lv_at hl 0 rfl) ?_
          refine lv_iload_n hx hb dX4_twice_25 rfl (lv_at hl 1 rfl) ?_
          refine lv_aload_n hx hb dX4_twice_26 rfl (lv_at hl 0 rfl) ?_
          refine bn_get (ci := 3) (v := .int (nI (S.1 28))) (C := RX4) (T := TX4) (N := 31) hx hb hts hinX4 hown hK hI 0 rfl rfl 28 (by decide) lk_97 rfl (rfl) dX4_twice_27 ?_
          refine bn_muv (bn_muV (As := [.int (nI k), .int (nI (S.1 28))]) (rest := []) ⟨hx, hb, hml, hown, hts⟩ (cm_copy l D c h ad _ S k (S.1 28) (by omega) (by omega) (by omega)) (cwV 2 hts gX4_twice_X4_copy rfl rfl rfl (by decide +kernel) ⟨Nat.le_of_ble_eq_true rfl, Nat.le_of_ble_eq_true rfl⟩) hK hI 0 3 rfl rfl rfl rfl hl.1 (Nat.le_of_ble_eq_true rfl) dX4_twice_30 ⟨Nat.le_of_ble_eq_true rfl, Nat.le_of_ble_eq_true rfl⟩) hI hA (fun u_6 H locs eu_6 hI => ?_)
          subst eu_6
          refine lv_aload_n hx hb dX4_twice_33 rfl (lv_at hl 0 rfl) ?_
          refine lv_dup hx hb dX4_twice_34 rfl ?_
          refine bn_get (ci := 3) (v := .int (nI (S.1 28))) (C := RX4) (T := TX4) (N := 31) hx hb hts hinX4 hown hK hI 0 rfl rfl 28 (by decide) lk_97 rfl (rfl) dX4_twice_35 ?_
          refine lv_iconst (v := nI 1) hx hb dX4_twice_38 (by decide) ?_
          refine bn_iadd hx hb dX4_twice_39 ?_
          refine bn_put (ci := 3) (v := .int (nI ((S.1 28) + 1))) (ty := .int) (C := RX4) (T := TX4) (N := 31) (ws' := bh_mw h ad c (bh_n (bh_cp S k (S.1 28)) 28 ((S.1 28) + 1))) hx hb hts hinX4 tyX4 tyX4_ok nmX4 hown hK hI 0 rfl rfl 28 (by decide) lk_97 rfl rfl rfl rfl rfl (Nat.le_of_ble_eq_true rfl) dX4_twice_40 rfl (fun H locs hI => ?_)
          refine lv_iconst (v := nI 1) hx hb dX4_twice_43 (by decide) ?_
          exact bn_retz hx hb hr hlocks hK (bh_n (bh_cp S k (S.1 28)) 28 ((S.1 28) + 1)) hI (by unfold bh_mtw; rw [hx1]; dsimp only; rw [if_neg c_5]; exact ⟨rfl, rfl⟩) (by decide) dX4_twice_44
        · refine lv_iconst (v := nI 0) hx hb dX4_twice_22 (by decide) ?_
          exact bn_retz hx hb hr hlocks hK (S) hI (by unfold bh_mtw; rw [hx1]; dsimp only; rw [if_pos c_5]; exact ⟨rfl, rfl⟩) (by decide) dX4_twice_23
set_option maxHeartbeats 4000000 in
set_option maxRecDepth 100000 in
theorem cm_silent (l : Launch) (D : va_G) (c : bh_C) (h : Nat) (ad : Nat → Nat) (sz : Nat) (S : mS) (x z : Int32) (hn : S.1 0 ≤ 7) (hz : vp_nar .boolean z = z) : Met l yX4_silent wsX4_silent ({ frames := 1, cells := 0, slots := 0, locals := 21 }) (va_Pc [.ref h, .int (x), .int (z)] (bh_prm D c (bh_mw h ad c (S)) sz)) (va_Qi (fun (r : Int32) (u : mS) => r = (bh_msil S x z).1 ∧ u = (bh_msil S x z).2) (fun u t => bh_post D c (bh_mw h ad c u) (va_A (bh_mw h ad c (S)) sz) t) (va_A (bh_mw h ad c (S)) sz)) 0 0 (va_A (bh_mw h ad c (S)) sz) := by
  refine Met.ofW (cc := cX4_silent) (maxL := 3) (ret := (some .boolean)) (by decide) rfl ?_
  intro p e s m args below meth c0 s₁ B hml hv
  obtain ⟨rfl, hsz, hP, hK, hD0⟩ := hv
  have hx := B.exec
  have hb := B.bytes
  have hr := B.returns
  have hts := atoms_spec (ws := wsX4_silent) B.pre
  have hown : s.vm.findClass RX4 = some m.cls := findClass_of_methodNamed B.named
  have hlocks := B.notSynchronized
  have hinX4 : ∀ w ∈ wsX40, w ∈ wsX4_silent := fun _ h => List.mem_cons_of_mem _ (List.mem_append_right _ h)
  have lk_20 : (Cond.fieldLink RX4 20 "BallotHouseModel" "silent" "[Z").before _ s = true := hts _ (by decide +kernel)
  subst hsz
  have hI := bh_start hP hD0
  generalize hAe : va_A (bh_mw h ad c (S)) s.heap.size = A at hI ⊢
  have hA : ∀ q : Nat, s.heap.size ≤ q → A q := fun q h => by rw [← hAe]; exact Or.inr h
  clear hP hD0 hAe
  have hl := lv_entry ([.ref h, .int (x), .int (z)]) (n := 3) (Nat.le_of_ble_eq_true rfl)
  rw [lg_entry_eq]
  generalize (lg_sl ([.ref h, .int (x), .int (z)]) ++ List.replicate (3 - (lg_sl ([.ref h, .int (x), .int (z)])).length) Slot.unset).toArray = ls at hl ⊢
  have hl : lv_has ls 3 [(0, .ref h), (1, .int (x)), (2, .int (z))] := hl
  rcases hx1 : bh_ix x (S.1 0) with _ | v
  · refine lv_aload_n hx hb dX4_silent_0 rfl (lv_at hl 0 rfl) ?_
    refine lv_iload_n hx hb dX4_silent_1 rfl (lv_at hl 1 rfl) ?_
    refine vp_callSi (bn_roV (As := [.int (x)]) (rest := []) ⟨hx, hb, hml, hown, hts⟩ (cm_isVoter l D c h ad S (x) hn) (cwV 1 hts gX4_silent_X4_isVoter rfl rfl rfl (by decide +kernel) ⟨Nat.le_of_ble_eq_true rfl, Nat.le_of_ble_eq_true rfl⟩) hK hI 0 3 rfl rfl rfl rfl hl.1 (Nat.le_of_ble_eq_true rfl) dX4_silent_2 ⟨Nat.le_of_ble_eq_true rfl, Nat.le_of_ble_eq_true rfl⟩) (fun r_1 er_1 => ?_)
    obtain rfl : r_1 = nI 0 := by rw [er_1, hx1]; rfl
    refine lv_if_ne (tgt := 10) hx hb dX4_silent_5 (by decide) (fun c_2 => ?_) (fun c_2 => ?_)
    · first | exact absurd c_2 (by decide) | exact absurd (by decide) c_2
    · refine lv_iconst (v := nI 0) hx hb dX4_silent_8 (by decide) ?_
      exact bn_retz hx hb hr hlocks hK (S) hI (by unfold bh_msil; rw [hx1]; exact ⟨rfl, rfl⟩) (by decide) dX4_silent_9
  · obtain ⟨hv, rfl⟩ := bh_ix_some hx1
    refine lv_aload_n hx hb dX4_silent_0 rfl (lv_at hl 0 rfl) ?_
    refine lv_iload_n hx hb dX4_silent_1 rfl (lv_at hl 1 rfl) ?_
    refine vp_callSi (bn_roV (As := [.int (nI v)]) (rest := []) ⟨hx, hb, hml, hown, hts⟩ (cm_isVoter l D c h ad S (nI v) hn) (cwV 1 hts gX4_silent_X4_isVoter rfl rfl rfl (by decide +kernel) ⟨Nat.le_of_ble_eq_true rfl, Nat.le_of_ble_eq_true rfl⟩) hK hI 0 3 rfl rfl rfl rfl hl.1 (Nat.le_of_ble_eq_true rfl) dX4_silent_2 ⟨Nat.le_of_ble_eq_true rfl, Nat.le_of_ble_eq_true rfl⟩) (fun r_3 er_3 => ?_)
    obtain rfl : r_3 = nI 1 := by rw [er_3, hx1]; rfl
    refine lv_if_ne (tgt := 10) hx hb dX4_silent_5 (by decide) (fun c_4 => ?_) (fun c_4 => ?_)
    · refine lv_aload_n hx hb dX4_silent_10 rfl (lv_at hl 0 rfl) ?_
      refine bn_get (ci := 3) (v := .ref (ad 4)) (C := RX4) (T := TX4) (N := 31) hx hb hts hinX4 hown hK hI 0 rfl rfl 4 (by decide) lk_20 rfl (rfl) dX4_silent_11 ?_
      refine lv_iload_n hx hb dX4_silent_14 rfl (lv_at hl 1 rfl) ?_
      refine lv_iload_n hx hb dX4_silent_15 rfl (lv_at hl 2 rfl) ?_
      refine bn_zast (n := 7) (ws' := bh_mw h ad c (bh_r S 4 v z)) hx hb hK hI 4 2 rfl rfl (by omega) (by decide) (hz) dX4_silent_16 rfl (fun H locs hI => ?_)
      refine lv_iconst (v := nI 1) hx hb dX4_silent_17 (by decide) ?_
      exact bn_retz hx hb hr hlocks hK (bh_r S 4 v z) hI (by unfold bh_msil; rw [hx1]; exact ⟨rfl, rfl⟩) (by decide) dX4_silent_18
    · first | exact absurd c_4 (by decide) | exact absurd (by decide) c_4
set_option maxHeartbeats 4000000 in
set_option maxRecDepth 100000 in
theorem cm_deliver0 (l : Launch) (D : va_G) (c : bh_C) (h : Nat) (ad : Nat → Nat) (sz : Nat) (S : mS) (x : Int32) (ha : S.1 28 ≤ 400) (hx1 : bh_ix x (S.1 28) = none) : Met l yX4_deliver wsX4_deliver ({ frames := 0, cells := 0, slots := 0, locals := 0 }) (va_Pc [.ref h, .int (x)] (bh_prm D c (bh_mw h ad c (S)) sz)) (va_Qi (fun (r : Int32) (u : mS) => r = nI 0 ∧ u = S) (fun u t => bh_post D c (bh_mw h ad c u) (va_A (bh_mw h ad c (S)) sz) t) (va_A (bh_mw h ad c (S)) sz)) 0 0 (va_A (bh_mw h ad c (S)) sz) := by
  refine Met.ofW (cc := cX4_deliver) (maxL := 9) (ret := (some .boolean)) (by decide) rfl ?_
  intro p e s m args below meth c0 s₁ B hml hv
  obtain ⟨rfl, hsz, hP, hK, hD0⟩ := hv
  have hx := B.exec
  have hb := B.bytes
  have hr := B.returns
  have hts := atoms_spec (ws := wsX4_deliver) B.pre
  have hown : s.vm.findClass RX4 = some m.cls := findClass_of_methodNamed B.named
  have hlocks := B.notSynchronized
  have hinX4 : ∀ w ∈ wsX40, w ∈ wsX4_deliver := fun _ h => List.mem_cons_of_mem _ (List.mem_append_right _ h)
  have lk_97 : (Cond.fieldLink RX4 97 "BallotHouseModel" "air" "I").before _ s = true := hts _ (by decide +kernel)
  subst hsz
  have hI := bh_start hP hD0
  generalize hAe : va_A (bh_mw h ad c (S)) s.heap.size = A at hI ⊢
  have hA : ∀ q : Nat, s.heap.size ≤ q → A q := fun q h => by rw [← hAe]; exact Or.inr h
  clear hP hD0 hAe
  have hl := lv_entry ([.ref h, .int (x)]) (n := 9) (Nat.le_of_ble_eq_true rfl)
  rw [lg_entry_eq]
  generalize (lg_sl ([.ref h, .int (x)]) ++ List.replicate (9 - (lg_sl ([.ref h, .int (x)])).length) Slot.unset).toArray = ls at hl ⊢
  have hl : lv_has ls 9 [(0, .ref h), (1, .int (x))] := hl
  refine lv_iload_n hx hb dX4_deliver_0 rfl (lv_at hl 1 rfl) ?_
  refine lv_if_lt (tgt := 20) hx hb dX4_deliver_1 (by decide) (fun c_1 => ?_) (fun c_1 => ?_)
  · refine lv_iconst (v := nI 0) hx hb dX4_deliver_20 (by decide) ?_
    exact bn_retz hx hb hr hlocks hK (S) hI (⟨rfl, rfl⟩) (by decide) dX4_deliver_21
  · refine lv_iload_n hx hb dX4_deliver_4 rfl (lv_at hl 1 rfl) ?_
    refine lv_aload_n hx hb dX4_deliver_5 rfl (lv_at hl 0 rfl) ?_
    refine bn_get (ci := 3) (v := .int (nI (S.1 28))) (C := RX4) (T := TX4) (N := 31) hx hb hts hinX4 hown hK hI 0 rfl rfl 28 (by decide) lk_97 rfl (rfl) dX4_deliver_6 ?_
    refine lv_icmp_ge (tgt := 20) hx hb dX4_deliver_9 (by decide) (fun c_2 => ?_) (fun c_2 => ?_)
    · refine lv_iconst (v := nI 0) hx hb dX4_deliver_20 (by decide) ?_
      exact bn_retz hx hb hr hlocks hK (S) hI (⟨rfl, rfl⟩) (by decide) dX4_deliver_21
    · exfalso
      have q1 := bh_ix_none hx1
      have q2 := c_1
      have q3 := c_2
      simp only [bh_ltI, bh_leI, bh_t0, nI_toInt (show S.1 28 < 2 ^ 31 by omega)] at q2 q3
      omega
set_option maxHeartbeats 4000000 in
set_option maxRecDepth 100000 in
theorem cm_deliverF (l : Launch) (D : va_G) (c : bh_C) (h : Nat) (ad : Nat → Nat) (sz : Nat) (S : mS) (k : Nat) (ha : S.1 28 ≤ 400) (hk : k < S.1 28) (hL : bh_lok S k) (hcb : bh_cb S k = false) : Met l yX4_deliver wsX4_deliver ({ frames := 1, cells := 0, slots := 0, locals := 21 }) (va_Pc [.ref h, .int (nI k)] (bh_prm D c (bh_mw h ad c (S)) sz)) (va_Qi (fun (r : Int32) (u : mS) => r = nI 0 ∧ u = S) (fun u t => bh_post D c (bh_mw h ad c u) (va_A (bh_mw h ad c (S)) sz) t) (va_A (bh_mw h ad c (S)) sz)) 0 0 (va_A (bh_mw h ad c (S)) sz) := by
  refine Met.ofW (cc := cX4_deliver) (maxL := 9) (ret := (some .boolean)) (by decide) rfl ?_
  intro p e s m args below meth c0 s₁ B hml hv
  obtain ⟨rfl, hsz, hP, hK, hD0⟩ := hv
  have hx := B.exec
  have hb := B.bytes
  have hr := B.returns
  have hts := atoms_spec (ws := wsX4_deliver) B.pre
  have hown : s.vm.findClass RX4 = some m.cls := findClass_of_methodNamed B.named
  have hlocks := B.notSynchronized
  have hinX4 : ∀ w ∈ wsX40, w ∈ wsX4_deliver := fun _ h => List.mem_cons_of_mem _ (List.mem_append_right _ h)
  have lk_97 : (Cond.fieldLink RX4 97 "BallotHouseModel" "air" "I").before _ s = true := hts _ (by decide +kernel)
  subst hsz
  have hI := bh_start hP hD0
  generalize hAe : va_A (bh_mw h ad c (S)) s.heap.size = A at hI ⊢
  have hA : ∀ q : Nat, s.heap.size ≤ q → A q := fun q h => by rw [← hAe]; exact Or.inr h
  clear hP hD0 hAe
  have hl := lv_entry ([.ref h, .int (nI k)]) (n := 9) (Nat.le_of_ble_eq_true rfl)
  rw [lg_entry_eq]
  generalize (lg_sl ([.ref h, .int (nI k)]) ++ List.replicate (9 - (lg_sl ([.ref h, .int (nI k)])).length) Slot.unset).toArray = ls at hl ⊢
  have hl : lv_has ls 9 [(0, .ref h), (1, .int (nI k))] := hl
  refine lv_iload_n hx hb dX4_deliver_0 rfl (lv_at hl 1 rfl) ?_
  refine lv_if_lt (tgt := 20) hx hb dX4_deliver_1 (by decide) (fun c_1 => ?_) (fun c_1 => ?_)
  · exact absurd c_1 (nI_pos (by omega))
  · refine lv_iload_n hx hb dX4_deliver_4 rfl (lv_at hl 1 rfl) ?_
    refine lv_aload_n hx hb dX4_deliver_5 rfl (lv_at hl 0 rfl) ?_
    refine bn_get (ci := 3) (v := .int (nI (S.1 28))) (C := RX4) (T := TX4) (N := 31) hx hb hts hinX4 hown hK hI 0 rfl rfl 28 (by decide) lk_97 rfl (rfl) dX4_deliver_6 ?_
    refine bn_cmp_ge (tgt := 20) hx hb (by omega) (by omega) dX4_deliver_9 (by decide) (fun c_2 => ?_) (fun c_2 => ?_)
    · exact absurd c_2 (by omega)
    · refine lv_aload_n hx hb dX4_deliver_12 rfl (lv_at hl 0 rfl) ?_
      refine lv_iload_n hx hb dX4_deliver_13 rfl (lv_at hl 1 rfl) ?_
      refine vp_callSi (bn_roV (As := [.int (nI k)]) (rest := []) ⟨hx, hb, hml, hown, hts⟩ (cm_canBe l D c h ad S k (by omega) (bh_lok_cv hL)) (cwV 1 hts gX4_deliver_X4_canBe rfl rfl rfl (by decide +kernel) ⟨Nat.le_of_ble_eq_true rfl, Nat.le_of_ble_eq_true rfl⟩) hK hI 0 3 rfl rfl rfl rfl hl.1 (Nat.le_of_ble_eq_true rfl) dX4_deliver_14 ⟨Nat.le_of_ble_eq_true rfl, Nat.le_of_ble_eq_true rfl⟩) (fun r_3 er_3 => ?_)
      rw [hcb] at er_3
      subst er_3
      refine lv_if_ne (tgt := 22) hx hb dX4_deliver_17 (by decide) (fun c_4 => ?_) (fun c_4 => ?_)
      · first | exact absurd c_4 (by decide) | exact absurd (by decide) c_4
      · refine lv_iconst (v := nI 0) hx hb dX4_deliver_20 (by decide) ?_
        exact bn_retz hx hb hr hlocks hK (S) hI (⟨rfl, rfl⟩) (by decide) dX4_deliver_21
set_option maxHeartbeats 4000000 in
set_option maxRecDepth 100000 in
theorem cm_propose (l : Launch) (D : va_G) (c : bh_C) (h : Nat) (ad : Nat → Nat) (sz : Nat) (S : mS) (x y : Int32) (z : Int64) (ha : S.1 28 ≤ 400) (hn : S.1 0 ≤ 7) (hk24 : S.1 18 ≤ 24) : Met l yX4_propose wsX4_propose ({ frames := 2, cells := 0, slots := 0, locals := 51 }) (va_Pc [.ref h, .int (x), .int (y), .long (z)] (bh_prm D c (bh_mw h ad c (S)) sz)) (va_Qi (fun (r : Int32) (u : mS) => r = (bh_mpro S x y z).1 ∧ u = (bh_mpro S x y z).2) (fun u t => bh_post D c (bh_mw h ad c u) (va_A (bh_mw h ad c (S)) sz) t) (va_A (bh_mw h ad c (S)) sz)) 0 0 (va_A (bh_mw h ad c (S)) sz) := by
  refine Met.ofW (cc := cX4_propose) (maxL := 5) (ret := (some .boolean)) (by decide) rfl ?_
  intro p e s m args below meth c0 s₁ B hml hv
  obtain ⟨rfl, hsz, hP, hK, hD0⟩ := hv
  have hx := B.exec
  have hb := B.bytes
  have hr := B.returns
  have hts := atoms_spec (ws := wsX4_propose) B.pre
  have hown : s.vm.findClass RX4 = some m.cls := findClass_of_methodNamed B.named
  have hlocks := B.notSynchronized
  have hinX4 : ∀ w ∈ wsX40, w ∈ wsX4_propose := fun _ h => List.mem_cons_of_mem _ (List.mem_append_right _ h)
  have lk_24 : (Cond.fieldLink RX4 24 "BallotHouseModel" "state" "[I").before _ s = true := hts _ (by decide +kernel)
  have lk_42 : (Cond.fieldLink RX4 42 "BallotHouseModel" "found" "[I").before _ s = true := hts _ (by decide +kernel)
  have lk_45 : (Cond.fieldLink RX4 45 "BallotHouseModel" "proposed" "[I").before _ s = true := hts _ (by decide +kernel)
  have lk_60 : (Cond.fieldLink RX4 60 "BallotHouseModel" "says" "[J").before _ s = true := hts _ (by decide +kernel)
  subst hsz
  have hI := bh_start hP hD0
  generalize hAe : va_A (bh_mw h ad c (S)) s.heap.size = A at hI ⊢
  have hA : ∀ q : Nat, s.heap.size ≤ q → A q := fun q h => by rw [← hAe]; exact Or.inr h
  clear hP hD0 hAe
  have hl := lv_entry ([.ref h, .int (x), .int (y), .long (z)]) (n := 5) (Nat.le_of_ble_eq_true rfl)
  rw [lg_entry_eq]
  generalize (lg_sl ([.ref h, .int (x), .int (y), .long (z)]) ++ List.replicate (5 - (lg_sl ([.ref h, .int (x), .int (y), .long (z)])).length) Slot.unset).toArray = ls at hl ⊢
  have hl : lv_has ls 5 [(0, .ref h), (1, .int (x)), (2, .int (y)), (3, .long (z))] := hl
  rcases hx1 : bh_ixb x (S.1 18) with _ | b
  · refine lv_aload_n hx hb dX4_propose_0 rfl (lv_at hl 0 rfl) ?_
    refine lv_iload_n hx hb dX4_propose_1 rfl (lv_at hl 1 rfl) ?_
    refine vp_callSi (bn_roV (As := [.int (x)]) (rest := []) ⟨hx, hb, hml, hown, hts⟩ (cm_isBallot l D c h ad S (x) hk24) (cwV 1 hts gX4_propose_X4_isBallot rfl rfl rfl (by decide +kernel) ⟨Nat.le_of_ble_eq_true rfl, Nat.le_of_ble_eq_true rfl⟩) hK hI 0 3 rfl rfl rfl rfl hl.1 (Nat.le_of_ble_eq_true rfl) dX4_propose_2 ⟨Nat.le_of_ble_eq_true rfl, Nat.le_of_ble_eq_true rfl⟩) (fun r_1 er_1 => ?_)
    obtain rfl : r_1 = nI 0 := by rw [er_1, hx1]; rfl
    refine lv_if_eq (tgt := 46) hx hb dX4_propose_5 (by decide) (fun c_2 => ?_) (fun c_2 => ?_)
    · refine lv_iconst (v := nI 0) hx hb dX4_propose_46 (by decide) ?_
      exact bn_retz hx hb hr hlocks hK (S) hI (by unfold bh_mpro; rw [hx1]; exact ⟨rfl, rfl⟩) (by decide) dX4_propose_47
    · first | exact absurd c_2 (by decide) | exact absurd (by decide) c_2
  · obtain ⟨hb1, hb2, rfl⟩ := bh_ixb_some hx1
    refine lv_aload_n hx hb dX4_propose_0 rfl (lv_at hl 0 rfl) ?_
    refine lv_iload_n hx hb dX4_propose_1 rfl (lv_at hl 1 rfl) ?_
    refine vp_callSi (bn_roV (As := [.int (nI b)]) (rest := []) ⟨hx, hb, hml, hown, hts⟩ (cm_isBallot l D c h ad S (nI b) hk24) (cwV 1 hts gX4_propose_X4_isBallot rfl rfl rfl (by decide +kernel) ⟨Nat.le_of_ble_eq_true rfl, Nat.le_of_ble_eq_true rfl⟩) hK hI 0 3 rfl rfl rfl rfl hl.1 (Nat.le_of_ble_eq_true rfl) dX4_propose_2 ⟨Nat.le_of_ble_eq_true rfl, Nat.le_of_ble_eq_true rfl⟩) (fun r_3 er_3 => ?_)
    obtain rfl : r_3 = nI 1 := by rw [er_3, hx1]; rfl
    refine lv_if_eq (tgt := 46) hx hb dX4_propose_5 (by decide) (fun c_4 => ?_) (fun c_4 => ?_)
    · first | exact absurd c_4 (by decide) | exact absurd (by decide) c_4
    · rcases hx2 : bh_ix y 8 with _ | q
      · refine lv_iload_n hx hb dX4_propose_8 rfl (lv_at hl 2 rfl) ?_
        refine vp_callSi (bn_roS (As := [.int (y)]) (rest := []) ⟨hx, hb, hml, hown, hts⟩ (cm_isPlace l (y)) (va_cwS 1 hts gX4_propose_X4_isPlace rfl rfl rfl (by decide +kernel) ⟨Nat.le_of_ble_eq_true rfl, Nat.le_of_ble_eq_true rfl⟩) rfl hl.1 (Nat.le_of_ble_eq_true rfl) dX4_propose_9 ⟨Nat.le_of_ble_eq_true rfl, Nat.le_of_ble_eq_true rfl⟩) (fun r_5 er_5 => ?_)
        obtain rfl : r_5 = nI 0 := by rw [er_5, hx2]; rfl
        refine lv_if_eq (tgt := 46) hx hb dX4_propose_12 (by decide) (fun c_6 => ?_) (fun c_6 => ?_)
        · refine lv_iconst (v := nI 0) hx hb dX4_propose_46 (by decide) ?_
          exact bn_retz hx hb hr hlocks hK (S) hI (by unfold bh_mpro; rw [hx1]; dsimp only; rw [hx2]; exact ⟨rfl, rfl⟩) (by decide) dX4_propose_47
        · first | exact absurd c_6 (by decide) | exact absurd (by decide) c_6
      · obtain ⟨hq, rfl⟩ := bh_ix_some hx2
        refine lv_iload_n hx hb dX4_propose_8 rfl (lv_at hl 2 rfl) ?_
        refine vp_callSi (bn_roS (As := [.int (nI q)]) (rest := []) ⟨hx, hb, hml, hown, hts⟩ (cm_isPlace l (nI q)) (va_cwS 1 hts gX4_propose_X4_isPlace rfl rfl rfl (by decide +kernel) ⟨Nat.le_of_ble_eq_true rfl, Nat.le_of_ble_eq_true rfl⟩) rfl hl.1 (Nat.le_of_ble_eq_true rfl) dX4_propose_9 ⟨Nat.le_of_ble_eq_true rfl, Nat.le_of_ble_eq_true rfl⟩) (fun r_7 er_7 => ?_)
        obtain rfl : r_7 = nI 1 := by rw [er_7, hx2]; rfl
        refine lv_if_eq (tgt := 46) hx hb dX4_propose_12 (by decide) (fun c_8 => ?_) (fun c_8 => ?_)
        · first | exact absurd c_8 (by decide) | exact absurd (by decide) c_8
        · refine lv_aload_n hx hb dX4_propose_15 rfl (lv_at hl 0 rfl) ?_
          refine bn_get (ci := 3) (v := .ref (ad 5)) (C := RX4) (T := TX4) (N := 31) hx hb hts hinX4 hown hK hI 0 rfl rfl 5 (by decide) lk_24 rfl (rfl) dX4_propose_16 ?_
          refine lv_iload_n hx hb dX4_propose_19 rfl (lv_at hl 1 rfl) ?_
          refine bn_iald (n := 25) (v := S.2.2.1 5 b) hx hb hK hI 5 0 rfl rfl (by omega) (by decide) (rfl) dX4_propose_20 ?_
          refine lv_iconst (v := nI 4) hx hb dX4_propose_21 (by decide) ?_
          refine lv_icmp_ne (tgt := 46) hx hb dX4_propose_22 (by decide) (fun c_9 => ?_) (fun c_9 => ?_)
          · refine lv_iconst (v := nI 0) hx hb dX4_propose_46 (by decide) ?_
            exact bn_retz hx hb hr hlocks hK (S) hI (by unfold bh_mpro; rw [hx1]; dsimp only; rw [hx2]; dsimp only; rw [if_neg (fun w => c_9 w.1)]; exact ⟨rfl, rfl⟩) (by decide) dX4_propose_47
          · refine lv_aload_n hx hb dX4_propose_25 rfl (lv_at hl 0 rfl) ?_
            refine bn_get (ci := 3) (v := .ref (ad 11)) (C := RX4) (T := TX4) (N := 31) hx hb hts hinX4 hown hK hI 0 rfl rfl 11 (by decide) lk_42 rfl (rfl) dX4_propose_26 ?_
            refine lv_iload_n hx hb dX4_propose_29 rfl (lv_at hl 1 rfl) ?_
            refine bn_iald (n := 25) (v := S.2.2.1 11 b) hx hb hK hI 11 0 rfl rfl (by omega) (by decide) (rfl) dX4_propose_30 ?_
            refine lv_aload_n hx hb dX4_propose_31 rfl (lv_at hl 0 rfl) ?_
            refine bn_get (ci := 3) (v := .ref (ad 12)) (C := RX4) (T := TX4) (N := 31) hx hb hts hinX4 hown hK hI 0 rfl rfl 12 (by decide) lk_45 rfl (rfl) dX4_propose_32 ?_
            refine lv_iload_n hx hb dX4_propose_35 rfl (lv_at hl 1 rfl) ?_
            refine bn_iald (n := 25) (v := S.2.2.1 12 b) hx hb hK hI 12 0 rfl rfl (by omega) (by decide) (rfl) dX4_propose_36 ?_
            refine lv_ior hx hb dX4_propose_37 ?_
            refine lv_iload_n hx hb dX4_propose_38 rfl (lv_at hl 2 rfl) ?_
            refine lv_ishr hx hb dX4_propose_39 ?_
            refine lv_iconst (v := nI 1) hx hb dX4_propose_40 (by decide) ?_
            refine lv_iand hx hb dX4_propose_41 ?_
            refine lv_iconst (v := nI 1) hx hb dX4_propose_42 (by decide) ?_
            refine lv_icmp_ne (tgt := 48) hx hb dX4_propose_43 (by decide) (fun c_10 => ?_) (fun c_10 => ?_)
            · refine lv_aload_n hx hb dX4_propose_48 rfl (lv_at hl 0 rfl) ?_
              refine bn_get (ci := 3) (v := .ref (ad 12)) (C := RX4) (T := TX4) (N := 31) hx hb hts hinX4 hown hK hI 0 rfl rfl 12 (by decide) lk_45 rfl (rfl) dX4_propose_49 ?_
              refine lv_iload_n hx hb dX4_propose_52 rfl (lv_at hl 1 rfl) ?_
              refine lv_dup2_11 hx hb dX4_propose_53 rfl rfl ?_
              refine bn_iald (n := 25) (v := S.2.2.1 12 b) hx hb hK hI 12 0 rfl rfl (by omega) (by decide) (rfl) dX4_propose_54 ?_
              refine lv_iconst (v := nI 1) hx hb dX4_propose_55 (by decide) ?_
              refine lv_iload_n hx hb dX4_propose_56 rfl (lv_at hl 2 rfl) ?_
              refine lv_ishl hx hb dX4_propose_57 ?_
              refine lv_ior hx hb dX4_propose_58 ?_
              refine bn_iast (n := 25) (ws' := bh_mw h ad c (bh_r S 12 b ((S.2.2.1 12 b) ||| ((nI 1) <<< ((nI q) &&& 31))))) hx hb hK hI 12 0 rfl rfl (by omega) (by decide) dX4_propose_59 rfl (fun H locs hI => ?_)
              refine lv_aload_n hx hb dX4_propose_60 rfl (lv_at hl 0 rfl) ?_
              refine bn_get (ci := 3) (v := .ref (ad 17)) (C := RX4) (T := TX4) (N := 31) hx hb hts hinX4 hown hK hI 0 rfl rfl 17 (by decide) lk_60 rfl (rfl) dX4_propose_61 ?_
              refine lv_bipush (v := nI 8) hx hb dX4_propose_64 (by decide) ?_
              refine lv_iload_n hx hb dX4_propose_66 rfl (lv_at hl 1 rfl) ?_
              refine bn_imul hx hb dX4_propose_67 ?_
              refine lv_iload_n hx hb dX4_propose_68 rfl (lv_at hl 2 rfl) ?_
              refine bn_iadd hx hb dX4_propose_69 ?_
              refine lv_lload_n hx hb dX4_propose_70 rfl (lv_at hl 3 rfl) ?_
              refine bn_last (n := 200) (ws' := bh_mw h ad c (bh_l (bh_r S 12 b ((S.2.2.1 12 b) ||| ((nI 1) <<< ((nI q) &&& 31)))) 17 ((8 * b) + q) z)) hx hb hK hI 17 1 rfl rfl (by omega) (by decide) dX4_propose_71 rfl (fun H locs hI => ?_)
              refine lv_aload_n hx hb dX4_propose_72 rfl (lv_at hl 0 rfl) ?_
              refine lv_iload_n hx hb dX4_propose_73 rfl (lv_at hl 1 rfl) ?_
              refine lv_iload_n hx hb dX4_propose_74 rfl (lv_at hl 2 rfl) ?_
              refine bn_mui (bn_muV (As := [.int (nI b), .int (nI q)]) (rest := []) ⟨hx, hb, hml, hown, hts⟩ (cm_sendVotes l D c h ad _ (bh_l (bh_r S 12 b (S.2.2.1 12 b ||| bh_bit q)) 17 (8 * b + q) z) b q (by omega) hq ha hn) (cwV 2 hts gX4_propose_X4_sendVotes rfl rfl rfl (by decide +kernel) ⟨Nat.le_of_ble_eq_true rfl, Nat.le_of_ble_eq_true rfl⟩) hK hI 0 3 rfl rfl rfl rfl hl.1 (Nat.le_of_ble_eq_true rfl) dX4_propose_75 ⟨Nat.le_of_ble_eq_true rfl, Nat.le_of_ble_eq_true rfl⟩) hI hA (fun r_11 u_11 H locs eu_11 hI => ?_)
              obtain ⟨er_11, eu_11⟩ := eu_11
              subst er_11
              subst eu_11
              refine lv_pop hx hb dX4_propose_78 rfl ?_
              refine lv_iconst (v := nI 1) hx hb dX4_propose_79 (by decide) ?_
              exact bn_retz hx hb hr hlocks hK (bh_pro S b q z) hI (by unfold bh_mpro; rw [hx1]; dsimp only; rw [hx2]; dsimp only; rw [if_pos ⟨c_9, c_10⟩]; exact ⟨rfl, rfl⟩) (by decide) dX4_propose_80
            · refine lv_iconst (v := nI 0) hx hb dX4_propose_46 (by decide) ?_
              exact bn_retz hx hb hr hlocks hK (S) hI (by unfold bh_mpro; rw [hx1]; dsimp only; rw [hx2]; dsimp only; rw [if_neg (fun w => w.2 c_10)]; exact ⟨rfl, rfl⟩) (by decide) dX4_propose_47
set_option maxHeartbeats 4000000 in
set_option maxRecDepth 100000 in
theorem cm_again (l : Launch) (D : va_G) (c : bh_C) (h : Nat) (ad : Nat → Nat) (sz : Nat) (S : mS) (x : Int32) (ha : S.1 28 ≤ 400) (hn : S.1 0 ≤ 7) (hk24 : S.1 18 ≤ 24) (hgb : ∀ b, 1 ≤ b → b ≤ S.1 18 → ∃ g, g ≤ 24 ∧ S.2.2.1 9 b = nI g) : Met l yX4_again wsX4_again ({ frames := 3, cells := 0, slots := 0, locals := 67 }) (va_Pc [.ref h, .int (x)] (bh_prm D c (bh_mw h ad c (S)) sz)) (va_Qi (fun (r : Int32) (u : mS) => r = (bh_magn S x).1 ∧ u = (bh_magn S x).2) (fun u t => bh_post D c (bh_mw h ad c u) (va_A (bh_mw h ad c (S)) sz) t) (va_A (bh_mw h ad c (S)) sz)) 0 0 (va_A (bh_mw h ad c (S)) sz) := by
  refine Met.ofW (cc := cX4_again) (maxL := 4) (ret := (some .int)) (by decide) rfl ?_
  intro p e s m args below meth c0 s₁ B hml hv
  obtain ⟨rfl, hsz, hP, hK, hD0⟩ := hv
  have hx := B.exec
  have hb := B.bytes
  have hr := B.returns
  have hts := atoms_spec (ws := wsX4_again) B.pre
  have hown : s.vm.findClass RX4 = some m.cls := findClass_of_methodNamed B.named
  have hlocks := B.notSynchronized
  have hinX4 : ∀ w ∈ wsX40, w ∈ wsX4_again := fun _ h => List.mem_cons_of_mem _ (List.mem_append_right _ h)
  have lk_24 : (Cond.fieldLink RX4 24 "BallotHouseModel" "state" "[I").before _ s = true := hts _ (by decide +kernel)
  have lk_42 : (Cond.fieldLink RX4 42 "BallotHouseModel" "found" "[I").before _ s = true := hts _ (by decide +kernel)
  have lk_45 : (Cond.fieldLink RX4 45 "BallotHouseModel" "proposed" "[I").before _ s = true := hts _ (by decide +kernel)
  have lk_48 : (Cond.fieldLink RX4 48 "BallotHouseModel" "known" "[I").before _ s = true := hts _ (by decide +kernel)
  subst hsz
  have hI := bh_start hP hD0
  generalize hAe : va_A (bh_mw h ad c (S)) s.heap.size = A at hI ⊢
  have hA : ∀ q : Nat, s.heap.size ≤ q → A q := fun q h => by rw [← hAe]; exact Or.inr h
  clear hP hD0 hAe
  have hl := lv_entry ([.ref h, .int (x)]) (n := 4) (Nat.le_of_ble_eq_true rfl)
  rw [lg_entry_eq]
  generalize (lg_sl ([.ref h, .int (x)]) ++ List.replicate (4 - (lg_sl ([.ref h, .int (x)])).length) Slot.unset).toArray = ls at hl ⊢
  have hl : lv_has ls 4 [(0, .ref h), (1, .int (x))] := hl
  rcases hx1 : bh_ixb x (S.1 18) with _ | b
  · refine lv_aload_n hx hb dX4_again_0 rfl (lv_at hl 0 rfl) ?_
    refine lv_iload_n hx hb dX4_again_1 rfl (lv_at hl 1 rfl) ?_
    refine vp_callSi (bn_roV (As := [.int (x)]) (rest := []) ⟨hx, hb, hml, hown, hts⟩ (cm_isBallot l D c h ad S (x) hk24) (cwV 1 hts gX4_again_X4_isBallot rfl rfl rfl (by decide +kernel) ⟨Nat.le_of_ble_eq_true rfl, Nat.le_of_ble_eq_true rfl⟩) hK hI 0 3 rfl rfl rfl rfl hl.1 (Nat.le_of_ble_eq_true rfl) dX4_again_2 ⟨Nat.le_of_ble_eq_true rfl, Nat.le_of_ble_eq_true rfl⟩) (fun r_1 er_1 => ?_)
    obtain rfl : r_1 = nI 0 := by rw [er_1, hx1]; rfl
    refine lv_if_ne (tgt := 10) hx hb dX4_again_5 (by decide) (fun c_2 => ?_) (fun c_2 => ?_)
    · first | exact absurd c_2 (by decide) | exact absurd (by decide) c_2
    · refine lv_iconst (v := -1) hx hb dX4_again_8 (by decide) ?_
      exact bn_reti hx hb hr hlocks hK (S) hI (by unfold bh_magn; rw [hx1]; exact ⟨rfl, rfl⟩) dX4_again_9
  · obtain ⟨hb1, hb2, rfl⟩ := bh_ixb_some hx1
    refine lv_aload_n hx hb dX4_again_0 rfl (lv_at hl 0 rfl) ?_
    refine lv_iload_n hx hb dX4_again_1 rfl (lv_at hl 1 rfl) ?_
    refine vp_callSi (bn_roV (As := [.int (nI b)]) (rest := []) ⟨hx, hb, hml, hown, hts⟩ (cm_isBallot l D c h ad S (nI b) hk24) (cwV 1 hts gX4_again_X4_isBallot rfl rfl rfl (by decide +kernel) ⟨Nat.le_of_ble_eq_true rfl, Nat.le_of_ble_eq_true rfl⟩) hK hI 0 3 rfl rfl rfl rfl hl.1 (Nat.le_of_ble_eq_true rfl) dX4_again_2 ⟨Nat.le_of_ble_eq_true rfl, Nat.le_of_ble_eq_true rfl⟩) (fun r_3 er_3 => ?_)
    obtain rfl : r_3 = nI 1 := by rw [er_3, hx1]; rfl
    refine lv_if_ne (tgt := 10) hx hb dX4_again_5 (by decide) (fun c_4 => ?_) (fun c_4 => ?_)
    · rcases bh_st4 (S.2.2.1 5 b) with hs0 | hs1 | hs2 | hs3 | hs9
      · refine lv_aload_n hx hb dX4_again_10 rfl (lv_at hl 0 rfl) ?_
        obtain ⟨g, hg24, hg⟩ := hgb b hb1 hb2
        have hgc : (S.2.2.1 9 b).toNatClampNeg = g := by rw [hg]; exact nI_clamp (by omega)
        refine bn_get (ci := 3) (v := .ref (ad 5)) (C := RX4) (T := TX4) (N := 31) hx hb hts hinX4 hown hK hI 0 rfl rfl 5 (by decide) lk_24 rfl (rfl) dX4_again_11 ?_
        refine lv_iload_n hx hb dX4_again_14 rfl (lv_at hl 1 rfl) ?_
        refine bn_iald (n := 25) (v := nI 0) hx hb hK hI 5 0 rfl rfl (by omega) (by decide) (hs0) dX4_again_15 ?_
        refine lv_tableIn (tgt := 48) hx hb dX4_again_16 (by decide) (by decide) rfl (by decide) ?_
        refine lv_aload_n hx hb dX4_again_48 rfl (lv_at hl 0 rfl) ?_
        refine lv_iconst (v := nI 1) hx hb dX4_again_49 (by decide) ?_
        refine lv_iload_n hx hb dX4_again_50 rfl (lv_at hl 1 rfl) ?_
        refine lv_iconst (v := -1) hx hb dX4_again_51 (by decide) ?_
        refine lv_iconst (v := -1) hx hb dX4_again_52 (by decide) ?_
        refine lv_lconst (v := 0) hx hb dX4_again_53 (by decide) ?_
        refine bn_muv (bn_muV (As := [.int (nI 1), .int (nI b), .int (-1), .int (-1), .long (0)]) (rest := []) ⟨hx, hb, hml, hown, hts⟩ (cm_put l D c h ad _ (S) 1 (nI b) (-1) (-1) (0) (ha) (by omega) (by omega)) (cwV 5 hts gX4_again_X4_put rfl rfl rfl (by decide +kernel) ⟨Nat.le_of_ble_eq_true rfl, Nat.le_of_ble_eq_true rfl⟩) hK hI 0 3 rfl rfl rfl rfl hl.1 (Nat.le_of_ble_eq_true rfl) dX4_again_54 ⟨Nat.le_of_ble_eq_true rfl, Nat.le_of_ble_eq_true rfl⟩) hI hA (fun u_5 H locs eu_5 hI => ?_)
        subst eu_5
        refine lv_iconst (v := nI 1) hx hb dX4_again_57 (by decide) ?_
        exact bn_reti hx hb hr hlocks hK (bh_put (S) (nI 1) (nI b) (-1) (-1) 0 bh_z0 bh_z1) hI (by unfold bh_magn; rw [hx1]; dsimp only; rw [hgc]; unfold bh_ag; rw [if_pos hs0]; exact ⟨rfl, rfl⟩) dX4_again_58
      · refine lv_aload_n hx hb dX4_again_10 rfl (lv_at hl 0 rfl) ?_
        obtain ⟨g, hg24, hg⟩ := hgb b hb1 hb2
        have hgc : (S.2.2.1 9 b).toNatClampNeg = g := by rw [hg]; exact nI_clamp (by omega)
        refine bn_get (ci := 3) (v := .ref (ad 5)) (C := RX4) (T := TX4) (N := 31) hx hb hts hinX4 hown hK hI 0 rfl rfl 5 (by decide) lk_24 rfl (rfl) dX4_again_11 ?_
        refine lv_iload_n hx hb dX4_again_14 rfl (lv_at hl 1 rfl) ?_
        refine bn_iald (n := 25) (v := nI 1) hx hb hK hI 5 0 rfl rfl (by omega) (by decide) (hs1) dX4_again_15 ?_
        refine lv_tableIn (tgt := 59) hx hb dX4_again_16 (by decide) (by decide) rfl (by decide) ?_
        refine lv_aload_n hx hb dX4_again_59 rfl (lv_at hl 0 rfl) ?_
        refine lv_iload_n hx hb dX4_again_60 rfl (lv_at hl 1 rfl) ?_
        refine bn_mui (bn_muV (As := [.int (nI b)]) (rest := []) ⟨hx, hb, hml, hown, hts⟩ (cm_sendReads l D c h ad _ S b (by omega) g hg hg24 ha hn) (cwV 1 hts gX4_again_X4_sendReads rfl rfl rfl (by decide +kernel) ⟨Nat.le_of_ble_eq_true rfl, Nat.le_of_ble_eq_true rfl⟩) hK hI 0 3 rfl rfl rfl rfl hl.1 (Nat.le_of_ble_eq_true rfl) dX4_again_61 ⟨Nat.le_of_ble_eq_true rfl, Nat.le_of_ble_eq_true rfl⟩) hI hA (fun r_6 u_6 H locs eu_6 hI => ?_)
        obtain ⟨er_6, eu_6⟩ := eu_6
        subst er_6
        subst eu_6
        exact bn_reti hx hb hr hlocks hK ((bh_sr S b g).2) hI (by unfold bh_magn; rw [hx1]; dsimp only; rw [hgc]; unfold bh_ag; rw [if_neg (by rw [hs1]; decide), if_pos hs1]; exact ⟨rfl, rfl⟩) dX4_again_64
      · have hn0 : ¬ S.2.2.1 5 b = nI 0 := by rw [hs2]; decide
        have hn1 : ¬ S.2.2.1 5 b = nI 1 := by rw [hs2]; decide
        have hn3 : ¬ S.2.2.1 5 b = nI 3 := by rw [hs2]; decide
        refine lv_aload_n hx hb dX4_again_10 rfl (lv_at hl 0 rfl) ?_
        obtain ⟨g, hg24, hg⟩ := hgb b hb1 hb2
        have hgc : (S.2.2.1 9 b).toNatClampNeg = g := by rw [hg]; exact nI_clamp (by omega)
        refine bn_get (ci := 3) (v := .ref (ad 5)) (C := RX4) (T := TX4) (N := 31) hx hb hts hinX4 hown hK hI 0 rfl rfl 5 (by decide) lk_24 rfl (rfl) dX4_again_11 ?_
        refine lv_iload_n hx hb dX4_again_14 rfl (lv_at hl 1 rfl) ?_
        refine bn_iald (n := 25) (v := nI 2) hx hb hK hI 5 0 rfl rfl (by omega) (by decide) (hs2) dX4_again_15 ?_
        refine lv_tableIn (tgt := 77) hx hb dX4_again_16 (by decide) (by decide) rfl (by decide) ?_
        refine lv_iconst (v := nI 0) hx hb dX4_again_77 (by decide) ?_
        refine lv_istore_n (lv' := [(2, .int (nI 0)), (0, .ref h), (1, .int (nI b))]) hx hb dX4_again_78 rfl hl (by decide) rfl (fun ls hl => ?_)
        refine lv_iconst (v := nI 0) hx hb dX4_again_79 (by decide) ?_
        refine lv_istore_n (lv' := [(3, .int (nI 0)), (2, .int (nI 0)), (0, .ref h), (1, .int (nI b))]) hx hb dX4_again_80 rfl hl (by decide) rfl (fun ls hl => ?_)
        refine bh_loop (σ := Nat) (fun (q : Nat) H locs ls => q ≤ 8 ∧ bh_I D (bh_mw h ad c ((bh_agL S b q).2)) A s.heap H locs ∧ lv_has ls 4 [(3, .int (nI q)), (2, .int (nI ((bh_agL S b q).1))), (0, .ref h), (1, .int (nI b))]) (fun (q : Nat) => 8 - q) (fun q H locs ls hx_7 ih_7 => ?_) 0 _ _ _ ⟨Nat.zero_le 8, hI, lv_sub hl [0, 1, 2, 3] rfl⟩
        clear hl hI
        obtain ⟨hq, hI, hl⟩ := hx_7
        have hkp := bh_agL_kp S b q
        have hle := bh_agL_le ha b q
        refine lv_iload_n hx hb dX4_again_81 rfl (lv_at hl 0 rfl) ?_
        refine lv_bipush (v := nI 8) hx hb dX4_again_82 (by decide) ?_
        refine bn_cmp_ge (tgt := 132) hx hb (by omega) (by omega) dX4_again_84 (by decide) (fun c_8 => ?_) (fun c_8 => ?_)
        · refine lv_iload_n hx hb dX4_again_132 rfl (lv_at hl 1 rfl) ?_
          exact bn_reti hx hb hr hlocks hK ((bh_agL S b q).2) hI (by unfold bh_magn; rw [hx1]; dsimp only; rw [hgc]; unfold bh_ag; rw [if_neg hn0, if_neg hn1, if_neg hn3, show q = 8 by omega]; exact ⟨rfl, rfl⟩) dX4_again_133
        · refine lv_aload_n hx hb dX4_again_87 rfl (lv_at hl 2 rfl) ?_
          refine bn_get (ci := 3) (v := .ref (ad 11)) (C := RX4) (T := TX4) (N := 31) hx hb hts hinX4 hown hK hI 0 rfl rfl 11 (by decide) lk_42 rfl (rfl) dX4_again_88 ?_
          refine lv_iload_n hx hb dX4_again_91 rfl (lv_at hl 3 rfl) ?_
          refine bn_iald (n := 25) (v := S.2.2.1 11 b) hx hb hK hI 11 0 rfl rfl (by omega) (by decide) (by rw [(hkp.2 11 (by omega)).1]) dX4_again_92 ?_
          refine lv_aload_n hx hb dX4_again_93 rfl (lv_at hl 2 rfl) ?_
          refine bn_get (ci := 3) (v := .ref (ad 12)) (C := RX4) (T := TX4) (N := 31) hx hb hts hinX4 hown hK hI 0 rfl rfl 12 (by decide) lk_45 rfl (rfl) dX4_again_94 ?_
          refine lv_iload_n hx hb dX4_again_97 rfl (lv_at hl 3 rfl) ?_
          refine bn_iald (n := 25) (v := S.2.2.1 12 b) hx hb hK hI 12 0 rfl rfl (by omega) (by decide) (by rw [(hkp.2 12 (by omega)).1]) dX4_again_98 ?_
          refine lv_ior hx hb dX4_again_99 ?_
          refine lv_aload_n hx hb dX4_again_100 rfl (lv_at hl 2 rfl) ?_
          refine bn_get (ci := 3) (v := .ref (ad 13)) (C := RX4) (T := TX4) (N := 31) hx hb hts hinX4 hown hK hI 0 rfl rfl 13 (by decide) lk_48 rfl (rfl) dX4_again_101 ?_
          refine lv_iload_n hx hb dX4_again_104 rfl (lv_at hl 3 rfl) ?_
          refine bn_iald (n := 25) (v := S.2.2.1 13 b) hx hb hK hI 13 0 rfl rfl (by omega) (by decide) (by rw [(hkp.2 13 (by omega)).1]) dX4_again_105 ?_
          refine lv_iconst (v := -1) hx hb dX4_again_106 (by decide) ?_
          refine lv_ixor hx hb dX4_again_107 ?_
          refine lv_iand hx hb dX4_again_108 ?_
          refine lv_iload_n hx hb dX4_again_109 rfl (lv_at hl 0 rfl) ?_
          refine lv_ishr hx hb dX4_again_110 ?_
          refine lv_iconst (v := nI 1) hx hb dX4_again_111 (by decide) ?_
          refine lv_iand hx hb dX4_again_112 ?_
          refine lv_iconst (v := nI 1) hx hb dX4_again_113 (by decide) ?_
          refine lv_icmp_ne (tgt := 126) hx hb dX4_again_114 (by decide) (fun c_9 => ?_) (fun c_9 => ?_)
          · have q_1 : ¬ bh_agC S b q = nI 1 := c_9
            refine lv_iinc (v := nI (q + 1)) (lv' := [(3, .int (nI (q + 1))), (2, .int (nI ((bh_agL S b q).1))), (0, .ref h), (1, .int (nI b))]) hx hb dX4_again_126 hl (k := 0) rfl (nI_1 _) (by decide) rfl (fun ls hl => ?_)
            refine lv_goto (tgt := 81) hx hb dX4_again_129 (by decide) ?_
            exact ih_7 (q + 1) _ _ _ ⟨by omega, (by rw [show bh_agL S b (q + 1) = _ from if_neg q_1]; exact hI), (by rw [show bh_agL S b (q + 1) = _ from if_neg q_1]; exact (lv_sub hl [0, 1, 2, 3] rfl))⟩ (by show 8 - (q + 1) < 8 - q; omega)
          · have q_1 : bh_agC S b q = nI 1 := c_9
            refine lv_iload_n hx hb dX4_again_117 rfl (lv_at hl 1 rfl) ?_
            refine lv_aload_n hx hb dX4_again_118 rfl (lv_at hl 2 rfl) ?_
            refine lv_iload_n hx hb dX4_again_119 rfl (lv_at hl 3 rfl) ?_
            refine lv_iload_n hx hb dX4_again_120 rfl (lv_at hl 0 rfl) ?_
            refine bn_mui (bn_muV (As := [.int (nI b), .int (nI q)]) (rest := [.int (nI ((bh_agL S b q).1))]) ⟨hx, hb, hml, hown, hts⟩ (cm_sendVotes l D c h ad _ (bh_agL S b q).2 b q (by omega) (by omega) hle (by rw [hkp.1.1]; exact hn)) (cwV 2 hts gX4_again_X4_sendVotes rfl rfl rfl (by decide +kernel) ⟨Nat.le_of_ble_eq_true rfl, Nat.le_of_ble_eq_true rfl⟩) hK hI 0 3 rfl rfl rfl rfl hl.1 (Nat.le_of_ble_eq_true rfl) dX4_again_121 ⟨Nat.le_of_ble_eq_true rfl, Nat.le_of_ble_eq_true rfl⟩) hI hA (fun r_10 u_10 H locs eu_10 hI => ?_)
            obtain ⟨er_10, eu_10⟩ := eu_10
            subst er_10
            subst eu_10
            refine bn_iadd hx hb dX4_again_124 ?_
            refine lv_istore_n (lv' := [(2, .int (nI (((bh_agL S b q).1) + ((bh_sv (bh_agL S b q).2 b q).1)))), (3, .int (nI q)), (0, .ref h), (1, .int (nI b))]) hx hb dX4_again_125 rfl hl (by decide) rfl (fun ls hl => ?_)
            refine lv_iinc (v := nI (q + 1)) (lv' := [(3, .int (nI (q + 1))), (2, .int (nI (((bh_agL S b q).1) + ((bh_sv (bh_agL S b q).2 b q).1)))), (0, .ref h), (1, .int (nI b))]) hx hb dX4_again_126 hl (k := 1) rfl (nI_1 _) (by decide) rfl (fun ls hl => ?_)
            refine lv_goto (tgt := 81) hx hb dX4_again_129 (by decide) ?_
            exact ih_7 (q + 1) _ _ _ ⟨by omega, (by rw [show bh_agL S b (q + 1) = _ from if_pos q_1]; exact hI), (by rw [show bh_agL S b (q + 1) = _ from if_pos q_1]; exact (lv_sub hl [0, 1, 2, 3] rfl))⟩ (by show 8 - (q + 1) < 8 - q; omega)
      · refine lv_aload_n hx hb dX4_again_10 rfl (lv_at hl 0 rfl) ?_
        obtain ⟨g, hg24, hg⟩ := hgb b hb1 hb2
        have hgc : (S.2.2.1 9 b).toNatClampNeg = g := by rw [hg]; exact nI_clamp (by omega)
        refine bn_get (ci := 3) (v := .ref (ad 5)) (C := RX4) (T := TX4) (N := 31) hx hb hts hinX4 hown hK hI 0 rfl rfl 5 (by decide) lk_24 rfl (rfl) dX4_again_11 ?_
        refine lv_iload_n hx hb dX4_again_14 rfl (lv_at hl 1 rfl) ?_
        refine bn_iald (n := 25) (v := nI 3) hx hb hK hI 5 0 rfl rfl (by omega) (by decide) (hs3) dX4_again_15 ?_
        refine lv_tableIn (tgt := 65) hx hb dX4_again_16 (by decide) (by decide) rfl (by decide) ?_
        refine lv_aload_n hx hb dX4_again_65 rfl (lv_at hl 0 rfl) ?_
        refine lv_bipush (v := nI 6) hx hb dX4_again_66 (by decide) ?_
        refine lv_iload_n hx hb dX4_again_68 rfl (lv_at hl 1 rfl) ?_
        refine lv_iconst (v := -1) hx hb dX4_again_69 (by decide) ?_
        refine lv_iconst (v := -1) hx hb dX4_again_70 (by decide) ?_
        refine lv_lconst (v := 0) hx hb dX4_again_71 (by decide) ?_
        refine bn_muv (bn_muV (As := [.int (nI 6), .int (nI b), .int (-1), .int (-1), .long (0)]) (rest := []) ⟨hx, hb, hml, hown, hts⟩ (cm_put l D c h ad _ (S) 6 (nI b) (-1) (-1) (0) (ha) (by omega) (by omega)) (cwV 5 hts gX4_again_X4_put rfl rfl rfl (by decide +kernel) ⟨Nat.le_of_ble_eq_true rfl, Nat.le_of_ble_eq_true rfl⟩) hK hI 0 3 rfl rfl rfl rfl hl.1 (Nat.le_of_ble_eq_true rfl) dX4_again_72 ⟨Nat.le_of_ble_eq_true rfl, Nat.le_of_ble_eq_true rfl⟩) hI hA (fun u_11 H locs eu_11 hI => ?_)
        subst eu_11
        refine lv_iconst (v := nI 1) hx hb dX4_again_75 (by decide) ?_
        exact bn_reti hx hb hr hlocks hK (bh_put (S) (nI 6) (nI b) (-1) (-1) 0 bh_z0 bh_z1) hI (by unfold bh_magn; rw [hx1]; dsimp only; rw [hgc]; unfold bh_ag; rw [if_neg (by rw [hs3]; decide), if_neg (by rw [hs3]; decide), if_pos hs3]; exact ⟨rfl, rfl⟩) dX4_again_76
      · have hn0 : ¬ S.2.2.1 5 b = nI 0 := fun w => by rw [w] at hs9; exact absurd hs9 (by decide)
        have hn1 : ¬ S.2.2.1 5 b = nI 1 := fun w => by rw [w] at hs9; exact absurd hs9 (by decide)
        have hn3 : ¬ S.2.2.1 5 b = nI 3 := fun w => by rw [w] at hs9; exact absurd hs9 (by decide)
        refine lv_aload_n hx hb dX4_again_10 rfl (lv_at hl 0 rfl) ?_
        obtain ⟨g, hg24, hg⟩ := hgb b hb1 hb2
        have hgc : (S.2.2.1 9 b).toNatClampNeg = g := by rw [hg]; exact nI_clamp (by omega)
        refine bn_get (ci := 3) (v := .ref (ad 5)) (C := RX4) (T := TX4) (N := 31) hx hb hts hinX4 hown hK hI 0 rfl rfl 5 (by decide) lk_24 rfl (rfl) dX4_again_11 ?_
        refine lv_iload_n hx hb dX4_again_14 rfl (lv_at hl 1 rfl) ?_
        refine bn_iald (n := 25) (v := S.2.2.1 5 b) hx hb hK hI 5 0 rfl rfl (by omega) (by decide) (rfl) dX4_again_15 ?_
        refine lv_tableOut (tgt := 77) hx hb dX4_again_16 (by have h9 := bh_ix_none hs9; omega) (by decide) ?_
        refine lv_iconst (v := nI 0) hx hb dX4_again_77 (by decide) ?_
        refine lv_istore_n (lv' := [(2, .int (nI 0)), (0, .ref h), (1, .int (nI b))]) hx hb dX4_again_78 rfl hl (by decide) rfl (fun ls hl => ?_)
        refine lv_iconst (v := nI 0) hx hb dX4_again_79 (by decide) ?_
        refine lv_istore_n (lv' := [(3, .int (nI 0)), (2, .int (nI 0)), (0, .ref h), (1, .int (nI b))]) hx hb dX4_again_80 rfl hl (by decide) rfl (fun ls hl => ?_)
        refine bh_loop (σ := Nat) (fun (q : Nat) H locs ls => q ≤ 8 ∧ bh_I D (bh_mw h ad c ((bh_agL S b q).2)) A s.heap H locs ∧ lv_has ls 4 [(3, .int (nI q)), (2, .int (nI ((bh_agL S b q).1))), (0, .ref h), (1, .int (nI b))]) (fun (q : Nat) => 8 - q) (fun q H locs ls hx_12 ih_12 => ?_) 0 _ _ _ ⟨Nat.zero_le 8, hI, lv_sub hl [0, 1, 2, 3] rfl⟩
        clear hl hI
        obtain ⟨hq, hI, hl⟩ := hx_12
        have hkp := bh_agL_kp S b q
        have hle := bh_agL_le ha b q
        refine lv_iload_n hx hb dX4_again_81 rfl (lv_at hl 0 rfl) ?_
        refine lv_bipush (v := nI 8) hx hb dX4_again_82 (by decide) ?_
        refine bn_cmp_ge (tgt := 132) hx hb (by omega) (by omega) dX4_again_84 (by decide) (fun c_13 => ?_) (fun c_13 => ?_)
        · refine lv_iload_n hx hb dX4_again_132 rfl (lv_at hl 1 rfl) ?_
          exact bn_reti hx hb hr hlocks hK ((bh_agL S b q).2) hI (by unfold bh_magn; rw [hx1]; dsimp only; rw [hgc]; unfold bh_ag; rw [if_neg hn0, if_neg hn1, if_neg hn3, show q = 8 by omega]; exact ⟨rfl, rfl⟩) dX4_again_133
        · refine lv_aload_n hx hb dX4_again_87 rfl (lv_at hl 2 rfl) ?_
          refine bn_get (ci := 3) (v := .ref (ad 11)) (C := RX4) (T := TX4) (N := 31) hx hb hts hinX4 hown hK hI 0 rfl rfl 11 (by decide) lk_42 rfl (rfl) dX4_again_88 ?_
          refine lv_iload_n hx hb dX4_again_91 rfl (lv_at hl 3 rfl) ?_
          refine bn_iald (n := 25) (v := S.2.2.1 11 b) hx hb hK hI 11 0 rfl rfl (by omega) (by decide) (by rw [(hkp.2 11 (by omega)).1]) dX4_again_92 ?_
          refine lv_aload_n hx hb dX4_again_93 rfl (lv_at hl 2 rfl) ?_
          refine bn_get (ci := 3) (v := .ref (ad 12)) (C := RX4) (T := TX4) (N := 31) hx hb hts hinX4 hown hK hI 0 rfl rfl 12 (by decide) lk_45 rfl (rfl) dX4_again_94 ?_
          refine lv_iload_n hx hb dX4_again_97 rfl (lv_at hl 3 rfl) ?_
          refine bn_iald (n := 25) (v := S.2.2.1 12 b) hx hb hK hI 12 0 rfl rfl (by omega) (by decide) (by rw [(hkp.2 12 (by omega)).1]) dX4_again_98 ?_
          refine lv_ior hx hb dX4_again_99 ?_
          refine lv_aload_n hx hb dX4_again_100 rfl (lv_at hl 2 rfl) ?_
          refine bn_get (ci := 3) (v := .ref (ad 13)) (C := RX4) (T := TX4) (N := 31) hx hb hts hinX4 hown hK hI 0 rfl rfl 13 (by decide) lk_48 rfl (rfl) dX4_again_101 ?_
          refine lv_iload_n hx hb dX4_again_104 rfl (lv_at hl 3 rfl) ?_
          refine bn_iald (n := 25) (v := S.2.2.1 13 b) hx hb hK hI 13 0 rfl rfl (by omega) (by decide) (by rw [(hkp.2 13 (by omega)).1]) dX4_again_105 ?_
          refine lv_iconst (v := -1) hx hb dX4_again_106 (by decide) ?_
          refine lv_ixor hx hb dX4_again_107 ?_
          refine lv_iand hx hb dX4_again_108 ?_
          refine lv_iload_n hx hb dX4_again_109 rfl (lv_at hl 0 rfl) ?_
          refine lv_ishr hx hb dX4_again_110 ?_
          refine lv_iconst (v := nI 1) hx hb dX4_again_111 (by decide) ?_
          refine lv_iand hx hb dX4_again_112 ?_
          refine lv_iconst (v := nI 1) hx hb dX4_again_113 (by decide) ?_
          refine lv_icmp_ne (tgt := 126) hx hb dX4_again_114 (by decide) (fun c_14 => ?_) (fun c_14 => ?_)
          · have q_1 : ¬ bh_agC S b q = nI 1 := c_14
            refine lv_iinc (v := nI (q + 1)) (lv' := [(3, .int (nI (q + 1))), (2, .int (nI ((bh_agL S b q).1))), (0, .ref h), (1, .int (nI b))]) hx hb dX4_again_126 hl (k := 0) rfl (nI_1 _) (by decide) rfl (fun ls hl => ?_)
            refine lv_goto (tgt := 81) hx hb dX4_again_129 (by decide) ?_
            exact ih_12 (q + 1) _ _ _ ⟨by omega, (by rw [show bh_agL S b (q + 1) = _ from if_neg q_1]; exact hI), (by rw [show bh_agL S b (q + 1) = _ from if_neg q_1]; exact (lv_sub hl [0, 1, 2, 3] rfl))⟩ (by show 8 - (q + 1) < 8 - q; omega)
          · have q_1 : bh_agC S b q = nI 1 := c_14
            refine lv_iload_n hx hb dX4_again_117 rfl (lv_at hl 1 rfl) ?_
            refine lv_aload_n hx hb dX4_again_118 rfl (lv_at hl 2 rfl) ?_
            refine lv_iload_n hx hb dX4_again_119 rfl (lv_at hl 3 rfl) ?_
            refine lv_iload_n hx hb dX4_again_120 rfl (lv_at hl 0 rfl) ?_
            refine bn_mui (bn_muV (As := [.int (nI b), .int (nI q)]) (rest := [.int (nI ((bh_agL S b q).1))]) ⟨hx, hb, hml, hown, hts⟩ (cm_sendVotes l D c h ad _ (bh_agL S b q).2 b q (by omega) (by omega) hle (by rw [hkp.1.1]; exact hn)) (cwV 2 hts gX4_again_X4_sendVotes rfl rfl rfl (by decide +kernel) ⟨Nat.le_of_ble_eq_true rfl, Nat.le_of_ble_eq_true rfl⟩) hK hI 0 3 rfl rfl rfl rfl hl.1 (Nat.le_of_ble_eq_true rfl) dX4_again_121 ⟨Nat.le_of_ble_eq_true rfl, Nat.le_of_ble_eq_true rfl⟩) hI hA (fun r_15 u_15 H locs eu_15 hI => ?_)
            obtain ⟨er_15, eu_15⟩ := eu_15
            subst er_15
            subst eu_15
            refine bn_iadd hx hb dX4_again_124 ?_
            refine lv_istore_n (lv' := [(2, .int (nI (((bh_agL S b q).1) + ((bh_sv (bh_agL S b q).2 b q).1)))), (3, .int (nI q)), (0, .ref h), (1, .int (nI b))]) hx hb dX4_again_125 rfl hl (by decide) rfl (fun ls hl => ?_)
            refine lv_iinc (v := nI (q + 1)) (lv' := [(3, .int (nI (q + 1))), (2, .int (nI (((bh_agL S b q).1) + ((bh_sv (bh_agL S b q).2 b q).1)))), (0, .ref h), (1, .int (nI b))]) hx hb dX4_again_126 hl (k := 1) rfl (nI_1 _) (by decide) rfl (fun ls hl => ?_)
            refine lv_goto (tgt := 81) hx hb dX4_again_129 (by decide) ?_
            exact ih_12 (q + 1) _ _ _ ⟨by omega, (by rw [show bh_agL S b (q + 1) = _ from if_pos q_1]; exact hI), (by rw [show bh_agL S b (q + 1) = _ from if_pos q_1]; exact (lv_sub hl [0, 1, 2, 3] rfl))⟩ (by show 8 - (q + 1) < 8 - q; omega)
    · first | exact absurd c_4 (by decide) | exact absurd (by decide) c_4
set_option maxHeartbeats 4000000 in
set_option maxRecDepth 100000 in
theorem cm_ballot (l : Launch) (D : va_G) (c : bh_C) (h : Nat) (ad : Nat → Nat) (sz : Nat) (S : mS) (x y z : Int32) (ha : S.1 28 ≤ 400) (hn : S.1 0 ≤ 7) (hk24 : S.1 18 ≤ 24) : Met l yX4_ballot wsX4_ballot ({ frames := 1, cells := 0, slots := 0, locals := 27 }) (va_Pc [.ref h, .int (x), .int (y), .int (z)] (bh_prm D c (bh_mw h ad c (S)) sz)) (va_Qi (fun (r : Int32) (u : mS) => r = (bh_mbal S x y z).1 ∧ u = (bh_mbal S x y z).2) (fun u t => bh_post D c (bh_mw h ad c u) (va_A (bh_mw h ad c (S)) sz) t) (va_A (bh_mw h ad c (S)) sz)) 0 0 (va_A (bh_mw h ad c (S)) sz) := by
  refine Met.ofW (cc := cX4_ballot) (maxL := 5) (ret := (some .int)) (by decide) rfl ?_
  intro p e s m args below meth c0 s₁ B hml hv
  obtain ⟨rfl, hsz, hP, hK, hD0⟩ := hv
  have hx := B.exec
  have hb := B.bytes
  have hr := B.returns
  have hts := atoms_spec (ws := wsX4_ballot) B.pre
  have hown : s.vm.findClass RX4 = some m.cls := findClass_of_methodNamed B.named
  have hlocks := B.notSynchronized
  have hinX4 : ∀ w ∈ wsX40, w ∈ wsX4_ballot := fun _ h => List.mem_cons_of_mem _ (List.mem_append_right _ h)
  have lk_27 : (Cond.fieldLink RX4 27 "BallotHouseModel" "members" "[I").before _ s = true := hts _ (by decide +kernel)
  have lk_30 : (Cond.fieldLink RX4 30 "BallotHouseModel" "reads" "[I").before _ s = true := hts _ (by decide +kernel)
  have lk_33 : (Cond.fieldLink RX4 33 "BallotHouseModel" "writes" "[I").before _ s = true := hts _ (by decide +kernel)
  have lk_36 : (Cond.fieldLink RX4 36 "BallotHouseModel" "behind" "[I").before _ s = true := hts _ (by decide +kernel)
  have lk_90 : (Cond.fieldLink RX4 90 "BallotHouseModel" "voters" "I").before _ s = true := hts _ (by decide +kernel)
  have lk_94 : (Cond.fieldLink RX4 94 "BallotHouseModel" "ballots" "I").before _ s = true := hts _ (by decide +kernel)
  have lk_111 : (Cond.fieldLink RX4 111 "BallotHouseModel" "complete" "I").before _ s = true := hts _ (by decide +kernel)
  subst hsz
  have hI := bh_start hP hD0
  generalize hAe : va_A (bh_mw h ad c (S)) s.heap.size = A at hI ⊢
  have hA : ∀ q : Nat, s.heap.size ≤ q → A q := fun q h => by rw [← hAe]; exact Or.inr h
  clear hP hD0 hAe
  have hl := lv_entry ([.ref h, .int (x), .int (y), .int (z)]) (n := 5) (Nat.le_of_ble_eq_true rfl)
  rw [lg_entry_eq]
  generalize (lg_sl ([.ref h, .int (x), .int (y), .int (z)]) ++ List.replicate (5 - (lg_sl ([.ref h, .int (x), .int (y), .int (z)])).length) Slot.unset).toArray = ls at hl ⊢
  have hl : lv_has ls 5 [(0, .ref h), (1, .int (x)), (2, .int (y)), (3, .int (z))] := hl
  refine lv_iload_n hx hb dX4_ballot_0 rfl (lv_at hl 1 rfl) ?_
  refine lv_if_lt (tgt := 14) hx hb dX4_ballot_1 (by decide) (fun c_1 => ?_) (fun c_1 => ?_)
  · refine lv_iconst (v := nI 0) hx hb dX4_ballot_14 (by decide) ?_
    refine lv_goto (tgt := 22) hx hb dX4_ballot_15 (by decide) ?_
    refine lv_istore (lv' := [(4, .int (nI 0)), (0, .ref h), (1, .int (x)), (2, .int (y)), (3, .int (z))]) hx hb dX4_ballot_22 hl (by decide) rfl (fun ls hl => ?_)
    refine lv_iload hx hb dX4_ballot_24 (lv_at hl 0 rfl) ?_
    refine lv_if_eq (tgt := 68) hx hb dX4_ballot_26 (by decide) (fun c_2 => ?_) (fun c_2 => ?_)
    · refine lv_iconst (v := -1) hx hb dX4_ballot_68 (by decide) ?_
      exact bn_reti hx hb hr hlocks hK (S) hI (by unfold bh_mbal; rw [if_neg (fun w => by obtain ⟨w1, w2, w3, w4, w5, w6, w7, w8, w9⟩ := w; exact w1 c_1)]; exact ⟨rfl, rfl⟩) dX4_ballot_69
    · first | exact absurd c_2 (by decide) | exact absurd (by decide) c_2
  · refine lv_iload_n hx hb dX4_ballot_4 rfl (lv_at hl 1 rfl) ?_
    refine lv_iconst (v := nI 1) hx hb dX4_ballot_5 (by decide) ?_
    refine lv_aload_n hx hb dX4_ballot_6 rfl (lv_at hl 0 rfl) ?_
    refine bn_get (ci := 3) (v := .int (nI (S.1 0))) (C := RX4) (T := TX4) (N := 31) hx hb hts hinX4 hown hK hI 0 rfl rfl 0 (by decide) lk_90 rfl (rfl) dX4_ballot_7 ?_
    refine lv_ishl hx hb dX4_ballot_10 ?_
    refine lv_icmp_lt (tgt := 18) hx hb dX4_ballot_11 (by decide) (fun c_3 => ?_) (fun c_3 => ?_)
    · refine lv_iload_n hx hb dX4_ballot_18 rfl (lv_at hl 1 rfl) ?_
      refine vp_callSi (bn_roS (As := [.int (x)]) (rest := []) ⟨hx, hb, hml, hown, hts⟩ (cm_many l (x)) (va_cwS 1 hts gX4_ballot_X4_many rfl rfl rfl (by decide +kernel) ⟨Nat.le_of_ble_eq_true rfl, Nat.le_of_ble_eq_true rfl⟩) rfl hl.1 (Nat.le_of_ble_eq_true rfl) dX4_ballot_19 ⟨Nat.le_of_ble_eq_true rfl, Nat.le_of_ble_eq_true rfl⟩) (fun r_4 er_4 => ?_)
      subst er_4
      refine lv_istore (lv' := [(4, .int (bh_many (x))), (0, .ref h), (1, .int (x)), (2, .int (y)), (3, .int (z))]) hx hb dX4_ballot_22 hl (by decide) rfl (fun ls hl => ?_)
      refine lv_iload hx hb dX4_ballot_24 (lv_at hl 0 rfl) ?_
      refine lv_if_eq (tgt := 68) hx hb dX4_ballot_26 (by decide) (fun c_5 => ?_) (fun c_5 => ?_)
      · refine lv_iconst (v := -1) hx hb dX4_ballot_68 (by decide) ?_
        exact bn_reti hx hb hr hlocks hK (S) hI (by unfold bh_mbal; rw [if_neg (fun w => by obtain ⟨w1, w2, w3, w4, w5, w6, w7, w8, w9⟩ := w; exact w3 c_5)]; exact ⟨rfl, rfl⟩) dX4_ballot_69
      · refine lv_iload_n hx hb dX4_ballot_29 rfl (lv_at hl 3 rfl) ?_
        refine lv_iconst (v := nI 1) hx hb dX4_ballot_30 (by decide) ?_
        refine lv_icmp_lt (tgt := 68) hx hb dX4_ballot_31 (by decide) (fun c_6 => ?_) (fun c_6 => ?_)
        · refine lv_iconst (v := -1) hx hb dX4_ballot_68 (by decide) ?_
          exact bn_reti hx hb hr hlocks hK (S) hI (by unfold bh_mbal; rw [if_neg (fun w => by obtain ⟨w1, w2, w3, w4, w5, w6, w7, w8, w9⟩ := w; exact w4 c_6)]; exact ⟨rfl, rfl⟩) dX4_ballot_69
        · refine lv_iload_n hx hb dX4_ballot_34 rfl (lv_at hl 3 rfl) ?_
          refine lv_iload hx hb dX4_ballot_35 (lv_at hl 0 rfl) ?_
          refine lv_icmp_gt (tgt := 68) hx hb dX4_ballot_37 (by decide) (fun c_7 => ?_) (fun c_7 => ?_)
          · refine lv_iconst (v := -1) hx hb dX4_ballot_68 (by decide) ?_
            exact bn_reti hx hb hr hlocks hK (S) hI (by unfold bh_mbal; rw [if_neg (fun w => by obtain ⟨w1, w2, w3, w4, w5, w6, w7, w8, w9⟩ := w; exact w5 c_7)]; exact ⟨rfl, rfl⟩) dX4_ballot_69
          · refine lv_iload_n hx hb dX4_ballot_40 rfl (lv_at hl 4 rfl) ?_
            refine lv_iconst (v := nI 1) hx hb dX4_ballot_41 (by decide) ?_
            refine lv_icmp_lt (tgt := 68) hx hb dX4_ballot_42 (by decide) (fun c_8 => ?_) (fun c_8 => ?_)
            · refine lv_iconst (v := -1) hx hb dX4_ballot_68 (by decide) ?_
              exact bn_reti hx hb hr hlocks hK (S) hI (by unfold bh_mbal; rw [if_neg (fun w => by obtain ⟨w1, w2, w3, w4, w5, w6, w7, w8, w9⟩ := w; exact w6 c_8)]; exact ⟨rfl, rfl⟩) dX4_ballot_69
            · refine lv_iload_n hx hb dX4_ballot_45 rfl (lv_at hl 4 rfl) ?_
              refine lv_iload hx hb dX4_ballot_46 (lv_at hl 0 rfl) ?_
              refine lv_icmp_gt (tgt := 68) hx hb dX4_ballot_48 (by decide) (fun c_9 => ?_) (fun c_9 => ?_)
              · refine lv_iconst (v := -1) hx hb dX4_ballot_68 (by decide) ?_
                exact bn_reti hx hb hr hlocks hK (S) hI (by unfold bh_mbal; rw [if_neg (fun w => by obtain ⟨w1, w2, w3, w4, w5, w6, w7, w8, w9⟩ := w; exact w7 c_9)]; exact ⟨rfl, rfl⟩) dX4_ballot_69
              · refine lv_iload_n hx hb dX4_ballot_51 rfl (lv_at hl 3 rfl) ?_
                refine lv_iload_n hx hb dX4_ballot_52 rfl (lv_at hl 4 rfl) ?_
                refine lv_iadd hx hb dX4_ballot_53 ?_
                refine lv_iload hx hb dX4_ballot_54 (lv_at hl 0 rfl) ?_
                refine lv_icmp_le (tgt := 68) hx hb dX4_ballot_56 (by decide) (fun c_10 => ?_) (fun c_10 => ?_)
                · refine lv_iconst (v := -1) hx hb dX4_ballot_68 (by decide) ?_
                  exact bn_reti hx hb hr hlocks hK (S) hI (by unfold bh_mbal; rw [if_neg (fun w => by obtain ⟨w1, w2, w3, w4, w5, w6, w7, w8, w9⟩ := w; exact w8 c_10)]; exact ⟨rfl, rfl⟩) dX4_ballot_69
                · refine lv_aload_n hx hb dX4_ballot_59 rfl (lv_at hl 1 rfl) ?_
                  refine bn_get (ci := 3) (v := .int (nI (S.1 18))) (C := RX4) (T := TX4) (N := 31) hx hb hts hinX4 hown hK hI 0 rfl rfl 18 (by decide) lk_94 rfl (rfl) dX4_ballot_60 ?_
                  refine lv_bipush (v := nI 24) hx hb dX4_ballot_63 (by decide) ?_
                  refine bn_cmp_ne (tgt := 70) hx hb (by omega) (by omega) dX4_ballot_65 (by decide) (fun c_11 => ?_) (fun c_11 => ?_)
                  · refine lv_aload_n hx hb dX4_ballot_70 rfl (lv_at hl 1 rfl) ?_
                    refine lv_dup hx hb dX4_ballot_71 rfl ?_
                    refine bn_get (ci := 3) (v := .int (nI (S.1 18))) (C := RX4) (T := TX4) (N := 31) hx hb hts hinX4 hown hK hI 0 rfl rfl 18 (by decide) lk_94 rfl (rfl) dX4_ballot_72 ?_
                    refine lv_iconst (v := nI 1) hx hb dX4_ballot_75 (by decide) ?_
                    refine bn_iadd hx hb dX4_ballot_76 ?_
                    refine bn_put (ci := 3) (v := .int (nI ((S.1 18) + 1))) (ty := .int) (C := RX4) (T := TX4) (N := 31) (ws' := bh_mw h ad c (bh_n S 18 ((S.1 18) + 1))) hx hb hts hinX4 tyX4 tyX4_ok nmX4 hown hK hI 0 rfl rfl 18 (by decide) lk_94 rfl rfl rfl rfl rfl (Nat.le_of_ble_eq_true rfl) dX4_ballot_77 rfl (fun H locs hI => ?_)
                    refine lv_aload_n hx hb dX4_ballot_80 rfl (lv_at hl 1 rfl) ?_
                    refine bn_get (ci := 3) (v := .ref (ad 6)) (C := RX4) (T := TX4) (N := 31) hx hb hts hinX4 hown hK hI 0 rfl rfl 6 (by decide) lk_27 rfl (rfl) dX4_ballot_81 ?_
                    refine lv_aload_n hx hb dX4_ballot_84 rfl (lv_at hl 1 rfl) ?_
                    refine bn_get (ci := 3) (v := .int (nI ((S.1 18) + 1))) (C := RX4) (T := TX4) (N := 31) hx hb hts hinX4 hown hK hI 0 rfl rfl 18 (by decide) lk_94 rfl (rfl) dX4_ballot_85 ?_
                    refine lv_iload_n hx hb dX4_ballot_88 rfl (lv_at hl 2 rfl) ?_
                    refine bn_iast (n := 25) (ws' := bh_mw h ad c (bh_r (bh_n S 18 ((S.1 18) + 1)) 6 ((S.1 18) + 1) x)) hx hb hK hI 6 0 rfl rfl (by omega) (by decide) dX4_ballot_89 rfl (fun H locs hI => ?_)
                    refine lv_aload_n hx hb dX4_ballot_90 rfl (lv_at hl 1 rfl) ?_
                    refine bn_get (ci := 3) (v := .ref (ad 7)) (C := RX4) (T := TX4) (N := 31) hx hb hts hinX4 hown hK hI 0 rfl rfl 7 (by decide) lk_30 rfl (rfl) dX4_ballot_91 ?_
                    refine lv_aload_n hx hb dX4_ballot_94 rfl (lv_at hl 1 rfl) ?_
                    refine bn_get (ci := 3) (v := .int (nI ((S.1 18) + 1))) (C := RX4) (T := TX4) (N := 31) hx hb hts hinX4 hown hK hI 0 rfl rfl 18 (by decide) lk_94 rfl (rfl) dX4_ballot_95 ?_
                    refine lv_iload_n hx hb dX4_ballot_98 rfl (lv_at hl 3 rfl) ?_
                    refine bn_iast (n := 25) (ws' := bh_mw h ad c (bh_r (bh_r (bh_n S 18 ((S.1 18) + 1)) 6 ((S.1 18) + 1) x) 7 ((S.1 18) + 1) y)) hx hb hK hI 7 0 rfl rfl (by omega) (by decide) dX4_ballot_99 rfl (fun H locs hI => ?_)
                    refine lv_aload_n hx hb dX4_ballot_100 rfl (lv_at hl 1 rfl) ?_
                    refine bn_get (ci := 3) (v := .ref (ad 8)) (C := RX4) (T := TX4) (N := 31) hx hb hts hinX4 hown hK hI 0 rfl rfl 8 (by decide) lk_33 rfl (rfl) dX4_ballot_101 ?_
                    refine lv_aload_n hx hb dX4_ballot_104 rfl (lv_at hl 1 rfl) ?_
                    refine bn_get (ci := 3) (v := .int (nI ((S.1 18) + 1))) (C := RX4) (T := TX4) (N := 31) hx hb hts hinX4 hown hK hI 0 rfl rfl 18 (by decide) lk_94 rfl (rfl) dX4_ballot_105 ?_
                    refine lv_iload_n hx hb dX4_ballot_108 rfl (lv_at hl 4 rfl) ?_
                    refine bn_iast (n := 25) (ws' := bh_mw h ad c (bh_r (bh_r (bh_r (bh_n S 18 ((S.1 18) + 1)) 6 ((S.1 18) + 1) x) 7 ((S.1 18) + 1) y) 8 ((S.1 18) + 1) z)) hx hb hK hI 8 0 rfl rfl (by omega) (by decide) dX4_ballot_109 rfl (fun H locs hI => ?_)
                    refine lv_aload_n hx hb dX4_ballot_110 rfl (lv_at hl 1 rfl) ?_
                    refine bn_get (ci := 3) (v := .ref (ad 9)) (C := RX4) (T := TX4) (N := 31) hx hb hts hinX4 hown hK hI 0 rfl rfl 9 (by decide) lk_36 rfl (rfl) dX4_ballot_111 ?_
                    refine lv_aload_n hx hb dX4_ballot_114 rfl (lv_at hl 1 rfl) ?_
                    refine bn_get (ci := 3) (v := .int (nI ((S.1 18) + 1))) (C := RX4) (T := TX4) (N := 31) hx hb hts hinX4 hown hK hI 0 rfl rfl 18 (by decide) lk_94 rfl (rfl) dX4_ballot_115 ?_
                    refine lv_aload_n hx hb dX4_ballot_118 rfl (lv_at hl 1 rfl) ?_
                    refine bn_get (ci := 3) (v := .int (S.2.1 19)) (C := RX4) (T := TX4) (N := 31) hx hb hts hinX4 hown hK hI 0 rfl rfl 19 (by decide) lk_111 rfl (rfl) dX4_ballot_119 ?_
                    refine bn_iast (n := 25) (ws' := bh_mw h ad c (bh_r (bh_r (bh_r (bh_r (bh_n S 18 ((S.1 18) + 1)) 6 ((S.1 18) + 1) x) 7 ((S.1 18) + 1) y) 8 ((S.1 18) + 1) z) 9 ((S.1 18) + 1) (S.2.1 19))) hx hb hK hI 9 0 rfl rfl (by omega) (by decide) dX4_ballot_122 rfl (fun H locs hI => ?_)
                    refine lv_aload_n hx hb dX4_ballot_123 rfl (lv_at hl 1 rfl) ?_
                    refine lv_iconst (v := nI 1) hx hb dX4_ballot_124 (by decide) ?_
                    refine lv_aload_n hx hb dX4_ballot_125 rfl (lv_at hl 1 rfl) ?_
                    refine bn_get (ci := 3) (v := .int (nI ((S.1 18) + 1))) (C := RX4) (T := TX4) (N := 31) hx hb hts hinX4 hown hK hI 0 rfl rfl 18 (by decide) lk_94 rfl (rfl) dX4_ballot_126 ?_
                    refine lv_iconst (v := -1) hx hb dX4_ballot_129 (by decide) ?_
                    refine lv_iconst (v := -1) hx hb dX4_ballot_130 (by decide) ?_
                    refine lv_lconst (v := 0) hx hb dX4_ballot_131 (by decide) ?_
                    refine bn_muv (bn_muV (As := [.int (nI 1), .int (nI ((S.1 18) + 1)), .int (-1), .int (-1), .long (0)]) (rest := []) ⟨hx, hb, hml, hown, hts⟩ (cm_put l D c h ad _ (bh_r (bh_r (bh_r (bh_r (bh_n S 18 ((S.1 18) + 1)) 6 ((S.1 18) + 1) x) 7 ((S.1 18) + 1) y) 8 ((S.1 18) + 1) z) 9 ((S.1 18) + 1) (S.2.1 19)) 1 (nI (S.1 18 + 1)) (-1) (-1) (0) (ha) (by omega) (by omega)) (cwV 5 hts gX4_ballot_X4_put rfl rfl rfl (by decide +kernel) ⟨Nat.le_of_ble_eq_true rfl, Nat.le_of_ble_eq_true rfl⟩) hK hI 0 3 rfl rfl rfl rfl hl.1 (Nat.le_of_ble_eq_true rfl) dX4_ballot_132 ⟨Nat.le_of_ble_eq_true rfl, Nat.le_of_ble_eq_true rfl⟩) hI hA (fun u_12 H locs eu_12 hI => ?_)
                    subst eu_12
                    refine lv_aload_n hx hb dX4_ballot_135 rfl (lv_at hl 1 rfl) ?_
                    refine bn_get (ci := 3) (v := .int (nI (S.1 18 + 1))) (C := RX4) (T := TX4) (N := 31) hx hb hts hinX4 hown hK hI 0 rfl rfl 18 (by decide) lk_94 rfl (by show some (Value.int (nI ((bh_put (bh_blA S x y z) (nI 1) (nI (S.1 18 + 1)) (-1) (-1) 0 bh_z0 bh_z1).1 18))) = _; rw [(bh_kp_put _ _ _ _ _ _ _ _).1.2.1]; rfl) dX4_ballot_136 ?_
                    exact bn_reti hx hb hr hlocks hK (bh_put (bh_r (bh_r (bh_r (bh_r (bh_n S 18 ((S.1 18) + 1)) 6 ((S.1 18) + 1) x) 7 ((S.1 18) + 1) y) 8 ((S.1 18) + 1) z) 9 ((S.1 18) + 1) (S.2.1 19)) (nI 1) (nI (S.1 18 + 1)) (-1) (-1) 0 bh_z0 bh_z1) hI (by unfold bh_mbal; rw [if_pos ⟨c_1, c_3, c_5, c_6, c_7, c_8, c_9, c_10, c_11⟩]; exact ⟨rfl, rfl⟩) dX4_ballot_139
                  · refine lv_iconst (v := -1) hx hb dX4_ballot_68 (by decide) ?_
                    exact bn_reti hx hb hr hlocks hK (S) hI (by unfold bh_mbal; rw [if_neg (fun w => by obtain ⟨w1, w2, w3, w4, w5, w6, w7, w8, w9⟩ := w; exact w9 c_11)]; exact ⟨rfl, rfl⟩) dX4_ballot_69
    · refine lv_iconst (v := nI 0) hx hb dX4_ballot_14 (by decide) ?_
      refine lv_goto (tgt := 22) hx hb dX4_ballot_15 (by decide) ?_
      refine lv_istore (lv' := [(4, .int (nI 0)), (0, .ref h), (1, .int (x)), (2, .int (y)), (3, .int (z))]) hx hb dX4_ballot_22 hl (by decide) rfl (fun ls hl => ?_)
      refine lv_iload hx hb dX4_ballot_24 (lv_at hl 0 rfl) ?_
      refine lv_if_eq (tgt := 68) hx hb dX4_ballot_26 (by decide) (fun c_13 => ?_) (fun c_13 => ?_)
      · refine lv_iconst (v := -1) hx hb dX4_ballot_68 (by decide) ?_
        exact bn_reti hx hb hr hlocks hK (S) hI (by unfold bh_mbal; rw [if_neg (fun w => by obtain ⟨w1, w2, w3, w4, w5, w6, w7, w8, w9⟩ := w; exact c_3 w2)]; exact ⟨rfl, rfl⟩) dX4_ballot_69
      · first | exact absurd c_13 (by decide) | exact absurd (by decide) c_13
set_option maxHeartbeats 4000000 in
set_option maxRecDepth 100000 in
theorem cm_settleN (l : Launch) (D : va_G) (c : bh_C) (h : Nat) (ad : Nat → Nat) (sz : Nat) (S : mS) (x : Int32) (hx0 : x < 0) : Met l yX4_settle wsX4_settle ({ frames := 0, cells := 0, slots := 0, locals := 0 }) (va_Pc [.ref h, .int (x)] (bh_prm D c (bh_mw h ad c (S)) sz)) (va_Qi (fun (r : Int32) (u : mS) => r = -1 ∧ u = S) (fun u t => bh_post D c (bh_mw h ad c u) (va_A (bh_mw h ad c (S)) sz) t) (va_A (bh_mw h ad c (S)) sz)) 0 0 (va_A (bh_mw h ad c (S)) sz) := by
  refine Met.ofW (cc := cX4_settle) (maxL := 5) (ret := (some .int)) (by decide) rfl ?_
  intro p e s m args below meth c0 s₁ B hml hv
  obtain ⟨rfl, hsz, hP, hK, hD0⟩ := hv
  have hx := B.exec
  have hb := B.bytes
  have hr := B.returns
  have hts := atoms_spec (ws := wsX4_settle) B.pre
  have hown : s.vm.findClass RX4 = some m.cls := findClass_of_methodNamed B.named
  have hlocks := B.notSynchronized
  have hinX4 : ∀ w ∈ wsX40, w ∈ wsX4_settle := fun _ h => List.mem_cons_of_mem _ (List.mem_append_right _ h)
  subst hsz
  have hI := bh_start hP hD0
  generalize hAe : va_A (bh_mw h ad c (S)) s.heap.size = A at hI ⊢
  have hA : ∀ q : Nat, s.heap.size ≤ q → A q := fun q h => by rw [← hAe]; exact Or.inr h
  clear hP hD0 hAe
  have hl := lv_entry ([.ref h, .int (x)]) (n := 5) (Nat.le_of_ble_eq_true rfl)
  rw [lg_entry_eq]
  generalize (lg_sl ([.ref h, .int (x)]) ++ List.replicate (5 - (lg_sl ([.ref h, .int (x)])).length) Slot.unset).toArray = ls at hl ⊢
  have hl : lv_has ls 5 [(0, .ref h), (1, .int (x))] := hl
  refine lv_iload_n hx hb dX4_settle_0 rfl (lv_at hl 1 rfl) ?_
  refine lv_if_ge (tgt := 6) hx hb dX4_settle_1 (by decide) (fun c_1 => ?_) (fun c_1 => ?_)
  · exact absurd hx0 (Int32.not_lt.mpr c_1)
  · refine lv_iconst (v := -1) hx hb dX4_settle_4 (by decide) ?_
    exact bn_reti hx hb hr hlocks hK (S) hI (⟨rfl, rfl⟩) dX4_settle_5
set_option maxHeartbeats 4000000 in
set_option maxRecDepth 100000 in
theorem cm_settle (l : Launch) (D : va_G) (c : bh_C) (h : Nat) (ad : Nat → Nat) (sz : Nat) (S : mS) (n : Nat) (hn31 : n < 2 ^ 31) (P : mS → Prop) (hp0 : P S) (hpk : ∀ T, P T → T.1 28 ≤ 400 ∧ T.1 0 ≤ 7 ∧ ∀ k, k < T.1 28 → bh_lok T k) (hps : ∀ T k, P T → k < T.1 28 → bh_cb T k = true → P (bh_dlv T k)) : Met l yX4_settle wsX4_settle ({ frames := 5, cells := 0, slots := 0, locals := 124 }) (va_Pc [.ref h, .int (nI n)] (bh_prm D c (bh_mw h ad c (S)) sz)) (va_Qi (fun (r : Int32) (u : mS) => r = nI (bh_stl S n).1 ∧ u = (bh_stl S n).2) (fun u t => bh_post D c (bh_mw h ad c u) (va_A (bh_mw h ad c (S)) sz) t) (va_A (bh_mw h ad c (S)) sz)) 0 0 (va_A (bh_mw h ad c (S)) sz) := by
  refine Met.ofW (cc := cX4_settle) (maxL := 5) (ret := (some .int)) (by decide) rfl ?_
  intro p e s m args below meth c0 s₁ B hml hv
  obtain ⟨rfl, hsz, hP, hK, hD0⟩ := hv
  have hx := B.exec
  have hb := B.bytes
  have hr := B.returns
  have hts := atoms_spec (ws := wsX4_settle) B.pre
  have hown : s.vm.findClass RX4 = some m.cls := findClass_of_methodNamed B.named
  have hlocks := B.notSynchronized
  have hinX4 : ∀ w ∈ wsX40, w ∈ wsX4_settle := fun _ h => List.mem_cons_of_mem _ (List.mem_append_right _ h)
  have lk_97 : (Cond.fieldLink RX4 97 "BallotHouseModel" "air" "I").before _ s = true := hts _ (by decide +kernel)
  subst hsz
  have hI := bh_start hP hD0
  generalize hAe : va_A (bh_mw h ad c (S)) s.heap.size = A at hI ⊢
  have hA : ∀ q : Nat, s.heap.size ≤ q → A q := fun q h => by rw [← hAe]; exact Or.inr h
  clear hP hD0 hAe
  have hl := lv_entry ([.ref h, .int (nI n)]) (n := 5) (Nat.le_of_ble_eq_true rfl)
  rw [lg_entry_eq]
  generalize (lg_sl ([.ref h, .int (nI n)]) ++ List.replicate (5 - (lg_sl ([.ref h, .int (nI n)])).length) Slot.unset).toArray = ls at hl ⊢
  have hl : lv_has ls 5 [(0, .ref h), (1, .int (nI n))] := hl
  refine lv_iload_n hx hb dX4_settle_0 rfl (lv_at hl 1 rfl) ?_
  refine lv_if_ge (tgt := 6) hx hb dX4_settle_1 (by decide) (fun c_1 => ?_) (fun c_1 => ?_)
  · refine lv_iconst (v := nI 0) hx hb dX4_settle_6 (by decide) ?_
    refine lv_istore_n (lv' := [(2, .int (nI 0)), (0, .ref h), (1, .int (nI n))]) hx hb dX4_settle_7 rfl hl (by decide) rfl (fun ls hl => ?_)
    refine lv_iconst (v := nI 1) hx hb dX4_settle_8 (by decide) ?_
    refine lv_istore_n (lv' := [(3, .int (nI 1)), (2, .int (nI 0)), (0, .ref h), (1, .int (nI n))]) hx hb dX4_settle_9 rfl hl (by decide) rfl (fun ls hl => ?_)
    refine bh_loop (σ := mS × Nat × Nat) (fun x H locs ls => (fun (T : mS) (t : Nat) (m2 : Nat) => P T ∧ t + m2 = n ∧ bh_stl S n = (t + (bh_stl T m2).1, (bh_stl T m2).2) ∧ bh_I D (bh_mw h ad c (T)) A s.heap H locs ∧ lv_has ls 5 [(3, .int (nI 1)), (2, .int (nI t)), (0, .ref h), (1, .int (nI n))]) x.1 x.2.1 x.2.2) (fun x => (fun (T : mS) (t : Nat) (m2 : Nat) => m2) x.1 x.2.1 x.2.2) (fun x H locs ls hx_2 ih_2 => ?_) ((S, 0, n)) _ _ _ ⟨hp0, Nat.zero_add n, by show _ = (0 + _, _); rw [Nat.zero_add], hI, lv_sub hl [0, 1, 2, 3] rfl⟩
    clear hl hI
    obtain ⟨T, t, m2⟩ := x
    dsimp only at hx_2
    obtain ⟨hpT, htm, hst, hI, hl⟩ := hx_2
    obtain ⟨hT28, hT0, hTl⟩ := hpk T hpT
    refine lv_iload_n hx hb dX4_settle_10 rfl (lv_at hl 0 rfl) ?_
    refine lv_if_eq (tgt := 63) hx hb dX4_settle_11 (by decide) (fun c_3 => ?_) (fun c_3 => ?_)
    · first | exact absurd c_3 (by decide) | exact absurd (by decide) c_3
    · refine lv_iload_n hx hb dX4_settle_14 rfl (lv_at hl 1 rfl) ?_
      refine lv_iload_n hx hb dX4_settle_15 rfl (lv_at hl 3 rfl) ?_
      refine bn_cmp_ge (tgt := 63) hx hb (by omega) (by omega) dX4_settle_16 (by decide) (fun c_4 => ?_) (fun c_4 => ?_)
      · refine lv_iload_n hx hb dX4_settle_63 rfl (lv_at hl 1 rfl) ?_
        exact bn_reti hx hb hr hlocks hK (T) hI (⟨by rw [hst, show m2 = 0 by omega]; rfl, by rw [hst, show m2 = 0 by omega]; rfl⟩) dX4_settle_64
      · refine lv_iconst (v := nI 0) hx hb dX4_settle_19 (by decide) ?_
        refine lv_istore (lv' := [(4, .int (nI 0)), (3, .int (nI 1)), (2, .int (nI t)), (0, .ref h), (1, .int (nI n))]) hx hb dX4_settle_20 hl (by decide) rfl (fun ls hl => ?_)
        refine bh_loop (σ := Nat) (fun (j : Nat) H locs ls => j ≤ T.1 28 ∧ bh_ff T (T.1 28 - j) j = bh_fst T ∧ bh_I D (bh_mw h ad c (T)) A s.heap H locs ∧ lv_has ls 5 [(4, .int (nI j)), (3, .int (nI 1)), (2, .int (nI t)), (0, .ref h), (1, .int (nI n))]) (fun (j : Nat) => T.1 28 - j) (fun j H locs ls hx_5 ih_5 => ?_) 0 _ _ _ ⟨Nat.zero_le _, rfl, hI, lv_sub hl [0, 1, 2, 3, 4] rfl⟩
        clear hl hI
        obtain ⟨hj, hff, hI, hl⟩ := hx_5
        refine lv_iload hx hb dX4_settle_22 (lv_at hl 0 rfl) ?_
        refine lv_aload_n hx hb dX4_settle_24 rfl (lv_at hl 3 rfl) ?_
        refine bn_get (ci := 3) (v := .int (nI (T.1 28))) (C := RX4) (T := TX4) (N := 31) hx hb hts hinX4 hown hK hI 0 rfl rfl 28 (by decide) lk_97 rfl (rfl) dX4_settle_25 ?_
        refine bn_cmp_ge (tgt := 46) hx hb (by omega) (by omega) dX4_settle_28 (by decide) (fun c_6 => ?_) (fun c_6 => ?_)
        · have hj28 : j = T.1 28 := by omega
          have hff2 : bh_fst T = T.1 28 := by rw [← hff, show T.1 28 - j = 0 by omega]; exact hj28
          refine lv_aload_n hx hb dX4_settle_46 rfl (lv_at hl 3 rfl) ?_
          refine lv_iload hx hb dX4_settle_47 (lv_at hl 0 rfl) ?_
          refine bn_mui (bn_muV (As := [.int (nI j)]) (rest := []) ⟨hx, hb, hml, hown, hts⟩ (cm_deliver0 l D c h ad _ T (nI j) hT28 (by unfold bh_ix; rw [nI_toInt (by omega), if_neg (by omega)])) (cwV 1 hts gX4_settle_X4_deliver rfl rfl rfl (by decide +kernel) ⟨Nat.le_of_ble_eq_true rfl, Nat.le_of_ble_eq_true rfl⟩) hK hI 0 3 rfl rfl rfl rfl hl.1 (Nat.le_of_ble_eq_true rfl) dX4_settle_49 ⟨Nat.le_of_ble_eq_true rfl, Nat.le_of_ble_eq_true rfl⟩) hI hA (fun r_7 u_7 H locs eu_7 hI => ?_)
          obtain ⟨er_7, eu_7⟩ := eu_7
          subst er_7
          rw [eu_7] at hI
          refine lv_istore_n (lv' := [(3, .int (nI 0)), (4, .int (nI j)), (2, .int (nI t)), (0, .ref h), (1, .int (nI n))]) hx hb dX4_settle_52 rfl hl (by decide) rfl (fun ls hl => ?_)
          refine lv_iload_n hx hb dX4_settle_53 rfl (lv_at hl 0 rfl) ?_
          refine lv_if_eq (tgt := 60) hx hb dX4_settle_54 (by decide) (fun c_8 => ?_) (fun c_8 => ?_)
          · refine lv_goto (tgt := 10) hx hb dX4_settle_60 (by decide) ?_
            refine lv_iload_n hx hb dX4_settle_10 rfl (lv_at hl 0 rfl) ?_
            refine lv_if_eq (tgt := 63) hx hb dX4_settle_11 (by decide) (fun c_9 => ?_) (fun c_9 => ?_)
            · refine lv_iload_n hx hb dX4_settle_63 rfl (lv_at hl 2 rfl) ?_
              exact bn_reti hx hb hr hlocks hK (T) hI (⟨by rw [hst, bh_stl_e T _ (by omega)]; rfl, by rw [hst, bh_stl_e T _ (by omega)]⟩) dX4_settle_64
            · first | exact absurd c_9 (by decide) | exact absurd (by decide) c_9
          · first | exact absurd c_8 (by decide) | exact absurd (by decide) c_8
        · refine lv_aload_n hx hb dX4_settle_31 rfl (lv_at hl 3 rfl) ?_
          refine lv_iload hx hb dX4_settle_32 (lv_at hl 0 rfl) ?_
          refine vp_callSi (bn_roV (As := [.int (nI j)]) (rest := []) ⟨hx, hb, hml, hown, hts⟩ (cm_canBe l D c h ad T j (by omega) (bh_lok_cv (hTl j (by omega)))) (cwV 1 hts gX4_settle_X4_canBe rfl rfl rfl (by decide +kernel) ⟨Nat.le_of_ble_eq_true rfl, Nat.le_of_ble_eq_true rfl⟩) hK hI 0 3 rfl rfl rfl rfl hl.1 (Nat.le_of_ble_eq_true rfl) dX4_settle_34 ⟨Nat.le_of_ble_eq_true rfl, Nat.le_of_ble_eq_true rfl⟩) (fun r_10 er_10 => ?_)
          subst er_10
          refine lv_if_ne (tgt := 46) hx hb dX4_settle_37 (by decide) (fun c_11 => ?_) (fun c_11 => ?_)
          · have q_1 := bh_tf_ne c_11
            have hjl : j < T.1 28 := by omega
            have hjf : j = bh_fst T := by rw [← hff, show T.1 28 - j = (T.1 28 - j - 1) + 1 by omega]; exact (if_pos q_1).symm
            refine lv_aload_n hx hb dX4_settle_46 rfl (lv_at hl 3 rfl) ?_
            refine lv_iload hx hb dX4_settle_47 (lv_at hl 0 rfl) ?_
            refine bn_mui (bn_muV (As := [.int (nI j)]) (rest := []) ⟨hx, hb, hml, hown, hts⟩ (cm_deliver l D c h ad _ T j (T.2.2.1 21 j).toNatClampNeg (T.2.2.1 22 j).toNatClampNeg (T.2.2.1 23 j).toNatClampNeg (T.2.2.1 24 j).toNatClampNeg (T.2.2.1 9 (T.2.2.1 22 j).toNatClampNeg).toNatClampNeg hT28 hT0 hjl (hTl j hjl) q_1) (cwV 1 hts gX4_settle_X4_deliver rfl rfl rfl (by decide +kernel) ⟨Nat.le_of_ble_eq_true rfl, Nat.le_of_ble_eq_true rfl⟩) hK hI 0 3 rfl rfl rfl rfl hl.1 (Nat.le_of_ble_eq_true rfl) dX4_settle_49 ⟨Nat.le_of_ble_eq_true rfl, Nat.le_of_ble_eq_true rfl⟩) hI hA (fun r_12 u_12 H locs eu_12 hI => ?_)
            obtain ⟨er_12, eu_12⟩ := eu_12
            subst er_12
            subst eu_12
            refine lv_istore_n (lv' := [(3, .int (nI 1)), (4, .int (nI j)), (2, .int (nI t)), (0, .ref h), (1, .int (nI n))]) hx hb dX4_settle_52 rfl hl (by decide) rfl (fun ls hl => ?_)
            refine lv_iload_n hx hb dX4_settle_53 rfl (lv_at hl 0 rfl) ?_
            refine lv_if_eq (tgt := 60) hx hb dX4_settle_54 (by decide) (fun c_13 => ?_) (fun c_13 => ?_)
            · first | exact absurd c_13 (by decide) | exact absurd (by decide) c_13
            · refine lv_iinc (v := nI (t + 1)) (lv' := [(2, .int (nI (t + 1))), (3, .int (nI 1)), (4, .int (nI j)), (0, .ref h), (1, .int (nI n))]) hx hb dX4_settle_57 hl (k := 2) rfl (nI_1 _) (by decide) rfl (fun ls hl => ?_)
              refine lv_goto (tgt := 10) hx hb dX4_settle_60 (by decide) ?_
              exact ih_2 ((bh_dlv T j, t + 1, m2 - 1)) _ _ _ ⟨hps T j hpT hjl q_1, by show t + 1 + (m2 - 1) = n; omega, by rw [hjf]; exact bh_stl_n hst (by omega) (by omega), hI, lv_sub hl [1, 0, 3, 4] rfl⟩ (by show m2 - 1 < m2; omega)
          · have q_1 := bh_tf_eq c_11
            refine lv_iinc (v := nI (j + 1)) (lv' := [(4, .int (nI (j + 1))), (3, .int (nI 1)), (2, .int (nI t)), (0, .ref h), (1, .int (nI n))]) hx hb dX4_settle_40 hl (k := 0) rfl (nI_1 _) (by decide) rfl (fun ls hl => ?_)
            refine lv_goto (tgt := 22) hx hb dX4_settle_43 (by decide) ?_
            exact ih_5 (j + 1) _ _ _ ⟨by omega, by rw [← hff, show T.1 28 - j = (T.1 28 - (j + 1)) + 1 by omega]; exact (if_neg (by rw [q_1]; decide)).symm, hI, lv_sub hl [0, 1, 2, 3, 4] rfl⟩ (by show T.1 28 - (j + 1) < T.1 28 - j; omega)
  · exact absurd (nI_pos' (by omega)) c_1
end
