section
-- ===== PART A: goes FIRST, ahead of the names: the tables' words, and 'selects' of the private methods out of them =====
/-- a private method of a class that the tables say can be made, by its rows of tables_1 -/
def lw_okq (q : MethodName × Nat) : Prop := (q.1.cls ≠ "java/lang/invoke/MethodHandle" ∧ q.1.cls ≠ "java/lang/invoke/VarHandle") ∧ Cond.instantiable q.1.cls q.2 ∈ tables_1 ∧ Cond.privateMethod q.1 ∈ tables_1 ∧ Cond.instanceMethod q.1 ∈ tables_1
theorem lw_p0 : lw_okq (⟨"SilentSale$Tape", "goTo", "(I)V"⟩, 5) := ⟨⟨by decide +kernel, by decide +kernel⟩, List.mem_of_getElem? (i := 30) (by decide +kernel), List.mem_of_getElem? (i := 458) (by decide +kernel), List.mem_of_getElem? (i := 459) (by decide +kernel)⟩
theorem lw_p1 : lw_okq (⟨"SilentSale$Terms", "readClause", "(LSilentSale$Tape;I)Z"⟩, 9) := ⟨⟨by decide +kernel, by decide +kernel⟩, List.mem_of_getElem? (i := 53) (by decide +kernel), List.mem_of_getElem? (i := 462) (by decide +kernel), List.mem_of_getElem? (i := 463) (by decide +kernel)⟩
theorem lw_p2 : lw_okq (⟨"SilentSale$Terms", "isFull", "(I)Z"⟩, 9) := ⟨⟨by decide +kernel, by decide +kernel⟩, List.mem_of_getElem? (i := 53) (by decide +kernel), List.mem_of_getElem? (i := 527) (by decide +kernel), List.mem_of_getElem? (i := 528) (by decide +kernel)⟩
theorem lw_p3 : lw_okq (⟨"SilentSale$Terms", "readBidder", "(LSilentSale$Tape;)Z"⟩, 9) := ⟨⟨by decide +kernel, by decide +kernel⟩, List.mem_of_getElem? (i := 53) (by decide +kernel), List.mem_of_getElem? (i := 540) (by decide +kernel), List.mem_of_getElem? (i := 541) (by decide +kernel)⟩
theorem lw_p4 : lw_okq (⟨"SilentSale$Terms", "readWorth", "(LSilentSale$Tape;)Z"⟩, 9) := ⟨⟨by decide +kernel, by decide +kernel⟩, List.mem_of_getElem? (i := 53) (by decide +kernel), List.mem_of_getElem? (i := 544) (by decide +kernel), List.mem_of_getElem? (i := 545) (by decide +kernel)⟩
theorem lw_p5 : lw_okq (⟨"SilentSale$Terms", "readTrick", "(LSilentSale$Tape;)Z"⟩, 9) := ⟨⟨by decide +kernel, by decide +kernel⟩, List.mem_of_getElem? (i := 53) (by decide +kernel), List.mem_of_getElem? (i := 548) (by decide +kernel), List.mem_of_getElem? (i := 549) (by decide +kernel)⟩
theorem lw_p6 : lw_okq (⟨"SilentSale$Rule", "readSum", "(LSilentSale$Tape;)Z"⟩, 9) := ⟨⟨by decide +kernel, by decide +kernel⟩, List.mem_of_getElem? (i := 211) (by decide +kernel), List.mem_of_getElem? (i := 601) (by decide +kernel), List.mem_of_getElem? (i := 602) (by decide +kernel)⟩
theorem lw_p7 : lw_okq (⟨"SilentSale$Rule", "readValue", "(LSilentSale$Tape;)Z"⟩, 9) := ⟨⟨by decide +kernel, by decide +kernel⟩, List.mem_of_getElem? (i := 211) (by decide +kernel), List.mem_of_getElem? (i := 605) (by decide +kernel), List.mem_of_getElem? (i := 606) (by decide +kernel)⟩
theorem lw_p8 : lw_okq (⟨"SilentSale$Rule", "isRoomForPiece", "(LSilentSale$Tape;I)Z"⟩, 9) := ⟨⟨by decide +kernel, by decide +kernel⟩, List.mem_of_getElem? (i := 211) (by decide +kernel), List.mem_of_getElem? (i := 612) (by decide +kernel), List.mem_of_getElem? (i := 613) (by decide +kernel)⟩
theorem lw_p9 : lw_okq (⟨"SilentSale$Rule", "step", "(I)Z"⟩, 9) := ⟨⟨by decide +kernel, by decide +kernel⟩, List.mem_of_getElem? (i := 211) (by decide +kernel), List.mem_of_getElem? (i := 616) (by decide +kernel), List.mem_of_getElem? (i := 617) (by decide +kernel)⟩
theorem lw_p10 : lw_okq (⟨"SilentSale$Rule", "readTest", "(LSilentSale$Tape;)Z"⟩, 9) := ⟨⟨by decide +kernel, by decide +kernel⟩, List.mem_of_getElem? (i := 211) (by decide +kernel), List.mem_of_getElem? (i := 635) (by decide +kernel), List.mem_of_getElem? (i := 636) (by decide +kernel)⟩
theorem lw_p11 : lw_okq (⟨"SilentSale$Rule", "readFact", "(LSilentSale$Tape;)Z"⟩, 9) := ⟨⟨by decide +kernel, by decide +kernel⟩, List.mem_of_getElem? (i := 211) (by decide +kernel), List.mem_of_getElem? (i := 640) (by decide +kernel), List.mem_of_getElem? (i := 641) (by decide +kernel)⟩
theorem lw_p12 : lw_okq (⟨"SilentSale$Rule", "isFactToCome", "(LSilentSale$Tape;)Z"⟩, 9) := ⟨⟨by decide +kernel, by decide +kernel⟩, List.mem_of_getElem? (i := 211) (by decide +kernel), List.mem_of_getElem? (i := 648) (by decide +kernel), List.mem_of_getElem? (i := 649) (by decide +kernel)⟩
theorem lw_p13 : lw_okq (⟨"SilentSale$Rule", "stepIfWaiting", "(II)V"⟩, 9) := ⟨⟨by decide +kernel, by decide +kernel⟩, List.mem_of_getElem? (i := 211) (by decide +kernel), List.mem_of_getElem? (i := 652) (by decide +kernel), List.mem_of_getElem? (i := 653) (by decide +kernel)⟩
theorem lw_p14 : lw_okq (⟨"SilentSale", "isBidder", "(I)Z"⟩, 16) := ⟨⟨by decide +kernel, by decide +kernel⟩, List.mem_of_getElem? (i := 22) (by decide +kernel), List.mem_of_getElem? (i := 669) (by decide +kernel), List.mem_of_getElem? (i := 670) (by decide +kernel)⟩
theorem lw_p15 : lw_okq (⟨"SilentSale", "isLot", "(I)Z"⟩, 16) := ⟨⟨by decide +kernel, by decide +kernel⟩, List.mem_of_getElem? (i := 22) (by decide +kernel), List.mem_of_getElem? (i := 700) (by decide +kernel), List.mem_of_getElem? (i := 701) (by decide +kernel)⟩
def lw_privs_1 : List (MethodName × Nat) := [(⟨"SilentSale$Tape", "goTo", "(I)V"⟩, 5), (⟨"SilentSale$Terms", "readClause", "(LSilentSale$Tape;I)Z"⟩, 9), (⟨"SilentSale$Terms", "isFull", "(I)Z"⟩, 9), (⟨"SilentSale$Terms", "readBidder", "(LSilentSale$Tape;)Z"⟩, 9), (⟨"SilentSale$Terms", "readWorth", "(LSilentSale$Tape;)Z"⟩, 9), (⟨"SilentSale$Terms", "readTrick", "(LSilentSale$Tape;)Z"⟩, 9), (⟨"SilentSale$Rule", "readSum", "(LSilentSale$Tape;)Z"⟩, 9), (⟨"SilentSale$Rule", "readValue", "(LSilentSale$Tape;)Z"⟩, 9), (⟨"SilentSale$Rule", "isRoomForPiece", "(LSilentSale$Tape;I)Z"⟩, 9), (⟨"SilentSale$Rule", "step", "(I)Z"⟩, 9), (⟨"SilentSale$Rule", "readTest", "(LSilentSale$Tape;)Z"⟩, 9), (⟨"SilentSale$Rule", "readFact", "(LSilentSale$Tape;)Z"⟩, 9), (⟨"SilentSale$Rule", "isFactToCome", "(LSilentSale$Tape;)Z"⟩, 9), (⟨"SilentSale$Rule", "stepIfWaiting", "(II)V"⟩, 9), (⟨"SilentSale", "isBidder", "(I)Z"⟩, 16), (⟨"SilentSale", "isLot", "(I)Z"⟩, 16)]
theorem lw_r1 : ∀ q ∈ lw_privs_1, lw_okq q := List.forall_mem_cons.mpr ⟨lw_p0, List.forall_mem_cons.mpr ⟨lw_p1, List.forall_mem_cons.mpr ⟨lw_p2, List.forall_mem_cons.mpr ⟨lw_p3, List.forall_mem_cons.mpr ⟨lw_p4, List.forall_mem_cons.mpr ⟨lw_p5, List.forall_mem_cons.mpr ⟨lw_p6, List.forall_mem_cons.mpr ⟨lw_p7, List.forall_mem_cons.mpr ⟨lw_p8, List.forall_mem_cons.mpr ⟨lw_p9, List.forall_mem_cons.mpr ⟨lw_p10, List.forall_mem_cons.mpr ⟨lw_p11, List.forall_mem_cons.mpr ⟨lw_p12, List.forall_mem_cons.mpr ⟨lw_p13, List.forall_mem_cons.mpr ⟨lw_p14, List.forall_mem_cons.mpr ⟨lw_p15, fun _ h => absurd h List.not_mem_nil⟩⟩⟩⟩⟩⟩⟩⟩⟩⟩⟩⟩⟩⟩⟩⟩
theorem lw_p16 : lw_okq (⟨"SilentSale", "isTrick", "(I)Z"⟩, 16) := ⟨⟨by decide +kernel, by decide +kernel⟩, List.mem_of_getElem? (i := 22) (by decide +kernel), List.mem_of_getElem? (i := 717) (by decide +kernel), List.mem_of_getElem? (i := 718) (by decide +kernel)⟩
theorem lw_p17 : lw_okq (⟨"SilentSale", "callClerk", "()V"⟩, 16) := ⟨⟨by decide +kernel, by decide +kernel⟩, List.mem_of_getElem? (i := 22) (by decide +kernel), List.mem_of_getElem? (i := 748) (by decide +kernel), List.mem_of_getElem? (i := 749) (by decide +kernel)⟩
theorem lw_p18 : lw_okq (⟨"SilentSale$Clerk", "unwillingOf", "(IILSilentSale$State;)I"⟩, 4) := ⟨⟨by decide +kernel, by decide +kernel⟩, List.mem_of_getElem? (i := 281) (by decide +kernel), List.mem_of_getElem? (i := 764) (by decide +kernel), List.mem_of_getElem? (i := 765) (by decide +kernel)⟩
theorem lw_p19 : lw_okq (⟨"SilentSale$Rule", "workOut", "()J"⟩, 9) := ⟨⟨by decide +kernel, by decide +kernel⟩, List.mem_of_getElem? (i := 211) (by decide +kernel), List.mem_of_getElem? (i := 791) (by decide +kernel), List.mem_of_getElem? (i := 792) (by decide +kernel)⟩
theorem lw_p20 : lw_okq (⟨"SilentSale$Clerk", "settle", "(LSilentSale$State;I)V"⟩, 4) := ⟨⟨by decide +kernel, by decide +kernel⟩, List.mem_of_getElem? (i := 281) (by decide +kernel), List.mem_of_getElem? (i := 802) (by decide +kernel), List.mem_of_getElem? (i := 803) (by decide +kernel)⟩
theorem lw_p21 : lw_okq (⟨"SilentSale", "isTold", "()Z"⟩, 16) := ⟨⟨by decide +kernel, by decide +kernel⟩, List.mem_of_getElem? (i := 22) (by decide +kernel), List.mem_of_getElem? (i := 864) (by decide +kernel), List.mem_of_getElem? (i := 865) (by decide +kernel)⟩
theorem lw_p22 : lw_okq (⟨"SilentSale", "beginAsking", "()V"⟩, 16) := ⟨⟨by decide +kernel, by decide +kernel⟩, List.mem_of_getElem? (i := 22) (by decide +kernel), List.mem_of_getElem? (i := 868) (by decide +kernel), List.mem_of_getElem? (i := 869) (by decide +kernel)⟩
theorem lw_p23 : lw_okq (⟨"SilentSale", "roomOf", "(I)I"⟩, 16) := ⟨⟨by decide +kernel, by decide +kernel⟩, List.mem_of_getElem? (i := 22) (by decide +kernel), List.mem_of_getElem? (i := 891) (by decide +kernel), List.mem_of_getElem? (i := 892) (by decide +kernel)⟩
theorem lw_p24 : lw_okq (⟨"SilentSale", "roomOfAll", "(I)I"⟩, 16) := ⟨⟨by decide +kernel, by decide +kernel⟩, List.mem_of_getElem? (i := 22) (by decide +kernel), List.mem_of_getElem? (i := 895) (by decide +kernel), List.mem_of_getElem? (i := 896) (by decide +kernel)⟩
theorem lw_p25 : lw_okq (⟨"SilentSale$Seating", "workOutSets", "(LSilentSale$Clerk;LSilentSale$Terms;LSilentSale$State;I)V"⟩, 5) := ⟨⟨by decide +kernel, by decide +kernel⟩, List.mem_of_getElem? (i := 302) (by decide +kernel), List.mem_of_getElem? (i := 935) (by decide +kernel), List.mem_of_getElem? (i := 936) (by decide +kernel)⟩
theorem lw_p26 : lw_okq (⟨"SilentSale$Seating", "setGains", "(LSilentSale$Clerk;LSilentSale$Terms;LSilentSale$State;II)I"⟩, 5) := ⟨⟨by decide +kernel, by decide +kernel⟩, List.mem_of_getElem? (i := 302) (by decide +kernel), List.mem_of_getElem? (i := 944) (by decide +kernel), List.mem_of_getElem? (i := 945) (by decide +kernel)⟩
theorem lw_p27 : lw_okq (⟨"SilentSale$Seating", "ringIfSat", "(I)V"⟩, 5) := ⟨⟨by decide +kernel, by decide +kernel⟩, List.mem_of_getElem? (i := 302) (by decide +kernel), List.mem_of_getElem? (i := 950) (by decide +kernel), List.mem_of_getElem? (i := 951) (by decide +kernel)⟩
theorem lw_p28 : lw_okq (⟨"SilentSale$Seating", "canSit", "(LSilentSale$State;)Z"⟩, 5) := ⟨⟨by decide +kernel, by decide +kernel⟩, List.mem_of_getElem? (i := 302) (by decide +kernel), List.mem_of_getElem? (i := 962) (by decide +kernel), List.mem_of_getElem? (i := 963) (by decide +kernel)⟩
theorem lw_p29 : lw_okq (⟨"SilentSale$Seating", "sumOfSets", "(LSilentSale$Terms;LSilentSale$State;)I"⟩, 5) := ⟨⟨by decide +kernel, by decide +kernel⟩, List.mem_of_getElem? (i := 302) (by decide +kernel), List.mem_of_getElem? (i := 966) (by decide +kernel), List.mem_of_getElem? (i := 967) (by decide +kernel)⟩
theorem lw_p30 : lw_okq (⟨"SilentSale$Seating", "courseGains", "(LSilentSale$Clerk;LSilentSale$Terms;LSilentSale$State;)I"⟩, 5) := ⟨⟨by decide +kernel, by decide +kernel⟩, List.mem_of_getElem? (i := 302) (by decide +kernel), List.mem_of_getElem? (i := 970) (by decide +kernel), List.mem_of_getElem? (i := 971) (by decide +kernel)⟩
theorem lw_p31 : lw_okq (⟨"SilentSale$Trickery", "rowCost", "(LSilentSale$Terms;)I"⟩, 4) := ⟨⟨by decide +kernel, by decide +kernel⟩, List.mem_of_getElem? (i := 328) (by decide +kernel), List.mem_of_getElem? (i := 988) (by decide +kernel), List.mem_of_getElem? (i := 989) (by decide +kernel)⟩
def lw_privs_2 : List (MethodName × Nat) := [(⟨"SilentSale", "isTrick", "(I)Z"⟩, 16), (⟨"SilentSale", "callClerk", "()V"⟩, 16), (⟨"SilentSale$Clerk", "unwillingOf", "(IILSilentSale$State;)I"⟩, 4), (⟨"SilentSale$Rule", "workOut", "()J"⟩, 9), (⟨"SilentSale$Clerk", "settle", "(LSilentSale$State;I)V"⟩, 4), (⟨"SilentSale", "isTold", "()Z"⟩, 16), (⟨"SilentSale", "beginAsking", "()V"⟩, 16), (⟨"SilentSale", "roomOf", "(I)I"⟩, 16), (⟨"SilentSale", "roomOfAll", "(I)I"⟩, 16), (⟨"SilentSale$Seating", "workOutSets", "(LSilentSale$Clerk;LSilentSale$Terms;LSilentSale$State;I)V"⟩, 5), (⟨"SilentSale$Seating", "setGains", "(LSilentSale$Clerk;LSilentSale$Terms;LSilentSale$State;II)I"⟩, 5), (⟨"SilentSale$Seating", "ringIfSat", "(I)V"⟩, 5), (⟨"SilentSale$Seating", "canSit", "(LSilentSale$State;)Z"⟩, 5), (⟨"SilentSale$Seating", "sumOfSets", "(LSilentSale$Terms;LSilentSale$State;)I"⟩, 5), (⟨"SilentSale$Seating", "courseGains", "(LSilentSale$Clerk;LSilentSale$Terms;LSilentSale$State;)I"⟩, 5), (⟨"SilentSale$Trickery", "rowCost", "(LSilentSale$Terms;)I"⟩, 4)]
theorem lw_r2 : ∀ q ∈ lw_privs_2, lw_okq q := List.forall_mem_cons.mpr ⟨lw_p16, List.forall_mem_cons.mpr ⟨lw_p17, List.forall_mem_cons.mpr ⟨lw_p18, List.forall_mem_cons.mpr ⟨lw_p19, List.forall_mem_cons.mpr ⟨lw_p20, List.forall_mem_cons.mpr ⟨lw_p21, List.forall_mem_cons.mpr ⟨lw_p22, List.forall_mem_cons.mpr ⟨lw_p23, List.forall_mem_cons.mpr ⟨lw_p24, List.forall_mem_cons.mpr ⟨lw_p25, List.forall_mem_cons.mpr ⟨lw_p26, List.forall_mem_cons.mpr ⟨lw_p27, List.forall_mem_cons.mpr ⟨lw_p28, List.forall_mem_cons.mpr ⟨lw_p29, List.forall_mem_cons.mpr ⟨lw_p30, List.forall_mem_cons.mpr ⟨lw_p31, fun _ h => absurd h List.not_mem_nil⟩⟩⟩⟩⟩⟩⟩⟩⟩⟩⟩⟩⟩⟩⟩⟩
theorem lw_p32 : lw_okq (⟨"SilentSale$Trickery", "playRow", "(LSilentSale$Terms;LSilentSale$State;I)Z"⟩, 4) := ⟨⟨by decide +kernel, by decide +kernel⟩, List.mem_of_getElem? (i := 328) (by decide +kernel), List.mem_of_getElem? (i := 992) (by decide +kernel), List.mem_of_getElem? (i := 993) (by decide +kernel)⟩
theorem lw_p33 : lw_okq (⟨"SilentSale", "keeperOf", "(II)I"⟩, 16) := ⟨⟨by decide +kernel, by decide +kernel⟩, List.mem_of_getElem? (i := 22) (by decide +kernel), List.mem_of_getElem? (i := 1009) (by decide +kernel), List.mem_of_getElem? (i := 1010) (by decide +kernel)⟩
theorem lw_p34 : lw_okq (⟨"SilentSale", "gainsOf", "(I)I"⟩, 16) := ⟨⟨by decide +kernel, by decide +kernel⟩, List.mem_of_getElem? (i := 22) (by decide +kernel), List.mem_of_getElem? (i := 1014) (by decide +kernel), List.mem_of_getElem? (i := 1015) (by decide +kernel)⟩
theorem lw_p35 : lw_okq (⟨"SilentSale", "nobodyHasMore", "(II)Z"⟩, 16) := ⟨⟨by decide +kernel, by decide +kernel⟩, List.mem_of_getElem? (i := 22) (by decide +kernel), List.mem_of_getElem? (i := 1021) (by decide +kernel), List.mem_of_getElem? (i := 1022) (by decide +kernel)⟩
theorem lw_p36 : lw_okq (⟨"SilentSale$Sleuth", "seatAllBy", "(ILSilentSale$Terms;)V"⟩, 4) := ⟨⟨by decide +kernel, by decide +kernel⟩, List.mem_of_getElem? (i := 351) (by decide +kernel), List.mem_of_getElem? (i := 1047) (by decide +kernel), List.mem_of_getElem? (i := 1048) (by decide +kernel)⟩
theorem lw_p37 : lw_okq (⟨"SilentSale$Sleuth", "alike", "(II)I"⟩, 4) := ⟨⟨by decide +kernel, by decide +kernel⟩, List.mem_of_getElem? (i := 351) (by decide +kernel), List.mem_of_getElem? (i := 1072) (by decide +kernel), List.mem_of_getElem? (i := 1073) (by decide +kernel)⟩
theorem lw_p38 : lw_okq (⟨"SilentSaleModel", "four", "(I)V"⟩, 37) := ⟨⟨by decide +kernel, by decide +kernel⟩, List.mem_of_getElem? (i := 1126) (by decide +kernel), List.mem_of_getElem? (i := 1249) (by decide +kernel), List.mem_of_getElem? (i := 1250) (by decide +kernel)⟩
theorem lw_p39 : lw_okq (⟨"SilentSaleModel", "readsAll", "()Z"⟩, 37) := ⟨⟨by decide +kernel, by decide +kernel⟩, List.mem_of_getElem? (i := 1126) (by decide +kernel), List.mem_of_getElem? (i := 1261) (by decide +kernel), List.mem_of_getElem? (i := 1262) (by decide +kernel)⟩
theorem lw_p40 : lw_okq (⟨"SilentSaleModel", "clauseHere", "()Z"⟩, 37) := ⟨⟨by decide +kernel, by decide +kernel⟩, List.mem_of_getElem? (i := 1126) (by decide +kernel), List.mem_of_getElem? (i := 1265) (by decide +kernel), List.mem_of_getElem? (i := 1266) (by decide +kernel)⟩
theorem lw_p41 : lw_okq (⟨"SilentSaleModel", "see", "()I"⟩, 37) := ⟨⟨by decide +kernel, by decide +kernel⟩, List.mem_of_getElem? (i := 1126) (by decide +kernel), List.mem_of_getElem? (i := 1269) (by decide +kernel), List.mem_of_getElem? (i := 1270) (by decide +kernel)⟩
theorem lw_p42 : lw_okq (⟨"SilentSaleModel", "isSaleWord", "()Z"⟩, 37) := ⟨⟨by decide +kernel, by decide +kernel⟩, List.mem_of_getElem? (i := 1126) (by decide +kernel), List.mem_of_getElem? (i := 1273) (by decide +kernel), List.mem_of_getElem? (i := 1274) (by decide +kernel)⟩
theorem lw_p43 : lw_okq (⟨"SilentSaleModel", "isWord", "(J)Z"⟩, 37) := ⟨⟨by decide +kernel, by decide +kernel⟩, List.mem_of_getElem? (i := 1126) (by decide +kernel), List.mem_of_getElem? (i := 1278) (by decide +kernel), List.mem_of_getElem? (i := 1279) (by decide +kernel)⟩
theorem lw_p44 : lw_okq (⟨"SilentSaleModel", "isLetter", "(I)Z"⟩, 37) := ⟨⟨by decide +kernel, by decide +kernel⟩, List.mem_of_getElem? (i := 1126) (by decide +kernel), List.mem_of_getElem? (i := 1282) (by decide +kernel), List.mem_of_getElem? (i := 1283) (by decide +kernel)⟩
theorem lw_p45 : lw_okq (⟨"SilentSaleModel", "fails", "(II)Z"⟩, 37) := ⟨⟨by decide +kernel, by decide +kernel⟩, List.mem_of_getElem? (i := 1126) (by decide +kernel), List.mem_of_getElem? (i := 1291) (by decide +kernel), List.mem_of_getElem? (i := 1292) (by decide +kernel)⟩
theorem lw_p46 : lw_okq (⟨"SilentSaleModel", "saleLineHere", "(I)Z"⟩, 37) := ⟨⟨by decide +kernel, by decide +kernel⟩, List.mem_of_getElem? (i := 1126) (by decide +kernel), List.mem_of_getElem? (i := 1295) (by decide +kernel), List.mem_of_getElem? (i := 1296) (by decide +kernel)⟩
theorem lw_p47 : lw_okq (⟨"SilentSaleModel", "isSaleHere", "(I)Z"⟩, 37) := ⟨⟨by decide +kernel, by decide +kernel⟩, List.mem_of_getElem? (i := 1126) (by decide +kernel), List.mem_of_getElem? (i := 1299) (by decide +kernel), List.mem_of_getElem? (i := 1300) (by decide +kernel)⟩
def lw_privs_3 : List (MethodName × Nat) := [(⟨"SilentSale$Trickery", "playRow", "(LSilentSale$Terms;LSilentSale$State;I)Z"⟩, 4), (⟨"SilentSale", "keeperOf", "(II)I"⟩, 16), (⟨"SilentSale", "gainsOf", "(I)I"⟩, 16), (⟨"SilentSale", "nobodyHasMore", "(II)Z"⟩, 16), (⟨"SilentSale$Sleuth", "seatAllBy", "(ILSilentSale$Terms;)V"⟩, 4), (⟨"SilentSale$Sleuth", "alike", "(II)I"⟩, 4), (⟨"SilentSaleModel", "four", "(I)V"⟩, 37), (⟨"SilentSaleModel", "readsAll", "()Z"⟩, 37), (⟨"SilentSaleModel", "clauseHere", "()Z"⟩, 37), (⟨"SilentSaleModel", "see", "()I"⟩, 37), (⟨"SilentSaleModel", "isSaleWord", "()Z"⟩, 37), (⟨"SilentSaleModel", "isWord", "(J)Z"⟩, 37), (⟨"SilentSaleModel", "isLetter", "(I)Z"⟩, 37), (⟨"SilentSaleModel", "fails", "(II)Z"⟩, 37), (⟨"SilentSaleModel", "saleLineHere", "(I)Z"⟩, 37), (⟨"SilentSaleModel", "isSaleHere", "(I)Z"⟩, 37)]
theorem lw_r3 : ∀ q ∈ lw_privs_3, lw_okq q := List.forall_mem_cons.mpr ⟨lw_p32, List.forall_mem_cons.mpr ⟨lw_p33, List.forall_mem_cons.mpr ⟨lw_p34, List.forall_mem_cons.mpr ⟨lw_p35, List.forall_mem_cons.mpr ⟨lw_p36, List.forall_mem_cons.mpr ⟨lw_p37, List.forall_mem_cons.mpr ⟨lw_p38, List.forall_mem_cons.mpr ⟨lw_p39, List.forall_mem_cons.mpr ⟨lw_p40, List.forall_mem_cons.mpr ⟨lw_p41, List.forall_mem_cons.mpr ⟨lw_p42, List.forall_mem_cons.mpr ⟨lw_p43, List.forall_mem_cons.mpr ⟨lw_p44, List.forall_mem_cons.mpr ⟨lw_p45, List.forall_mem_cons.mpr ⟨lw_p46, List.forall_mem_cons.mpr ⟨lw_p47, fun _ h => absurd h List.not_mem_nil⟩⟩⟩⟩⟩⟩⟩⟩⟩⟩⟩⟩⟩⟩⟩⟩
theorem lw_p48 : lw_okq (⟨"SilentSaleModel", "passWord", "()V"⟩, 37) := ⟨⟨by decide +kernel, by decide +kernel⟩, List.mem_of_getElem? (i := 1126) (by decide +kernel), List.mem_of_getElem? (i := 1303) (by decide +kernel), List.mem_of_getElem? (i := 1304) (by decide +kernel)⟩
theorem lw_p49 : lw_okq (⟨"SilentSaleModel", "cellHere", "(III)Z"⟩, 37) := ⟨⟨by decide +kernel, by decide +kernel⟩, List.mem_of_getElem? (i := 1126) (by decide +kernel), List.mem_of_getElem? (i := 1307) (by decide +kernel), List.mem_of_getElem? (i := 1308) (by decide +kernel)⟩
theorem lw_p50 : lw_okq (⟨"SilentSaleModel", "numberHere", "(II)Z"⟩, 37) := ⟨⟨by decide +kernel, by decide +kernel⟩, List.mem_of_getElem? (i := 1126) (by decide +kernel), List.mem_of_getElem? (i := 1311) (by decide +kernel), List.mem_of_getElem? (i := 1312) (by decide +kernel)⟩
theorem lw_p51 : lw_okq (⟨"SilentSaleModel", "isDigit", "(I)Z"⟩, 37) := ⟨⟨by decide +kernel, by decide +kernel⟩, List.mem_of_getElem? (i := 1126) (by decide +kernel), List.mem_of_getElem? (i := 1315) (by decide +kernel), List.mem_of_getElem? (i := 1316) (by decide +kernel)⟩
theorem lw_p52 : lw_okq (⟨"SilentSaleModel", "isBidderHere", "(I)Z"⟩, 37) := ⟨⟨by decide +kernel, by decide +kernel⟩, List.mem_of_getElem? (i := 1126) (by decide +kernel), List.mem_of_getElem? (i := 1322) (by decide +kernel), List.mem_of_getElem? (i := 1323) (by decide +kernel)⟩
theorem lw_p53 : lw_okq (⟨"SilentSaleModel", "isLotHere", "(I)Z"⟩, 37) := ⟨⟨by decide +kernel, by decide +kernel⟩, List.mem_of_getElem? (i := 1126) (by decide +kernel), List.mem_of_getElem? (i := 1326) (by decide +kernel), List.mem_of_getElem? (i := 1327) (by decide +kernel)⟩
theorem lw_p54 : lw_okq (⟨"SilentSaleModel", "isWorthHere", "()Z"⟩, 37) := ⟨⟨by decide +kernel, by decide +kernel⟩, List.mem_of_getElem? (i := 1126) (by decide +kernel), List.mem_of_getElem? (i := 1330) (by decide +kernel), List.mem_of_getElem? (i := 1331) (by decide +kernel)⟩
theorem lw_p55 : lw_okq (⟨"SilentSaleModel", "isTrickHere", "(I)Z"⟩, 37) := ⟨⟨by decide +kernel, by decide +kernel⟩, List.mem_of_getElem? (i := 1126) (by decide +kernel), List.mem_of_getElem? (i := 1334) (by decide +kernel), List.mem_of_getElem? (i := 1335) (by decide +kernel)⟩
theorem lw_p56 : lw_okq (⟨"SilentSaleModel", "isSpeakHere", "()Z"⟩, 37) := ⟨⟨by decide +kernel, by decide +kernel⟩, List.mem_of_getElem? (i := 1126) (by decide +kernel), List.mem_of_getElem? (i := 1338) (by decide +kernel), List.mem_of_getElem? (i := 1339) (by decide +kernel)⟩
theorem lw_p57 : lw_okq (⟨"SilentSaleModel", "sum", "()Z"⟩, 37) := ⟨⟨by decide +kernel, by decide +kernel⟩, List.mem_of_getElem? (i := 1126) (by decide +kernel), List.mem_of_getElem? (i := 1342) (by decide +kernel), List.mem_of_getElem? (i := 1343) (by decide +kernel)⟩
theorem lw_p58 : lw_okq (⟨"SilentSaleModel", "term", "()Z"⟩, 37) := ⟨⟨by decide +kernel, by decide +kernel⟩, List.mem_of_getElem? (i := 1126) (by decide +kernel), List.mem_of_getElem? (i := 1346) (by decide +kernel), List.mem_of_getElem? (i := 1347) (by decide +kernel)⟩
theorem lw_p59 : lw_okq (⟨"SilentSaleModel", "value", "()Z"⟩, 37) := ⟨⟨by decide +kernel, by decide +kernel⟩, List.mem_of_getElem? (i := 1126) (by decide +kernel), List.mem_of_getElem? (i := 1350) (by decide +kernel), List.mem_of_getElem? (i := 1351) (by decide +kernel)⟩
theorem lw_p60 : lw_okq (⟨"SilentSaleModel", "makes", "(I)Z"⟩, 37) := ⟨⟨by decide +kernel, by decide +kernel⟩, List.mem_of_getElem? (i := 1126) (by decide +kernel), List.mem_of_getElem? (i := 1355) (by decide +kernel), List.mem_of_getElem? (i := 1356) (by decide +kernel)⟩
theorem lw_p61 : lw_okq (⟨"SilentSaleModel", "puts", "(II)V"⟩, 37) := ⟨⟨by decide +kernel, by decide +kernel⟩, List.mem_of_getElem? (i := 1126) (by decide +kernel), List.mem_of_getElem? (i := 1359) (by decide +kernel), List.mem_of_getElem? (i := 1360) (by decide +kernel)⟩
theorem lw_p62 : lw_okq (⟨"SilentSaleModel", "wordHere", "()I"⟩, 37) := ⟨⟨by decide +kernel, by decide +kernel⟩, List.mem_of_getElem? (i := 1126) (by decide +kernel), List.mem_of_getElem? (i := 1363) (by decide +kernel), List.mem_of_getElem? (i := 1364) (by decide +kernel)⟩
theorem lw_p63 : lw_okq (⟨"SilentSaleModel", "takesWord", "(J)Z"⟩, 37) := ⟨⟨by decide +kernel, by decide +kernel⟩, List.mem_of_getElem? (i := 1126) (by decide +kernel), List.mem_of_getElem? (i := 1375) (by decide +kernel), List.mem_of_getElem? (i := 1376) (by decide +kernel)⟩
def lw_privs_4 : List (MethodName × Nat) := [(⟨"SilentSaleModel", "passWord", "()V"⟩, 37), (⟨"SilentSaleModel", "cellHere", "(III)Z"⟩, 37), (⟨"SilentSaleModel", "numberHere", "(II)Z"⟩, 37), (⟨"SilentSaleModel", "isDigit", "(I)Z"⟩, 37), (⟨"SilentSaleModel", "isBidderHere", "(I)Z"⟩, 37), (⟨"SilentSaleModel", "isLotHere", "(I)Z"⟩, 37), (⟨"SilentSaleModel", "isWorthHere", "()Z"⟩, 37), (⟨"SilentSaleModel", "isTrickHere", "(I)Z"⟩, 37), (⟨"SilentSaleModel", "isSpeakHere", "()Z"⟩, 37), (⟨"SilentSaleModel", "sum", "()Z"⟩, 37), (⟨"SilentSaleModel", "term", "()Z"⟩, 37), (⟨"SilentSaleModel", "value", "()Z"⟩, 37), (⟨"SilentSaleModel", "makes", "(I)Z"⟩, 37), (⟨"SilentSaleModel", "puts", "(II)V"⟩, 37), (⟨"SilentSaleModel", "wordHere", "()I"⟩, 37), (⟨"SilentSaleModel", "takesWord", "(J)Z"⟩, 37)]
theorem lw_r4 : ∀ q ∈ lw_privs_4, lw_okq q := List.forall_mem_cons.mpr ⟨lw_p48, List.forall_mem_cons.mpr ⟨lw_p49, List.forall_mem_cons.mpr ⟨lw_p50, List.forall_mem_cons.mpr ⟨lw_p51, List.forall_mem_cons.mpr ⟨lw_p52, List.forall_mem_cons.mpr ⟨lw_p53, List.forall_mem_cons.mpr ⟨lw_p54, List.forall_mem_cons.mpr ⟨lw_p55, List.forall_mem_cons.mpr ⟨lw_p56, List.forall_mem_cons.mpr ⟨lw_p57, List.forall_mem_cons.mpr ⟨lw_p58, List.forall_mem_cons.mpr ⟨lw_p59, List.forall_mem_cons.mpr ⟨lw_p60, List.forall_mem_cons.mpr ⟨lw_p61, List.forall_mem_cons.mpr ⟨lw_p62, List.forall_mem_cons.mpr ⟨lw_p63, fun _ h => absurd h List.not_mem_nil⟩⟩⟩⟩⟩⟩⟩⟩⟩⟩⟩⟩⟩⟩⟩⟩
theorem lw_p64 : lw_okq (⟨"SilentSaleModel", "tested", "()Z"⟩, 37) := ⟨⟨by decide +kernel, by decide +kernel⟩, List.mem_of_getElem? (i := 1126) (by decide +kernel), List.mem_of_getElem? (i := 1379) (by decide +kernel), List.mem_of_getElem? (i := 1380) (by decide +kernel)⟩
theorem lw_p65 : lw_okq (⟨"SilentSaleModel", "fact", "()Z"⟩, 37) := ⟨⟨by decide +kernel, by decide +kernel⟩, List.mem_of_getElem? (i := 1126) (by decide +kernel), List.mem_of_getElem? (i := 1383) (by decide +kernel), List.mem_of_getElem? (i := 1384) (by decide +kernel)⟩
theorem lw_p66 : lw_okq (⟨"SilentSaleModel", "opens", "(I)Z"⟩, 37) := ⟨⟨by decide +kernel, by decide +kernel⟩, List.mem_of_getElem? (i := 1126) (by decide +kernel), List.mem_of_getElem? (i := 1388) (by decide +kernel), List.mem_of_getElem? (i := 1389) (by decide +kernel)⟩
theorem lw_p67 : lw_okq (⟨"SilentSaleModel", "compare", "()Z"⟩, 37) := ⟨⟨by decide +kernel, by decide +kernel⟩, List.mem_of_getElem? (i := 1126) (by decide +kernel), List.mem_of_getElem? (i := 1392) (by decide +kernel), List.mem_of_getElem? (i := 1393) (by decide +kernel)⟩
theorem lw_p68 : lw_okq (⟨"SilentSaleModel", "closes", "()V"⟩, 37) := ⟨⟨by decide +kernel, by decide +kernel⟩, List.mem_of_getElem? (i := 1126) (by decide +kernel), List.mem_of_getElem? (i := 1396) (by decide +kernel), List.mem_of_getElem? (i := 1397) (by decide +kernel)⟩
theorem lw_p69 : lw_okq (⟨"SilentSaleModel", "settles", "(I)V"⟩, 37) := ⟨⟨by decide +kernel, by decide +kernel⟩, List.mem_of_getElem? (i := 1126) (by decide +kernel), List.mem_of_getElem? (i := 1400) (by decide +kernel), List.mem_of_getElem? (i := 1401) (by decide +kernel)⟩
theorem lw_p70 : lw_okq (⟨"SilentSaleModel", "isInside", "()Z"⟩, 37) := ⟨⟨by decide +kernel, by decide +kernel⟩, List.mem_of_getElem? (i := 1126) (by decide +kernel), List.mem_of_getElem? (i := 1407) (by decide +kernel), List.mem_of_getElem? (i := 1408) (by decide +kernel)⟩
theorem lw_p71 : lw_okq (⟨"SilentSaleModel", "startsAnew", "()V"⟩, 37) := ⟨⟨by decide +kernel, by decide +kernel⟩, List.mem_of_getElem? (i := 1126) (by decide +kernel), List.mem_of_getElem? (i := 1417) (by decide +kernel), List.mem_of_getElem? (i := 1418) (by decide +kernel)⟩
theorem lw_p72 : lw_okq (⟨"SilentSaleModel", "isRule", "(I)Z"⟩, 37) := ⟨⟨by decide +kernel, by decide +kernel⟩, List.mem_of_getElem? (i := 1126) (by decide +kernel), List.mem_of_getElem? (i := 1425) (by decide +kernel), List.mem_of_getElem? (i := 1426) (by decide +kernel)⟩
theorem lw_p73 : lw_okq (⟨"SilentSaleModel", "isBidder", "(I)Z"⟩, 37) := ⟨⟨by decide +kernel, by decide +kernel⟩, List.mem_of_getElem? (i := 1126) (by decide +kernel), List.mem_of_getElem? (i := 1433) (by decide +kernel), List.mem_of_getElem? (i := 1434) (by decide +kernel)⟩
theorem lw_p74 : lw_okq (⟨"SilentSaleModel", "bidderOf", "(II)I"⟩, 37) := ⟨⟨by decide +kernel, by decide +kernel⟩, List.mem_of_getElem? (i := 1126) (by decide +kernel), List.mem_of_getElem? (i := 1438) (by decide +kernel), List.mem_of_getElem? (i := 1439) (by decide +kernel)⟩
theorem lw_p75 : lw_okq (⟨"SilentSaleModel", "lotsOf", "(I)I"⟩, 37) := ⟨⟨by decide +kernel, by decide +kernel⟩, List.mem_of_getElem? (i := 1126) (by decide +kernel), List.mem_of_getElem? (i := 1442) (by decide +kernel), List.mem_of_getElem? (i := 1443) (by decide +kernel)⟩
theorem lw_p76 : lw_okq (⟨"SilentSaleModel", "lotOf", "(II)I"⟩, 37) := ⟨⟨by decide +kernel, by decide +kernel⟩, List.mem_of_getElem? (i := 1126) (by decide +kernel), List.mem_of_getElem? (i := 1446) (by decide +kernel), List.mem_of_getElem? (i := 1447) (by decide +kernel)⟩
theorem lw_p77 : lw_okq (⟨"SilentSaleModel", "gainOf", "(I)I"⟩, 37) := ⟨⟨by decide +kernel, by decide +kernel⟩, List.mem_of_getElem? (i := 1126) (by decide +kernel), List.mem_of_getElem? (i := 1450) (by decide +kernel), List.mem_of_getElem? (i := 1451) (by decide +kernel)⟩
theorem lw_p78 : lw_okq (⟨"SilentSaleModel", "worthTo", "(II)I"⟩, 37) := ⟨⟨by decide +kernel, by decide +kernel⟩, List.mem_of_getElem? (i := 1126) (by decide +kernel), List.mem_of_getElem? (i := 1454) (by decide +kernel), List.mem_of_getElem? (i := 1455) (by decide +kernel)⟩
theorem lw_p79 : lw_okq (⟨"SilentSaleModel", "isLot", "(I)Z"⟩, 37) := ⟨⟨by decide +kernel, by decide +kernel⟩, List.mem_of_getElem? (i := 1126) (by decide +kernel), List.mem_of_getElem? (i := 1462) (by decide +kernel), List.mem_of_getElem? (i := 1463) (by decide +kernel)⟩
def lw_privs_5 : List (MethodName × Nat) := [(⟨"SilentSaleModel", "tested", "()Z"⟩, 37), (⟨"SilentSaleModel", "fact", "()Z"⟩, 37), (⟨"SilentSaleModel", "opens", "(I)Z"⟩, 37), (⟨"SilentSaleModel", "compare", "()Z"⟩, 37), (⟨"SilentSaleModel", "closes", "()V"⟩, 37), (⟨"SilentSaleModel", "settles", "(I)V"⟩, 37), (⟨"SilentSaleModel", "isInside", "()Z"⟩, 37), (⟨"SilentSaleModel", "startsAnew", "()V"⟩, 37), (⟨"SilentSaleModel", "isRule", "(I)Z"⟩, 37), (⟨"SilentSaleModel", "isBidder", "(I)Z"⟩, 37), (⟨"SilentSaleModel", "bidderOf", "(II)I"⟩, 37), (⟨"SilentSaleModel", "lotsOf", "(I)I"⟩, 37), (⟨"SilentSaleModel", "lotOf", "(II)I"⟩, 37), (⟨"SilentSaleModel", "gainOf", "(I)I"⟩, 37), (⟨"SilentSaleModel", "worthTo", "(II)I"⟩, 37), (⟨"SilentSaleModel", "isLot", "(I)Z"⟩, 37)]
theorem lw_r5 : ∀ q ∈ lw_privs_5, lw_okq q := List.forall_mem_cons.mpr ⟨lw_p64, List.forall_mem_cons.mpr ⟨lw_p65, List.forall_mem_cons.mpr ⟨lw_p66, List.forall_mem_cons.mpr ⟨lw_p67, List.forall_mem_cons.mpr ⟨lw_p68, List.forall_mem_cons.mpr ⟨lw_p69, List.forall_mem_cons.mpr ⟨lw_p70, List.forall_mem_cons.mpr ⟨lw_p71, List.forall_mem_cons.mpr ⟨lw_p72, List.forall_mem_cons.mpr ⟨lw_p73, List.forall_mem_cons.mpr ⟨lw_p74, List.forall_mem_cons.mpr ⟨lw_p75, List.forall_mem_cons.mpr ⟨lw_p76, List.forall_mem_cons.mpr ⟨lw_p77, List.forall_mem_cons.mpr ⟨lw_p78, List.forall_mem_cons.mpr ⟨lw_p79, fun _ h => absurd h List.not_mem_nil⟩⟩⟩⟩⟩⟩⟩⟩⟩⟩⟩⟩⟩⟩⟩⟩
theorem lw_p80 : lw_okq (⟨"SilentSaleModel", "sitting", "(I)I"⟩, 37) := ⟨⟨by decide +kernel, by decide +kernel⟩, List.mem_of_getElem? (i := 1126) (by decide +kernel), List.mem_of_getElem? (i := 1467) (by decide +kernel), List.mem_of_getElem? (i := 1468) (by decide +kernel)⟩
theorem lw_p81 : lw_okq (⟨"SilentSaleModel", "silentBy", "(I)I"⟩, 37) := ⟨⟨by decide +kernel, by decide +kernel⟩, List.mem_of_getElem? (i := 1126) (by decide +kernel), List.mem_of_getElem? (i := 1471) (by decide +kernel), List.mem_of_getElem? (i := 1472) (by decide +kernel)⟩
theorem lw_p82 : lw_okq (⟨"SilentSaleModel", "isSilent", "(I)Z"⟩, 37) := ⟨⟨by decide +kernel, by decide +kernel⟩, List.mem_of_getElem? (i := 1126) (by decide +kernel), List.mem_of_getElem? (i := 1475) (by decide +kernel), List.mem_of_getElem? (i := 1476) (by decide +kernel)⟩
theorem lw_p83 : lw_okq (⟨"SilentSaleModel", "isTrick", "(I)Z"⟩, 37) := ⟨⟨by decide +kernel, by decide +kernel⟩, List.mem_of_getElem? (i := 1126) (by decide +kernel), List.mem_of_getElem? (i := 1487) (by decide +kernel), List.mem_of_getElem? (i := 1488) (by decide +kernel)⟩
theorem lw_p84 : lw_okq (⟨"SilentSaleModel", "lotsIn", "(I)I"⟩, 37) := ⟨⟨by decide +kernel, by decide +kernel⟩, List.mem_of_getElem? (i := 1126) (by decide +kernel), List.mem_of_getElem? (i := 1499) (by decide +kernel), List.mem_of_getElem? (i := 1500) (by decide +kernel)⟩
theorem lw_p85 : lw_okq (⟨"SilentSaleModel", "keepsAct", "()V"⟩, 37) := ⟨⟨by decide +kernel, by decide +kernel⟩, List.mem_of_getElem? (i := 1126) (by decide +kernel), List.mem_of_getElem? (i := 1503) (by decide +kernel), List.mem_of_getElem? (i := 1504) (by decide +kernel)⟩
theorem lw_p86 : lw_okq (⟨"SilentSaleModel", "passes", "()I"⟩, 37) := ⟨⟨by decide +kernel, by decide +kernel⟩, List.mem_of_getElem? (i := 1126) (by decide +kernel), List.mem_of_getElem? (i := 1507) (by decide +kernel), List.mem_of_getElem? (i := 1508) (by decide +kernel)⟩
theorem lw_p87 : lw_okq (⟨"SilentSaleModel", "goesOn", "(I)I"⟩, 37) := ⟨⟨by decide +kernel, by decide +kernel⟩, List.mem_of_getElem? (i := 1126) (by decide +kernel), List.mem_of_getElem? (i := 1511) (by decide +kernel), List.mem_of_getElem? (i := 1512) (by decide +kernel)⟩
theorem lw_p88 : lw_okq (⟨"SilentSaleModel", "speaks", "(II)Z"⟩, 37) := ⟨⟨by decide +kernel, by decide +kernel⟩, List.mem_of_getElem? (i := 1126) (by decide +kernel), List.mem_of_getElem? (i := 1518) (by decide +kernel), List.mem_of_getElem? (i := 1519) (by decide +kernel)⟩
theorem lw_p89 : lw_okq (⟨"SilentSaleModel", "words", "(II)V"⟩, 37) := ⟨⟨by decide +kernel, by decide +kernel⟩, List.mem_of_getElem? (i := 1126) (by decide +kernel), List.mem_of_getElem? (i := 1522) (by decide +kernel), List.mem_of_getElem? (i := 1523) (by decide +kernel)⟩
theorem lw_p90 : lw_okq (⟨"SilentSaleModel", "summedBy", "(I)J"⟩, 37) := ⟨⟨by decide +kernel, by decide +kernel⟩, List.mem_of_getElem? (i := 1126) (by decide +kernel), List.mem_of_getElem? (i := 1529) (by decide +kernel), List.mem_of_getElem? (i := 1530) (by decide +kernel)⟩
theorem lw_p91 : lw_okq (⟨"SilentSaleModel", "reckons", "(III)J"⟩, 37) := ⟨⟨by decide +kernel, by decide +kernel⟩, List.mem_of_getElem? (i := 1126) (by decide +kernel), List.mem_of_getElem? (i := 1533) (by decide +kernel), List.mem_of_getElem? (i := 1534) (by decide +kernel)⟩
theorem lw_p92 : lw_okq (⟨"SilentSaleModel", "push", "(J)V"⟩, 37) := ⟨⟨by decide +kernel, by decide +kernel⟩, List.mem_of_getElem? (i := 1126) (by decide +kernel), List.mem_of_getElem? (i := 1537) (by decide +kernel), List.mem_of_getElem? (i := 1538) (by decide +kernel)⟩
theorem lw_p93 : lw_okq (⟨"SilentSaleModel", "pop", "()J"⟩, 37) := ⟨⟨by decide +kernel, by decide +kernel⟩, List.mem_of_getElem? (i := 1126) (by decide +kernel), List.mem_of_getElem? (i := 1541) (by decide +kernel), List.mem_of_getElem? (i := 1542) (by decide +kernel)⟩
theorem lw_p94 : lw_okq (⟨"SilentSaleModel", "firstOf", "(I)I"⟩, 37) := ⟨⟨by decide +kernel, by decide +kernel⟩, List.mem_of_getElem? (i := 1126) (by decide +kernel), List.mem_of_getElem? (i := 1548) (by decide +kernel), List.mem_of_getElem? (i := 1549) (by decide +kernel)⟩
theorem lw_p95 : lw_okq (⟨"SilentSaleModel", "closes", "(III)V"⟩, 37) := ⟨⟨by decide +kernel, by decide +kernel⟩, List.mem_of_getElem? (i := 1126) (by decide +kernel), List.mem_of_getElem? (i := 1552) (by decide +kernel), List.mem_of_getElem? (i := 1553) (by decide +kernel)⟩
def lw_privs_6 : List (MethodName × Nat) := [(⟨"SilentSaleModel", "sitting", "(I)I"⟩, 37), (⟨"SilentSaleModel", "silentBy", "(I)I"⟩, 37), (⟨"SilentSaleModel", "isSilent", "(I)Z"⟩, 37), (⟨"SilentSaleModel", "isTrick", "(I)Z"⟩, 37), (⟨"SilentSaleModel", "lotsIn", "(I)I"⟩, 37), (⟨"SilentSaleModel", "keepsAct", "()V"⟩, 37), (⟨"SilentSaleModel", "passes", "()I"⟩, 37), (⟨"SilentSaleModel", "goesOn", "(I)I"⟩, 37), (⟨"SilentSaleModel", "speaks", "(II)Z"⟩, 37), (⟨"SilentSaleModel", "words", "(II)V"⟩, 37), (⟨"SilentSaleModel", "summedBy", "(I)J"⟩, 37), (⟨"SilentSaleModel", "reckons", "(III)J"⟩, 37), (⟨"SilentSaleModel", "push", "(J)V"⟩, 37), (⟨"SilentSaleModel", "pop", "()J"⟩, 37), (⟨"SilentSaleModel", "firstOf", "(I)I"⟩, 37), (⟨"SilentSaleModel", "closes", "(III)V"⟩, 37)]
theorem lw_r6 : ∀ q ∈ lw_privs_6, lw_okq q := List.forall_mem_cons.mpr ⟨lw_p80, List.forall_mem_cons.mpr ⟨lw_p81, List.forall_mem_cons.mpr ⟨lw_p82, List.forall_mem_cons.mpr ⟨lw_p83, List.forall_mem_cons.mpr ⟨lw_p84, List.forall_mem_cons.mpr ⟨lw_p85, List.forall_mem_cons.mpr ⟨lw_p86, List.forall_mem_cons.mpr ⟨lw_p87, List.forall_mem_cons.mpr ⟨lw_p88, List.forall_mem_cons.mpr ⟨lw_p89, List.forall_mem_cons.mpr ⟨lw_p90, List.forall_mem_cons.mpr ⟨lw_p91, List.forall_mem_cons.mpr ⟨lw_p92, List.forall_mem_cons.mpr ⟨lw_p93, List.forall_mem_cons.mpr ⟨lw_p94, List.forall_mem_cons.mpr ⟨lw_p95, fun _ h => absurd h List.not_mem_nil⟩⟩⟩⟩⟩⟩⟩⟩⟩⟩⟩⟩⟩⟩⟩⟩
theorem lw_p96 : lw_okq (⟨"SilentSaleModel", "canRing", "(I)Z"⟩, 37) := ⟨⟨by decide +kernel, by decide +kernel⟩, List.mem_of_getElem? (i := 1126) (by decide +kernel), List.mem_of_getElem? (i := 1564) (by decide +kernel), List.mem_of_getElem? (i := 1565) (by decide +kernel)⟩
theorem lw_p97 : lw_okq (⟨"SilentSaleModel", "rings", "(I)V"⟩, 37) := ⟨⟨by decide +kernel, by decide +kernel⟩, List.mem_of_getElem? (i := 1126) (by decide +kernel), List.mem_of_getElem? (i := 1568) (by decide +kernel), List.mem_of_getElem? (i := 1569) (by decide +kernel)⟩
theorem lw_p98 : lw_okq (⟨"SilentSaleModel", "canPlay", "(III)Z"⟩, 37) := ⟨⟨by decide +kernel, by decide +kernel⟩, List.mem_of_getElem? (i := 1126) (by decide +kernel), List.mem_of_getElem? (i := 1576) (by decide +kernel), List.mem_of_getElem? (i := 1577) (by decide +kernel)⟩
theorem lw_p99 : lw_okq (⟨"SilentSaleModel", "priceOf", "(I)I"⟩, 37) := ⟨⟨by decide +kernel, by decide +kernel⟩, List.mem_of_getElem? (i := 1126) (by decide +kernel), List.mem_of_getElem? (i := 1580) (by decide +kernel), List.mem_of_getElem? (i := 1581) (by decide +kernel)⟩
theorem lw_p100 : lw_okq (⟨"SilentSaleModel", "effectOf", "(I)I"⟩, 37) := ⟨⟨by decide +kernel, by decide +kernel⟩, List.mem_of_getElem? (i := 1126) (by decide +kernel), List.mem_of_getElem? (i := 1584) (by decide +kernel), List.mem_of_getElem? (i := 1585) (by decide +kernel)⟩
theorem lw_p101 : lw_okq (⟨"SilentSaleModel", "plays", "(III)V"⟩, 37) := ⟨⟨by decide +kernel, by decide +kernel⟩, List.mem_of_getElem? (i := 1126) (by decide +kernel), List.mem_of_getElem? (i := 1588) (by decide +kernel), List.mem_of_getElem? (i := 1589) (by decide +kernel)⟩
theorem lw_p102 : lw_okq (⟨"SilentSaleModel", "isSale", "()Z"⟩, 37) := ⟨⟨by decide +kernel, by decide +kernel⟩, List.mem_of_getElem? (i := 1126) (by decide +kernel), List.mem_of_getElem? (i := 1600) (by decide +kernel), List.mem_of_getElem? (i := 1601) (by decide +kernel)⟩
theorem lw_p103 : lw_okq (⟨"SilentSaleModel", "keeps", "()V"⟩, 37) := ⟨⟨by decide +kernel, by decide +kernel⟩, List.mem_of_getElem? (i := 1126) (by decide +kernel), List.mem_of_getElem? (i := 1606) (by decide +kernel), List.mem_of_getElem? (i := 1607) (by decide +kernel)⟩
theorem lw_p104 : lw_okq (⟨"SilentSaleModel", "laysBack", "()V"⟩, 37) := ⟨⟨by decide +kernel, by decide +kernel⟩, List.mem_of_getElem? (i := 1126) (by decide +kernel), List.mem_of_getElem? (i := 1610) (by decide +kernel), List.mem_of_getElem? (i := 1611) (by decide +kernel)⟩
theorem lw_p105 : lw_okq (⟨"SilentSaleModel", "tillOver", "(I)I"⟩, 37) := ⟨⟨by decide +kernel, by decide +kernel⟩, List.mem_of_getElem? (i := 1126) (by decide +kernel), List.mem_of_getElem? (i := 1618) (by decide +kernel), List.mem_of_getElem? (i := 1619) (by decide +kernel)⟩
theorem lw_p106 : lw_okq (⟨"SilentSaleModel", "isRest", "(IIIII)Z"⟩, 37) := ⟨⟨by decide +kernel, by decide +kernel⟩, List.mem_of_getElem? (i := 1126) (by decide +kernel), List.mem_of_getElem? (i := 1630) (by decide +kernel), List.mem_of_getElem? (i := 1631) (by decide +kernel)⟩
theorem lw_p107 : lw_okq (⟨"SilentSaleModel", "gainBy", "(IIII)I"⟩, 37) := ⟨⟨by decide +kernel, by decide +kernel⟩, List.mem_of_getElem? (i := 1126) (by decide +kernel), List.mem_of_getElem? (i := 1634) (by decide +kernel), List.mem_of_getElem? (i := 1635) (by decide +kernel)⟩
theorem lw_p108 : lw_okq (⟨"SilentSaleModel", "sitAs", "(I)Z"⟩, 37) := ⟨⟨by decide +kernel, by decide +kernel⟩, List.mem_of_getElem? (i := 1126) (by decide +kernel), List.mem_of_getElem? (i := 1645) (by decide +kernel), List.mem_of_getElem? (i := 1646) (by decide +kernel)⟩
theorem lw_p109 : lw_okq (⟨"SilentSaleModel", "lotIn", "(II)I"⟩, 37) := ⟨⟨by decide +kernel, by decide +kernel⟩, List.mem_of_getElem? (i := 1126) (by decide +kernel), List.mem_of_getElem? (i := 1649) (by decide +kernel), List.mem_of_getElem? (i := 1650) (by decide +kernel)⟩
theorem lw_p110 : lw_okq (⟨"SilentSaleModel", "gainsOf", "(I)I"⟩, 37) := ⟨⟨by decide +kernel, by decide +kernel⟩, List.mem_of_getElem? (i := 1126) (by decide +kernel), List.mem_of_getElem? (i := 1653) (by decide +kernel), List.mem_of_getElem? (i := 1654) (by decide +kernel)⟩
theorem lw_p111 : lw_okq (⟨"SilentSaleModel", "tricksCost", "(III)I"⟩, 37) := ⟨⟨by decide +kernel, by decide +kernel⟩, List.mem_of_getElem? (i := 1126) (by decide +kernel), List.mem_of_getElem? (i := 1661) (by decide +kernel), List.mem_of_getElem? (i := 1662) (by decide +kernel)⟩
def lw_privs_7 : List (MethodName × Nat) := [(⟨"SilentSaleModel", "canRing", "(I)Z"⟩, 37), (⟨"SilentSaleModel", "rings", "(I)V"⟩, 37), (⟨"SilentSaleModel", "canPlay", "(III)Z"⟩, 37), (⟨"SilentSaleModel", "priceOf", "(I)I"⟩, 37), (⟨"SilentSaleModel", "effectOf", "(I)I"⟩, 37), (⟨"SilentSaleModel", "plays", "(III)V"⟩, 37), (⟨"SilentSaleModel", "isSale", "()Z"⟩, 37), (⟨"SilentSaleModel", "keeps", "()V"⟩, 37), (⟨"SilentSaleModel", "laysBack", "()V"⟩, 37), (⟨"SilentSaleModel", "tillOver", "(I)I"⟩, 37), (⟨"SilentSaleModel", "isRest", "(IIIII)Z"⟩, 37), (⟨"SilentSaleModel", "gainBy", "(IIII)I"⟩, 37), (⟨"SilentSaleModel", "sitAs", "(I)Z"⟩, 37), (⟨"SilentSaleModel", "lotIn", "(II)I"⟩, 37), (⟨"SilentSaleModel", "gainsOf", "(I)I"⟩, 37), (⟨"SilentSaleModel", "tricksCost", "(III)I"⟩, 37)]
theorem lw_r7 : ∀ q ∈ lw_privs_7, lw_okq q := List.forall_mem_cons.mpr ⟨lw_p96, List.forall_mem_cons.mpr ⟨lw_p97, List.forall_mem_cons.mpr ⟨lw_p98, List.forall_mem_cons.mpr ⟨lw_p99, List.forall_mem_cons.mpr ⟨lw_p100, List.forall_mem_cons.mpr ⟨lw_p101, List.forall_mem_cons.mpr ⟨lw_p102, List.forall_mem_cons.mpr ⟨lw_p103, List.forall_mem_cons.mpr ⟨lw_p104, List.forall_mem_cons.mpr ⟨lw_p105, List.forall_mem_cons.mpr ⟨lw_p106, List.forall_mem_cons.mpr ⟨lw_p107, List.forall_mem_cons.mpr ⟨lw_p108, List.forall_mem_cons.mpr ⟨lw_p109, List.forall_mem_cons.mpr ⟨lw_p110, List.forall_mem_cons.mpr ⟨lw_p111, fun _ h => absurd h List.not_mem_nil⟩⟩⟩⟩⟩⟩⟩⟩⟩⟩⟩⟩⟩⟩⟩⟩
theorem lw_p112 : lw_okq (⟨"SilentSaleModel", "trickIn", "(II)I"⟩, 37) := ⟨⟨by decide +kernel, by decide +kernel⟩, List.mem_of_getElem? (i := 1126) (by decide +kernel), List.mem_of_getElem? (i := 1665) (by decide +kernel), List.mem_of_getElem? (i := 1666) (by decide +kernel)⟩
theorem lw_p113 : lw_okq (⟨"SilentSaleModel", "lotOfRing", "(I)I"⟩, 37) := ⟨⟨by decide +kernel, by decide +kernel⟩, List.mem_of_getElem? (i := 1126) (by decide +kernel), List.mem_of_getElem? (i := 1673) (by decide +kernel), List.mem_of_getElem? (i := 1674) (by decide +kernel)⟩
theorem lw_p114 : lw_okq (⟨"SilentSaleModel", "keenest", "(II)I"⟩, 37) := ⟨⟨by decide +kernel, by decide +kernel⟩, List.mem_of_getElem? (i := 1126) (by decide +kernel), List.mem_of_getElem? (i := 1677) (by decide +kernel), List.mem_of_getElem? (i := 1678) (by decide +kernel)⟩
theorem lw_p115 : lw_okq (⟨"SilentSaleModel", "fillsFits", "()V"⟩, 37) := ⟨⟨by decide +kernel, by decide +kernel⟩, List.mem_of_getElem? (i := 1126) (by decide +kernel), List.mem_of_getElem? (i := 1697) (by decide +kernel), List.mem_of_getElem? (i := 1698) (by decide +kernel)⟩
theorem lw_p116 : lw_okq (⟨"SilentSaleModel", "fillsLot", "(II)V"⟩, 37) := ⟨⟨by decide +kernel, by decide +kernel⟩, List.mem_of_getElem? (i := 1126) (by decide +kernel), List.mem_of_getElem? (i := 1701) (by decide +kernel), List.mem_of_getElem? (i := 1702) (by decide +kernel)⟩
theorem lw_p117 : lw_okq (⟨"SilentSaleModel", "alikeAt", "(I)I"⟩, 37) := ⟨⟨by decide +kernel, by decide +kernel⟩, List.mem_of_getElem? (i := 1126) (by decide +kernel), List.mem_of_getElem? (i := 1709) (by decide +kernel), List.mem_of_getElem? (i := 1710) (by decide +kernel)⟩
theorem lw_p118 : lw_okq (⟨"SilentSaleModel", "got", "()I"⟩, 37) := ⟨⟨by decide +kernel, by decide +kernel⟩, List.mem_of_getElem? (i := 1126) (by decide +kernel), List.mem_of_getElem? (i := 1724) (by decide +kernel), List.mem_of_getElem? (i := 1725) (by decide +kernel)⟩
theorem lw_p119 : lw_okq (⟨"SilentSaleModel", "coinsPaid", "()I"⟩, 37) := ⟨⟨by decide +kernel, by decide +kernel⟩, List.mem_of_getElem? (i := 1126) (by decide +kernel), List.mem_of_getElem? (i := 1728) (by decide +kernel), List.mem_of_getElem? (i := 1729) (by decide +kernel)⟩
theorem lw_p120 : lw_okq (⟨"SilentSaleModel", "draw", "(I)I"⟩, 37) := ⟨⟨by decide +kernel, by decide +kernel⟩, List.mem_of_getElem? (i := 1126) (by decide +kernel), List.mem_of_getElem? (i := 1732) (by decide +kernel), List.mem_of_getElem? (i := 1733) (by decide +kernel)⟩
def lw_privs_8 : List (MethodName × Nat) := [(⟨"SilentSaleModel", "trickIn", "(II)I"⟩, 37), (⟨"SilentSaleModel", "lotOfRing", "(I)I"⟩, 37), (⟨"SilentSaleModel", "keenest", "(II)I"⟩, 37), (⟨"SilentSaleModel", "fillsFits", "()V"⟩, 37), (⟨"SilentSaleModel", "fillsLot", "(II)V"⟩, 37), (⟨"SilentSaleModel", "alikeAt", "(I)I"⟩, 37), (⟨"SilentSaleModel", "got", "()I"⟩, 37), (⟨"SilentSaleModel", "coinsPaid", "()I"⟩, 37), (⟨"SilentSaleModel", "draw", "(I)I"⟩, 37)]
theorem lw_r8 : ∀ q ∈ lw_privs_8, lw_okq q := List.forall_mem_cons.mpr ⟨lw_p112, List.forall_mem_cons.mpr ⟨lw_p113, List.forall_mem_cons.mpr ⟨lw_p114, List.forall_mem_cons.mpr ⟨lw_p115, List.forall_mem_cons.mpr ⟨lw_p116, List.forall_mem_cons.mpr ⟨lw_p117, List.forall_mem_cons.mpr ⟨lw_p118, List.forall_mem_cons.mpr ⟨lw_p119, List.forall_mem_cons.mpr ⟨lw_p120, fun _ h => absurd h List.not_mem_nil⟩⟩⟩⟩⟩⟩⟩⟩⟩
def lw_privs : List (MethodName × Nat) := lw_privs_1 ++ (lw_privs_2 ++ (lw_privs_3 ++ (lw_privs_4 ++ (lw_privs_5 ++ (lw_privs_6 ++ (lw_privs_7 ++ (lw_privs_8)))))))
def lw_tbl : List Cond := k2_sels lw_privs ++ tables_1
theorem lw_privs_ok : ∀ q ∈ lw_privs, lw_okq q := by
  show ∀ q ∈ lw_privs_1 ++ (lw_privs_2 ++ (lw_privs_3 ++ (lw_privs_4 ++ (lw_privs_5 ++ (lw_privs_6 ++ (lw_privs_7 ++ (lw_privs_8))))))), lw_okq q
  exact List.forall_mem_append.mpr ⟨lw_r1, List.forall_mem_append.mpr ⟨lw_r2, List.forall_mem_append.mpr ⟨lw_r3, List.forall_mem_append.mpr ⟨lw_r4, List.forall_mem_append.mpr ⟨lw_r5, List.forall_mem_append.mpr ⟨lw_r6, List.forall_mem_append.mpr ⟨lw_r7, lw_r8⟩⟩⟩⟩⟩⟩⟩
end
section
def RX0 : String := "SilentSale$Clerk"
def TX0 : u_T := fun k => match k with
  | 0 => ("SilentSale$Clerk", "terms", "LSilentSale$Terms;", false)
  | 1 => ("SilentSale$Clerk", "rule", "LSilentSale$Rule;", false)
  | 2 => ("SilentSale$Clerk", "holder", "I", false)
  | _ => ("SilentSale$Clerk", "drawn", "J", false)
def tyX0 : Nat → FieldType := fun k => match k with
  | 0 => .object "SilentSale$Terms"
  | 1 => .object "SilentSale$Rule"
  | 2 => .int
  | _ => .long
theorem nmX0 : ∀ a, a < 4 → ∀ b, b < 4 → a ≠ b → (TX0 a).2.1 ≠ (TX0 b).2.1 := by decide +kernel
theorem tyX0_ok : ∀ k, k < 4 → parseFieldDescriptor (TX0 k).2.2.1 = some (tyX0 k) := by decide +kernel
def RX1 : String := "SilentSale$Image"
def TX1 : u_T := fun k => match k with
  | 0 => ("SilentSale$Image", "terms", "LSilentSale$Terms;", true)
  | 1 => ("SilentSale$Image", "state", "LSilentSale$State;", true)
  | 2 => ("SilentSale$Image", "logs", "LSilentSale$Logs;", true)
  | 3 => ("SilentSale$Image", "made", "Z", false)
  | 4 => ("SilentSale$Image", "inForce", "I", false)
  | _ => ("SilentSale$Image", "x", "I", false)
def tyX1 : Nat → FieldType := fun k => match k with
  | 0 => .object "SilentSale$Terms"
  | 1 => .object "SilentSale$State"
  | 2 => .object "SilentSale$Logs"
  | 3 => .boolean
  | 4 => .int
  | _ => .int
theorem nmX1 : ∀ a, a < 6 → ∀ b, b < 6 → a ≠ b → (TX1 a).2.1 ≠ (TX1 b).2.1 := by decide +kernel
theorem tyX1_ok : ∀ k, k < 6 → parseFieldDescriptor (TX1 k).2.2.1 = some (tyX1 k) := by decide +kernel
def RX2 : String := "SilentSale$Logs"
def TX2 : u_T := fun k => match k with
  | 0 => ("SilentSale$Logs", "lots", "[I", true)
  | 1 => ("SilentSale$Logs", "bidders", "[I", true)
  | 2 => ("SilentSale$Logs", "coins", "[I", true)
  | _ => ("SilentSale$Logs", "size", "I", false)
def tyX2 : Nat → FieldType := fun k => match k with
  | 0 => .array .int
  | 1 => .array .int
  | 2 => .array .int
  | _ => .int
theorem nmX2 : ∀ a, a < 4 → ∀ b, b < 4 → a ≠ b → (TX2 a).2.1 ≠ (TX2 b).2.1 := by decide +kernel
theorem tyX2_ok : ∀ k, k < 4 → parseFieldDescriptor (TX2 k).2.2.1 = some (tyX2 k) := by decide +kernel
def RX3 : String := "SilentSale$Past"
def TX3 : u_T := fun k => match k with
  | 0 => ("SilentSale$Past", "states", "[LSilentSale$State;", true)
  | 1 => ("SilentSale$Past", "next", "I", false)
  | _ => ("SilentSale$Past", "size", "I", false)
def tyX3 : Nat → FieldType := fun k => match k with
  | 0 => .array (.object "SilentSale$State")
  | 1 => .int
  | _ => .int
theorem nmX3 : ∀ a, a < 3 → ∀ b, b < 3 → a ≠ b → (TX3 a).2.1 ≠ (TX3 b).2.1 := by decide +kernel
theorem tyX3_ok : ∀ k, k < 3 → parseFieldDescriptor (TX3 k).2.2.1 = some (tyX3 k) := by decide +kernel
def RX4 : String := "SilentSale$Rule"
def TX4 : u_T := fun k => match k with
  | 0 => ("SilentSale$Rule", "steps", "[I", true)
  | 1 => ("SilentSale$Rule", "words", "[J", true)
  | 2 => ("SilentSale$Rule", "pile", "[J", true)
  | 3 => ("SilentSale$Rule", "opened", "[I", true)
  | 4 => ("SilentSale$Rule", "waiting", "[I", true)
  | 5 => ("SilentSale$Rule", "depth", "I", false)
  | 6 => ("SilentSale$Rule", "size", "I", false)
  | 7 => ("SilentSale$Rule", "pieces", "I", false)
  | _ => ("SilentSale$Rule", "wordsUsed", "I", false)
def tyX4 : Nat → FieldType := fun k => match k with
  | 0 => .array .int
  | 1 => .array .long
  | 2 => .array .long
  | 3 => .array .int
  | 4 => .array .int
  | 5 => .int
  | 6 => .int
  | 7 => .int
  | _ => .int
theorem nmX4 : ∀ a, a < 9 → ∀ b, b < 9 → a ≠ b → (TX4 a).2.1 ≠ (TX4 b).2.1 := by decide +kernel
theorem tyX4_ok : ∀ k, k < 9 → parseFieldDescriptor (TX4 k).2.2.1 = some (tyX4 k) := by decide +kernel
def RX5 : String := "SilentSale$Seating"
def TX5 : u_T := fun k => match k with
  | 0 => ("SilentSale$Seating", "trial", "LSilentSale$State;", true)
  | 1 => ("SilentSale$Seating", "row", "[I", true)
  | 2 => ("SilentSale$Seating", "gainsBySet", "[I", true)
  | 3 => ("SilentSale$Seating", "best", "[I", true)
  | _ => ("SilentSale$Seating", "gains", "I", false)
def tyX5 : Nat → FieldType := fun k => match k with
  | 0 => .object "SilentSale$State"
  | 1 => .array .int
  | 2 => .array .int
  | 3 => .array .int
  | _ => .int
theorem nmX5 : ∀ a, a < 5 → ∀ b, b < 5 → a ≠ b → (TX5 a).2.1 ≠ (TX5 b).2.1 := by decide +kernel
theorem tyX5_ok : ∀ k, k < 5 → parseFieldDescriptor (TX5 k).2.2.1 = some (tyX5 k) := by decide +kernel
def RX6 : String := "SilentSale$Sleuth"
def TX6 : u_T := fun k => match k with
  | 0 => ("SilentSale$Sleuth", "trial", "LSilentSale$State;", true)
  | 1 => ("SilentSale$Sleuth", "who", "[I", true)
  | 2 => ("SilentSale$Sleuth", "coins", "[I", true)
  | _ => ("SilentSale$Sleuth", "fitting", "I", false)
def tyX6 : Nat → FieldType := fun k => match k with
  | 0 => .object "SilentSale$State"
  | 1 => .array .int
  | 2 => .array .int
  | _ => .int
theorem nmX6 : ∀ a, a < 4 → ∀ b, b < 4 → a ≠ b → (TX6 a).2.1 ≠ (TX6 b).2.1 := by decide +kernel
theorem tyX6_ok : ∀ k, k < 4 → parseFieldDescriptor (TX6 k).2.2.1 = some (tyX6 k) := by decide +kernel
def RX7 : String := "SilentSale$State"
def TX7 : u_T := fun k => match k with
  | 0 => ("SilentSale$State", "purse", "[I", true)
  | 1 => ("SilentSale$State", "patience", "[I", true)
  | 2 => ("SilentSale$State", "seat", "[I", true)
  | 3 => ("SilentSale$State", "tricked", "[I", true)
  | 4 => ("SilentSale$State", "stage", "[I", true)
  | 5 => ("SilentSale$State", "gone", "[I", true)
  | 6 => ("SilentSale$State", "owner", "[I", true)
  | 7 => ("SilentSale$State", "paid", "[I", true)
  | 8 => ("SilentSale$State", "silentAt", "[I", true)
  | _ => ("SilentSale$State", "minutes", "I", false)
def tyX7 : Nat → FieldType := fun k => match k with
  | 0 => .array .int
  | 1 => .array .int
  | 2 => .array .int
  | 3 => .array .int
  | 4 => .array .int
  | 5 => .array .int
  | 6 => .array .int
  | 7 => .array .int
  | 8 => .array .int
  | _ => .int
theorem nmX7 : ∀ a, a < 10 → ∀ b, b < 10 → a ≠ b → (TX7 a).2.1 ≠ (TX7 b).2.1 := by decide +kernel
theorem tyX7_ok : ∀ k, k < 10 → parseFieldDescriptor (TX7 k).2.2.1 = some (tyX7 k) := by decide +kernel
def RX8 : String := "SilentSale$Tape"
def TX8 : u_T := fun k => match k with
  | 0 => ("SilentSale$Tape", "bytes", "[I", true)
  | 1 => ("SilentSale$Tape", "length", "I", false)
  | 2 => ("SilentSale$Tape", "at", "I", false)
  | 3 => ("SilentSale$Tape", "wordSize", "I", false)
  | _ => ("SilentSale$Tape", "fault", "I", false)
def tyX8 : Nat → FieldType := fun k => match k with
  | 0 => .array .int
  | 1 => .int
  | 2 => .int
  | 3 => .int
  | _ => .int
theorem nmX8 : ∀ a, a < 5 → ∀ b, b < 5 → a ≠ b → (TX8 a).2.1 ≠ (TX8 b).2.1 := by decide +kernel
theorem tyX8_ok : ∀ k, k < 5 → parseFieldDescriptor (TX8 k).2.2.1 = some (tyX8 k) := by decide +kernel
def RX9 : String := "SilentSale$Terms"
def TX9 : u_T := fun k => match k with
  | 0 => ("SilentSale$Terms", "longest", "I", false)
  | 1 => ("SilentSale$Terms", "bidders", "I", false)
  | 2 => ("SilentSale$Terms", "lots", "I", false)
  | 3 => ("SilentSale$Terms", "tricks", "I", false)
  | 4 => ("SilentSale$Terms", "purse", "[I", true)
  | 5 => ("SilentSale$Terms", "patience", "[I", true)
  | 6 => ("SilentSale$Terms", "worths", "[I", true)
  | 7 => ("SilentSale$Terms", "price", "[I", true)
  | _ => ("SilentSale$Terms", "effect", "[I", true)
def tyX9 : Nat → FieldType := fun k => match k with
  | 0 => .int
  | 1 => .int
  | 2 => .int
  | 3 => .int
  | 4 => .array .int
  | 5 => .array .int
  | 6 => .array .int
  | 7 => .array .int
  | _ => .array .int
theorem nmX9 : ∀ a, a < 9 → ∀ b, b < 9 → a ≠ b → (TX9 a).2.1 ≠ (TX9 b).2.1 := by decide +kernel
theorem tyX9_ok : ∀ k, k < 9 → parseFieldDescriptor (TX9 k).2.2.1 = some (tyX9 k) := by decide +kernel
def RX10 : String := "SilentSale$Trickery"
def TX10 : u_T := fun k => match k with
  | 0 => ("SilentSale$Trickery", "trial", "LSilentSale$State;", true)
  | 1 => ("SilentSale$Trickery", "row", "[I", true)
  | 2 => ("SilentSale$Trickery", "best", "[I", true)
  | _ => ("SilentSale$Trickery", "coins", "I", false)
def tyX10 : Nat → FieldType := fun k => match k with
  | 0 => .object "SilentSale$State"
  | 1 => .array .int
  | 2 => .array .int
  | _ => .int
theorem nmX10 : ∀ a, a < 4 → ∀ b, b < 4 → a ≠ b → (TX10 a).2.1 ≠ (TX10 b).2.1 := by decide +kernel
theorem tyX10_ok : ∀ k, k < 4 → parseFieldDescriptor (TX10 k).2.2.1 = some (tyX10 k) := by decide +kernel
def RX11 : String := "SilentSale"
def TX11 : u_T := fun k => match k with
  | 0 => ("SilentSale", "tape", "LSilentSale$Tape;", true)
  | 1 => ("SilentSale", "terms", "LSilentSale$Terms;", true)
  | 2 => ("SilentSale", "draft", "LSilentSale$Terms;", true)
  | 3 => ("SilentSale", "state", "LSilentSale$State;", true)
  | 4 => ("SilentSale", "asked", "LSilentSale$State;", true)
  | 5 => ("SilentSale", "past", "LSilentSale$Past;", true)
  | 6 => ("SilentSale", "logs", "LSilentSale$Logs;", true)
  | 7 => ("SilentSale", "rules", "[LSilentSale$Rule;", true)
  | 8 => ("SilentSale", "images", "[LSilentSale$Image;", true)
  | 9 => ("SilentSale", "clerk", "LSilentSale$Clerk;", true)
  | 10 => ("SilentSale", "seating", "LSilentSale$Seating;", true)
  | 11 => ("SilentSale", "trickery", "LSilentSale$Trickery;", true)
  | 12 => ("SilentSale", "sleuth", "LSilentSale$Sleuth;", true)
  | 13 => ("SilentSale", "ruleCount", "I", false)
  | 14 => ("SilentSale", "inForce", "I", false)
  | _ => ("SilentSale", "x", "I", false)
def tyX11 : Nat → FieldType := fun k => match k with
  | 0 => .object "SilentSale$Tape"
  | 1 => .object "SilentSale$Terms"
  | 2 => .object "SilentSale$Terms"
  | 3 => .object "SilentSale$State"
  | 4 => .object "SilentSale$State"
  | 5 => .object "SilentSale$Past"
  | 6 => .object "SilentSale$Logs"
  | 7 => .array (.object "SilentSale$Rule")
  | 8 => .array (.object "SilentSale$Image")
  | 9 => .object "SilentSale$Clerk"
  | 10 => .object "SilentSale$Seating"
  | 11 => .object "SilentSale$Trickery"
  | 12 => .object "SilentSale$Sleuth"
  | 13 => .int
  | 14 => .int
  | _ => .int
theorem nmX11 : ∀ a, a < 16 → ∀ b, b < 16 → a ≠ b → (TX11 a).2.1 ≠ (TX11 b).2.1 := by decide +kernel
theorem tyX11_ok : ∀ k, k < 16 → parseFieldDescriptor (TX11 k).2.2.1 = some (tyX11 k) := by decide +kernel
def RX12 : String := "SilentSaleModel"
def TX12 : u_T := fun k => match k with
  | 0 => ("SilentSaleModel", "tape", "[B", true)
  | 1 => ("SilentSaleModel", "taped", "I", false)
  | 2 => ("SilentSaleModel", "rules", "I", false)
  | 3 => ("SilentSaleModel", "sign", "[I", true)
  | 4 => ("SilentSaleModel", "length", "[I", true)
  | 5 => ("SilentSaleModel", "clause", "[I", true)
  | 6 => ("SilentSaleModel", "clauses", "[I", true)
  | 7 => ("SilentSaleModel", "read", "[I", true)
  | 8 => ("SilentSaleModel", "next", "I", false)
  | 9 => ("SilentSaleModel", "wrong", "I", false)
  | 10 => ("SilentSaleModel", "number", "I", false)
  | 11 => ("SilentSaleModel", "text", "I", false)
  | 12 => ("SilentSaleModel", "made", "I", false)
  | 13 => ("SilentSaleModel", "deep", "I", false)
  | 14 => ("SilentSaleModel", "lines", "I", false)
  | 15 => ("SilentSaleModel", "open", "[I", true)
  | 16 => ("SilentSaleModel", "opened", "I", false)
  | 17 => ("SilentSaleModel", "stack", "[J", true)
  | 18 => ("SilentSaleModel", "top", "I", false)
  | 19 => ("SilentSaleModel", "word", "[J", true)
  | 20 => ("SilentSaleModel", "said", "[I", true)
  | 21 => ("SilentSaleModel", "force", "I", false)
  | 22 => ("SilentSaleModel", "x", "I", false)
  | 23 => ("SilentSaleModel", "forced", "I", false)
  | 24 => ("SilentSaleModel", "holder", "I", false)
  | 25 => ("SilentSaleModel", "holdFor", "I", false)
  | 26 => ("SilentSaleModel", "wasSaid", "[I", true)
  | 27 => ("SilentSaleModel", "undone", "I", false)
  | 28 => ("SilentSaleModel", "kept", "[I", true)
  | 29 => ("SilentSaleModel", "isFit", "[Z", true)
  | 30 => ("SilentSaleModel", "whoThen", "[I", true)
  | 31 => ("SilentSaleModel", "coinsThen", "[I", true)
  | 32 => ("SilentSaleModel", "drawX", "J", false)
  | 33 => ("SilentSaleModel", "images", "[I", true)
  | 34 => ("SilentSaleModel", "imageForce", "[I", true)
  | 35 => ("SilentSaleModel", "imageX", "[I", true)
  | _ => ("SilentSaleModel", "isMade", "[Z", true)
def tyX12 : Nat → FieldType := fun k => match k with
  | 0 => .array .byte
  | 1 => .int
  | 2 => .int
  | 3 => .array .int
  | 4 => .array .int
  | 5 => .array .int
  | 6 => .array .int
  | 7 => .array .int
  | 8 => .int
  | 9 => .int
  | 10 => .int
  | 11 => .int
  | 12 => .int
  | 13 => .int
  | 14 => .int
  | 15 => .array .int
  | 16 => .int
  | 17 => .array .long
  | 18 => .int
  | 19 => .array .long
  | 20 => .array .int
  | 21 => .int
  | 22 => .int
  | 23 => .int
  | 24 => .int
  | 25 => .int
  | 26 => .array .int
  | 27 => .int
  | 28 => .array .int
  | 29 => .array .boolean
  | 30 => .array .int
  | 31 => .array .int
  | 32 => .long
  | 33 => .array .int
  | 34 => .array .int
  | 35 => .array .int
  | _ => .array .boolean
theorem nmX12 : ∀ a, a < 37 → ∀ b, b < 37 → a ≠ b → (TX12 a).2.1 ≠ (TX12 b).2.1 := by decide +kernel
theorem tyX12_ok : ∀ k, k < 37 → parseFieldDescriptor (TX12 k).2.2.1 = some (tyX12 k) := by decide +kernel
def RJ6 : String := "java/lang/Integer"
def RJ9 : String := "java/lang/Math"
def RJ0 : String := "java/lang/String"
def RJ1 : String := "java/lang/StringLatin1"
def RJ2 : String := "java/lang/StringUTF16"
def RJ10 : String := "java/lang/System"
def RJ3 : String := "jdk/internal/util/Preconditions"
def RL : String := "SilentSaleLaw"
abbrev classes : List vw_C := [(RX0, TX0, 4), (RX1, TX1, 6), (RX2, TX2, 4), (RX3, TX3, 3), (RX4, TX4, 9), (RX5, TX5, 5), (RX6, TX6, 4), (RX7, TX7, 10), (RX8, TX8, 5), (RX9, TX9, 9), (RX10, TX10, 4), (RX11, TX11, 16), (RX12, TX12, 37)]
abbrev cJ0_charAt_5068e : ByteArray := prog_17_method_56_code
def yJ0_charAt_5068e : MethodName := ⟨RJ0, "charAt", "(I)C"⟩
abbrev cJ0_checkIndex_df160 : ByteArray := prog_17_method_155_code
def yJ0_checkIndex_df160 : MethodName := ⟨RJ0, "checkIndex", "(II)V"⟩
abbrev cJ0_coder_7d493 : ByteArray := prog_17_method_152_code
def yJ0_coder_7d493 : MethodName := ⟨RJ0, "coder", "()B"⟩
abbrev cJ0_isLatin1_aae02 : ByteArray := prog_17_method_154_code
def yJ0_isLatin1_aae02 : MethodName := ⟨RJ0, "isLatin1", "()Z"⟩
abbrev cJ0_length_8abf5 : ByteArray := prog_17_method_54_code
def yJ0_length_8abf5 : MethodName := ⟨RJ0, "length", "()I"⟩
abbrev cJ1_charAt_3b067 : ByteArray := prog_18_method_2_code
def yJ1_charAt_3b067 : MethodName := ⟨RJ1, "charAt", "([BI)C"⟩
abbrev cJ2_charAt_3b067 : ByteArray := prog_19_method_83_code
def yJ2_charAt_3b067 : MethodName := ⟨RJ2, "charAt", "([BI)C"⟩
abbrev cJ2_checkIndex_2214a : ByteArray := prog_19_method_91_code
def yJ2_checkIndex_2214a : MethodName := ⟨RJ2, "checkIndex", "(I[B)V"⟩
abbrev cJ2_getChar_3b067 : ByteArray := prog_19_method_5_code
def yJ2_getChar_3b067 : MethodName := ⟨RJ2, "getChar", "([BI)C"⟩
abbrev cJ2_length_9d52b : ByteArray := prog_19_method_6_code
def yJ2_length_9d52b : MethodName := ⟨RJ2, "length", "([B)I"⟩
abbrev cJ3_checkIndex_8e157 : ByteArray := prog_21_method_11_code
def yJ3_checkIndex_8e157 : MethodName := ⟨RJ3, "checkIndex", "(IILjava/util/function/BiFunction;)I"⟩
abbrev cJ6_bitCount_0f7a4 : ByteArray := prog_15_method_49_code
def yJ6_bitCount_0f7a4 : MethodName := ⟨RJ6, "bitCount", "(I)I"⟩
abbrev cJ9_floorDiv_7cf53 : ByteArray := prog_16_method_47_code
def yJ9_floorDiv_7cf53 : MethodName := ⟨RJ9, "floorDiv", "(II)I"⟩
abbrev cJ9_max_7cf53 : ByteArray := prog_16_method_65_code
def yJ9_max_7cf53 : MethodName := ⟨RJ9, "max", "(II)I"⟩
abbrev cJ9_min_7cf53 : ByteArray := prog_16_method_69_code
def yJ9_min_7cf53 : MethodName := ⟨RJ9, "min", "(II)I"⟩
abbrev cL_law : ByteArray := code
def yL_law : MethodName := ⟨RL, "law", "([I)Z"⟩
abbrev cX0_coughersOf : ByteArray := prog_2_method_11_code
def yX0_coughersOf : MethodName := ⟨RX0, "coughersOf", "(ILSilentSale$State;)I"⟩
abbrev cX0_drawCoughs : ByteArray := prog_2_method_14_code
def yX0_drawCoughs : MethodName := ⟨RX0, "drawCoughs", "(LSilentSale$State;I)I"⟩
abbrev cX0_drawFrom : ByteArray := prog_2_method_13_code
def yX0_drawFrom : MethodName := ⟨RX0, "drawFrom", "(I)V"⟩
abbrev cX0_init : ByteArray := prog_2_method_1_code
def yX0_init : MethodName := ⟨RX0, "<init>", "()V"⟩
abbrev cX0_letHold : ByteArray := prog_2_method_3_code
def yX0_letHold : MethodName := ⟨RX0, "letHold", "(I)V"⟩
abbrev cX0_mindsRooms : ByteArray := prog_2_method_4_code
def yX0_mindsRooms : MethodName := ⟨RX0, "mindsRooms", "()Z"⟩
abbrev cX0_pass : ByteArray := prog_2_method_5_code
def yX0_pass : MethodName := ⟨RX0, "pass", "(LSilentSale$State;I)I"⟩
abbrev cX0_passLot : ByteArray := prog_2_method_9_code
def yX0_passLot : MethodName := ⟨RX0, "passLot", "(LSilentSale$State;II)I"⟩
abbrev cX0_passMany : ByteArray := prog_2_method_6_code
def yX0_passMany : MethodName := ⟨RX0, "passMany", "(LSilentSale$State;I)V"⟩
abbrev cX0_passTillDecided : ByteArray := prog_2_method_8_code
def yX0_passTillDecided : MethodName := ⟨RX0, "passTillDecided", "(LSilentSale$State;II)Z"⟩
abbrev cX0_passTillOver : ByteArray := prog_2_method_7_code
def yX0_passTillOver : MethodName := ⟨RX0, "passTillOver", "(LSilentSale$State;I)V"⟩
abbrev cX0_serve : ByteArray := prog_2_method_2_code
def yX0_serve : MethodName := ⟨RX0, "serve", "(LSilentSale$Terms;LSilentSale$Rule;)V"⟩
abbrev cX0_settle : ByteArray := prog_2_method_12_code
def yX0_settle : MethodName := ⟨RX0, "settle", "(LSilentSale$State;I)V"⟩
abbrev cX0_unwillingOf : ByteArray := prog_2_method_10_code
def yX0_unwillingOf : MethodName := ⟨RX0, "unwillingOf", "(IILSilentSale$State;)I"⟩
abbrev cX10_findTricks : ByteArray := prog_12_method_2_code
def yX10_findTricks : MethodName := ⟨RX10, "findTricks", "(LSilentSale$Clerk;LSilentSale$Terms;LSilentSale$State;II)V"⟩
abbrev cX10_init : ByteArray := prog_12_method_1_code
def yX10_init : MethodName := ⟨RX10, "<init>", "()V"⟩
abbrev cX10_playRow : ByteArray := prog_12_method_4_code
def yX10_playRow : MethodName := ⟨RX10, "playRow", "(LSilentSale$Terms;LSilentSale$State;I)Z"⟩
abbrev cX10_rowCost : ByteArray := prog_12_method_3_code
def yX10_rowCost : MethodName := ⟨RX10, "rowCost", "(LSilentSale$Terms;)I"⟩
abbrev cX11_ahead : ByteArray := prog_1_method_18_code
def yX11_ahead : MethodName := ⟨RX11, "ahead", "(III)I"⟩
abbrev cX11_back : ByteArray := prog_1_method_32_code
def yX11_back : MethodName := ⟨RX11, "back", "(I)I"⟩
abbrev cX11_beginAsking : ByteArray := prog_1_method_38_code
def yX11_beginAsking : MethodName := ⟨RX11, "beginAsking", "()V"⟩
abbrev cX11_bell : ByteArray := prog_1_method_14_code
def yX11_bell : MethodName := ⟨RX11, "bell", "(I)I"⟩
abbrev cX11_bidder : ByteArray := prog_1_method_7_code
def yX11_bidder : MethodName := ⟨RX11, "bidder", "(II)I"⟩
abbrev cX11_breath : ByteArray := prog_1_method_25_code
def yX11_breath : MethodName := ⟨RX11, "breath", "(I)I"⟩
abbrev cX11_callClerk : ByteArray := prog_1_method_37_code
def yX11_callClerk : MethodName := ⟨RX11, "callClerk", "()V"⟩
abbrev cX11_coughs : ByteArray := prog_1_method_30_code
def yX11_coughs : MethodName := ⟨RX11, "coughs", "(IIII)I"⟩
abbrev cX11_count : ByteArray := prog_1_method_11_code
def yX11_count : MethodName := ⟨RX11, "count", "(I)I"⟩
abbrev cX11_duelGain : ByteArray := prog_1_method_45_code
def yX11_duelGain : MethodName := ⟨RX11, "duelGain", "(III)I"⟩
abbrev cX11_end : ByteArray := prog_1_method_3_code
def yX11_end : MethodName := ⟨RX11, "end", "(I)I"⟩
abbrev cX11_ends : ByteArray := prog_1_method_19_code
def yX11_ends : MethodName := ⟨RX11, "ends", "(II)I"⟩
abbrev cX11_feed : ByteArray := prog_1_method_2_code
def yX11_feed : MethodName := ⟨RX11, "feed", "(IIIII)I"⟩
abbrev cX11_fire : ByteArray := prog_1_method_16_code
def yX11_fire : MethodName := ⟨RX11, "fire", "(I)I"⟩
abbrev cX11_force : ByteArray := prog_1_method_6_code
def yX11_force : MethodName := ⟨RX11, "force", "(I)I"⟩
abbrev cX11_gainsOf : ByteArray := prog_1_method_42_code
def yX11_gainsOf : MethodName := ⟨RX11, "gainsOf", "(I)I"⟩
abbrev cX11_hold : ByteArray := prog_1_method_20_code
def yX11_hold : MethodName := ⟨RX11, "hold", "(II)I"⟩
abbrev cX11_image : ByteArray := prog_1_method_31_code
def yX11_image : MethodName := ⟨RX11, "image", "(I)I"⟩
abbrev cX11_init : ByteArray := prog_1_method_1_code
def yX11_init : MethodName := ⟨RX11, "<init>", "()V"⟩
abbrev cX11_isBestAgainst : ByteArray := prog_1_method_44_code
def yX11_isBestAgainst : MethodName := ⟨RX11, "isBestAgainst", "(III)Z"⟩
abbrev cX11_isBidder : ByteArray := prog_1_method_34_code
def yX11_isBidder : MethodName := ⟨RX11, "isBidder", "(I)Z"⟩
abbrev cX11_isIn : ByteArray := prog_1_method_46_code
def yX11_isIn : MethodName := ⟨RX11, "isIn", "(II)Z"⟩
abbrev cX11_isLot : ByteArray := prog_1_method_35_code
def yX11_isLot : MethodName := ⟨RX11, "isLot", "(I)Z"⟩
abbrev cX11_isTold : ByteArray := prog_1_method_33_code
def yX11_isTold : MethodName := ⟨RX11, "isTold", "()Z"⟩
abbrev cX11_isTrick : ByteArray := prog_1_method_36_code
def yX11_isTrick : MethodName := ⟨RX11, "isTrick", "(I)Z"⟩
abbrev cX11_keeperOf : ByteArray := prog_1_method_41_code
def yX11_keeperOf : MethodName := ⟨RX11, "keeperOf", "(II)I"⟩
abbrev cX11_log : ByteArray := prog_1_method_26_code
def yX11_log : MethodName := ⟨RX11, "log", "(III)I"⟩
abbrev cX11_look : ByteArray := prog_1_method_28_code
def yX11_look : MethodName := ⟨RX11, "look", "(I)I"⟩
abbrev cX11_lot : ByteArray := prog_1_method_8_code
def yX11_lot : MethodName := ⟨RX11, "lot", "(II)I"⟩
abbrev cX11_lowestOf : ByteArray := prog_1_method_47_code
def yX11_lowestOf : MethodName := ⟨RX11, "lowestOf", "(I)I"⟩
abbrev cX11_minute : ByteArray := prog_1_method_12_code
def yX11_minute : MethodName := ⟨RX11, "minute", "()I"⟩
abbrev cX11_nobodyHasMore : ByteArray := prog_1_method_43_code
def yX11_nobodyHasMore : MethodName := ⟨RX11, "nobodyHasMore", "(II)Z"⟩
abbrev cX11_play : ByteArray := prog_1_method_15_code
def yX11_play : MethodName := ⟨RX11, "play", "(III)I"⟩
abbrev cX11_power : ByteArray := prog_1_method_48_code
def yX11_power : MethodName := ⟨RX11, "power", "(II)I"⟩
abbrev cX11_rests : ByteArray := prog_1_method_21_code
def yX11_rests : MethodName := ⟨RX11, "rests", "(IIII)I"⟩
abbrev cX11_ring : ByteArray := prog_1_method_24_code
def yX11_ring : MethodName := ⟨RX11, "ring", "(II)I"⟩
abbrev cX11_roomOf : ByteArray := prog_1_method_39_code
def yX11_roomOf : MethodName := ⟨RX11, "roomOf", "(I)I"⟩
abbrev cX11_roomOfAll : ByteArray := prog_1_method_40_code
def yX11_roomOfAll : MethodName := ⟨RX11, "roomOfAll", "(I)I"⟩
abbrev cX11_rule : ByteArray := prog_1_method_5_code
def yX11_rule : MethodName := ⟨RX11, "rule", "()I"⟩
abbrev cX11_ruled : ByteArray := prog_1_method_27_code
def yX11_ruled : MethodName := ⟨RX11, "ruled", "(I)I"⟩
abbrev cX11_sale : ByteArray := prog_1_method_4_code
def yX11_sale : MethodName := ⟨RX11, "sale", "()I"⟩
abbrev cX11_seats : ByteArray := prog_1_method_22_code
def yX11_seats : MethodName := ⟨RX11, "seats", "(I)I"⟩
abbrev cX11_seed : ByteArray := prog_1_method_29_code
def yX11_seed : MethodName := ⟨RX11, "seed", "(I)I"⟩
abbrev cX11_sit : ByteArray := prog_1_method_13_code
def yX11_sit : MethodName := ⟨RX11, "sit", "(II)I"⟩
abbrev cX11_spread : ByteArray := prog_1_method_49_code
def yX11_spread : MethodName := ⟨RX11, "spread", "(III[I)V"⟩
abbrev cX11_trick : ByteArray := prog_1_method_10_code
def yX11_trick : MethodName := ⟨RX11, "trick", "(II)I"⟩
abbrev cX11_tricks : ByteArray := prog_1_method_23_code
def yX11_tricks : MethodName := ⟨RX11, "tricks", "(II)I"⟩
abbrev cX11_undo : ByteArray := prog_1_method_17_code
def yX11_undo : MethodName := ⟨RX11, "undo", "()I"⟩
abbrev cX11_worth : ByteArray := prog_1_method_9_code
def yX11_worth : MethodName := ⟨RX11, "worth", "(II)I"⟩
abbrev cX12_ahead : ByteArray := prog_14_method_90_code
def yX12_ahead : MethodName := ⟨RX12, "ahead", "(III)I"⟩
abbrev cX12_alikeAt : ByteArray := prog_14_method_113_code
def yX12_alikeAt : MethodName := ⟨RX12, "alikeAt", "(I)I"⟩
abbrev cX12_back : ByteArray := prog_14_method_122_code
def yX12_back : MethodName := ⟨RX12, "back", "(I)I"⟩
abbrev cX12_bell : ByteArray := prog_14_method_81_code
def yX12_bell : MethodName := ⟨RX12, "bell", "(I)I"⟩
abbrev cX12_bidder : ByteArray := prog_14_method_64_code
def yX12_bidder : MethodName := ⟨RX12, "bidder", "(II)I"⟩
abbrev cX12_bidderOf : ByteArray := prog_14_method_52_code
def yX12_bidderOf : MethodName := ⟨RX12, "bidderOf", "(II)I"⟩
abbrev cX12_bits : ByteArray := prog_14_method_4_code
def yX12_bits : MethodName := ⟨RX12, "bits", "(I)I"⟩
abbrev cX12_breath : ByteArray := prog_14_method_108_code
def yX12_breath : MethodName := ⟨RX12, "breath", "(I)I"⟩
abbrev cX12_canPlay : ByteArray := prog_14_method_84_code
def yX12_canPlay : MethodName := ⟨RX12, "canPlay", "(III)Z"⟩
abbrev cX12_canRing : ByteArray := prog_14_method_79_code
def yX12_canRing : MethodName := ⟨RX12, "canRing", "(I)Z"⟩
abbrev cX12_cellHere : ByteArray := prog_14_method_31_code
def yX12_cellHere : MethodName := ⟨RX12, "cellHere", "(III)Z"⟩
abbrev cX12_clauseHere : ByteArray := prog_14_method_39_code
def yX12_clauseHere : MethodName := ⟨RX12, "clauseHere", "()Z"⟩
abbrev cX12_closes : ByteArray := prog_14_method_28_code
def yX12_closes : MethodName := ⟨RX12, "closes", "()V"⟩
abbrev cX12_closes_ : ByteArray := prog_14_method_71_code
def yX12_closes_ : MethodName := ⟨RX12, "closes", "(III)V"⟩
abbrev cX12_coinsPaid : ByteArray := prog_14_method_118_code
def yX12_coinsPaid : MethodName := ⟨RX12, "coinsPaid", "()I"⟩
abbrev cX12_compare : ByteArray := prog_14_method_25_code
def yX12_compare : MethodName := ⟨RX12, "compare", "()Z"⟩
abbrev cX12_coughs : ByteArray := prog_14_method_119_code
def yX12_coughs : MethodName := ⟨RX12, "coughs", "(IIII)I"⟩
abbrev cX12_count : ByteArray := prog_14_method_120_code
def yX12_count : MethodName := ⟨RX12, "count", "(I)I"⟩
abbrev cX12_draw : ByteArray := prog_14_method_116_code
def yX12_draw : MethodName := ⟨RX12, "draw", "(I)I"⟩
abbrev cX12_effectOf : ByteArray := prog_14_method_83_code
def yX12_effectOf : MethodName := ⟨RX12, "effectOf", "(I)I"⟩
abbrev cX12_end : ByteArray := prog_14_method_7_code
def yX12_end : MethodName := ⟨RX12, "end", "(I)I"⟩
abbrev cX12_ends : ByteArray := prog_14_method_92_code
def yX12_ends : MethodName := ⟨RX12, "ends", "(II)I"⟩
abbrev cX12_fact : ByteArray := prog_14_method_26_code
def yX12_fact : MethodName := ⟨RX12, "fact", "()Z"⟩
abbrev cX12_fails : ByteArray := prog_14_method_8_code
def yX12_fails : MethodName := ⟨RX12, "fails", "(II)Z"⟩
abbrev cX12_feed : ByteArray := prog_14_method_6_code
def yX12_feed : MethodName := ⟨RX12, "feed", "(IIIII)I"⟩
abbrev cX12_fillsFits : ByteArray := prog_14_method_111_code
def yX12_fillsFits : MethodName := ⟨RX12, "fillsFits", "()V"⟩
abbrev cX12_fillsLot : ByteArray := prog_14_method_110_code
def yX12_fillsLot : MethodName := ⟨RX12, "fillsLot", "(II)V"⟩
abbrev cX12_fire : ByteArray := prog_14_method_87_code
def yX12_fire : MethodName := ⟨RX12, "fire", "(I)I"⟩
abbrev cX12_firstOf : ByteArray := prog_14_method_72_code
def yX12_firstOf : MethodName := ⟨RX12, "firstOf", "(I)I"⟩
abbrev cX12_force : ByteArray := prog_14_method_63_code
def yX12_force : MethodName := ⟨RX12, "force", "(I)I"⟩
abbrev cX12_four : ByteArray := prog_14_method_5_code
def yX12_four : MethodName := ⟨RX12, "four", "(I)V"⟩
abbrev cX12_gainBy : ByteArray := prog_14_method_94_code
def yX12_gainBy : MethodName := ⟨RX12, "gainBy", "(IIII)I"⟩
abbrev cX12_gainOf : ByteArray := prog_14_method_59_code
def yX12_gainOf : MethodName := ⟨RX12, "gainOf", "(I)I"⟩
abbrev cX12_gainsOf : ByteArray := prog_14_method_60_code
def yX12_gainsOf : MethodName := ⟨RX12, "gainsOf", "(I)I"⟩
abbrev cX12_goesOn : ByteArray := prog_14_method_73_code
def yX12_goesOn : MethodName := ⟨RX12, "goesOn", "(I)I"⟩
abbrev cX12_got : ByteArray := prog_14_method_117_code
def yX12_got : MethodName := ⟨RX12, "got", "()I"⟩
abbrev cX12_hold : ByteArray := prog_14_method_93_code
def yX12_hold : MethodName := ⟨RX12, "hold", "(II)I"⟩
abbrev cX12_image : ByteArray := prog_14_method_121_code
def yX12_image : MethodName := ⟨RX12, "image", "(I)I"⟩
abbrev cX12_in : ByteArray := prog_14_method_2_code
def yX12_in : MethodName := ⟨RX12, "in", "(JJJ)Z"⟩
abbrev cX12_init : ByteArray := prog_14_method_1_code
def yX12_init : MethodName := ⟨RX12, "<init>", "()V"⟩
abbrev cX12_isBidder : ByteArray := prog_14_method_49_code
def yX12_isBidder : MethodName := ⟨RX12, "isBidder", "(I)Z"⟩
abbrev cX12_isBidderHere : ByteArray := prog_14_method_33_code
def yX12_isBidderHere : MethodName := ⟨RX12, "isBidderHere", "(I)Z"⟩
abbrev cX12_isDigit : ByteArray := prog_14_method_10_code
def yX12_isDigit : MethodName := ⟨RX12, "isDigit", "(I)Z"⟩
abbrev cX12_isInside : ByteArray := prog_14_method_27_code
def yX12_isInside : MethodName := ⟨RX12, "isInside", "()Z"⟩
abbrev cX12_isLetter : ByteArray := prog_14_method_11_code
def yX12_isLetter : MethodName := ⟨RX12, "isLetter", "(I)Z"⟩
abbrev cX12_isLot : ByteArray := prog_14_method_50_code
def yX12_isLot : MethodName := ⟨RX12, "isLot", "(I)Z"⟩
abbrev cX12_isLotHere : ByteArray := prog_14_method_34_code
def yX12_isLotHere : MethodName := ⟨RX12, "isLotHere", "(I)Z"⟩
abbrev cX12_isOf : ByteArray := prog_14_method_3_code
def yX12_isOf : MethodName := ⟨RX12, "isOf", "(II)Z"⟩
abbrev cX12_isRest : ByteArray := prog_14_method_95_code
def yX12_isRest : MethodName := ⟨RX12, "isRest", "(IIIII)Z"⟩
abbrev cX12_isRule : ByteArray := prog_14_method_43_code
def yX12_isRule : MethodName := ⟨RX12, "isRule", "(I)Z"⟩
abbrev cX12_isSale : ByteArray := prog_14_method_48_code
def yX12_isSale : MethodName := ⟨RX12, "isSale", "()Z"⟩
abbrev cX12_isSaleHere : ByteArray := prog_14_method_32_code
def yX12_isSaleHere : MethodName := ⟨RX12, "isSaleHere", "(I)Z"⟩
abbrev cX12_isSaleWord : ByteArray := prog_14_method_38_code
def yX12_isSaleWord : MethodName := ⟨RX12, "isSaleWord", "()Z"⟩
abbrev cX12_isSilent : ByteArray := prog_14_method_55_code
def yX12_isSilent : MethodName := ⟨RX12, "isSilent", "(I)Z"⟩
abbrev cX12_isSpeakHere : ByteArray := prog_14_method_30_code
def yX12_isSpeakHere : MethodName := ⟨RX12, "isSpeakHere", "()Z"⟩
abbrev cX12_isTrick : ByteArray := prog_14_method_51_code
def yX12_isTrick : MethodName := ⟨RX12, "isTrick", "(I)Z"⟩
abbrev cX12_isTrickHere : ByteArray := prog_14_method_36_code
def yX12_isTrickHere : MethodName := ⟨RX12, "isTrickHere", "(I)Z"⟩
abbrev cX12_isWord : ByteArray := prog_14_method_12_code
def yX12_isWord : MethodName := ⟨RX12, "isWord", "(J)Z"⟩
abbrev cX12_isWorthHere : ByteArray := prog_14_method_35_code
def yX12_isWorthHere : MethodName := ⟨RX12, "isWorthHere", "()Z"⟩
abbrev cX12_keenest : ByteArray := prog_14_method_105_code
def yX12_keenest : MethodName := ⟨RX12, "keenest", "(II)I"⟩
abbrev cX12_keeps : ByteArray := prog_14_method_88_code
def yX12_keeps : MethodName := ⟨RX12, "keeps", "()V"⟩
abbrev cX12_keepsAct : ByteArray := prog_14_method_75_code
def yX12_keepsAct : MethodName := ⟨RX12, "keepsAct", "()V"⟩
abbrev cX12_laysBack : ByteArray := prog_14_method_89_code
def yX12_laysBack : MethodName := ⟨RX12, "laysBack", "()V"⟩
abbrev cX12_log : ByteArray := prog_14_method_109_code
def yX12_log : MethodName := ⟨RX12, "log", "(III)I"⟩
abbrev cX12_look : ByteArray := prog_14_method_114_code
def yX12_look : MethodName := ⟨RX12, "look", "(I)I"⟩
abbrev cX12_lot : ByteArray := prog_14_method_65_code
def yX12_lot : MethodName := ⟨RX12, "lot", "(II)I"⟩
abbrev cX12_lotIn : ByteArray := prog_14_method_98_code
def yX12_lotIn : MethodName := ⟨RX12, "lotIn", "(II)I"⟩
abbrev cX12_lotOf : ByteArray := prog_14_method_53_code
def yX12_lotOf : MethodName := ⟨RX12, "lotOf", "(II)I"⟩
abbrev cX12_lotOfRing : ByteArray := prog_14_method_104_code
def yX12_lotOfRing : MethodName := ⟨RX12, "lotOfRing", "(I)I"⟩
abbrev cX12_lotsIn : ByteArray := prog_14_method_61_code
def yX12_lotsIn : MethodName := ⟨RX12, "lotsIn", "(I)I"⟩
abbrev cX12_lotsOf : ByteArray := prog_14_method_58_code
def yX12_lotsOf : MethodName := ⟨RX12, "lotsOf", "(I)I"⟩
abbrev cX12_makes : ByteArray := prog_14_method_18_code
def yX12_makes : MethodName := ⟨RX12, "makes", "(I)Z"⟩
abbrev cX12_minute : ByteArray := prog_14_method_77_code
def yX12_minute : MethodName := ⟨RX12, "minute", "()I"⟩
abbrev cX12_numberHere : ByteArray := prog_14_method_15_code
def yX12_numberHere : MethodName := ⟨RX12, "numberHere", "(II)Z"⟩
abbrev cX12_one : ByteArray := prog_14_method_46_code
def yX12_one : MethodName := ⟨RX12, "one", "(IJJ)J"⟩
abbrev cX12_opens : ByteArray := prog_14_method_19_code
def yX12_opens : MethodName := ⟨RX12, "opens", "(I)Z"⟩
abbrev cX12_parted : ByteArray := prog_14_method_106_code
def yX12_parted : MethodName := ⟨RX12, "parted", "(II)I"⟩
abbrev cX12_passWord : ByteArray := prog_14_method_13_code
def yX12_passWord : MethodName := ⟨RX12, "passWord", "()V"⟩
abbrev cX12_passes : ByteArray := prog_14_method_74_code
def yX12_passes : MethodName := ⟨RX12, "passes", "()I"⟩
abbrev cX12_play : ByteArray := prog_14_method_86_code
def yX12_play : MethodName := ⟨RX12, "play", "(III)I"⟩
abbrev cX12_plays : ByteArray := prog_14_method_85_code
def yX12_plays : MethodName := ⟨RX12, "plays", "(III)V"⟩
abbrev cX12_pop : ByteArray := prog_14_method_45_code
def yX12_pop : MethodName := ⟨RX12, "pop", "()J"⟩
abbrev cX12_power : ByteArray := prog_14_method_97_code
def yX12_power : MethodName := ⟨RX12, "power", "(II)I"⟩
abbrev cX12_priceOf : ByteArray := prog_14_method_82_code
def yX12_priceOf : MethodName := ⟨RX12, "priceOf", "(I)I"⟩
abbrev cX12_push : ByteArray := prog_14_method_44_code
def yX12_push : MethodName := ⟨RX12, "push", "(J)V"⟩
abbrev cX12_puts : ByteArray := prog_14_method_17_code
def yX12_puts : MethodName := ⟨RX12, "puts", "(II)V"⟩
abbrev cX12_readsAll : ByteArray := prog_14_method_40_code
def yX12_readsAll : MethodName := ⟨RX12, "readsAll", "()Z"⟩
abbrev cX12_reckons : ByteArray := prog_14_method_47_code
def yX12_reckons : MethodName := ⟨RX12, "reckons", "(III)J"⟩
abbrev cX12_rests : ByteArray := prog_14_method_96_code
def yX12_rests : MethodName := ⟨RX12, "rests", "(IIII)I"⟩
abbrev cX12_ring : ByteArray := prog_14_method_107_code
def yX12_ring : MethodName := ⟨RX12, "ring", "(II)I"⟩
abbrev cX12_rings : ByteArray := prog_14_method_80_code
def yX12_rings : MethodName := ⟨RX12, "rings", "(I)V"⟩
abbrev cX12_rule : ByteArray := prog_14_method_41_code
def yX12_rule : MethodName := ⟨RX12, "rule", "()I"⟩
abbrev cX12_ruled : ByteArray := prog_14_method_112_code
def yX12_ruled : MethodName := ⟨RX12, "ruled", "(I)I"⟩
abbrev cX12_sale : ByteArray := prog_14_method_42_code
def yX12_sale : MethodName := ⟨RX12, "sale", "()I"⟩
abbrev cX12_saleLineHere : ByteArray := prog_14_method_37_code
def yX12_saleLineHere : MethodName := ⟨RX12, "saleLineHere", "(I)Z"⟩
abbrev cX12_seats : ByteArray := prog_14_method_100_code
def yX12_seats : MethodName := ⟨RX12, "seats", "(I)I"⟩
abbrev cX12_see : ByteArray := prog_14_method_9_code
def yX12_see : MethodName := ⟨RX12, "see", "()I"⟩
abbrev cX12_seed : ByteArray := prog_14_method_115_code
def yX12_seed : MethodName := ⟨RX12, "seed", "(I)I"⟩
abbrev cX12_settles : ByteArray := prog_14_method_21_code
def yX12_settles : MethodName := ⟨RX12, "settles", "(I)V"⟩
abbrev cX12_silentBy : ByteArray := prog_14_method_57_code
def yX12_silentBy : MethodName := ⟨RX12, "silentBy", "(I)I"⟩
abbrev cX12_sit : ByteArray := prog_14_method_78_code
def yX12_sit : MethodName := ⟨RX12, "sit", "(II)I"⟩
abbrev cX12_sitAs : ByteArray := prog_14_method_99_code
def yX12_sitAs : MethodName := ⟨RX12, "sitAs", "(I)Z"⟩
abbrev cX12_sitting : ByteArray := prog_14_method_56_code
def yX12_sitting : MethodName := ⟨RX12, "sitting", "(I)I"⟩
abbrev cX12_speaks : ByteArray := prog_14_method_70_code
def yX12_speaks : MethodName := ⟨RX12, "speaks", "(II)Z"⟩
abbrev cX12_startsAnew : ByteArray := prog_14_method_62_code
def yX12_startsAnew : MethodName := ⟨RX12, "startsAnew", "()V"⟩
abbrev cX12_strength : ByteArray := prog_14_method_20_code
def yX12_strength : MethodName := ⟨RX12, "strength", "(I)I"⟩
abbrev cX12_sum : ByteArray := prog_14_method_24_code
def yX12_sum : MethodName := ⟨RX12, "sum", "()Z"⟩
abbrev cX12_summedBy : ByteArray := prog_14_method_68_code
def yX12_summedBy : MethodName := ⟨RX12, "summedBy", "(I)J"⟩
abbrev cX12_takesWord : ByteArray := prog_14_method_14_code
def yX12_takesWord : MethodName := ⟨RX12, "takesWord", "(J)Z"⟩
abbrev cX12_term : ByteArray := prog_14_method_23_code
def yX12_term : MethodName := ⟨RX12, "term", "()Z"⟩
abbrev cX12_tested : ByteArray := prog_14_method_29_code
def yX12_tested : MethodName := ⟨RX12, "tested", "()Z"⟩
abbrev cX12_tillOver : ByteArray := prog_14_method_91_code
def yX12_tillOver : MethodName := ⟨RX12, "tillOver", "(I)I"⟩
abbrev cX12_trick : ByteArray := prog_14_method_67_code
def yX12_trick : MethodName := ⟨RX12, "trick", "(II)I"⟩
abbrev cX12_trickIn : ByteArray := prog_14_method_101_code
def yX12_trickIn : MethodName := ⟨RX12, "trickIn", "(II)I"⟩
abbrev cX12_tricks : ByteArray := prog_14_method_103_code
def yX12_tricks : MethodName := ⟨RX12, "tricks", "(II)I"⟩
abbrev cX12_tricksCost : ByteArray := prog_14_method_102_code
def yX12_tricksCost : MethodName := ⟨RX12, "tricksCost", "(III)I"⟩
abbrev cX12_undo : ByteArray := prog_14_method_76_code
def yX12_undo : MethodName := ⟨RX12, "undo", "()I"⟩
abbrev cX12_value : ByteArray := prog_14_method_22_code
def yX12_value : MethodName := ⟨RX12, "value", "()Z"⟩
abbrev cX12_wordHere : ByteArray := prog_14_method_16_code
def yX12_wordHere : MethodName := ⟨RX12, "wordHere", "()I"⟩
abbrev cX12_words : ByteArray := prog_14_method_69_code
def yX12_words : MethodName := ⟨RX12, "words", "(II)V"⟩
abbrev cX12_worth : ByteArray := prog_14_method_66_code
def yX12_worth : MethodName := ⟨RX12, "worth", "(II)I"⟩
abbrev cX12_worthTo : ByteArray := prog_14_method_54_code
def yX12_worthTo : MethodName := ⟨RX12, "worthTo", "(II)I"⟩
abbrev cX1_giveBack : ByteArray := prog_3_method_3_code
def yX1_giveBack : MethodName := ⟨RX1, "giveBack", "(LSilentSale$Terms;LSilentSale$State;LSilentSale$Logs;)V"⟩
abbrev cX1_init : ByteArray := prog_3_method_1_code
def yX1_init : MethodName := ⟨RX1, "<init>", "()V"⟩
abbrev cX1_takeFrom : ByteArray := prog_3_method_2_code
def yX1_takeFrom : MethodName := ⟨RX1, "takeFrom", "(LSilentSale$Terms;LSilentSale$State;LSilentSale$Logs;)V"⟩
abbrev cX2_add : ByteArray := prog_4_method_3_code
def yX2_add : MethodName := ⟨RX2, "add", "(III)Z"⟩
abbrev cX2_agree : ByteArray := prog_4_method_5_code
def yX2_agree : MethodName := ⟨RX2, "agree", "(III)Z"⟩
abbrev cX2_clear : ByteArray := prog_4_method_2_code
def yX2_clear : MethodName := ⟨RX2, "clear", "()V"⟩
abbrev cX2_copyFrom : ByteArray := prog_4_method_4_code
def yX2_copyFrom : MethodName := ⟨RX2, "copyFrom", "(LSilentSale$Logs;)V"⟩
abbrev cX2_init : ByteArray := prog_4_method_1_code
def yX2_init : MethodName := ⟨RX2, "<init>", "()V"⟩
abbrev cX3_forget : ByteArray := prog_5_method_2_code
def yX3_forget : MethodName := ⟨RX3, "forget", "()V"⟩
abbrev cX3_init : ByteArray := prog_5_method_1_code
def yX3_init : MethodName := ⟨RX3, "<init>", "()V"⟩
abbrev cX3_keep : ByteArray := prog_5_method_3_code
def yX3_keep : MethodName := ⟨RX3, "keep", "(LSilentSale$State;)V"⟩
abbrev cX3_takeBack : ByteArray := prog_5_method_4_code
def yX3_takeBack : MethodName := ⟨RX3, "takeBack", "(LSilentSale$State;)Z"⟩
abbrev cX4_init : ByteArray := prog_6_method_1_code
def yX4_init : MethodName := ⟨RX4, "<init>", "()V"⟩
abbrev cX4_isFactToCome : ByteArray := prog_6_method_6_code
def yX4_isFactToCome : MethodName := ⟨RX4, "isFactToCome", "(LSilentSale$Tape;)Z"⟩
abbrev cX4_isRoomForPiece : ByteArray := prog_6_method_11_code
def yX4_isRoomForPiece : MethodName := ⟨RX4, "isRoomForPiece", "(LSilentSale$Tape;I)Z"⟩
abbrev cX4_join : ByteArray := prog_6_method_15_code
def yX4_join : MethodName := ⟨RX4, "join", "(IJJ)J"⟩
abbrev cX4_readFact : ByteArray := prog_6_method_8_code
def yX4_readFact : MethodName := ⟨RX4, "readFact", "(LSilentSale$Tape;)Z"⟩
abbrev cX4_readHead : ByteArray := prog_6_method_4_code
def yX4_readHead : MethodName := ⟨RX4, "readHead", "(LSilentSale$Tape;I)Z"⟩
abbrev cX4_readRule : ByteArray := prog_6_method_3_code
def yX4_readRule : MethodName := ⟨RX4, "readRule", "(LSilentSale$Tape;)I"⟩
abbrev cX4_readSum : ByteArray := prog_6_method_9_code
def yX4_readSum : MethodName := ⟨RX4, "readSum", "(LSilentSale$Tape;)Z"⟩
abbrev cX4_readTest : ByteArray := prog_6_method_5_code
def yX4_readTest : MethodName := ⟨RX4, "readTest", "(LSilentSale$Tape;)Z"⟩
abbrev cX4_readValue : ByteArray := prog_6_method_10_code
def yX4_readValue : MethodName := ⟨RX4, "readValue", "(LSilentSale$Tape;)Z"⟩
abbrev cX4_speakersOf : ByteArray := prog_6_method_13_code
def yX4_speakersOf : MethodName := ⟨RX4, "speakersOf", "(IILSilentSale$Terms;LSilentSale$State;)I"⟩
abbrev cX4_step : ByteArray := prog_6_method_12_code
def yX4_step : MethodName := ⟨RX4, "step", "(I)Z"⟩
abbrev cX4_stepIfWaiting : ByteArray := prog_6_method_7_code
def yX4_stepIfWaiting : MethodName := ⟨RX4, "stepIfWaiting", "(II)V"⟩
abbrev cX4_usesRooms : ByteArray := prog_6_method_2_code
def yX4_usesRooms : MethodName := ⟨RX4, "usesRooms", "()Z"⟩
abbrev cX4_workOut : ByteArray := prog_6_method_14_code
def yX4_workOut : MethodName := ⟨RX4, "workOut", "()J"⟩
abbrev cX5_canSit : ByteArray := prog_7_method_3_code
def yX5_canSit : MethodName := ⟨RX5, "canSit", "(LSilentSale$State;)Z"⟩
abbrev cX5_courseGains : ByteArray := prog_7_method_4_code
def yX5_courseGains : MethodName := ⟨RX5, "courseGains", "(LSilentSale$Clerk;LSilentSale$Terms;LSilentSale$State;)I"⟩
abbrev cX5_findSeats : ByteArray := prog_7_method_2_code
def yX5_findSeats : MethodName := ⟨RX5, "findSeats", "(LSilentSale$Clerk;LSilentSale$Terms;LSilentSale$State;)V"⟩
abbrev cX5_init : ByteArray := prog_7_method_1_code
def yX5_init : MethodName := ⟨RX5, "<init>", "()V"⟩
abbrev cX5_ringIfSat : ByteArray := prog_7_method_8_code
def yX5_ringIfSat : MethodName := ⟨RX5, "ringIfSat", "(I)V"⟩
abbrev cX5_setGains : ByteArray := prog_7_method_6_code
def yX5_setGains : MethodName := ⟨RX5, "setGains", "(LSilentSale$Clerk;LSilentSale$Terms;LSilentSale$State;II)I"⟩
abbrev cX5_sumOfSets : ByteArray := prog_7_method_7_code
def yX5_sumOfSets : MethodName := ⟨RX5, "sumOfSets", "(LSilentSale$Terms;LSilentSale$State;)I"⟩
abbrev cX5_workOutSets : ByteArray := prog_7_method_5_code
def yX5_workOutSets : MethodName := ⟨RX5, "workOutSets", "(LSilentSale$Clerk;LSilentSale$Terms;LSilentSale$State;I)V"⟩
abbrev cX6_alike : ByteArray := prog_8_method_6_code
def yX6_alike : MethodName := ⟨RX6, "alike", "(II)I"⟩
abbrev cX6_findRules : ByteArray := prog_8_method_2_code
def yX6_findRules : MethodName := ⟨RX6, "findRules", "(LSilentSale$Clerk;LSilentSale$Terms;[LSilentSale$Rule;ILSilentSale$Logs;)V"⟩
abbrev cX6_howMany : ByteArray := prog_8_method_4_code
def yX6_howMany : MethodName := ⟨RX6, "howMany", "()I"⟩
abbrev cX6_init : ByteArray := prog_8_method_1_code
def yX6_init : MethodName := ⟨RX6, "<init>", "()V"⟩
abbrev cX6_mostAlike : ByteArray := prog_8_method_5_code
def yX6_mostAlike : MethodName := ⟨RX6, "mostAlike", "(I)I"⟩
abbrev cX6_seatAllBy : ByteArray := prog_8_method_3_code
def yX6_seatAllBy : MethodName := ⟨RX6, "seatAllBy", "(ILSilentSale$Terms;)V"⟩
abbrev cX7_allGains : ByteArray := prog_9_method_12_code
def yX7_allGains : MethodName := ⟨RX7, "allGains", "(LSilentSale$Terms;)I"⟩
abbrev cX7_allPaid : ByteArray := prog_9_method_10_code
def yX7_allPaid : MethodName := ⟨RX7, "allPaid", "()I"⟩
abbrev cX7_begin : ByteArray := prog_9_method_13_code
def yX7_begin : MethodName := ⟨RX7, "begin", "(I)I"⟩
abbrev cX7_breakOff : ByteArray := prog_9_method_15_code
def yX7_breakOff : MethodName := ⟨RX7, "breakOff", "(I)V"⟩
abbrev cX7_canTrick : ByteArray := prog_9_method_16_code
def yX7_canTrick : MethodName := ⟨RX7, "canTrick", "(IIILSilentSale$Terms;)Z"⟩
abbrev cX7_copyFrom : ByteArray := prog_9_method_2_code
def yX7_copyFrom : MethodName := ⟨RX7, "copyFrom", "(LSilentSale$State;)V"⟩
abbrev cX7_finish : ByteArray := prog_9_method_14_code
def yX7_finish : MethodName := ⟨RX7, "finish", "(III)V"⟩
abbrev cX7_gainOf : ByteArray := prog_9_method_11_code
def yX7_gainOf : MethodName := ⟨RX7, "gainOf", "(ILSilentSale$Terms;)I"⟩
abbrev cX7_init : ByteArray := prog_9_method_1_code
def yX7_init : MethodName := ⟨RX7, "<init>", "()V"⟩
abbrev cX7_isSilent : ByteArray := prog_9_method_4_code
def yX7_isSilent : MethodName := ⟨RX7, "isSilent", "(I)Z"⟩
abbrev cX7_lotsAt : ByteArray := prog_9_method_7_code
def yX7_lotsAt : MethodName := ⟨RX7, "lotsAt", "(I)I"⟩
abbrev cX7_lotsHad : ByteArray := prog_9_method_9_code
def yX7_lotsHad : MethodName := ⟨RX7, "lotsHad", "()I"⟩
abbrev cX7_lotsOf : ByteArray := prog_9_method_8_code
def yX7_lotsOf : MethodName := ⟨RX7, "lotsOf", "(I)I"⟩
abbrev cX7_open : ByteArray := prog_9_method_3_code
def yX7_open : MethodName := ⟨RX7, "open", "(LSilentSale$Terms;)V"⟩
abbrev cX7_silentOnes : ByteArray := prog_9_method_5_code
def yX7_silentOnes : MethodName := ⟨RX7, "silentOnes", "()I"⟩
abbrev cX7_sittersOf : ByteArray := prog_9_method_6_code
def yX7_sittersOf : MethodName := ⟨RX7, "sittersOf", "(I)I"⟩
abbrev cX7_trickNow : ByteArray := prog_9_method_17_code
def yX7_trickNow : MethodName := ⟨RX7, "trickNow", "(IIILSilentSale$Terms;)V"⟩
abbrev cX8_anotherClause : ByteArray := prog_10_method_18_code
def yX8_anotherClause : MethodName := ⟨RX8, "anotherClause", "()Z"⟩
abbrev cX8_cut : ByteArray := prog_10_method_4_code
def yX8_cut : MethodName := ⟨RX8, "cut", "(I)V"⟩
abbrev cX8_firstFault : ByteArray := prog_10_method_8_code
def yX8_firstFault : MethodName := ⟨RX8, "firstFault", "()I"⟩
abbrev cX8_goTo : ByteArray := prog_10_method_6_code
def yX8_goTo : MethodName := ⟨RX8, "goTo", "(I)V"⟩
abbrev cX8_init : ByteArray := prog_10_method_1_code
def yX8_init : MethodName := ⟨RX8, "<init>", "()V"⟩
abbrev cX8_number : ByteArray := prog_10_method_17_code
def yX8_number : MethodName := ⟨RX8, "number", "(II)I"⟩
abbrev cX8_passWord : ByteArray := prog_10_method_15_code
def yX8_passWord : MethodName := ⟨RX8, "passWord", "()V"⟩
abbrev cX8_place : ByteArray := prog_10_method_7_code
def yX8_place : MethodName := ⟨RX8, "place", "()I"⟩
abbrev cX8_put : ByteArray := prog_10_method_3_code
def yX8_put : MethodName := ⟨RX8, "put", "(I)V"⟩
abbrev cX8_refuse : ByteArray := prog_10_method_9_code
def yX8_refuse : MethodName := ⟨RX8, "refuse", "(II)Z"⟩
abbrev cX8_rewind : ByteArray := prog_10_method_5_code
def yX8_rewind : MethodName := ⟨RX8, "rewind", "()V"⟩
abbrev cX8_sign : ByteArray := prog_10_method_10_code
def yX8_sign : MethodName := ⟨RX8, "sign", "()I"⟩
abbrev cX8_signBehind : ByteArray := prog_10_method_11_code
def yX8_signBehind : MethodName := ⟨RX8, "signBehind", "()I"⟩
abbrev cX8_size : ByteArray := prog_10_method_2_code
def yX8_size : MethodName := ⟨RX8, "size", "()I"⟩
abbrev cX8_skip : ByteArray := prog_10_method_12_code
def yX8_skip : MethodName := ⟨RX8, "skip", "(I)V"⟩
abbrev cX8_take : ByteArray := prog_10_method_13_code
def yX8_take : MethodName := ⟨RX8, "take", "(C)Z"⟩
abbrev cX8_takeWord : ByteArray := prog_10_method_14_code
def yX8_takeWord : MethodName := ⟨RX8, "takeWord", "(Ljava/lang/String;)Z"⟩
abbrev cX8_whichWord : ByteArray := prog_10_method_16_code
def yX8_whichWord : MethodName := ⟨RX8, "whichWord", "(Ljava/lang/String;)I"⟩
abbrev cX9_copyFrom : ByteArray := prog_11_method_4_code
def yX9_copyFrom : MethodName := ⟨RX9, "copyFrom", "(LSilentSale$Terms;)V"⟩
abbrev cX9_init : ByteArray := prog_11_method_1_code
def yX9_init : MethodName := ⟨RX9, "<init>", "()V"⟩
abbrev cX9_isFull : ByteArray := prog_11_method_7_code
def yX9_isFull : MethodName := ⟨RX9, "isFull", "(I)Z"⟩
abbrev cX9_mostWorth : ByteArray := prog_11_method_3_code
def yX9_mostWorth : MethodName := ⟨RX9, "mostWorth", "(II)I"⟩
abbrev cX9_readBidder : ByteArray := prog_11_method_8_code
def yX9_readBidder : MethodName := ⟨RX9, "readBidder", "(LSilentSale$Tape;)Z"⟩
abbrev cX9_readClause : ByteArray := prog_11_method_6_code
def yX9_readClause : MethodName := ⟨RX9, "readClause", "(LSilentSale$Tape;I)Z"⟩
abbrev cX9_readSale : ByteArray := prog_11_method_5_code
def yX9_readSale : MethodName := ⟨RX9, "readSale", "(LSilentSale$Tape;)I"⟩
abbrev cX9_readTrick : ByteArray := prog_11_method_10_code
def yX9_readTrick : MethodName := ⟨RX9, "readTrick", "(LSilentSale$Tape;)Z"⟩
abbrev cX9_readWorth : ByteArray := prog_11_method_9_code
def yX9_readWorth : MethodName := ⟨RX9, "readWorth", "(LSilentSale$Tape;)Z"⟩
abbrev cX9_worthTo : ByteArray := prog_11_method_2_code
def yX9_worthTo : MethodName := ⟨RX9, "worthTo", "(II)I"⟩
end
section
/-! rows of our own: the good words of the tables, the global picture, and the kit's rows with their results named -/
def tb_L : List Cond := lw_tbl.filter goodWord
theorem tb_in {w : Cond} {i : Nat} (h : lw_tbl[i]? = some w) (g : goodWord w = true) : w ∈ tb_L := List.mem_filter.mpr ⟨List.mem_of_getElem? h, g⟩
theorem tb_good {ws : List Cond} (h : ∀ w ∈ ws, w ∈ tb_L) : GoodIn tb_L ws := fun w hw => ⟨h w hw, good_of_word (List.mem_filter.mp (h w hw)).2⟩
theorem tb_lay {C : String} {T : u_T} {N : Nat} (ps : List Nat) (h : u_ws C T N = ps.filterMap (fun i => lw_tbl[i]?)) (g : (u_ws C T N).all goodWord = true) : ∀ w ∈ u_ws C T N, w ∈ tb_L := by
  intro w hw
  have h1 := List.all_eq_true.mp g w hw
  rw [h] at hw
  obtain ⟨i, -, hi⟩ := List.mem_filterMap.mp hw
  exact tb_in hi h1
abbrev ts_L (y : MethodName) (b : ByteArray) (n : Nat) (r : Option FieldType) : List Cond := .code y b n r :: tb_L
theorem ts_ht {y : MethodName} {b : ByteArray} {n : Nat} {r : Option FieldType} {args : Array Value} {s : State} (h : ∀ w ∈ ts_L y b n r, w.before args s = true) : ∀ w ∈ tb_L, w.before args s = true := fun w hw => h w (List.mem_cons_of_mem _ hw)
theorem ts_good {y : MethodName} {b : ByteArray} {n : Nat} {r : Option FieldType} (h : Cond.code y b n r ∈ tb_L) : ∀ w ∈ ts_L y b n r, w ∈ tb_L := fun w hw => (List.mem_cons.mp hw).elim (fun e => e ▸ h) (fun h => h)
theorem ts_gV {y : MethodName} {b : ByteArray} {n : Nat} {r : Option FieldType} {own C : String} {idx : Nat} (h1 : Cond.methodLink own idx y ∈ tb_L) (h2 : Cond.instanceMethod y ∈ tb_L) (h3 : Cond.selects C y y ∈ tb_L) (h4 : Cond.initialized C ∈ tb_L) (h : Cond.code y b n r ∈ tb_L) : GoodIn tb_L (wsV own idx C y (ts_L y b n r)) := by
  refine tb_good (fun w hw => ?_)
  rcases List.mem_append.mp hw with h9 | h9
  · simp only [List.mem_cons, List.not_mem_nil, or_false] at h9
    rcases h9 with rfl | rfl | rfl | rfl
    · exact h1
    · exact h2
    · exact h3
    · exact h4
  · exact ts_good h w h9
theorem ts_gS {y : MethodName} {b : ByteArray} {n : Nat} {r : Option FieldType} {own : String} {idx : Nat} (h1 : Cond.methodLink own idx y ∈ tb_L) (h2 : Cond.static y ∈ tb_L) (h4 : Cond.initialized y.cls ∈ tb_L) (h : Cond.code y b n r ∈ tb_L) : GoodIn tb_L (va_wsS own idx y (ts_L y b n r)) := by
  refine tb_good (fun w hw => ?_)
  rcases List.mem_append.mp hw with h9 | h9
  · simp only [List.mem_cons, List.not_mem_nil, or_false] at h9
    rcases h9 with rfl | rfl | rfl
    · exact h1
    · exact h2
    · exact h4
  · exact ts_good h w h9
/-- the classes' numbers, the fields' slots, the array classes -/
abbrev gg_T : Type := (Nat → ClassId) × (Nat → Nat → Nat) × (Nat → ClassId)
abbrev gg_D (G : gg_T) : va_G := (G.1, G.2.1)
abbrev gg_ty (G : gg_T) : List (ClassId × FieldType) := [(G.2.2 0, .int), (G.2.2 1, .long), (G.2.2 2, .byte), (G.2.2 3, .boolean), (G.2.2 4, .object "SilentSale$State"), (G.2.2 5, .object "SilentSale$Rule"), (G.2.2 6, .object "SilentSale$Image")]
def gg_nest : Cond → Bool
  | .methodLinkNest .. => true
  | _ => false
def gg_K (G : gg_T) (U : State) : Prop := va_K (gg_D G) classes (gg_ty G) U ∧ (∀ w ∈ lw_tbl, gg_nest w = true → va_Nw w U) ∧ va_AO "SilentSale$State" U ∧ va_AO "SilentSale$Rule" U ∧ va_AO "SilentSale$Image" U
theorem gg_K.warm {G : gg_T} {s U : State} (h : gg_K G s) (hW : s.WarmedH U.vm) : gg_K G U := by
  refine ⟨va_K.moved hW.alike h.1, fun w hw g => ?_, va_AO.moved hW.alike h.2.2.1, va_AO.moved hW.alike h.2.2.2.1, va_AO.moved hW.alike h.2.2.2.2⟩
  have h1 := h.2.1 w hw g
  cases w with
  | methodLinkNest a i x h => exact va_Nw.warmM hW h1
  | _ => cases g
theorem gg_K.calls {G : gg_T} {U : State} {g : JFrame} {mk : MethodId} {a : Array Value} (h : gg_K G U) : gg_K G (U.calling g mk a) := by
  refine ⟨va_K.moved (u := U) (U := U.calling g mk a) (Vm.Alike.refl U.vm) h.1, fun w hw g1 => ?_, va_AO.moved (u := U) (U := U.calling g mk a) (Vm.Alike.refl U.vm) h.2.2.1, va_AO.moved (u := U) (U := U.calling g mk a) (Vm.Alike.refl U.vm) h.2.2.2.1, va_AO.moved (u := U) (U := U.calling g mk a) (Vm.Alike.refl U.vm) h.2.2.2.2⟩
  have h1 := h.2.1 w hw g1
  cases w with
  | methodLinkNest a1 i x h => exact va_Nw.same (u := U) (U := U.calling g mk a) rfl rfl h1
  | _ => cases g1
/-- a method's start: its world, whatever lies below -/
abbrev gc_P (G : gg_T) (ws : va_W) (sz : Nat) (av : List Value) : Array Value → State → Prop := va_Pc av (fun U => U.heap.size = sz ∧ va_P (gg_D G) classes ws U.heap ∧ gg_K G U ∧ va_D (fun _ => True) ws)
abbrev gc_I (G : gg_T) (A : Nat → Prop) {S : Type} (post : Int32 → S → Prop) (w1 : S → va_W) : Array Value → State → Outcome → State → Prop := va_Qi post (fun u t => va_P (gg_D G) classes (w1 u) t.heap ∧ va_D A (w1 u)) A
abbrev gc_V (G : gg_T) (A : Nat → Prop) {S : Type} (post : S → Prop) (w1 : S → va_W) : Array Value → State → Outcome → State → Prop := va_Qv post (fun u t => va_P (gg_D G) classes (w1 u) t.heap ∧ va_D A (w1 u)) A
theorem gc_preS {G : gg_T} {s : State} {H : Heap} {wc : va_W} {A : Nat → Prop} {As : List Value} (hK : gg_K G s) (hP : va_P (gg_D G) classes wc H) (hD : va_D A wc) : PreS s H (gc_P G wc H.size As) As :=
  ⟨fun a U g mk q => by obtain ⟨q0, q1, qP, qK, qD⟩ := q; exact ⟨q0, q1, qP, qK.calls, qD⟩, fun U hU hW => ⟨rfl, by rw [hU], by rw [hU]; exact hP, hK.warm hW, hD.weaken (fun _ _ _ _ => trivial)⟩⟩
theorem gc_preV {G : gg_T} {s : State} {H : Heap} {wc : va_W} {A : Nat → Prop} {As : List Value} {b ci q0 : Nat} {r : vw_C} {fs : List Value} (hK : gg_K G s) (hP : va_P (gg_D G) classes wc H) (hD : va_D A wc) (hc : classes[ci]? = some r) (he : wc[q0]? = some (b, .inr (ci, fs))) : PreV s H r.1 b (gc_P G wc H.size (.ref b :: As)) As :=
  ⟨(gc_preS hK hP hD).1, va_recv hK.1 hP hc he, (gc_preS hK hP hD).2⟩
theorem ra_eq {U : State} {cA cB : ClassId} {ty : FieldType} (h1 : va_RA U cA ty) (h2 : va_RA U cB ty) : cA = cB := by
  cases ty with
  | object C =>
    obtain ⟨k1, p1, -, -, -, e1⟩ := h1
    obtain ⟨k2, p2, -, -, -, e2⟩ := h2
    exact Option.some.inj (e1.symm.trans e2)
  | _ => exact Option.some.inj ((show U.vm.findClass _ = some cA from h1).symm.trans (show U.vm.findClass _ = some cB from h2))
theorem ra_last {G : gg_T} {U : State} {cA cB : ClassId} {ty : FieldType} {D : va_G} {cl : List vw_C} (hK : va_K D cl (gg_ty G ++ [(cA, ty)]) U) {t0 : Nat} (ht : (gg_ty G)[t0]? = some (cB, ty)) : cA = cB := by
  have h1 := (hK.2 7 (cA, ty) rfl).2
  have h2 := (hK.2 t0 (cB, ty) (by rw [List.getElem?_append_left (List.getElem?_eq_some_iff.mp ht).1]; exact ht)).2
  exact ra_eq h1 h2
theorem up_z (k : Nat) (c : Int32) : upd (fun _ => c) k c = fun _ => c := by
  funext j
  simp [upd]
section GRR
variable {p : Program} {l : Launch} {e : Env} {R : Room} {s : State} {m : MethodId} {args : Array Value} {below : List Frame} {meth : Method} {c : Code} {H : Heap} {locs : List Loc} {cells slots : Nat} {Q : State → Prop}
variable {cc : ByteArray} {pc : Nat} {ls : Array Slot} {rest : List Value} {G : gg_T} {A : Nat → Prop} {a : Nat} {ws ws' : va_W} {H0 : Heap}
theorem gq_iadd (hx : p.tables.exec = Jvm.exec) (hb : c.code = cc) {x y : Int32} (v : Int32) (hv : x + y = v) (hdg : decode cc pc = .ok (.iadd, 1)) (k : W p l e R s m args below meth c H locs cells slots Q (F0 m (pc + 1) ls (.int v :: rest))) : W p l e R s m args below meth c H locs cells slots Q (F0 m pc ls (.int y :: .int x :: rest)) := by
  subst hv; exact lv_iadd hx hb hdg k
theorem gq_isub (hx : p.tables.exec = Jvm.exec) (hb : c.code = cc) {x y : Int32} (v : Int32) (hv : x - y = v) (hdg : decode cc pc = .ok (.isub, 1)) (k : W p l e R s m args below meth c H locs cells slots Q (F0 m (pc + 1) ls (.int v :: rest))) : W p l e R s m args below meth c H locs cells slots Q (F0 m pc ls (.int y :: .int x :: rest)) := by
  subst hv; exact lv_isub hx hb hdg k
theorem gq_imul (hx : p.tables.exec = Jvm.exec) (hb : c.code = cc) {x y : Int32} (v : Int32) (hv : x * y = v) (hdg : decode cc pc = .ok (.imul, 1)) (k : W p l e R s m args below meth c H locs cells slots Q (F0 m (pc + 1) ls (.int v :: rest))) : W p l e R s m args below meth c H locs cells slots Q (F0 m pc ls (.int y :: .int x :: rest)) := by
  subst hv; exact lv_imul hx hb hdg k
theorem gq_iand (hx : p.tables.exec = Jvm.exec) (hb : c.code = cc) {x y : Int32} (v : Int32) (hv : x &&& y = v) (hdg : decode cc pc = .ok (.iand, 1)) (k : W p l e R s m args below meth c H locs cells slots Q (F0 m (pc + 1) ls (.int v :: rest))) : W p l e R s m args below meth c H locs cells slots Q (F0 m pc ls (.int y :: .int x :: rest)) := by
  subst hv; exact lv_iand hx hb hdg k
theorem gq_ior (hx : p.tables.exec = Jvm.exec) (hb : c.code = cc) {x y : Int32} (v : Int32) (hv : x ||| y = v) (hdg : decode cc pc = .ok (.ior, 1)) (k : W p l e R s m args below meth c H locs cells slots Q (F0 m (pc + 1) ls (.int v :: rest))) : W p l e R s m args below meth c H locs cells slots Q (F0 m pc ls (.int y :: .int x :: rest)) := by
  subst hv; exact lv_ior hx hb hdg k
theorem gq_ishl (hx : p.tables.exec = Jvm.exec) (hb : c.code = cc) {x y : Int32} (v : Int32) (hv : x <<< (y &&& 31) = v) (hdg : decode cc pc = .ok (.ishl, 1)) (k : W p l e R s m args below meth c H locs cells slots Q (F0 m (pc + 1) ls (.int v :: rest))) : W p l e R s m args below meth c H locs cells slots Q (F0 m pc ls (.int y :: .int x :: rest)) := by
  subst hv; exact lv_ishl hx hb hdg k
theorem gq_ishr (hx : p.tables.exec = Jvm.exec) (hb : c.code = cc) {x y : Int32} (v : Int32) (hv : x >>> (y &&& 31) = v) (hdg : decode cc pc = .ok (.ishr, 1)) (k : W p l e R s m args below meth c H locs cells slots Q (F0 m (pc + 1) ls (.int v :: rest))) : W p l e R s m args below meth c H locs cells slots Q (F0 m pc ls (.int y :: .int x :: rest)) := by
  subst hv; exact lv_ishr hx hb hdg k
theorem gq_lcmp (hx : p.tables.exec = Jvm.exec) (hb : c.code = cc) {x y : Int64} (v : Int32) (hv : lg_cmp x y = v) (hdg : decode cc pc = .ok (.lcmp, 1)) (k : W p l e R s m args below meth c H locs cells slots Q (F0 m (pc + 1) ls (.int v :: rest))) : W p l e R s m args below meth c H locs cells slots Q (F0 m pc ls (.long y :: .long x :: rest)) := by
  subst hv; exact W.lcmp hx hb hdg k
theorem gq_get (hx : p.tables.exec = Jvm.exec) (hb : c.code = cc) (ht : ∀ w ∈ tb_L, w.before args s = true) {own C : String} {T : u_T} {N ci index : Nat} (hown : s.vm.findClass own = some m.cls) (hK : gg_K G s) (hP : va_P (gg_D G) classes ws H) (hin : ∀ w ∈ u_ws C T N, w ∈ tb_L) (q0 : Nat) {fs : List Value} (he : ws[q0]? = some (a, .inr (ci, fs))) (hc : classes[ci]? = some (C, T, N)) (k : Nat) (hk : k < N) (hl : Cond.fieldLink own index C (T k).2.1 (T k).2.2.1 ∈ tb_L) (hsm : (T k).1 = C) {v : Value} (hv : fs[k]? = some v) (hdg : decode cc pc = .ok (.getfield index, 3))
    (kk : W p l e R s m args below meth c H locs cells slots Q (F0 m (pc + 3) ls (v :: rest))) : W p l e R s m args below meth c H locs cells slots Q (F0 m pc ls (.ref a :: rest)) :=
  va_get hx hb ht hin hown hK.1 hP q0 he hc k hk (ht _ hl) (fun _ h => by rw [hsm] at h; exact h) hv hdg kk
theorem gq_put (hx : p.tables.exec = Jvm.exec) (hb : c.code = cc) (ht : ∀ w ∈ tb_L, w.before args s = true) {own C : String} {T : u_T} {N ci index : Nat} (hown : s.vm.findClass own = some m.cls) (hK : gg_K G s) (hP : va_P (gg_D G) classes ws H) (hD : va_D A ws) (hS : va_S A H0 H locs) (hin : ∀ w ∈ u_ws C T N, w ∈ tb_L) (ty0 : Nat → FieldType) (hty : ∀ k, k < N → parseFieldDescriptor (T k).2.2.1 = some (ty0 k)) (hnm : ∀ a, a < N → ∀ b, b < N → a ≠ b → (T a).2.1 ≠ (T b).2.1) (q0 : Nat) {fs : List Value} (he : ws[q0]? = some (a, .inr (ci, fs))) (hc : classes[ci]? = some (C, T, N)) (k : Nat) (hk : k < N) (hl : Cond.fieldLink own index C (T k).2.1 (T k).2.2.1 ∈ tb_L) (hsm : (T k).1 = C) (hfin : (T k).2.2.2 = false) {v : Value} (hn : narrow (ty0 k) v = v) (hfit : fits (ty0 k) v = true) (hlen : k < fs.length) (hw : ws.set q0 (a, .inr (ci, fs.set k v)) = ws') (hdg : decode cc pc = .ok (.putfield index, 3))
    (kk : ∀ (H1 : Heap) (locs1 : List Loc), va_P (gg_D G) classes ws' H1 → va_D A ws' → va_S A H0 H1 locs1 → W p l e R s m args below meth c H1 locs1 cells slots Q (F0 m (pc + 3) ls rest)) : W p l e R s m args below meth c H locs cells slots Q (F0 m pc ls (v :: .ref a :: rest)) := by
  subst hw
  exact va_put hx hb ht hin ty0 hty hnm hown hK.1 hP hD hS q0 he hc k hk (ht _ hl) (fun _ h => by rw [hsm] at h; exact h) hfin (hty k hk) hn hfit hlen hdg kk
theorem gq_putF (hx : p.tables.exec = Jvm.exec) (hb : c.code = cc) (ht : ∀ w ∈ tb_L, w.before args s = true) {C : String} {T : u_T} {N ci index : Nat} (hown : s.vm.findClass C = some m.cls) (hin2 : meth.name = "<init>") (hK : gg_K G s) (hP : va_P (gg_D G) classes ws H) (hD : va_D A ws) (hS : va_S A H0 H locs) (hin : ∀ w ∈ u_ws C T N, w ∈ tb_L) (ty0 : Nat → FieldType) (hty : ∀ k, k < N → parseFieldDescriptor (T k).2.2.1 = some (ty0 k)) (hnm : ∀ a, a < N → ∀ b, b < N → a ≠ b → (T a).2.1 ≠ (T b).2.1) (q0 : Nat) {fs : List Value} (he : ws[q0]? = some (a, .inr (ci, fs))) (hc : classes[ci]? = some (C, T, N)) (k : Nat) (hk : k < N) (hl : Cond.fieldLink C index C (T k).2.1 (T k).2.2.1 ∈ tb_L) (hsm : (T k).1 = C) (hfin : (T k).2.2.2 = true) {v : Value} (hn : narrow (ty0 k) v = v) (hfit : fits (ty0 k) v = true) (hlen : k < fs.length) (hw : ws.set q0 (a, .inr (ci, fs.set k v)) = ws') (hdg : decode cc pc = .ok (.putfield index, 3))
    (kk : ∀ (H1 : Heap) (locs1 : List Loc), va_P (gg_D G) classes ws' H1 → va_D A ws' → va_S A H0 H1 locs1 → W p l e R s m args below meth c H1 locs1 cells slots Q (F0 m (pc + 3) ls rest)) : W p l e R s m args below meth c H locs cells slots Q (F0 m pc ls (v :: .ref a :: rest)) := by
  subst hw
  exact va_putF hx hb ht hin ty0 hty hnm hown hK.1 hP hD hS q0 he hc k hk (ht _ hl) (fun _ h => by rw [hsm] at h; exact h) hfin hin2 hsm (hty k hk) hn hfit hlen hdg kk
theorem gq_iald (hx : p.tables.exec = Jvm.exec) (hb : c.code = cc) (hK : gg_K G s) (hP : va_P (gg_D G) classes ws H) (q0 : Nat) {n : Nat} {f : Nat → Int32} (ha : ws[q0]? = some (a, .inl (G.2.2 0, n, .inl f))) {i : Int32} (v : Int32) (hi : vp_in i n) (hv : f i.toNatClampNeg = v) (hdg : decode cc pc = .ok (.iaload, 1))
    (kk : W p l e R s m args below meth c H locs cells slots Q (F0 m (pc + 1) ls (.int v :: rest))) : W p l e R s m args below meth c H locs cells slots Q (F0 m pc ls (.int i :: .ref a :: rest)) := by
  subst hv; exact va_iald hx hb hK.1 hP q0 0 ha rfl hi hdg kk
theorem gq_zald (hx : p.tables.exec = Jvm.exec) (hb : c.code = cc) (hK : gg_K G s) (hP : va_P (gg_D G) classes ws H) (q0 : Nat) {n : Nat} {f : Nat → Int32} (ha : ws[q0]? = some (a, .inl (G.2.2 3, n, .inl f))) {i : Int32} (v : Int32) (hi : vp_in i n) (hv : f i.toNatClampNeg = v) (hdg : decode cc pc = .ok (.baload, 1))
    (kk : W p l e R s m args below meth c H locs cells slots Q (F0 m (pc + 1) ls (.int v :: rest))) : W p l e R s m args below meth c H locs cells slots Q (F0 m pc ls (.int i :: .ref a :: rest)) := by
  subst hv; exact va_zald hx hb hK.1 hP q0 3 ha rfl hi hdg kk
theorem gq_bald (hx : p.tables.exec = Jvm.exec) (hb : c.code = cc) (hK : gg_K G s) (hP : va_P (gg_D G) classes ws H) (q0 : Nat) {n : Nat} {f : Nat → Int32} (ha : ws[q0]? = some (a, .inl (G.2.2 2, n, .inl f))) {i : Int32} (v : Int32) (hi : vp_in i n) (hv : f i.toNatClampNeg = v) (hdg : decode cc pc = .ok (.baload, 1))
    (kk : W p l e R s m args below meth c H locs cells slots Q (F0 m (pc + 1) ls (.int v :: rest))) : W p l e R s m args below meth c H locs cells slots Q (F0 m pc ls (.int i :: .ref a :: rest)) := by
  subst hv; exact va_bald hx hb hK.1 hP q0 2 ha rfl hi hdg kk
theorem gq_aald (hx : p.tables.exec = Jvm.exec) (hb : c.code = cc) (hK : gg_K G s) (hP : va_P (gg_D G) classes ws H) (q0 t0 : Nat) {n : Nat} {cA : ClassId} {C : String} {f : Nat → Option Nat} (ha : ws[q0]? = some (a, .inl (cA, n, .inr (.inr (.inr (.inr f)))))) (hty : (gg_ty G)[t0]? = some (cA, .object C)) {i : Int32} (v : Nat) (hi : vp_in i n) (hv : f i.toNatClampNeg = some v) (hdg : decode cc pc = .ok (.aaload, 1))
    (kk : W p l e R s m args below meth c H locs cells slots Q (F0 m (pc + 1) ls (.ref v :: rest))) : W p l e R s m args below meth c H locs cells slots Q (F0 m pc ls (.int i :: .ref a :: rest)) := by
  refine va_aldq hx hb hK.1 hP q0 t0 ha hty hi hdg ?_
  rw [hv]; exact kk
theorem gq_iast (hx : p.tables.exec = Jvm.exec) (hb : c.code = cc) (hK : gg_K G s) (hP : va_P (gg_D G) classes ws H) (hD : va_D A ws) (hS : va_S A H0 H locs) (q0 : Nat) {n : Nat} {f : Nat → Int32} (ha : ws[q0]? = some (a, .inl (G.2.2 0, n, .inl f))) {i x : Int32} (f1 : Nat → Int32) (hi : vp_in i n) (hf : upd f i.toNatClampNeg x = f1) (hw : ws.set q0 (a, .inl (G.2.2 0, n, .inl f1)) = ws') (hdg : decode cc pc = .ok (.iastore, 1))
    (kk : ∀ (H1 : Heap) (locs1 : List Loc), va_P (gg_D G) classes ws' H1 → va_D A ws' → va_S A H0 H1 locs1 → W p l e R s m args below meth c H1 locs1 cells slots Q (F0 m (pc + 1) ls rest)) : W p l e R s m args below meth c H locs cells slots Q (F0 m pc ls (.int x :: .int i :: .ref a :: rest)) := by
  subst hf; subst hw
  exact va_iast hx hb hK.1 hP hD hS q0 0 ha rfl hi hdg kk
theorem gq_bast (hx : p.tables.exec = Jvm.exec) (hb : c.code = cc) (hK : gg_K G s) (hP : va_P (gg_D G) classes ws H) (hD : va_D A ws) (hS : va_S A H0 H locs) (q0 : Nat) {n : Nat} {f : Nat → Int32} (ha : ws[q0]? = some (a, .inl (G.2.2 2, n, .inl f))) {i x : Int32} (f1 : Nat → Int32) (hi : vp_in i n) (hf : upd f i.toNatClampNeg (vp_nar .byte x) = f1) (hw : ws.set q0 (a, .inl (G.2.2 2, n, .inl f1)) = ws') (hdg : decode cc pc = .ok (.bastore, 1))
    (kk : ∀ (H1 : Heap) (locs1 : List Loc), va_P (gg_D G) classes ws' H1 → va_D A ws' → va_S A H0 H1 locs1 → W p l e R s m args below meth c H1 locs1 cells slots Q (F0 m (pc + 1) ls rest)) : W p l e R s m args below meth c H locs cells slots Q (F0 m pc ls (.int x :: .int i :: .ref a :: rest)) := by
  subst hf; subst hw
  exact va_bast hx hb hK.1 hP hD hS q0 2 ha rfl hi hdg kk
theorem gq_zast (hx : p.tables.exec = Jvm.exec) (hb : c.code = cc) (hK : gg_K G s) (hP : va_P (gg_D G) classes ws H) (hD : va_D A ws) (hS : va_S A H0 H locs) (q0 : Nat) {n : Nat} {f : Nat → Int32} (ha : ws[q0]? = some (a, .inl (G.2.2 3, n, .inl f))) {i x : Int32} (f1 : Nat → Int32) (hi : vp_in i n) (hf : upd f i.toNatClampNeg (vp_nar .boolean x) = f1) (hw : ws.set q0 (a, .inl (G.2.2 3, n, .inl f1)) = ws') (hdg : decode cc pc = .ok (.bastore, 1))
    (kk : ∀ (H1 : Heap) (locs1 : List Loc), va_P (gg_D G) classes ws' H1 → va_D A ws' → va_S A H0 H1 locs1 → W p l e R s m args below meth c H1 locs1 cells slots Q (F0 m (pc + 1) ls rest)) : W p l e R s m args below meth c H locs cells slots Q (F0 m pc ls (.int x :: .int i :: .ref a :: rest)) := by
  subst hf; subst hw
  exact va_zast hx hb hK.1 hP hD hS q0 3 ha rfl hi hdg kk
theorem gq_aast (hx : p.tables.exec = Jvm.exec) (hb : c.code = cc) (hK : gg_K G s) (hP : va_P (gg_D G) classes ws H) (hD : va_D A ws) (hS : va_S A H0 H locs) (q0 t0 qk ci : Nat) {cA : ClassId} {r : vw_C} {n v : Nat} {vs : List Value} {f : Nat → Option Nat} (ha : ws[q0]? = some (a, .inl (cA, n, .inr (.inr (.inr (.inr f)))))) (hty : (gg_ty G)[t0]? = some (cA, .object r.1)) (hv : ws[qk]? = some (v, .inr (ci, vs))) (hc : classes[ci]? = some r) {i : Int32} (f1 : Nat → Option Nat) (hi : vp_in i n) (hf : va_up f i.toNatClampNeg (some v) = f1) (hw : ws.set q0 (a, .inl (cA, n, .inr (.inr (.inr (.inr f1))))) = ws') (hdg : decode cc pc = .ok (.aastore, 1))
    (kk : ∀ (H1 : Heap) (locs1 : List Loc), va_P (gg_D G) classes ws' H1 → va_D A ws' → va_S A H0 H1 locs1 → W p l e R s m args below meth c H1 locs1 cells slots Q (F0 m (pc + 1) ls rest)) : W p l e R s m args below meth c H locs cells slots Q (F0 m pc ls (.ref v :: .int i :: .ref a :: rest)) := by
  subst hf; subst hw
  exact va_astq hx hb hK.1 hP hD hS q0 t0 qk ci ha hty hv hc hi hdg kk
theorem gq_alen (hx : p.tables.exec = Jvm.exec) (hb : c.code = cc) (hK : gg_K G s) (hP : va_P (gg_D G) classes ws H) (q0 t0 : Nat) {cA : ClassId} {x : vp_A} (ha : ws[q0]? = some (a, .inl (cA, x))) {ty : FieldType} (hty : (gg_ty G)[t0]? = some (cA, ty)) (v : Int32) (hv : Int32.ofNat x.1 = v) (hdg : decode cc pc = .ok (.arraylength, 1))
    (kk : W p l e R s m args below meth c H locs cells slots Q (F0 m (pc + 1) ls (.int v :: rest))) : W p l e R s m args below meth c H locs cells slots Q (F0 m pc ls (.ref a :: rest)) := va_alen hx hb hK.1 hP q0 t0 ha hty hv hdg kk
theorem gq_newa (hx : p.tables.exec = Jvm.exec) (hb : c.code = cc) {atype : ArrayType} {ty : FieldType} (hty : newarray.typeOf atype = ty) (harr : (Cond.arrayClass ty).before args s = true) (hK : gg_K G s) (hP : va_P (gg_D G) classes ws H) (hD : va_D A ws) (hS : va_S A H0 H locs) (hA : ∀ q, H0.size ≤ q → A q) (t0 : Nat) {cB : ClassId} (ht0 : (gg_ty G)[t0]? = some (cB, ty))
    {n : Int32} (N' : Nat) (a0 : vp_A) (ha : ∀ cA : ClassId, vp_cell cA a0 = arrV cA N' (fun _ => defaultValue ty)) (hn : ¬ n < 0) (hN : n.toNatClampNeg = N') (hbytes : N' * componentBytes ty ≤ 536870912) (cells' slots' : Nat) (hc1 : cells + 1 ≤ cells') (hs1 : slots + N' ≤ slots') (hc2 : cells' ≤ R.cells) (hs2 : slots' ≤ R.slots) (hdg : decode cc pc = .ok (.newarray atype, 2))
    (kk : ∀ (q : Nat) (H1 : Heap), va_P (gg_D G) classes (ws ++ [(q, .inl (cB, a0))]) H1 → va_D A (ws ++ [(q, .inl (cB, a0))]) → va_S A H0 H1 locs → W p l e R s m args below meth c H1 locs cells' slots' Q (F0 m (pc + 2) ls (.ref q :: rest))) : W p l e R s m args below meth c H locs cells slots Q (F0 m pc ls (.int n :: rest)) := by
  refine va_newa hx hb (by rw [hty]; exact harr) hty hK.1 hP hD hS hA ha hn hN hbytes (Nat.le_trans hc1 hc2) (Nat.le_trans hs1 hs2) hdg (fun q cA H1 hK1 hP1 hD1 hS1 => ?_)
  have e := ra_last hK1 ht0
  subst e
  exact W.widen hc1 hs1 (kk q H1 hP1 hD1 hS1)
theorem gq_newq (hx : p.tables.exec = Jvm.exec) (hb : c.code = cc) {own C : String} {index : Nat} (hown : s.vm.findClass own = some m.cls) (hcl : (Cond.classLink own index C).before args s = true) (hover : va_AO C s) (hK : gg_K G s) (hP : va_P (gg_D G) classes ws H) (hD : va_D A ws) (hS : va_S A H0 H locs) (hA : ∀ q, H0.size ≤ q → A q) (t0 : Nat) {cB : ClassId} (ht0 : (gg_ty G)[t0]? = some (cB, .object C))
    {n : Int32} (N' : Nat) (hn : ¬ n < 0) (hN : n.toNatClampNeg = N') (hbytes : N' * 4 ≤ 536870912) (cells' slots' : Nat) (hc1 : cells + 1 ≤ cells') (hs1 : slots + N' ≤ slots') (hc2 : cells' ≤ R.cells) (hs2 : slots' ≤ R.slots) (hdg : decode cc pc = .ok (.anewarray index, 3))
    (kk : ∀ (q : Nat) (H1 : Heap), va_P (gg_D G) classes (ws ++ [(q, .inl (cB, N', .inr (.inr (.inr (.inr (fun _ => none))))))]) H1 → va_D A (ws ++ [(q, .inl (cB, N', .inr (.inr (.inr (.inr (fun _ => none))))))]) → va_S A H0 H1 locs → W p l e R s m args below meth c H1 locs cells' slots' Q (F0 m (pc + 3) ls (.ref q :: rest))) : W p l e R s m args below meth c H locs cells slots Q (F0 m pc ls (.int n :: rest)) := by
  refine va_newq hx hb hown hcl hover hK.1 hP hD hS hA hn hN hbytes (Nat.le_trans hc1 hc2) (Nat.le_trans hs1 hs2) hdg (fun q cA H1 hK1 hP1 hD1 hS1 => ?_)
  have e := ra_last hK1 ht0
  subst e
  exact W.widen hc1 hs1 (kk q H1 hP1 hD1 hS1)
theorem gq_new (hx : p.tables.exec = Jvm.exec) (hb : c.code = cc) (ht : ∀ w ∈ tb_L, w.before args s = true) {own C : String} {T : u_T} {N ci index : Nat} (hown : s.vm.findClass own = some m.cls) (hin : ∀ w ∈ u_ws C T N, w ∈ tb_L) (ty0 : Nat → FieldType) (hty : ∀ k, k < N → parseFieldDescriptor (T k).2.2.1 = some (ty0 k)) (hcl : Cond.classLink own index C ∈ tb_L) (hinst : Cond.instantiable C N ∈ tb_L) (hini : Cond.initialized C ∈ tb_L)
    (hK : gg_K G s) (hP : va_P (gg_D G) classes ws H) (hD : va_D A ws) (hS : va_S A H0 H locs) (hA : ∀ q, H0.size ≤ q → A q) (hc : classes[ci]? = some (C, T, N)) (fs : List Value) (hfs : ∀ j, j < N → defaultValue (ty0 j) = vp_V fs j) (cells' slots' : Nat) (hc1 : cells + 1 ≤ cells') (hs1 : slots + N ≤ slots') (hc2 : cells' ≤ R.cells) (hs2 : slots' ≤ R.slots) (hdg : decode cc pc = .ok (.new index, 3))
    (kk : ∀ (q : Nat) (H1 : Heap), va_P (gg_D G) classes (ws ++ [(q, .inr (ci, fs))]) H1 → va_D A (ws ++ [(q, .inr (ci, fs))]) → va_S A H0 H1 locs → W p l e R s m args below meth c H1 locs cells' slots' Q (F0 m (pc + 3) ls (.ref q :: rest))) : W p l e R s m args below meth c H locs cells slots Q (F0 m pc ls rest) :=
  va_new hx hb ht hin ty0 hty hown (ht _ hcl) (ht _ hinst) (ht _ hini) hK.1 hP hD hS hA hc hfs (Nat.le_trans hc1 hc2) (Nat.le_trans hs1 hs2) hdg (fun q H1 hP1 hD1 hS1 => W.widen hc1 hs1 (kk q H1 hP1 hD1 hS1))
theorem gq_copy (hx : p.tables.exec = Jvm.exec) (hb : c.code = cc) (hml : c.maxLocals = ls.size) {own : String} {index : Nat} (hown : s.vm.findClass own = some m.cls) (hlink : (Cond.methodLink own index arraycopyName).before args s = true) (hnat : (Cond.native arraycopyName).before args s = true) (hstat : (Cond.static arraycopyName).before args s = true) (hini : (Cond.initialized "java/lang/System").before args s = true)
    (hK : gg_K G s) (hP : va_P (gg_D G) classes ws H) (hD : va_D A ws) (hS : va_S A H0 H locs) (q0 q1 : Nat) {a0 n0 n1 : Nat} {f g : Nat → Int32} (ha0 : ws[q0]? = some (a0, .inl (G.2.2 0, n0, .inl f))) (ha1 : ws[q1]? = some (a, .inl (G.2.2 0, n1, .inl g)))
    {sp dp n : Int32} (h1 : ¬ sp < 0) (h2 : ¬ dp < 0) (h3 : ¬ n < 0) (h4 : sp.toNatClampNeg + n.toNatClampNeg ≤ n0) (h5 : dp.toNatClampNeg + n.toNatClampNeg ≤ n1) (f1 : Nat → Int32) (hf : va_cpy f g sp.toNatClampNeg dp.toNatClampNeg n.toNatClampNeg = f1) (hw : ws.set q1 (a, .inl (G.2.2 0, n1, .inl f1)) = ws')
    (hframes : 1 ≤ R.frames) (hlocals : (rest.map fun v => v.category).sum + (nativeFrameWords "java/lang/System" "arraycopy" 5 + 11) ≤ R.locals) (hdg : decode cc pc = .ok (.invokestatic index, 3))
    (kk : ∀ (H1 : Heap) (locs1 : List Loc), va_P (gg_D G) classes ws' H1 → va_D A ws' → va_S A H0 H1 locs1 → W p l e R s m args below meth c H1 locs1 cells slots Q (F0 m (pc + 3) ls rest)) : W p l e R s m args below meth c H locs cells slots Q (F0 m pc ls (.int n :: .int dp :: .ref a :: .int sp :: .ref a0 :: rest)) := by
  subst hf; subst hw
  exact va_copyi (ty := .int) hx hb hml hown hlink hnat hstat hini hK.1 hP hD hS q0 q1 0 0 ha0 ha1 rfl rfl rfl h1 h2 h3 h4 h5 (fun _ _ => rfl) hframes hlocals hdg kk
/-- behind a call: the callee's cells as it left them, then the rest -/
theorem gq_callI {S : Type} {post : Int32 → S → Prop} {w1 : S → va_W} {wc wr : va_W} {mc ms : Nat} {st0 : List Value} {av : Array Value} (hr : va_Run p l e R s m args below meth c H locs cells slots mc ms (F0 m pc ls st0) rest (gc_I G (va_A wc H.size) post w1 av) (va_A wc H.size)) (hP : va_P (gg_D G) classes ws H) (hD : va_D A ws) (hS : va_S A H0 H locs) (hA : ∀ q, H0.size ≤ q → A q) (isC isR : List Nat) (hC : isC.map (fun i => ws[i]?) = wc.map some) (hR : isR.map (fun i => ws[i]?) = wr.map some) (hn : va_nd isR = true) (hdis : ∀ i ∈ isR, i ∉ isC)
    (kk : ∀ (r : Int32) (u : S) (H1 : Heap) (locs1 : List Loc), post r u → va_P (gg_D G) classes (wr ++ w1 u) H1 → va_D A (wr ++ w1 u) → va_S A H0 H1 locs1 → W p l e R s m args below meth c H1 locs1 (cells + mc) (slots + ms) Q (F0 m (pc + 3) ls (.int r :: rest))) : W p l e R s m args below meth c H locs cells slots Q (F0 m pc ls st0) := by
  have hFc := va_free (wc := wc) hD hS hA isC hC
  refine va_calli hr hS (fun q _ h => hFc q h) hFc (fun r u t H1 locs1 ht hvm hw hB hz1 hk1 hS1 => ?_)
  obtain ⟨hP1, hD1⟩ := hB
  rw [ht] at hP1
  obtain ⟨hP2, hD2⟩ := va_join (wr := wr) (w1 := w1 u) hP hD isC isR hC hR hn hdis hk1 hFc hP1 hD1
  exact kk r u H1 locs1 hw hP2 hD2 hS1
theorem gq_callV {S : Type} {post : S → Prop} {w1 : S → va_W} {wc wr : va_W} {mc ms : Nat} {st0 : List Value} {av : Array Value} (hr : va_Run p l e R s m args below meth c H locs cells slots mc ms (F0 m pc ls st0) rest (gc_V G (va_A wc H.size) post w1 av) (va_A wc H.size)) (hP : va_P (gg_D G) classes ws H) (hD : va_D A ws) (hS : va_S A H0 H locs) (hA : ∀ q, H0.size ≤ q → A q) (isC isR : List Nat) (hC : isC.map (fun i => ws[i]?) = wc.map some) (hR : isR.map (fun i => ws[i]?) = wr.map some) (hn : va_nd isR = true) (hdis : ∀ i ∈ isR, i ∉ isC)
    (kk : ∀ (u : S) (H1 : Heap) (locs1 : List Loc), post u → va_P (gg_D G) classes (wr ++ w1 u) H1 → va_D A (wr ++ w1 u) → va_S A H0 H1 locs1 → W p l e R s m args below meth c H1 locs1 (cells + mc) (slots + ms) Q (F0 m (pc + 3) ls rest)) : W p l e R s m args below meth c H locs cells slots Q (F0 m pc ls st0) := by
  have hFc := va_free (wc := wc) hD hS hA isC hC
  refine va_callv hr hS (fun q _ h => hFc q h) hFc (fun u t H1 locs1 ht hvm hw hB hz1 hk1 hS1 => ?_)
  obtain ⟨hP1, hD1⟩ := hB
  rw [ht] at hP1
  obtain ⟨hP2, hD2⟩ := va_join (wr := wr) (w1 := w1 u) hP hD isC isR hC hR hn hdis hk1 hFc hP1 hD1
  exact kk u H1 locs1 hw hP2 hD2 hS1
theorem gq_endI {S : Type} {post : Int32 → S → Prop} {w1 : S → va_W} (u : S) {v : Int32} (hp : post v u) (hP : va_P (gg_D G) classes (w1 u) H) (hD : va_D A (w1 u)) (hS : va_S A s.heap H locs) : ∀ t : State, t.heap = H → s.WarmedH t.vm → gc_I G A post w1 args s (.returned (some (.int v))) t :=
  fun t ht _ => ⟨⟨v, u, rfl, hp, by rw [ht]; exact hP, hD⟩, hS.F ht⟩
theorem gq_endV {S : Type} {post : S → Prop} {w1 : S → va_W} (u : S) (hp : post u) (hP : va_P (gg_D G) classes (w1 u) H) (hD : va_D A (w1 u)) (hS : va_S A s.heap H locs) : ∀ t : State, t.heap = H → s.WarmedH t.vm → gc_V G A post w1 args s (.returned none) t :=
  fun t ht _ => ⟨⟨u, rfl, hp, by rw [ht]; exact hP, hD⟩, hS.F ht⟩
end GRR
end
section
theorem i_X0 : ∀ w ∈ u_ws RX0 TX0 4, w ∈ tb_L := tb_lay [413, 415, 417, 419] (by decide +kernel) (by decide +kernel)
theorem df_X0 : ∀ j, j < 4 → defaultValue (tyX0 j) = vp_V [.null, .null, .int 0, .long 0] j := by decide +kernel
theorem i_X1 : ∀ w ∈ u_ws RX1 TX1 6, w ∈ tb_L := tb_lay [388, 390, 392, 394, 396, 398] (by decide +kernel) (by decide +kernel)
theorem df_X1 : ∀ j, j < 6 → defaultValue (tyX1 j) = vp_V [.null, .null, .null, .int 0, .int 0, .int 0] j := by decide +kernel
theorem i_X2 : ∀ w ∈ u_ws RX2 TX2 4, w ∈ tb_L := tb_lay [321, 323, 325, 327] (by decide +kernel) (by decide +kernel)
theorem df_X2 : ∀ j, j < 4 → defaultValue (tyX2 j) = vp_V [.null, .null, .null, .int 0] j := by decide +kernel
theorem i_X3 : ∀ w ∈ u_ws RX3 TX3 3, w ∈ tb_L := tb_lay [303, 305, 307] (by decide +kernel) (by decide +kernel)
theorem df_X3 : ∀ j, j < 3 → defaultValue (tyX3 j) = vp_V [.null, .int 0, .int 0] j := by decide +kernel
theorem i_X4 : ∀ w ∈ u_ws RX4 TX4 9, w ∈ tb_L := tb_lay [346, 348, 350, 352, 354, 356, 358, 360, 362] (by decide +kernel) (by decide +kernel)
theorem df_X4 : ∀ j, j < 9 → defaultValue (tyX4 j) = vp_V [.null, .null, .null, .null, .null, .int 0, .int 0, .int 0, .int 0] j := by decide +kernel
theorem i_X5 : ∀ w ∈ u_ws RX5 TX5 5, w ∈ tb_L := tb_lay [437, 439, 441, 443, 445] (by decide +kernel) (by decide +kernel)
theorem df_X5 : ∀ j, j < 5 → defaultValue (tyX5 j) = vp_V [.null, .null, .null, .null, .int 0] j := by decide +kernel
theorem i_X6 : ∀ w ∈ u_ws RX6 TX6 4, w ∈ tb_L := tb_lay [484, 486, 488, 490] (by decide +kernel) (by decide +kernel)
theorem df_X6 : ∀ j, j < 4 → defaultValue (tyX6 j) = vp_V [.null, .null, .null, .int 0] j := by decide +kernel
theorem i_X7 : ∀ w ∈ u_ws RX7 TX7 10, w ∈ tb_L := tb_lay [269, 271, 273, 275, 277, 279, 281, 283, 285, 287] (by decide +kernel) (by decide +kernel)
theorem df_X7 : ∀ j, j < 10 → defaultValue (tyX7 j) = vp_V [.null, .null, .null, .null, .null, .null, .null, .null, .null, .int 0] j := by decide +kernel
theorem i_X8 : ∀ w ∈ u_ws RX8 TX8 5, w ∈ tb_L := tb_lay [161, 163, 165, 167, 169] (by decide +kernel) (by decide +kernel)
theorem df_X8 : ∀ j, j < 5 → defaultValue (tyX8 j) = vp_V [.null, .int 0, .int 0, .int 0, .int 0] j := by decide +kernel
theorem i_X9 : ∀ w ∈ u_ws RX9 TX9 9, w ∈ tb_L := tb_lay [206, 208, 210, 212, 214, 216, 218, 220, 222] (by decide +kernel) (by decide +kernel)
theorem df_X9 : ∀ j, j < 9 → defaultValue (tyX9 j) = vp_V [.int 0, .int 0, .int 0, .int 0, .null, .null, .null, .null, .null] j := by decide +kernel
theorem i_X10 : ∀ w ∈ u_ws RX10 TX10 4, w ∈ tb_L := tb_lay [462, 464, 466, 468] (by decide +kernel) (by decide +kernel)
theorem df_X10 : ∀ j, j < 4 → defaultValue (tyX10 j) = vp_V [.null, .null, .null, .int 0] j := by decide +kernel
theorem i_X11 : ∀ w ∈ u_ws RX11 TX11 16, w ∈ tb_L := tb_lay [513, 515, 517, 519, 521, 523, 525, 527, 529, 531, 533, 535, 537, 539, 541, 543] (by decide +kernel) (by decide +kernel)
theorem df_X11 : ∀ j, j < 16 → defaultValue (tyX11 j) = vp_V [.null, .null, .null, .null, .null, .null, .null, .null, .null, .null, .null, .null, .null, .int 0, .int 0, .int 0] j := by decide +kernel
theorem i_X12 : ∀ w ∈ u_ws RX12 TX12 37, w ∈ tb_L := tb_lay [1289, 1291, 1293, 1295, 1297, 1299, 1301, 1303, 1305, 1307, 1309, 1311, 1313, 1315, 1317, 1319, 1321, 1323, 1325, 1327, 1329, 1331, 1333, 1335, 1337, 1339, 1341, 1343, 1345, 1347, 1349, 1351, 1353, 1355, 1357, 1359, 1361] (by decide +kernel) (by decide +kernel)
theorem df_X12 : ∀ j, j < 37 → defaultValue (tyX12 j) = vp_V [.null, .int 0, .int 0, .null, .null, .null, .null, .null, .int 0, .int 0, .int 0, .int 0, .int 0, .int 0, .int 0, .null, .int 0, .null, .int 0, .null, .null, .int 0, .int 0, .int 0, .int 0, .int 0, .null, .int 0, .null, .null, .null, .null, .long 0, .null, .null, .null, .null] j := by decide +kernel
theorem wd_0 : (Jvm.Cond.selects "SilentSale$Tape" ({ cls := "SilentSale$Tape", name := "goTo", desc := "(I)V" } : Jvm.MethodName) ({ cls := "SilentSale$Tape", name := "goTo", desc := "(I)V" } : Jvm.MethodName)) ∈ tb_L := tb_in (i := 0) (by decide +kernel) (by decide +kernel)
theorem wd_123 : (Jvm.Cond.initialized "SilentSale$Tape") ∈ tb_L := tb_in (i := 123) (by decide +kernel) (by decide +kernel)
theorem wd_157 : (Jvm.Cond.fieldLink "SilentSale$Tape" (15 : Nat) "SilentSale$Tape" "length" "I") ∈ tb_L := tb_in (i := 157) (by decide +kernel) (by decide +kernel)
theorem wd_158 : (Jvm.Cond.fieldLink "SilentSale$Tape" (19 : Nat) "SilentSale$Tape" "at" "I") ∈ tb_L := tb_in (i := 158) (by decide +kernel) (by decide +kernel)
theorem wd_159 : (Jvm.Cond.fieldLink "SilentSale$Tape" (22 : Nat) "SilentSale$Tape" "wordSize" "I") ∈ tb_L := tb_in (i := 159) (by decide +kernel) (by decide +kernel)
theorem wd_160 : (Jvm.Cond.fieldLink "SilentSale$Tape" (25 : Nat) "SilentSale$Tape" "fault" "I") ∈ tb_L := tb_in (i := 160) (by decide +kernel) (by decide +kernel)
theorem wd_553 : (Jvm.Cond.code ({ cls := "SilentSale$Tape", name := "size", desc := "()I" } : Jvm.MethodName) prog_10_method_2_code (1 : Nat) (Option.some Jvm.ClassFile.FieldType.int)) ∈ tb_L := tb_in (i := 553) (by decide +kernel) (by decide +kernel)
theorem wd_565 : (Jvm.Cond.code ({ cls := "SilentSale$Tape", name := "cut", desc := "(I)V" } : Jvm.MethodName) prog_10_method_4_code (2 : Nat) (Option.none : Option Jvm.ClassFile.FieldType)) ∈ tb_L := tb_in (i := 565) (by decide +kernel) (by decide +kernel)
theorem wd_577 : (Jvm.Cond.code ({ cls := "SilentSale$Tape", name := "rewind", desc := "()V" } : Jvm.MethodName) prog_10_method_5_code (1 : Nat) (Option.none : Option Jvm.ClassFile.FieldType)) ∈ tb_L := tb_in (i := 577) (by decide +kernel) (by decide +kernel)
theorem wd_578 : (Jvm.Cond.methodLink "SilentSale$Tape" (28 : Nat) ({ cls := "SilentSale$Tape", name := "goTo", desc := "(I)V" } : Jvm.MethodName)) ∈ tb_L := tb_in (i := 578) (by decide +kernel) (by decide +kernel)
theorem wd_580 : (Jvm.Cond.instanceMethod ({ cls := "SilentSale$Tape", name := "goTo", desc := "(I)V" } : Jvm.MethodName)) ∈ tb_L := tb_in (i := 580) (by decide +kernel) (by decide +kernel)
theorem wd_581 : (Jvm.Cond.code ({ cls := "SilentSale$Tape", name := "goTo", desc := "(I)V" } : Jvm.MethodName) prog_10_method_6_code (2 : Nat) (Option.none : Option Jvm.ClassFile.FieldType)) ∈ tb_L := tb_in (i := 581) (by decide +kernel) (by decide +kernel)
theorem wd_642 : (Jvm.Cond.code ({ cls := "SilentSale$Tape", name := "place", desc := "()I" } : Jvm.MethodName) prog_10_method_7_code (1 : Nat) (Option.some Jvm.ClassFile.FieldType.int)) ∈ tb_L := tb_in (i := 642) (by decide +kernel) (by decide +kernel)
theorem wd_646 : (Jvm.Cond.code ({ cls := "SilentSale$Tape", name := "refuse", desc := "(II)Z" } : Jvm.MethodName) prog_10_method_9_code (3 : Nat) (Option.some Jvm.ClassFile.FieldType.boolean)) ∈ tb_L := tb_in (i := 646) (by decide +kernel) (by decide +kernel)
theorem wd_687 : (Jvm.Cond.code ({ cls := "SilentSale$Tape", name := "firstFault", desc := "()I" } : Jvm.MethodName) prog_10_method_8_code (1 : Nat) (Option.some Jvm.ClassFile.FieldType.int)) ∈ tb_L := tb_in (i := 687) (by decide +kernel) (by decide +kernel)
end
section
theorem dX8_cut_0 : decode cX8_cut 0 = .ok (.iload_n 1, 1) := by decide +kernel
theorem dX8_cut_1 : decode cX8_cut 1 = .ok (.ifCond .lt 16, 3) := by decide +kernel
theorem dX8_cut_4 : decode cX8_cut 4 = .ok (.iload_n 1, 1) := by decide +kernel
theorem dX8_cut_5 : decode cX8_cut 5 = .ok (.aload_n 0, 1) := by decide +kernel
theorem dX8_cut_6 : decode cX8_cut 6 = .ok (.getfield 15, 3) := by decide +kernel
theorem dX8_cut_9 : decode cX8_cut 9 = .ok (.if_icmp .gt 8, 3) := by decide +kernel
theorem dX8_cut_12 : decode cX8_cut 12 = .ok (.aload_n 0, 1) := by decide +kernel
theorem dX8_cut_13 : decode cX8_cut 13 = .ok (.iload_n 1, 1) := by decide +kernel
theorem dX8_cut_14 : decode cX8_cut 14 = .ok (.putfield 15, 3) := by decide +kernel
theorem dX8_cut_17 : decode cX8_cut 17 = .ok (.return_, 1) := by decide +kernel
theorem dX8_firstFault_0 : decode cX8_firstFault 0 = .ok (.aload_n 0, 1) := by decide +kernel
theorem dX8_firstFault_1 : decode cX8_firstFault 1 = .ok (.getfield 25, 3) := by decide +kernel
theorem dX8_firstFault_4 : decode cX8_firstFault 4 = .ok (.ireturn, 1) := by decide +kernel
theorem dX8_goTo_0 : decode cX8_goTo 0 = .ok (.aload_n 0, 1) := by decide +kernel
theorem dX8_goTo_1 : decode cX8_goTo 1 = .ok (.iload_n 1, 1) := by decide +kernel
theorem dX8_goTo_2 : decode cX8_goTo 2 = .ok (.putfield 19, 3) := by decide +kernel
theorem dX8_goTo_5 : decode cX8_goTo 5 = .ok (.aload_n 0, 1) := by decide +kernel
theorem dX8_goTo_6 : decode cX8_goTo 6 = .ok (.getfield 19, 3) := by decide +kernel
theorem dX8_goTo_9 : decode cX8_goTo 9 = .ok (.aload_n 0, 1) := by decide +kernel
theorem dX8_goTo_10 : decode cX8_goTo 10 = .ok (.getfield 15, 3) := by decide +kernel
theorem dX8_goTo_13 : decode cX8_goTo 13 = .ok (.if_icmp .ge 30, 3) := by decide +kernel
theorem dX8_goTo_43 : decode cX8_goTo 43 = .ok (.aload_n 0, 1) := by decide +kernel
theorem dX8_goTo_44 : decode cX8_goTo 44 = .ok (.iconst 0, 1) := by decide +kernel
theorem dX8_goTo_45 : decode cX8_goTo 45 = .ok (.putfield 22, 3) := by decide +kernel
theorem dX8_goTo_48 : decode cX8_goTo 48 = .ok (.aload_n 0, 1) := by decide +kernel
theorem dX8_goTo_49 : decode cX8_goTo 49 = .ok (.getfield 19, 3) := by decide +kernel
theorem dX8_goTo_52 : decode cX8_goTo 52 = .ok (.aload_n 0, 1) := by decide +kernel
theorem dX8_goTo_53 : decode cX8_goTo 53 = .ok (.getfield 22, 3) := by decide +kernel
theorem dX8_goTo_56 : decode cX8_goTo 56 = .ok (.iadd, 1) := by decide +kernel
theorem dX8_goTo_57 : decode cX8_goTo 57 = .ok (.aload_n 0, 1) := by decide +kernel
theorem dX8_goTo_58 : decode cX8_goTo 58 = .ok (.getfield 15, 3) := by decide +kernel
theorem dX8_goTo_61 : decode cX8_goTo 61 = .ok (.if_icmp .ge 54, 3) := by decide +kernel
theorem dX8_goTo_115 : decode cX8_goTo 115 = .ok (.return_, 1) := by decide +kernel
theorem dX8_place_0 : decode cX8_place 0 = .ok (.aload_n 0, 1) := by decide +kernel
theorem dX8_place_1 : decode cX8_place 1 = .ok (.getfield 19, 3) := by decide +kernel
theorem dX8_place_4 : decode cX8_place 4 = .ok (.ireturn, 1) := by decide +kernel
theorem dX8_refuse_0 : decode cX8_refuse 0 = .ok (.aload_n 0, 1) := by decide +kernel
theorem dX8_refuse_1 : decode cX8_refuse 1 = .ok (.getfield 25, 3) := by decide +kernel
theorem dX8_refuse_4 : decode cX8_refuse 4 = .ok (.ifCond .ne 15, 3) := by decide +kernel
theorem dX8_refuse_7 : decode cX8_refuse 7 = .ok (.aload_n 0, 1) := by decide +kernel
theorem dX8_refuse_8 : decode cX8_refuse 8 = .ok (.iconst 1, 1) := by decide +kernel
theorem dX8_refuse_9 : decode cX8_refuse 9 = .ok (.bipush 8, 2) := by decide +kernel
theorem dX8_refuse_11 : decode cX8_refuse 11 = .ok (.iload_n 1, 1) := by decide +kernel
theorem dX8_refuse_12 : decode cX8_refuse 12 = .ok (.imul, 1) := by decide +kernel
theorem dX8_refuse_13 : decode cX8_refuse 13 = .ok (.iadd, 1) := by decide +kernel
theorem dX8_refuse_14 : decode cX8_refuse 14 = .ok (.iload_n 2, 1) := by decide +kernel
theorem dX8_refuse_15 : decode cX8_refuse 15 = .ok (.iadd, 1) := by decide +kernel
theorem dX8_refuse_16 : decode cX8_refuse 16 = .ok (.putfield 25, 3) := by decide +kernel
theorem dX8_refuse_19 : decode cX8_refuse 19 = .ok (.iconst 0, 1) := by decide +kernel
theorem dX8_refuse_20 : decode cX8_refuse 20 = .ok (.ireturn, 1) := by decide +kernel
theorem dX8_rewind_0 : decode cX8_rewind 0 = .ok (.aload_n 0, 1) := by decide +kernel
theorem dX8_rewind_1 : decode cX8_rewind 1 = .ok (.iconst 0, 1) := by decide +kernel
theorem dX8_rewind_2 : decode cX8_rewind 2 = .ok (.putfield 25, 3) := by decide +kernel
theorem dX8_rewind_5 : decode cX8_rewind 5 = .ok (.aload_n 0, 1) := by decide +kernel
theorem dX8_rewind_6 : decode cX8_rewind 6 = .ok (.iconst 0, 1) := by decide +kernel
theorem dX8_rewind_7 : decode cX8_rewind 7 = .ok (.invokevirtual 28, 3) := by decide +kernel
theorem dX8_rewind_10 : decode cX8_rewind 10 = .ok (.return_, 1) := by decide +kernel
theorem dX8_size_0 : decode cX8_size 0 = .ok (.aload_n 0, 1) := by decide +kernel
theorem dX8_size_1 : decode cX8_size 1 = .ok (.getfield 15, 3) := by decide +kernel
theorem dX8_size_4 : decode cX8_size 4 = .ok (.ireturn, 1) := by decide +kernel
end
section
set_option maxHeartbeats 4000000 in
set_option maxRecDepth 100000 in
theorem c_Tape_size (l : Launch) (G : gg_T) (sz : Nat) (t : Nat) (b : Nat) (n : Int32) (at_ : Int32) (w : Int32) (fl : Int32) : Met l yX8_size (ts_L yX8_size cX8_size 1 (some .int)) ({ frames := 0, cells := 0, slots := 0, locals := 0 }) (gc_P G [(t, .inr (8, [.ref b, .int n, .int at_, .int w, .int fl]))] sz [.ref t]) (gc_I G (va_A [(t, .inr (8, [.ref b, .int n, .int at_, .int w, .int fl]))] sz) (fun r (_ : Unit) => r = n) (fun _ => [(t, .inr (8, [.ref b, .int n, .int at_, .int w, .int fl]))])) 0 0 (va_A [(t, .inr (8, [.ref b, .int n, .int at_, .int w, .int fl]))] sz) := by
  refine Met.ofW (cc := cX8_size) (maxL := 1) (ret := (some .int)) (by decide) rfl ?_
  intro p e s m args below meth c s₁ B hml hv
  obtain ⟨rfl, hsz, hP, hK, hD0⟩ := hv
  have hx := B.exec
  have hb := B.bytes
  have hr := B.returns
  have ht := ts_ht (atoms_spec (ws := ts_L yX8_size cX8_size 1 (some .int)) B.pre)
  have hown : s.vm.findClass RX8 = some m.cls := findClass_of_methodNamed B.named
  have hlocks := B.notSynchronized
  subst hsz
  have hD := hD0.self (sz := s.heap.size)
  generalize hAe : va_A [(t, .inr (8, [.ref b, .int n, .int at_, .int w, .int fl]))] s.heap.size = A at hD ⊢
  have hA : ∀ q : Nat, s.heap.size ≤ q → A q := fun q h => by rw [← hAe]; exact Or.inr h
  have hS : va_S A s.heap s.heap [] := va_S.rf
  have hl := lv_entry ([.ref t]) (n := 1) (Nat.le_of_ble_eq_true rfl)
  rw [lg_entry_eq]
  generalize (lg_sl ([.ref t]) ++ List.replicate (1 - (lg_sl ([.ref t])).length) Slot.unset).toArray = ls at hl ⊢
  have hl : lv_has ls 1 [(0, .ref t)] := hl
  refine lv_aload_n hx hb dX8_size_0 rfl (lv_at hl 0 rfl) ?_
  refine gq_get hx hb ht hown hK hP i_X8 0 rfl rfl 1 (by decide) wd_157 rfl rfl dX8_size_1 ?_
  have hP9 := hP.sub (ws' := [(t, .inr (8, [.ref b, .int n, .int at_, .int w, .int fl]))]) [0] rfl
  have hD9 := hD.sub (ws' := [(t, .inr (8, [.ref b, .int n, .int at_, .int w, .int fl]))]) [0] (by decide) rfl
  exact W.iret (v := n) hx hb hr (gq_endI () rfl hP9 hD9 hS) hS.2.2 dX8_size_4
set_option maxHeartbeats 4000000 in
set_option maxRecDepth 100000 in
theorem c_Tape_place (l : Launch) (G : gg_T) (sz : Nat) (t : Nat) (b : Nat) (n : Int32) (at_ : Int32) (w : Int32) (fl : Int32) : Met l yX8_place (ts_L yX8_place cX8_place 1 (some .int)) ({ frames := 0, cells := 0, slots := 0, locals := 0 }) (gc_P G [(t, .inr (8, [.ref b, .int n, .int at_, .int w, .int fl]))] sz [.ref t]) (gc_I G (va_A [(t, .inr (8, [.ref b, .int n, .int at_, .int w, .int fl]))] sz) (fun r (_ : Unit) => r = at_) (fun _ => [(t, .inr (8, [.ref b, .int n, .int at_, .int w, .int fl]))])) 0 0 (va_A [(t, .inr (8, [.ref b, .int n, .int at_, .int w, .int fl]))] sz) := by
  refine Met.ofW (cc := cX8_place) (maxL := 1) (ret := (some .int)) (by decide) rfl ?_
  intro p e s m args below meth c s₁ B hml hv
  obtain ⟨rfl, hsz, hP, hK, hD0⟩ := hv
  have hx := B.exec
  have hb := B.bytes
  have hr := B.returns
  have ht := ts_ht (atoms_spec (ws := ts_L yX8_place cX8_place 1 (some .int)) B.pre)
  have hown : s.vm.findClass RX8 = some m.cls := findClass_of_methodNamed B.named
  have hlocks := B.notSynchronized
  subst hsz
  have hD := hD0.self (sz := s.heap.size)
  generalize hAe : va_A [(t, .inr (8, [.ref b, .int n, .int at_, .int w, .int fl]))] s.heap.size = A at hD ⊢
  have hA : ∀ q : Nat, s.heap.size ≤ q → A q := fun q h => by rw [← hAe]; exact Or.inr h
  have hS : va_S A s.heap s.heap [] := va_S.rf
  have hl := lv_entry ([.ref t]) (n := 1) (Nat.le_of_ble_eq_true rfl)
  rw [lg_entry_eq]
  generalize (lg_sl ([.ref t]) ++ List.replicate (1 - (lg_sl ([.ref t])).length) Slot.unset).toArray = ls at hl ⊢
  have hl : lv_has ls 1 [(0, .ref t)] := hl
  refine lv_aload_n hx hb dX8_place_0 rfl (lv_at hl 0 rfl) ?_
  refine gq_get hx hb ht hown hK hP i_X8 0 rfl rfl 2 (by decide) wd_158 rfl rfl dX8_place_1 ?_
  have hP9 := hP.sub (ws' := [(t, .inr (8, [.ref b, .int n, .int at_, .int w, .int fl]))]) [0] rfl
  have hD9 := hD.sub (ws' := [(t, .inr (8, [.ref b, .int n, .int at_, .int w, .int fl]))]) [0] (by decide) rfl
  exact W.iret (v := at_) hx hb hr (gq_endI () rfl hP9 hD9 hS) hS.2.2 dX8_place_4
set_option maxHeartbeats 4000000 in
set_option maxRecDepth 100000 in
theorem c_Tape_firstFault (l : Launch) (G : gg_T) (sz : Nat) (t : Nat) (b : Nat) (n : Int32) (at_ : Int32) (w : Int32) (fl : Int32) : Met l yX8_firstFault (ts_L yX8_firstFault cX8_firstFault 1 (some .int)) ({ frames := 0, cells := 0, slots := 0, locals := 0 }) (gc_P G [(t, .inr (8, [.ref b, .int n, .int at_, .int w, .int fl]))] sz [.ref t]) (gc_I G (va_A [(t, .inr (8, [.ref b, .int n, .int at_, .int w, .int fl]))] sz) (fun r (_ : Unit) => r = fl) (fun _ => [(t, .inr (8, [.ref b, .int n, .int at_, .int w, .int fl]))])) 0 0 (va_A [(t, .inr (8, [.ref b, .int n, .int at_, .int w, .int fl]))] sz) := by
  refine Met.ofW (cc := cX8_firstFault) (maxL := 1) (ret := (some .int)) (by decide) rfl ?_
  intro p e s m args below meth c s₁ B hml hv
  obtain ⟨rfl, hsz, hP, hK, hD0⟩ := hv
  have hx := B.exec
  have hb := B.bytes
  have hr := B.returns
  have ht := ts_ht (atoms_spec (ws := ts_L yX8_firstFault cX8_firstFault 1 (some .int)) B.pre)
  have hown : s.vm.findClass RX8 = some m.cls := findClass_of_methodNamed B.named
  have hlocks := B.notSynchronized
  subst hsz
  have hD := hD0.self (sz := s.heap.size)
  generalize hAe : va_A [(t, .inr (8, [.ref b, .int n, .int at_, .int w, .int fl]))] s.heap.size = A at hD ⊢
  have hA : ∀ q : Nat, s.heap.size ≤ q → A q := fun q h => by rw [← hAe]; exact Or.inr h
  have hS : va_S A s.heap s.heap [] := va_S.rf
  have hl := lv_entry ([.ref t]) (n := 1) (Nat.le_of_ble_eq_true rfl)
  rw [lg_entry_eq]
  generalize (lg_sl ([.ref t]) ++ List.replicate (1 - (lg_sl ([.ref t])).length) Slot.unset).toArray = ls at hl ⊢
  have hl : lv_has ls 1 [(0, .ref t)] := hl
  refine lv_aload_n hx hb dX8_firstFault_0 rfl (lv_at hl 0 rfl) ?_
  refine gq_get hx hb ht hown hK hP i_X8 0 rfl rfl 4 (by decide) wd_160 rfl rfl dX8_firstFault_1 ?_
  have hP9 := hP.sub (ws' := [(t, .inr (8, [.ref b, .int n, .int at_, .int w, .int fl]))]) [0] rfl
  have hD9 := hD.sub (ws' := [(t, .inr (8, [.ref b, .int n, .int at_, .int w, .int fl]))]) [0] (by decide) rfl
  exact W.iret (v := fl) hx hb hr (gq_endI () rfl hP9 hD9 hS) hS.2.2 dX8_firstFault_4
set_option maxHeartbeats 4000000 in
set_option maxRecDepth 100000 in
theorem c_Tape_cut0 (l : Launch) (G : gg_T) (sz : Nat) (t : Nat) (b : Nat) (at_ : Int32) (w : Int32) (fl : Int32) : Met l yX8_cut (ts_L yX8_cut cX8_cut 2 none) ({ frames := 0, cells := 0, slots := 0, locals := 0 }) (gc_P G [(t, .inr (8, [.ref b, .int 0, .int at_, .int w, .int fl]))] sz [.ref t, .int 0]) (gc_V G (va_A [(t, .inr (8, [.ref b, .int 0, .int at_, .int w, .int fl]))] sz) (fun (_ : Unit) => True) (fun _ => [(t, .inr (8, [.ref b, .int 0, .int at_, .int w, .int fl]))])) 0 0 (va_A [(t, .inr (8, [.ref b, .int 0, .int at_, .int w, .int fl]))] sz) := by
  refine Met.ofW (cc := cX8_cut) (maxL := 2) (ret := none) (by decide) rfl ?_
  intro p e s m args below meth c s₁ B hml hv
  obtain ⟨rfl, hsz, hP, hK, hD0⟩ := hv
  have hx := B.exec
  have hb := B.bytes
  have hr := B.returns
  have ht := ts_ht (atoms_spec (ws := ts_L yX8_cut cX8_cut 2 none) B.pre)
  have hown : s.vm.findClass RX8 = some m.cls := findClass_of_methodNamed B.named
  have hlocks := B.notSynchronized
  subst hsz
  have hD := hD0.self (sz := s.heap.size)
  generalize hAe : va_A [(t, .inr (8, [.ref b, .int 0, .int at_, .int w, .int fl]))] s.heap.size = A at hD ⊢
  have hA : ∀ q : Nat, s.heap.size ≤ q → A q := fun q h => by rw [← hAe]; exact Or.inr h
  have hS : va_S A s.heap s.heap [] := va_S.rf
  have hl := lv_entry ([.ref t, .int 0]) (n := 2) (Nat.le_of_ble_eq_true rfl)
  rw [lg_entry_eq]
  generalize (lg_sl ([.ref t, .int 0]) ++ List.replicate (2 - (lg_sl ([.ref t, .int 0])).length) Slot.unset).toArray = ls at hl ⊢
  have hl : lv_has ls 2 [(0, .ref t), (1, .int 0)] := hl
  refine lv_iload_n hx hb dX8_cut_0 rfl (lv_at hl 1 rfl) ?_
  refine lv_if_lt (tgt := 17) hx hb dX8_cut_1 (by decide) (fun c0 => absurd c0 (by decide +kernel)) (fun _ => ?_)
  refine lv_iload_n hx hb dX8_cut_4 rfl (lv_at hl 1 rfl) ?_
  refine lv_aload_n hx hb dX8_cut_5 rfl (lv_at hl 0 rfl) ?_
  refine gq_get hx hb ht hown hK hP i_X8 0 rfl rfl 1 (by decide) wd_157 rfl rfl dX8_cut_6 ?_
  refine lv_icmp_gt (tgt := 17) hx hb dX8_cut_9 (by decide) (fun c0 => absurd c0 (by decide +kernel)) (fun _ => ?_)
  refine lv_aload_n hx hb dX8_cut_12 rfl (lv_at hl 0 rfl) ?_
  refine lv_iload_n hx hb dX8_cut_13 rfl (lv_at hl 1 rfl) ?_
  refine gq_put (ws' := [(t, .inr (8, [.ref b, .int 0, .int at_, .int w, .int fl]))]) hx hb ht hown hK hP hD hS i_X8 tyX8 tyX8_ok nmX8 0 rfl rfl 1 (by decide) wd_157 rfl rfl rfl rfl (by decide) rfl dX8_cut_14 (fun H locs hP hD hS => ?_)
  have hP9 := hP.sub (ws' := [(t, .inr (8, [.ref b, .int 0, .int at_, .int w, .int fl]))]) [0] rfl
  have hD9 := hD.sub (ws' := [(t, .inr (8, [.ref b, .int 0, .int at_, .int w, .int fl]))]) [0] (by decide) rfl
  exact W.vret hx hb hr (gq_endV () trivial hP9 hD9 hS) hS.2.2 dX8_cut_17
set_option maxHeartbeats 4000000 in
set_option maxRecDepth 100000 in
theorem c_Tape_goTo0 (l : Launch) (G : gg_T) (sz : Nat) (t : Nat) (b : Nat) (at_ : Int32) (w : Int32) (fl : Int32) : Met l yX8_goTo (ts_L yX8_goTo cX8_goTo 2 none) ({ frames := 0, cells := 0, slots := 0, locals := 0 }) (gc_P G [(t, .inr (8, [.ref b, .int 0, .int at_, .int w, .int fl]))] sz [.ref t, .int 0]) (gc_V G (va_A [(t, .inr (8, [.ref b, .int 0, .int at_, .int w, .int fl]))] sz) (fun (_ : Unit) => True) (fun _ => [(t, .inr (8, [.ref b, .int 0, .int 0, .int 0, .int fl]))])) 0 0 (va_A [(t, .inr (8, [.ref b, .int 0, .int at_, .int w, .int fl]))] sz) := by
  refine Met.ofW (cc := cX8_goTo) (maxL := 2) (ret := none) (by decide) rfl ?_
  intro p e s m args below meth c s₁ B hml hv
  obtain ⟨rfl, hsz, hP, hK, hD0⟩ := hv
  have hx := B.exec
  have hb := B.bytes
  have hr := B.returns
  have ht := ts_ht (atoms_spec (ws := ts_L yX8_goTo cX8_goTo 2 none) B.pre)
  have hown : s.vm.findClass RX8 = some m.cls := findClass_of_methodNamed B.named
  have hlocks := B.notSynchronized
  subst hsz
  have hD := hD0.self (sz := s.heap.size)
  generalize hAe : va_A [(t, .inr (8, [.ref b, .int 0, .int at_, .int w, .int fl]))] s.heap.size = A at hD ⊢
  have hA : ∀ q : Nat, s.heap.size ≤ q → A q := fun q h => by rw [← hAe]; exact Or.inr h
  have hS : va_S A s.heap s.heap [] := va_S.rf
  have hl := lv_entry ([.ref t, .int 0]) (n := 2) (Nat.le_of_ble_eq_true rfl)
  rw [lg_entry_eq]
  generalize (lg_sl ([.ref t, .int 0]) ++ List.replicate (2 - (lg_sl ([.ref t, .int 0])).length) Slot.unset).toArray = ls at hl ⊢
  have hl : lv_has ls 2 [(0, .ref t), (1, .int 0)] := hl
  refine lv_aload_n hx hb dX8_goTo_0 rfl (lv_at hl 0 rfl) ?_
  refine lv_iload_n hx hb dX8_goTo_1 rfl (lv_at hl 1 rfl) ?_
  refine gq_put (ws' := [(t, .inr (8, [.ref b, .int 0, .int 0, .int w, .int fl]))]) hx hb ht hown hK hP hD hS i_X8 tyX8 tyX8_ok nmX8 0 rfl rfl 2 (by decide) wd_158 rfl rfl rfl rfl (by decide) rfl dX8_goTo_2 (fun H locs hP hD hS => ?_)
  refine lv_aload_n hx hb dX8_goTo_5 rfl (lv_at hl 0 rfl) ?_
  refine gq_get hx hb ht hown hK hP i_X8 0 rfl rfl 2 (by decide) wd_158 rfl rfl dX8_goTo_6 ?_
  refine lv_aload_n hx hb dX8_goTo_9 rfl (lv_at hl 0 rfl) ?_
  refine gq_get hx hb ht hown hK hP i_X8 0 rfl rfl 1 (by decide) wd_157 rfl rfl dX8_goTo_10 ?_
  refine lv_icmp_ge (tgt := 43) hx hb dX8_goTo_13 (by decide) (fun _ => ?_) (fun c0 => absurd (by decide +kernel) c0)
  refine lv_aload_n hx hb dX8_goTo_43 rfl (lv_at hl 0 rfl) ?_
  refine lv_iconst (v := 0) hx hb dX8_goTo_44 (by decide) ?_
  refine gq_put (ws' := [(t, .inr (8, [.ref b, .int 0, .int 0, .int 0, .int fl]))]) hx hb ht hown hK hP hD hS i_X8 tyX8 tyX8_ok nmX8 0 rfl rfl 3 (by decide) wd_159 rfl rfl rfl rfl (by decide) rfl dX8_goTo_45 (fun H locs hP hD hS => ?_)
  refine lv_aload_n hx hb dX8_goTo_48 rfl (lv_at hl 0 rfl) ?_
  refine gq_get hx hb ht hown hK hP i_X8 0 rfl rfl 2 (by decide) wd_158 rfl rfl dX8_goTo_49 ?_
  refine lv_aload_n hx hb dX8_goTo_52 rfl (lv_at hl 0 rfl) ?_
  refine gq_get hx hb ht hown hK hP i_X8 0 rfl rfl 3 (by decide) wd_159 rfl rfl dX8_goTo_53 ?_
  refine gq_iadd hx hb 0 (by decide +kernel) dX8_goTo_56 ?_
  refine lv_aload_n hx hb dX8_goTo_57 rfl (lv_at hl 0 rfl) ?_
  refine gq_get hx hb ht hown hK hP i_X8 0 rfl rfl 1 (by decide) wd_157 rfl rfl dX8_goTo_58 ?_
  refine lv_icmp_ge (tgt := 115) hx hb dX8_goTo_61 (by decide) (fun _ => ?_) (fun c0 => absurd (by decide +kernel) c0)
  have hP9 := hP.sub (ws' := [(t, .inr (8, [.ref b, .int 0, .int 0, .int 0, .int fl]))]) [0] rfl
  have hD9 := hD.sub (ws' := [(t, .inr (8, [.ref b, .int 0, .int 0, .int 0, .int fl]))]) [0] (by decide) rfl
  exact W.vret hx hb hr (gq_endV () trivial hP9 hD9 hS) hS.2.2 dX8_goTo_115
set_option maxHeartbeats 4000000 in
set_option maxRecDepth 100000 in
theorem c_Tape_rewind (l : Launch) (G : gg_T) (sz : Nat) (t : Nat) (b : Nat) (at_ : Int32) (w : Int32) (fl : Int32) : Met l yX8_rewind (ts_L yX8_rewind cX8_rewind 1 none) ({ frames := 1, cells := 0, slots := 0, locals := 21 }) (gc_P G [(t, .inr (8, [.ref b, .int 0, .int at_, .int w, .int fl]))] sz [.ref t]) (gc_V G (va_A [(t, .inr (8, [.ref b, .int 0, .int at_, .int w, .int fl]))] sz) (fun (_ : Unit) => True) (fun _ => [(t, .inr (8, [.ref b, .int 0, .int 0, .int 0, .int 0]))])) 0 0 (va_A [(t, .inr (8, [.ref b, .int 0, .int at_, .int w, .int fl]))] sz) := by
  refine Met.ofW (cc := cX8_rewind) (maxL := 1) (ret := none) (by decide) rfl ?_
  intro p e s m args below meth c s₁ B hml hv
  obtain ⟨rfl, hsz, hP, hK, hD0⟩ := hv
  have hx := B.exec
  have hb := B.bytes
  have hr := B.returns
  have ht := ts_ht (atoms_spec (ws := ts_L yX8_rewind cX8_rewind 1 none) B.pre)
  have hown : s.vm.findClass RX8 = some m.cls := findClass_of_methodNamed B.named
  have hlocks := B.notSynchronized
  subst hsz
  have hD := hD0.self (sz := s.heap.size)
  generalize hAe : va_A [(t, .inr (8, [.ref b, .int 0, .int at_, .int w, .int fl]))] s.heap.size = A at hD ⊢
  have hA : ∀ q : Nat, s.heap.size ≤ q → A q := fun q h => by rw [← hAe]; exact Or.inr h
  have hS : va_S A s.heap s.heap [] := va_S.rf
  have hl := lv_entry ([.ref t]) (n := 1) (Nat.le_of_ble_eq_true rfl)
  rw [lg_entry_eq]
  generalize (lg_sl ([.ref t]) ++ List.replicate (1 - (lg_sl ([.ref t])).length) Slot.unset).toArray = ls at hl ⊢
  have hl : lv_has ls 1 [(0, .ref t)] := hl
  refine lv_aload_n hx hb dX8_rewind_0 rfl (lv_at hl 0 rfl) ?_
  refine lv_iconst (v := 0) hx hb dX8_rewind_1 (by decide) ?_
  refine gq_put (ws' := [(t, .inr (8, [.ref b, .int 0, .int at_, .int w, .int 0]))]) hx hb ht hown hK hP hD hS i_X8 tyX8 tyX8_ok nmX8 0 rfl rfl 4 (by decide) wd_160 rfl rfl rfl rfl (by decide) rfl dX8_rewind_2 (fun H locs hP hD hS => ?_)
  refine lv_aload_n hx hb dX8_rewind_5 rfl (lv_at hl 0 rfl) ?_
  refine lv_iconst (v := 0) hx hb dX8_rewind_6 (by decide) ?_
  have hPc := hP.sub (ws' := [(t, .inr (8, [.ref b, .int 0, .int at_, .int w, .int 0]))]) [0] rfl
  have hDc := hD.sub (ws' := [(t, .inr (8, [.ref b, .int 0, .int at_, .int w, .int 0]))]) [0] (by decide) rfl
  refine gq_callV (wr := []) (va_runV (As := [.int 0]) (rest := []) ⟨hx, hb, hml, hown, ht⟩ (c_Tape_goTo0 l G H.size t b at_ w 0) (cwV 1 ht (ts_gV wd_578 wd_580 wd_0 wd_123 wd_581) rfl rfl rfl (by decide +kernel) ⟨Nat.le_of_ble_eq_true rfl, Nat.le_of_ble_eq_true rfl⟩) (gc_preV (ci := 8) (q0 := 0) hK hPc hDc rfl rfl) rfl rfl hl.1 rfl (lv_room (Nat.le_of_ble_eq_true rfl)) dX8_rewind_7 ⟨Nat.le_of_ble_eq_true rfl, Nat.le_of_ble_eq_true rfl⟩) hP hD hS hA [0] [] rfl rfl (by decide) (by decide) (fun u H locs hw hP hD hS => ?_)
  have hP : va_P (gg_D G) classes [(t, .inr (8, [.ref b, .int 0, .int 0, .int 0, .int 0]))] H := hP
  have hD : va_D A [(t, .inr (8, [.ref b, .int 0, .int 0, .int 0, .int 0]))] := hD
  have hP9 := hP.sub (ws' := [(t, .inr (8, [.ref b, .int 0, .int 0, .int 0, .int 0]))]) [0] rfl
  have hD9 := hD.sub (ws' := [(t, .inr (8, [.ref b, .int 0, .int 0, .int 0, .int 0]))]) [0] (by decide) rfl
  exact W.vret hx hb hr (gq_endV () trivial hP9 hD9 hS) hS.2.2 dX8_rewind_10
set_option maxHeartbeats 4000000 in
set_option maxRecDepth 100000 in
theorem c_Tape_refuse0 (l : Launch) (G : gg_T) (sz : Nat) (t : Nat) (b : Nat) : Met l yX8_refuse (ts_L yX8_refuse cX8_refuse 3 (some .boolean)) ({ frames := 0, cells := 0, slots := 0, locals := 0 }) (gc_P G [(t, .inr (8, [.ref b, .int 0, .int 0, .int 0, .int 0]))] sz [.ref t, .int 0, .int 0]) (gc_I G (va_A [(t, .inr (8, [.ref b, .int 0, .int 0, .int 0, .int 0]))] sz) (fun r (_ : Unit) => r = 0) (fun _ => [(t, .inr (8, [.ref b, .int 0, .int 0, .int 0, .int 1]))])) 0 0 (va_A [(t, .inr (8, [.ref b, .int 0, .int 0, .int 0, .int 0]))] sz) := by
  refine Met.ofW (cc := cX8_refuse) (maxL := 3) (ret := (some .boolean)) (by decide) rfl ?_
  intro p e s m args below meth c s₁ B hml hv
  obtain ⟨rfl, hsz, hP, hK, hD0⟩ := hv
  have hx := B.exec
  have hb := B.bytes
  have hr := B.returns
  have ht := ts_ht (atoms_spec (ws := ts_L yX8_refuse cX8_refuse 3 (some .boolean)) B.pre)
  have hown : s.vm.findClass RX8 = some m.cls := findClass_of_methodNamed B.named
  have hlocks := B.notSynchronized
  subst hsz
  have hD := hD0.self (sz := s.heap.size)
  generalize hAe : va_A [(t, .inr (8, [.ref b, .int 0, .int 0, .int 0, .int 0]))] s.heap.size = A at hD ⊢
  have hA : ∀ q : Nat, s.heap.size ≤ q → A q := fun q h => by rw [← hAe]; exact Or.inr h
  have hS : va_S A s.heap s.heap [] := va_S.rf
  have hl := lv_entry ([.ref t, .int 0, .int 0]) (n := 3) (Nat.le_of_ble_eq_true rfl)
  rw [lg_entry_eq]
  generalize (lg_sl ([.ref t, .int 0, .int 0]) ++ List.replicate (3 - (lg_sl ([.ref t, .int 0, .int 0])).length) Slot.unset).toArray = ls at hl ⊢
  have hl : lv_has ls 3 [(0, .ref t), (1, .int 0), (2, .int 0)] := hl
  refine lv_aload_n hx hb dX8_refuse_0 rfl (lv_at hl 0 rfl) ?_
  refine gq_get hx hb ht hown hK hP i_X8 0 rfl rfl 4 (by decide) wd_160 rfl rfl dX8_refuse_1 ?_
  refine lv_if_ne (tgt := 19) hx hb dX8_refuse_4 (by decide) (fun c0 => absurd c0 (by decide +kernel)) (fun _ => ?_)
  refine lv_aload_n hx hb dX8_refuse_7 rfl (lv_at hl 0 rfl) ?_
  refine lv_iconst (v := 1) hx hb dX8_refuse_8 (by decide) ?_
  refine lv_bipush (v := 8) hx hb dX8_refuse_9 (by decide +kernel) ?_
  refine lv_iload_n hx hb dX8_refuse_11 rfl (lv_at hl 1 rfl) ?_
  refine gq_imul hx hb 0 (by decide +kernel) dX8_refuse_12 ?_
  refine gq_iadd hx hb 1 (by decide +kernel) dX8_refuse_13 ?_
  refine lv_iload_n hx hb dX8_refuse_14 rfl (lv_at hl 2 rfl) ?_
  refine gq_iadd hx hb 1 (by decide +kernel) dX8_refuse_15 ?_
  refine gq_put (ws' := [(t, .inr (8, [.ref b, .int 0, .int 0, .int 0, .int 1]))]) hx hb ht hown hK hP hD hS i_X8 tyX8 tyX8_ok nmX8 0 rfl rfl 4 (by decide) wd_160 rfl rfl rfl rfl (by decide) rfl dX8_refuse_16 (fun H locs hP hD hS => ?_)
  refine lv_iconst (v := 0) hx hb dX8_refuse_19 (by decide) ?_
  have hP9 := hP.sub (ws' := [(t, .inr (8, [.ref b, .int 0, .int 0, .int 0, .int 1]))]) [0] rfl
  have hD9 := hD.sub (ws' := [(t, .inr (8, [.ref b, .int 0, .int 0, .int 0, .int 1]))]) [0] (by decide) rfl
  exact W.zret (v := 0) hx hb hr (by decide +kernel) (gq_endI () rfl hP9 hD9 hS) hS.2.2 dX8_refuse_20
end
