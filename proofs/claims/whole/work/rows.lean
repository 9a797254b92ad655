section
-- ===== PART A: goes FIRST, ahead of the names: the tables' words, and 'selects' of the private methods out of them =====
/-- a private method of a class that the tables say can be made, by its rows of tables_1 -/
def lw_okq (q : MethodName × Nat) : Prop := (q.1.cls ≠ "java/lang/invoke/MethodHandle" ∧ q.1.cls ≠ "java/lang/invoke/VarHandle") ∧ Cond.instantiable q.1.cls q.2 ∈ tables_1 ∧ Cond.privateMethod q.1 ∈ tables_1 ∧ Cond.instanceMethod q.1 ∈ tables_1
theorem lw_p0 : lw_okq (⟨"PointsForAll", "comesFrom", "(II)Z"⟩, 9) := ⟨⟨by decide +kernel, by decide +kernel⟩, List.mem_of_getElem? (i := 16) (by decide +kernel), List.mem_of_getElem? (i := 345) (by decide +kernel), List.mem_of_getElem? (i := 346) (by decide +kernel)⟩
theorem lw_p1 : lw_okq (⟨"PointsForAll$History", "note", "(IIII)V"⟩, 7) := ⟨⟨by decide +kernel, by decide +kernel⟩, List.mem_of_getElem? (i := 50) (by decide +kernel), List.mem_of_getElem? (i := 373) (by decide +kernel), List.mem_of_getElem? (i := 374) (by decide +kernel)⟩
theorem lw_p2 : lw_okq (⟨"PointsForAll$History", "dropFirst", "()V"⟩, 7) := ⟨⟨by decide +kernel, by decide +kernel⟩, List.mem_of_getElem? (i := 50) (by decide +kernel), List.mem_of_getElem? (i := 377) (by decide +kernel), List.mem_of_getElem? (i := 378) (by decide +kernel)⟩
theorem lw_p3 : lw_okq (⟨"PointsForAll$Tape", "readLine", "()Z"⟩, 5) := ⟨⟨by decide +kernel, by decide +kernel⟩, List.mem_of_getElem? (i := 79) (by decide +kernel), List.mem_of_getElem? (i := 428) (by decide +kernel), List.mem_of_getElem? (i := 429) (by decide +kernel)⟩
theorem lw_p4 : lw_okq (⟨"PointsForAll$Tape", "readLevel", "(II)Z"⟩, 5) := ⟨⟨by decide +kernel, by decide +kernel⟩, List.mem_of_getElem? (i := 79) (by decide +kernel), List.mem_of_getElem? (i := 432) (by decide +kernel), List.mem_of_getElem? (i := 433) (by decide +kernel)⟩
theorem lw_p5 : lw_okq (⟨"PointsForAll$Tape", "readOne", "(I)Z"⟩, 5) := ⟨⟨by decide +kernel, by decide +kernel⟩, List.mem_of_getElem? (i := 79) (by decide +kernel), List.mem_of_getElem? (i := 436) (by decide +kernel), List.mem_of_getElem? (i := 437) (by decide +kernel)⟩
theorem lw_p6 : lw_okq (⟨"PointsForAll$Tape", "here", "()I"⟩, 5) := ⟨⟨by decide +kernel, by decide +kernel⟩, List.mem_of_getElem? (i := 79) (by decide +kernel), List.mem_of_getElem? (i := 440) (by decide +kernel), List.mem_of_getElem? (i := 441) (by decide +kernel)⟩
theorem lw_p7 : lw_okq (⟨"PointsForAll$Tape", "readNumber", "()V"⟩, 5) := ⟨⟨by decide +kernel, by decide +kernel⟩, List.mem_of_getElem? (i := 79) (by decide +kernel), List.mem_of_getElem? (i := 445) (by decide +kernel), List.mem_of_getElem? (i := 446) (by decide +kernel)⟩
theorem lw_p8 : lw_okq (⟨"PointsForAll$Tape", "write", "(I)V"⟩, 5) := ⟨⟨by decide +kernel, by decide +kernel⟩, List.mem_of_getElem? (i := 79) (by decide +kernel), List.mem_of_getElem? (i := 449) (by decide +kernel), List.mem_of_getElem? (i := 450) (by decide +kernel)⟩
theorem lw_p9 : lw_okq (⟨"PointsForAll$Tape", "readInside", "(I)Z"⟩, 5) := ⟨⟨by decide +kernel, by decide +kernel⟩, List.mem_of_getElem? (i := 79) (by decide +kernel), List.mem_of_getElem? (i := 456) (by decide +kernel), List.mem_of_getElem? (i := 457) (by decide +kernel)⟩
theorem lw_p10 : lw_okq (⟨"PointsForAll$Tape", "readSigned", "(II)Z"⟩, 5) := ⟨⟨by decide +kernel, by decide +kernel⟩, List.mem_of_getElem? (i := 79) (by decide +kernel), List.mem_of_getElem? (i := 460) (by decide +kernel), List.mem_of_getElem? (i := 461) (by decide +kernel)⟩
theorem lw_p11 : lw_okq (⟨"PointsForAll$Wants", "pop", "()I"⟩, 6) := ⟨⟨by decide +kernel, by decide +kernel⟩, List.mem_of_getElem? (i := 102) (by decide +kernel), List.mem_of_getElem? (i := 521) (by decide +kernel), List.mem_of_getElem? (i := 522) (by decide +kernel)⟩
theorem lw_p12 : lw_okq (⟨"PointsForAll$Wants", "doStep", "(I)V"⟩, 6) := ⟨⟨by decide +kernel, by decide +kernel⟩, List.mem_of_getElem? (i := 102) (by decide +kernel), List.mem_of_getElem? (i := 525) (by decide +kernel), List.mem_of_getElem? (i := 526) (by decide +kernel)⟩
theorem lw_p13 : lw_okq (⟨"PointsForAll$Wants", "push", "(I)V"⟩, 6) := ⟨⟨by decide +kernel, by decide +kernel⟩, List.mem_of_getElem? (i := 102) (by decide +kernel), List.mem_of_getElem? (i := 529) (by decide +kernel), List.mem_of_getElem? (i := 530) (by decide +kernel)⟩
theorem lw_p14 : lw_okq (⟨"PointsForAll$Thought", "compare", "(IIII)V"⟩, 13) := ⟨⟨by decide +kernel, by decide +kernel⟩, List.mem_of_getElem? (i := 128) (by decide +kernel), List.mem_of_getElem? (i := 562) (by decide +kernel), List.mem_of_getElem? (i := 563) (by decide +kernel)⟩
theorem lw_p15 : lw_okq (⟨"PointsForAll$Market", "keepLeast", "()V"⟩, 8) := ⟨⟨by decide +kernel, by decide +kernel⟩, List.mem_of_getElem? (i := 183) (by decide +kernel), List.mem_of_getElem? (i := 619) (by decide +kernel), List.mem_of_getElem? (i := 620) (by decide +kernel)⟩
def lw_privs_1 : List (MethodName × Nat) := [(⟨"PointsForAll", "comesFrom", "(II)Z"⟩, 9), (⟨"PointsForAll$History", "note", "(IIII)V"⟩, 7), (⟨"PointsForAll$History", "dropFirst", "()V"⟩, 7), (⟨"PointsForAll$Tape", "readLine", "()Z"⟩, 5), (⟨"PointsForAll$Tape", "readLevel", "(II)Z"⟩, 5), (⟨"PointsForAll$Tape", "readOne", "(I)Z"⟩, 5), (⟨"PointsForAll$Tape", "here", "()I"⟩, 5), (⟨"PointsForAll$Tape", "readNumber", "()V"⟩, 5), (⟨"PointsForAll$Tape", "write", "(I)V"⟩, 5), (⟨"PointsForAll$Tape", "readInside", "(I)Z"⟩, 5), (⟨"PointsForAll$Tape", "readSigned", "(II)Z"⟩, 5), (⟨"PointsForAll$Wants", "pop", "()I"⟩, 6), (⟨"PointsForAll$Wants", "doStep", "(I)V"⟩, 6), (⟨"PointsForAll$Wants", "push", "(I)V"⟩, 6), (⟨"PointsForAll$Thought", "compare", "(IIII)V"⟩, 13), (⟨"PointsForAll$Market", "keepLeast", "()V"⟩, 8)]
theorem lw_r1 : ∀ q ∈ lw_privs_1, lw_okq q := List.forall_mem_cons.mpr ⟨lw_p0, List.forall_mem_cons.mpr ⟨lw_p1, List.forall_mem_cons.mpr ⟨lw_p2, List.forall_mem_cons.mpr ⟨lw_p3, List.forall_mem_cons.mpr ⟨lw_p4, List.forall_mem_cons.mpr ⟨lw_p5, List.forall_mem_cons.mpr ⟨lw_p6, List.forall_mem_cons.mpr ⟨lw_p7, List.forall_mem_cons.mpr ⟨lw_p8, List.forall_mem_cons.mpr ⟨lw_p9, List.forall_mem_cons.mpr ⟨lw_p10, List.forall_mem_cons.mpr ⟨lw_p11, List.forall_mem_cons.mpr ⟨lw_p12, List.forall_mem_cons.mpr ⟨lw_p13, List.forall_mem_cons.mpr ⟨lw_p14, List.forall_mem_cons.mpr ⟨lw_p15, fun _ h => absurd h List.not_mem_nil⟩⟩⟩⟩⟩⟩⟩⟩⟩⟩⟩⟩⟩⟩⟩⟩
theorem lw_p16 : lw_okq (⟨"PointsForAll$Market", "movePoints", "()Z"⟩, 8) := ⟨⟨by decide +kernel, by decide +kernel⟩, List.mem_of_getElem? (i := 183) (by decide +kernel), List.mem_of_getElem? (i := 625) (by decide +kernel), List.mem_of_getElem? (i := 626) (by decide +kernel)⟩
theorem lw_p17 : lw_okq (⟨"PointsForAll$Market", "faultOf", "(I)I"⟩, 8) := ⟨⟨by decide +kernel, by decide +kernel⟩, List.mem_of_getElem? (i := 183) (by decide +kernel), List.mem_of_getElem? (i := 666) (by decide +kernel), List.mem_of_getElem? (i := 667) (by decide +kernel)⟩
theorem lw_p18 : lw_okq (⟨"PointsForAll$Market", "toldOf", "(I)I"⟩, 8) := ⟨⟨by decide +kernel, by decide +kernel⟩, List.mem_of_getElem? (i := 183) (by decide +kernel), List.mem_of_getElem? (i := 675) (by decide +kernel), List.mem_of_getElem? (i := 676) (by decide +kernel)⟩
theorem lw_p19 : lw_okq (⟨"PointsForAll$Deals", "equalWorth", "()I"⟩, 5) := ⟨⟨by decide +kernel, by decide +kernel⟩, List.mem_of_getElem? (i := 217) (by decide +kernel), List.mem_of_getElem? (i := 732) (by decide +kernel), List.mem_of_getElem? (i := 733) (by decide +kernel)⟩
theorem lw_p20 : lw_okq (⟨"PointsForAll$Deals", "coinWorth", "(II)I"⟩, 5) := ⟨⟨by decide +kernel, by decide +kernel⟩, List.mem_of_getElem? (i := 217) (by decide +kernel), List.mem_of_getElem? (i := 742) (by decide +kernel), List.mem_of_getElem? (i := 743) (by decide +kernel)⟩
theorem lw_p21 : lw_okq (⟨"PointsForAll$Deals", "reachAll", "(I)V"⟩, 5) := ⟨⟨by decide +kernel, by decide +kernel⟩, List.mem_of_getElem? (i := 217) (by decide +kernel), List.mem_of_getElem? (i := 794) (by decide +kernel), List.mem_of_getElem? (i := 795) (by decide +kernel)⟩
theorem lw_p22 : lw_okq (⟨"PointsForAll$Purses", "run", "(IIII)I"⟩, 6) := ⟨⟨by decide +kernel, by decide +kernel⟩, List.mem_of_getElem? (i := 241) (by decide +kernel), List.mem_of_getElem? (i := 870) (by decide +kernel), List.mem_of_getElem? (i := 871) (by decide +kernel)⟩
theorem lw_p23 : lw_okq (⟨"PointsForAll$Purses", "runBody", "(IIII)I"⟩, 6) := ⟨⟨by decide +kernel, by decide +kernel⟩, List.mem_of_getElem? (i := 241) (by decide +kernel), List.mem_of_getElem? (i := 890) (by decide +kernel), List.mem_of_getElem? (i := 891) (by decide +kernel)⟩
theorem lw_p24 : lw_okq (⟨"PointsForAllModel", "adds", "(IIII)V"⟩, 55) := ⟨⟨by decide +kernel, by decide +kernel⟩, List.mem_of_getElem? (i := 968) (by decide +kernel), List.mem_of_getElem? (i := 1161) (by decide +kernel), List.mem_of_getElem? (i := 1162) (by decide +kernel)⟩
theorem lw_p25 : lw_okq (⟨"PointsForAllModel", "isThing", "(I)Z"⟩, 55) := ⟨⟨by decide +kernel, by decide +kernel⟩, List.mem_of_getElem? (i := 968) (by decide +kernel), List.mem_of_getElem? (i := 1178) (by decide +kernel), List.mem_of_getElem? (i := 1179) (by decide +kernel)⟩
theorem lw_p26 : lw_okq (⟨"PointsForAllModel", "becomes", "(II)I"⟩, 55) := ⟨⟨by decide +kernel, by decide +kernel⟩, List.mem_of_getElem? (i := 968) (by decide +kernel), List.mem_of_getElem? (i := 1183) (by decide +kernel), List.mem_of_getElem? (i := 1184) (by decide +kernel)⟩
theorem lw_p27 : lw_okq (⟨"PointsForAllModel", "isSort", "(I)Z"⟩, 55) := ⟨⟨by decide +kernel, by decide +kernel⟩, List.mem_of_getElem? (i := 968) (by decide +kernel), List.mem_of_getElem? (i := 1195) (by decide +kernel), List.mem_of_getElem? (i := 1196) (by decide +kernel)⟩
theorem lw_p28 : lw_okq (⟨"PointsForAllModel", "purseOf", "(I)I"⟩, 55) := ⟨⟨by decide +kernel, by decide +kernel⟩, List.mem_of_getElem? (i := 968) (by decide +kernel), List.mem_of_getElem? (i := 1204) (by decide +kernel), List.mem_of_getElem? (i := 1205) (by decide +kernel)⟩
theorem lw_p29 : lw_okq (⟨"PointsForAllModel", "pointsInAll", "(I)I"⟩, 55) := ⟨⟨by decide +kernel, by decide +kernel⟩, List.mem_of_getElem? (i := 968) (by decide +kernel), List.mem_of_getElem? (i := 1208) (by decide +kernel), List.mem_of_getElem? (i := 1209) (by decide +kernel)⟩
theorem lw_p30 : lw_okq (⟨"PointsForAllModel", "workOut", "(II)I"⟩, 55) := ⟨⟨by decide +kernel, by decide +kernel⟩, List.mem_of_getElem? (i := 968) (by decide +kernel), List.mem_of_getElem? (i := 1221) (by decide +kernel), List.mem_of_getElem? (i := 1222) (by decide +kernel)⟩
theorem lw_p31 : lw_okq (⟨"PointsForAllModel", "either", "()I"⟩, 55) := ⟨⟨by decide +kernel, by decide +kernel⟩, List.mem_of_getElem? (i := 968) (by decide +kernel), List.mem_of_getElem? (i := 1225) (by decide +kernel), List.mem_of_getElem? (i := 1226) (by decide +kernel)⟩
def lw_privs_2 : List (MethodName × Nat) := [(⟨"PointsForAll$Market", "movePoints", "()Z"⟩, 8), (⟨"PointsForAll$Market", "faultOf", "(I)I"⟩, 8), (⟨"PointsForAll$Market", "toldOf", "(I)I"⟩, 8), (⟨"PointsForAll$Deals", "equalWorth", "()I"⟩, 5), (⟨"PointsForAll$Deals", "coinWorth", "(II)I"⟩, 5), (⟨"PointsForAll$Deals", "reachAll", "(I)V"⟩, 5), (⟨"PointsForAll$Purses", "run", "(IIII)I"⟩, 6), (⟨"PointsForAll$Purses", "runBody", "(IIII)I"⟩, 6), (⟨"PointsForAllModel", "adds", "(IIII)V"⟩, 55), (⟨"PointsForAllModel", "isThing", "(I)Z"⟩, 55), (⟨"PointsForAllModel", "becomes", "(II)I"⟩, 55), (⟨"PointsForAllModel", "isSort", "(I)Z"⟩, 55), (⟨"PointsForAllModel", "purseOf", "(I)I"⟩, 55), (⟨"PointsForAllModel", "pointsInAll", "(I)I"⟩, 55), (⟨"PointsForAllModel", "workOut", "(II)I"⟩, 55), (⟨"PointsForAllModel", "either", "()I"⟩, 55)]
theorem lw_r2 : ∀ q ∈ lw_privs_2, lw_okq q := List.forall_mem_cons.mpr ⟨lw_p16, List.forall_mem_cons.mpr ⟨lw_p17, List.forall_mem_cons.mpr ⟨lw_p18, List.forall_mem_cons.mpr ⟨lw_p19, List.forall_mem_cons.mpr ⟨lw_p20, List.forall_mem_cons.mpr ⟨lw_p21, List.forall_mem_cons.mpr ⟨lw_p22, List.forall_mem_cons.mpr ⟨lw_p23, List.forall_mem_cons.mpr ⟨lw_p24, List.forall_mem_cons.mpr ⟨lw_p25, List.forall_mem_cons.mpr ⟨lw_p26, List.forall_mem_cons.mpr ⟨lw_p27, List.forall_mem_cons.mpr ⟨lw_p28, List.forall_mem_cons.mpr ⟨lw_p29, List.forall_mem_cons.mpr ⟨lw_p30, List.forall_mem_cons.mpr ⟨lw_p31, fun _ h => absurd h List.not_mem_nil⟩⟩⟩⟩⟩⟩⟩⟩⟩⟩⟩⟩⟩⟩⟩⟩
theorem lw_p32 : lw_okq (⟨"PointsForAllModel", "both", "()I"⟩, 55) := ⟨⟨by decide +kernel, by decide +kernel⟩, List.mem_of_getElem? (i := 968) (by decide +kernel), List.mem_of_getElem? (i := 1229) (by decide +kernel), List.mem_of_getElem? (i := 1230) (by decide +kernel)⟩
theorem lw_p33 : lw_okq (⟨"PointsForAllModel", "compared", "()I"⟩, 55) := ⟨⟨by decide +kernel, by decide +kernel⟩, List.mem_of_getElem? (i := 968) (by decide +kernel), List.mem_of_getElem? (i := 1233) (by decide +kernel), List.mem_of_getElem? (i := 1234) (by decide +kernel)⟩
theorem lw_p34 : lw_okq (⟨"PointsForAllModel", "sums", "()I"⟩, 55) := ⟨⟨by decide +kernel, by decide +kernel⟩, List.mem_of_getElem? (i := 968) (by decide +kernel), List.mem_of_getElem? (i := 1237) (by decide +kernel), List.mem_of_getElem? (i := 1238) (by decide +kernel)⟩
theorem lw_p35 : lw_okq (⟨"PointsForAllModel", "product", "()I"⟩, 55) := ⟨⟨by decide +kernel, by decide +kernel⟩, List.mem_of_getElem? (i := 968) (by decide +kernel), List.mem_of_getElem? (i := 1241) (by decide +kernel), List.mem_of_getElem? (i := 1242) (by decide +kernel)⟩
theorem lw_p36 : lw_okq (⟨"PointsForAllModel", "one", "()I"⟩, 55) := ⟨⟨by decide +kernel, by decide +kernel⟩, List.mem_of_getElem? (i := 968) (by decide +kernel), List.mem_of_getElem? (i := 1245) (by decide +kernel), List.mem_of_getElem? (i := 1246) (by decide +kernel)⟩
theorem lw_p37 : lw_okq (⟨"PointsForAllModel", "byteAt", "()I"⟩, 55) := ⟨⟨by decide +kernel, by decide +kernel⟩, List.mem_of_getElem? (i := 968) (by decide +kernel), List.mem_of_getElem? (i := 1249) (by decide +kernel), List.mem_of_getElem? (i := 1250) (by decide +kernel)⟩
theorem lw_p38 : lw_okq (⟨"PointsForAllModel", "fails", "()I"⟩, 55) := ⟨⟨by decide +kernel, by decide +kernel⟩, List.mem_of_getElem? (i := 968) (by decide +kernel), List.mem_of_getElem? (i := 1253) (by decide +kernel), List.mem_of_getElem? (i := 1254) (by decide +kernel)⟩
theorem lw_p39 : lw_okq (⟨"PointsForAllModel", "takes", "(I)Z"⟩, 55) := ⟨⟨by decide +kernel, by decide +kernel⟩, List.mem_of_getElem? (i := 968) (by decide +kernel), List.mem_of_getElem? (i := 1257) (by decide +kernel), List.mem_of_getElem? (i := 1258) (by decide +kernel)⟩
theorem lw_p40 : lw_okq (⟨"PointsForAllModel", "worthOf", "(III)I"⟩, 55) := ⟨⟨by decide +kernel, by decide +kernel⟩, List.mem_of_getElem? (i := 968) (by decide +kernel), List.mem_of_getElem? (i := 1268) (by decide +kernel), List.mem_of_getElem? (i := 1269) (by decide +kernel)⟩
theorem lw_p41 : lw_okq (⟨"PointsForAllModel", "bestOf", "(I)I"⟩, 55) := ⟨⟨by decide +kernel, by decide +kernel⟩, List.mem_of_getElem? (i := 968) (by decide +kernel), List.mem_of_getElem? (i := 1276) (by decide +kernel), List.mem_of_getElem? (i := 1277) (by decide +kernel)⟩
theorem lw_p42 : lw_okq (⟨"PointsForAllModel", "findBest", "(III)I"⟩, 55) := ⟨⟨by decide +kernel, by decide +kernel⟩, List.mem_of_getElem? (i := 968) (by decide +kernel), List.mem_of_getElem? (i := 1280) (by decide +kernel), List.mem_of_getElem? (i := 1281) (by decide +kernel)⟩
theorem lw_p43 : lw_okq (⟨"PointsForAllModel", "layWorths", "(I)V"⟩, 55) := ⟨⟨by decide +kernel, by decide +kernel⟩, List.mem_of_getElem? (i := 968) (by decide +kernel), List.mem_of_getElem? (i := 1284) (by decide +kernel), List.mem_of_getElem? (i := 1285) (by decide +kernel)⟩
theorem lw_p44 : lw_okq (⟨"PointsForAllModel", "baskets", "()I"⟩, 55) := ⟨⟨by decide +kernel, by decide +kernel⟩, List.mem_of_getElem? (i := 968) (by decide +kernel), List.mem_of_getElem? (i := 1288) (by decide +kernel), List.mem_of_getElem? (i := 1289) (by decide +kernel)⟩
theorem lw_p45 : lw_okq (⟨"PointsForAllModel", "unpack", "(I)V"⟩, 55) := ⟨⟨by decide +kernel, by decide +kernel⟩, List.mem_of_getElem? (i := 968) (by decide +kernel), List.mem_of_getElem? (i := 1292) (by decide +kernel), List.mem_of_getElem? (i := 1293) (by decide +kernel)⟩
theorem lw_p46 : lw_okq (⟨"PointsForAllModel", "digitsNow", "()I"⟩, 55) := ⟨⟨by decide +kernel, by decide +kernel⟩, List.mem_of_getElem? (i := 968) (by decide +kernel), List.mem_of_getElem? (i := 1296) (by decide +kernel), List.mem_of_getElem? (i := 1297) (by decide +kernel)⟩
theorem lw_p47 : lw_okq (⟨"PointsForAllModel", "findWanted", "()V"⟩, 55) := ⟨⟨by decide +kernel, by decide +kernel⟩, List.mem_of_getElem? (i := 968) (by decide +kernel), List.mem_of_getElem? (i := 1305) (by decide +kernel), List.mem_of_getElem? (i := 1306) (by decide +kernel)⟩
def lw_privs_3 : List (MethodName × Nat) := [(⟨"PointsForAllModel", "both", "()I"⟩, 55), (⟨"PointsForAllModel", "compared", "()I"⟩, 55), (⟨"PointsForAllModel", "sums", "()I"⟩, 55), (⟨"PointsForAllModel", "product", "()I"⟩, 55), (⟨"PointsForAllModel", "one", "()I"⟩, 55), (⟨"PointsForAllModel", "byteAt", "()I"⟩, 55), (⟨"PointsForAllModel", "fails", "()I"⟩, 55), (⟨"PointsForAllModel", "takes", "(I)Z"⟩, 55), (⟨"PointsForAllModel", "worthOf", "(III)I"⟩, 55), (⟨"PointsForAllModel", "bestOf", "(I)I"⟩, 55), (⟨"PointsForAllModel", "findBest", "(III)I"⟩, 55), (⟨"PointsForAllModel", "layWorths", "(I)V"⟩, 55), (⟨"PointsForAllModel", "baskets", "()I"⟩, 55), (⟨"PointsForAllModel", "unpack", "(I)V"⟩, 55), (⟨"PointsForAllModel", "digitsNow", "()I"⟩, 55), (⟨"PointsForAllModel", "findWanted", "()V"⟩, 55)]
theorem lw_r3 : ∀ q ∈ lw_privs_3, lw_okq q := List.forall_mem_cons.mpr ⟨lw_p32, List.forall_mem_cons.mpr ⟨lw_p33, List.forall_mem_cons.mpr ⟨lw_p34, List.forall_mem_cons.mpr ⟨lw_p35, List.forall_mem_cons.mpr ⟨lw_p36, List.forall_mem_cons.mpr ⟨lw_p37, List.forall_mem_cons.mpr ⟨lw_p38, List.forall_mem_cons.mpr ⟨lw_p39, List.forall_mem_cons.mpr ⟨lw_p40, List.forall_mem_cons.mpr ⟨lw_p41, List.forall_mem_cons.mpr ⟨lw_p42, List.forall_mem_cons.mpr ⟨lw_p43, List.forall_mem_cons.mpr ⟨lw_p44, List.forall_mem_cons.mpr ⟨lw_p45, List.forall_mem_cons.mpr ⟨lw_p46, List.forall_mem_cons.mpr ⟨lw_p47, fun _ h => absurd h List.not_mem_nil⟩⟩⟩⟩⟩⟩⟩⟩⟩⟩⟩⟩⟩⟩⟩⟩
theorem lw_p48 : lw_okq (⟨"PointsForAllModel", "bothOver", "()I"⟩, 55) := ⟨⟨by decide +kernel, by decide +kernel⟩, List.mem_of_getElem? (i := 968) (by decide +kernel), List.mem_of_getElem? (i := 1309) (by decide +kernel), List.mem_of_getElem? (i := 1310) (by decide +kernel)⟩
theorem lw_p49 : lw_okq (⟨"PointsForAllModel", "over", "(I)I"⟩, 55) := ⟨⟨by decide +kernel, by decide +kernel⟩, List.mem_of_getElem? (i := 968) (by decide +kernel), List.mem_of_getElem? (i := 1313) (by decide +kernel), List.mem_of_getElem? (i := 1314) (by decide +kernel)⟩
theorem lw_p50 : lw_okq (⟨"PointsForAllModel", "goRounds", "(I)V"⟩, 55) := ⟨⟨by decide +kernel, by decide +kernel⟩, List.mem_of_getElem? (i := 968) (by decide +kernel), List.mem_of_getElem? (i := 1333) (by decide +kernel), List.mem_of_getElem? (i := 1334) (by decide +kernel)⟩
theorem lw_p51 : lw_okq (⟨"PointsForAllModel", "keepsLeast", "(I)V"⟩, 55) := ⟨⟨by decide +kernel, by decide +kernel⟩, List.mem_of_getElem? (i := 968) (by decide +kernel), List.mem_of_getElem? (i := 1337) (by decide +kernel), List.mem_of_getElem? (i := 1338) (by decide +kernel)⟩
theorem lw_p52 : lw_okq (⟨"PointsForAllModel", "areDigits", "(I)Z"⟩, 55) := ⟨⟨by decide +kernel, by decide +kernel⟩, List.mem_of_getElem? (i := 968) (by decide +kernel), List.mem_of_getElem? (i := 1349) (by decide +kernel), List.mem_of_getElem? (i := 1350) (by decide +kernel)⟩
theorem lw_p53 : lw_okq (⟨"PointsForAllModel", "packed", "(I)I"⟩, 55) := ⟨⟨by decide +kernel, by decide +kernel⟩, List.mem_of_getElem? (i := 968) (by decide +kernel), List.mem_of_getElem? (i := 1357) (by decide +kernel), List.mem_of_getElem? (i := 1358) (by decide +kernel)⟩
theorem lw_p54 : lw_okq (⟨"PointsForAllModel", "findChanged", "(II)V"⟩, 55) := ⟨⟨by decide +kernel, by decide +kernel⟩, List.mem_of_getElem? (i := 968) (by decide +kernel), List.mem_of_getElem? (i := 1368) (by decide +kernel), List.mem_of_getElem? (i := 1369) (by decide +kernel)⟩
theorem lw_p55 : lw_okq (⟨"PointsForAllModel", "besideOf", "(II)I"⟩, 55) := ⟨⟨by decide +kernel, by decide +kernel⟩, List.mem_of_getElem? (i := 968) (by decide +kernel), List.mem_of_getElem? (i := 1389) (by decide +kernel), List.mem_of_getElem? (i := 1390) (by decide +kernel)⟩
theorem lw_p56 : lw_okq (⟨"PointsForAllModel", "isGone", "()Z"⟩, 55) := ⟨⟨by decide +kernel, by decide +kernel⟩, List.mem_of_getElem? (i := 968) (by decide +kernel), List.mem_of_getElem? (i := 1405) (by decide +kernel), List.mem_of_getElem? (i := 1406) (by decide +kernel)⟩
theorem lw_p57 : lw_okq (⟨"PointsForAllModel", "isBody", "(I)Z"⟩, 55) := ⟨⟨by decide +kernel, by decide +kernel⟩, List.mem_of_getElem? (i := 968) (by decide +kernel), List.mem_of_getElem? (i := 1439) (by decide +kernel), List.mem_of_getElem? (i := 1440) (by decide +kernel)⟩
theorem lw_p58 : lw_okq (⟨"PointsForAllModel", "buysAs", "(II)I"⟩, 55) := ⟨⟨by decide +kernel, by decide +kernel⟩, List.mem_of_getElem? (i := 968) (by decide +kernel), List.mem_of_getElem? (i := 1443) (by decide +kernel), List.mem_of_getElem? (i := 1444) (by decide +kernel)⟩
theorem lw_p59 : lw_okq (⟨"PointsForAllModel", "begins", "(I)V"⟩, 55) := ⟨⟨by decide +kernel, by decide +kernel⟩, List.mem_of_getElem? (i := 968) (by decide +kernel), List.mem_of_getElem? (i := 1447) (by decide +kernel), List.mem_of_getElem? (i := 1448) (by decide +kernel)⟩
theorem lw_p60 : lw_okq (⟨"PointsForAllModel", "keepsAs", "(II)I"⟩, 55) := ⟨⟨by decide +kernel, by decide +kernel⟩, List.mem_of_getElem? (i := 968) (by decide +kernel), List.mem_of_getElem? (i := 1451) (by decide +kernel), List.mem_of_getElem? (i := 1452) (by decide +kernel)⟩
theorem lw_p61 : lw_okq (⟨"PointsForAllModel", "lendsAs", "(II)I"⟩, 55) := ⟨⟨by decide +kernel, by decide +kernel⟩, List.mem_of_getElem? (i := 968) (by decide +kernel), List.mem_of_getElem? (i := 1455) (by decide +kernel), List.mem_of_getElem? (i := 1456) (by decide +kernel)⟩
theorem lw_p62 : lw_okq (⟨"PointsForAllModel", "tellsAs", "(II)I"⟩, 55) := ⟨⟨by decide +kernel, by decide +kernel⟩, List.mem_of_getElem? (i := 968) (by decide +kernel), List.mem_of_getElem? (i := 1459) (by decide +kernel), List.mem_of_getElem? (i := 1460) (by decide +kernel)⟩
theorem lw_p63 : lw_okq (⟨"PointsForAllModel", "refusal", "(II)I"⟩, 55) := ⟨⟨by decide +kernel, by decide +kernel⟩, List.mem_of_getElem? (i := 968) (by decide +kernel), List.mem_of_getElem? (i := 1479) (by decide +kernel), List.mem_of_getElem? (i := 1480) (by decide +kernel)⟩
def lw_privs_4 : List (MethodName × Nat) := [(⟨"PointsForAllModel", "bothOver", "()I"⟩, 55), (⟨"PointsForAllModel", "over", "(I)I"⟩, 55), (⟨"PointsForAllModel", "goRounds", "(I)V"⟩, 55), (⟨"PointsForAllModel", "keepsLeast", "(I)V"⟩, 55), (⟨"PointsForAllModel", "areDigits", "(I)Z"⟩, 55), (⟨"PointsForAllModel", "packed", "(I)I"⟩, 55), (⟨"PointsForAllModel", "findChanged", "(II)V"⟩, 55), (⟨"PointsForAllModel", "besideOf", "(II)I"⟩, 55), (⟨"PointsForAllModel", "isGone", "()Z"⟩, 55), (⟨"PointsForAllModel", "isBody", "(I)Z"⟩, 55), (⟨"PointsForAllModel", "buysAs", "(II)I"⟩, 55), (⟨"PointsForAllModel", "begins", "(I)V"⟩, 55), (⟨"PointsForAllModel", "keepsAs", "(II)I"⟩, 55), (⟨"PointsForAllModel", "lendsAs", "(II)I"⟩, 55), (⟨"PointsForAllModel", "tellsAs", "(II)I"⟩, 55), (⟨"PointsForAllModel", "refusal", "(II)I"⟩, 55)]
theorem lw_r4 : ∀ q ∈ lw_privs_4, lw_okq q := List.forall_mem_cons.mpr ⟨lw_p48, List.forall_mem_cons.mpr ⟨lw_p49, List.forall_mem_cons.mpr ⟨lw_p50, List.forall_mem_cons.mpr ⟨lw_p51, List.forall_mem_cons.mpr ⟨lw_p52, List.forall_mem_cons.mpr ⟨lw_p53, List.forall_mem_cons.mpr ⟨lw_p54, List.forall_mem_cons.mpr ⟨lw_p55, List.forall_mem_cons.mpr ⟨lw_p56, List.forall_mem_cons.mpr ⟨lw_p57, List.forall_mem_cons.mpr ⟨lw_p58, List.forall_mem_cons.mpr ⟨lw_p59, List.forall_mem_cons.mpr ⟨lw_p60, List.forall_mem_cons.mpr ⟨lw_p61, List.forall_mem_cons.mpr ⟨lw_p62, List.forall_mem_cons.mpr ⟨lw_p63, fun _ h => absurd h List.not_mem_nil⟩⟩⟩⟩⟩⟩⟩⟩⟩⟩⟩⟩⟩⟩⟩⟩
theorem lw_p64 : lw_okq (⟨"PointsForAllModel", "kindOf", "(I)I"⟩, 55) := ⟨⟨by decide +kernel, by decide +kernel⟩, List.mem_of_getElem? (i := 968) (by decide +kernel), List.mem_of_getElem? (i := 1499) (by decide +kernel), List.mem_of_getElem? (i := 1500) (by decide +kernel)⟩
def lw_privs_5 : List (MethodName × Nat) := [(⟨"PointsForAllModel", "kindOf", "(I)I"⟩, 55)]
theorem lw_r5 : ∀ q ∈ lw_privs_5, lw_okq q := List.forall_mem_cons.mpr ⟨lw_p64, fun _ h => absurd h List.not_mem_nil⟩
def lw_privs : List (MethodName × Nat) := lw_privs_1 ++ (lw_privs_2 ++ (lw_privs_3 ++ (lw_privs_4 ++ (lw_privs_5))))
def lw_tbl : List Cond := k2_sels lw_privs ++ tables_1
theorem lw_privs_ok : ∀ q ∈ lw_privs, lw_okq q := by
  show ∀ q ∈ lw_privs_1 ++ (lw_privs_2 ++ (lw_privs_3 ++ (lw_privs_4 ++ (lw_privs_5)))), lw_okq q
  exact List.forall_mem_append.mpr ⟨lw_r1, List.forall_mem_append.mpr ⟨lw_r2, List.forall_mem_append.mpr ⟨lw_r3, List.forall_mem_append.mpr ⟨lw_r4, lw_r5⟩⟩⟩⟩
end
section
def RX0 : String := "PointsForAll$Deals"
def TX0 : u_T := fun k => match k with
  | 0 => ("PointsForAll$Deals", "stock", "LPointsForAll$Stock;", true)
  | 1 => ("PointsForAll$Deals", "thought", "LPointsForAll$Thought;", true)
  | 2 => ("PointsForAll$Deals", "reach", "[I", true)
  | 3 => ("PointsForAll$Deals", "worthLived", "I", false)
  | _ => ("PointsForAll$Deals", "lapsed", "I", false)
def tyX0 : Nat → FieldType := fun k => match k with
  | 0 => .object "PointsForAll$Stock"
  | 1 => .object "PointsForAll$Thought"
  | 2 => .array .int
  | 3 => .int
  | _ => .int
abbrev wsX00 : List Cond := u_ws RX0 TX0 5
theorem nmX0 : ∀ a, a < 5 → ∀ b, b < 5 → a ≠ b → (TX0 a).2.1 ≠ (TX0 b).2.1 := by decide +kernel
theorem tyX0_ok : ∀ k, k < 5 → parseFieldDescriptor (TX0 k).2.2.1 = some (tyX0 k) := by decide +kernel
abbrev cX0_init : ByteArray := prog_2_method_1_code
def yX0_init : MethodName := ⟨RX0, "<init>", "(LPointsForAll$Stock;LPointsForAll$Thought;)V"⟩
abbrev cX0_plainWorth : ByteArray := prog_2_method_2_code
def yX0_plainWorth : MethodName := ⟨RX0, "plainWorth", "(I)I"⟩
abbrev cX0_exchange : ByteArray := prog_2_method_3_code
def yX0_exchange : MethodName := ⟨RX0, "exchange", "(II)V"⟩
abbrev cX0_pointsThere : ByteArray := prog_2_method_4_code
def yX0_pointsThere : MethodName := ⟨RX0, "pointsThere", "()I"⟩
abbrev cX0_pointsTaken : ByteArray := prog_2_method_5_code
def yX0_pointsTaken : MethodName := ⟨RX0, "pointsTaken", "(I)I"⟩
abbrev cX0_byStealth : ByteArray := prog_2_method_6_code
def yX0_byStealth : MethodName := ⟨RX0, "byStealth", "(IIII)I"⟩
abbrev cX0_otherwise : ByteArray := prog_2_method_7_code
def yX0_otherwise : MethodName := ⟨RX0, "otherwise", "(II)I"⟩
abbrev cX0_equalWorth : ByteArray := prog_2_method_8_code
def yX0_equalWorth : MethodName := ⟨RX0, "equalWorth", "()I"⟩
abbrev cX0_coinWorth : ByteArray := prog_2_method_9_code
def yX0_coinWorth : MethodName := ⟨RX0, "coinWorth", "(II)I"⟩
abbrev cX0_losers : ByteArray := prog_2_method_10_code
def yX0_losers : MethodName := ⟨RX0, "losers", "(I)I"⟩
abbrev cX0_live : ByteArray := prog_2_method_11_code
def yX0_live : MethodName := ⟨RX0, "live", "(III)V"⟩
abbrev cX0_gainByForesight : ByteArray := prog_2_method_12_code
def yX0_gainByForesight : MethodName := ⟨RX0, "gainByForesight", "(I)I"⟩
abbrev cX0_reachAll : ByteArray := prog_2_method_13_code
def yX0_reachAll : MethodName := ⟨RX0, "reachAll", "(I)V"⟩
abbrev cX0_spread : ByteArray := prog_2_method_14_code
def yX0_spread : MethodName := ⟨RX0, "spread", "(LPointsForAll$Deals;IIII)V"⟩
def RX1 : String := "PointsForAll$History"
def TX1 : u_T := fun k => match k with
  | 0 => ("PointsForAll$History", "stock", "LPointsForAll$Stock;", true)
  | 1 => ("PointsForAll$History", "column", "[I", true)
  | 2 => ("PointsForAll$History", "index", "[I", true)
  | 3 => ("PointsForAll$History", "before", "[I", true)
  | 4 => ("PointsForAll$History", "after", "[I", true)
  | 5 => ("PointsForAll$History", "done", "I", false)
  | _ => ("PointsForAll$History", "undone", "I", false)
def tyX1 : Nat → FieldType := fun k => match k with
  | 0 => .object "PointsForAll$Stock"
  | 1 => .array .int
  | 2 => .array .int
  | 3 => .array .int
  | 4 => .array .int
  | 5 => .int
  | _ => .int
abbrev wsX10 : List Cond := u_ws RX1 TX1 7
theorem nmX1 : ∀ a, a < 7 → ∀ b, b < 7 → a ≠ b → (TX1 a).2.1 ≠ (TX1 b).2.1 := by decide +kernel
theorem tyX1_ok : ∀ k, k < 7 → parseFieldDescriptor (TX1 k).2.2.1 = some (tyX1 k) := by decide +kernel
abbrev cX1_init : ByteArray := prog_3_method_1_code
def yX1_init : MethodName := ⟨RX1, "<init>", "(LPointsForAll$Stock;)V"⟩
abbrev cX1_change : ByteArray := prog_3_method_2_code
def yX1_change : MethodName := ⟨RX1, "change", "(III)I"⟩
abbrev cX1_goBack : ByteArray := prog_3_method_3_code
def yX1_goBack : MethodName := ⟨RX1, "goBack", "()I"⟩
abbrev cX1_goOn : ByteArray := prog_3_method_4_code
def yX1_goOn : MethodName := ⟨RX1, "goOn", "()I"⟩
abbrev cX1_note : ByteArray := prog_3_method_5_code
def yX1_note : MethodName := ⟨RX1, "note", "(IIII)V"⟩
abbrev cX1_dropFirst : ByteArray := prog_3_method_6_code
def yX1_dropFirst : MethodName := ⟨RX1, "dropFirst", "()V"⟩
def RX2 : String := "PointsForAll$Market"
def TX2 : u_T := fun k => match k with
  | 0 => ("PointsForAll$Market", "stock", "LPointsForAll$Stock;", true)
  | 1 => ("PointsForAll$Market", "thought", "LPointsForAll$Thought;", true)
  | 2 => ("PointsForAll$Market", "wanted", "[I", true)
  | 3 => ("PointsForAll$Market", "told", "[I", true)
  | 4 => ("PointsForAll$Market", "leastPoints", "[I", true)
  | 5 => ("PointsForAll$Market", "moved", "I", false)
  | 6 => ("PointsForAll$Market", "leastBoth", "I", false)
  | _ => ("PointsForAll$Market", "leastRound", "I", false)
def tyX2 : Nat → FieldType := fun k => match k with
  | 0 => .object "PointsForAll$Stock"
  | 1 => .object "PointsForAll$Thought"
  | 2 => .array .int
  | 3 => .array .int
  | 4 => .array .int
  | 5 => .int
  | 6 => .int
  | _ => .int
abbrev wsX20 : List Cond := u_ws RX2 TX2 8
theorem nmX2 : ∀ a, a < 8 → ∀ b, b < 8 → a ≠ b → (TX2 a).2.1 ≠ (TX2 b).2.1 := by decide +kernel
theorem tyX2_ok : ∀ k, k < 8 → parseFieldDescriptor (TX2 k).2.2.1 = some (tyX2 k) := by decide +kernel
abbrev cX2_init : ByteArray := prog_4_method_1_code
def yX2_init : MethodName := ⟨RX2, "<init>", "(LPointsForAll$Stock;LPointsForAll$Thought;)V"⟩
abbrev cX2_wantAll : ByteArray := prog_4_method_2_code
def yX2_wantAll : MethodName := ⟨RX2, "wantAll", "()V"⟩
abbrev cX2_wantedOf : ByteArray := prog_4_method_3_code
def yX2_wantedOf : MethodName := ⟨RX2, "wantedOf", "(I)I"⟩
abbrev cX2_overOf : ByteArray := prog_4_method_4_code
def yX2_overOf : MethodName := ⟨RX2, "overOf", "(I)I"⟩
abbrev cX2_bothTogether : ByteArray := prog_4_method_5_code
def yX2_bothTogether : MethodName := ⟨RX2, "bothTogether", "()I"⟩
abbrev cX2_findPoints : ByteArray := prog_4_method_6_code
def yX2_findPoints : MethodName := ⟨RX2, "findPoints", "(I)V"⟩
abbrev cX2_leastPointsOf : ByteArray := prog_4_method_7_code
def yX2_leastPointsOf : MethodName := ⟨RX2, "leastPointsOf", "(I)I"⟩
abbrev cX2_keepLeast : ByteArray := prog_4_method_8_code
def yX2_keepLeast : MethodName := ⟨RX2, "keepLeast", "()V"⟩
abbrev cX2_movePoints : ByteArray := prog_4_method_9_code
def yX2_movePoints : MethodName := ⟨RX2, "movePoints", "()Z"⟩
abbrev cX2_hear : ByteArray := prog_4_method_10_code
def yX2_hear : MethodName := ⟨RX2, "hear", "(II)I"⟩
abbrev cX2_judged : ByteArray := prog_4_method_11_code
def yX2_judged : MethodName := ⟨RX2, "judged", "()I"⟩
abbrev cX2_faultOf : ByteArray := prog_4_method_12_code
def yX2_faultOf : MethodName := ⟨RX2, "faultOf", "(I)I"⟩
abbrev cX2_toldOf : ByteArray := prog_4_method_13_code
def yX2_toldOf : MethodName := ⟨RX2, "toldOf", "(I)I"⟩
abbrev cX2_servesAll : ByteArray := prog_4_method_14_code
def yX2_servesAll : MethodName := ⟨RX2, "servesAll", "(I)Z"⟩
abbrev cX2_takersOf : ByteArray := prog_4_method_15_code
def yX2_takersOf : MethodName := ⟨RX2, "takersOf", "(I)I"⟩
abbrev cX2_cheapest : ByteArray := prog_4_method_16_code
def yX2_cheapest : MethodName := ⟨RX2, "cheapest", "(I)I"⟩
abbrev cX2_findWorst : ByteArray := prog_4_method_17_code
def yX2_findWorst : MethodName := ⟨RX2, "findWorst", "()I"⟩
abbrev cX2_offOf : ByteArray := prog_4_method_18_code
def yX2_offOf : MethodName := ⟨RX2, "offOf", "(I)I"⟩
def RX3 : String := "PointsForAll$Purses"
def TX3 : u_T := fun k => match k with
  | 0 => ("PointsForAll$Purses", "kinds", "[I", true)
  | 1 => ("PointsForAll$Purses", "kept", "I", false)
  | 2 => ("PointsForAll$Purses", "traces", "[I", true)
  | 3 => ("PointsForAll$Purses", "ran", "I", false)
  | 4 => ("PointsForAll$Purses", "own", "I", false)
  | _ => ("PointsForAll$Purses", "ownKind", "I", false)
def tyX3 : Nat → FieldType := fun k => match k with
  | 0 => .array .int
  | 1 => .int
  | 2 => .array .int
  | 3 => .int
  | 4 => .int
  | _ => .int
abbrev wsX30 : List Cond := u_ws RX3 TX3 6
theorem nmX3 : ∀ a, a < 6 → ∀ b, b < 6 → a ≠ b → (TX3 a).2.1 ≠ (TX3 b).2.1 := by decide +kernel
theorem tyX3_ok : ∀ k, k < 6 → parseFieldDescriptor (TX3 k).2.2.1 = some (tyX3 k) := by decide +kernel
abbrev cX3_init : ByteArray := prog_5_method_1_code
def yX3_init : MethodName := ⟨RX3, "<init>", "()V"⟩
abbrev cX3_has : ByteArray := prog_5_method_2_code
def yX3_has : MethodName := ⟨RX3, "has", "(I)Z"⟩
abbrev cX3_add : ByteArray := prog_5_method_3_code
def yX3_add : MethodName := ⟨RX3, "add", "(I)I"⟩
abbrev cX3_kindOf : ByteArray := prog_5_method_4_code
def yX3_kindOf : MethodName := ⟨RX3, "kindOf", "(I)I"⟩
abbrev cX3_isUnder : ByteArray := prog_5_method_5_code
def yX3_isUnder : MethodName := ⟨RX3, "isUnder", "(II)Z"⟩
abbrev cX3_forget : ByteArray := prog_5_method_6_code
def yX3_forget : MethodName := ⟨RX3, "forget", "()V"⟩
abbrev cX3_traced : ByteArray := prog_5_method_7_code
def yX3_traced : MethodName := ⟨RX3, "traced", "(I)I"⟩
abbrev cX3_start : ByteArray := prog_5_method_8_code
def yX3_start : MethodName := ⟨RX3, "start", "(III)I"⟩
abbrev cX3_run : ByteArray := prog_5_method_9_code
def yX3_run : MethodName := ⟨RX3, "run", "(IIII)I"⟩
abbrev cX3_runBody : ByteArray := prog_5_method_10_code
def yX3_runBody : MethodName := ⟨RX3, "runBody", "(IIII)I"⟩
abbrev cX3_aboveOf : ByteArray := prog_5_method_11_code
def yX3_aboveOf : MethodName := ⟨RX3, "aboveOf", "(I)I"⟩
abbrev cX3_bodyOf : ByteArray := prog_5_method_12_code
def yX3_bodyOf : MethodName := ⟨RX3, "bodyOf", "(II)I"⟩
def RX4 : String := "PointsForAll$Shelves"
def TX4 : u_T := fun k => match k with
  | 0 => ("PointsForAll$Shelves", "held", "[I", true)
  | 1 => ("PointsForAll$Shelves", "sizes", "[I", true)
  | _ => ("PointsForAll$Shelves", "cells", "[[J", true)
def tyX4 : Nat → FieldType := fun k => match k with
  | 0 => .array .int
  | 1 => .array .int
  | _ => .array (.array .long)
abbrev wsX40 : List Cond := u_ws RX4 TX4 3
theorem nmX4 : ∀ a, a < 3 → ∀ b, b < 3 → a ≠ b → (TX4 a).2.1 ≠ (TX4 b).2.1 := by decide +kernel
theorem tyX4_ok : ∀ k, k < 3 → parseFieldDescriptor (TX4 k).2.2.1 = some (tyX4 k) := by decide +kernel
abbrev cX4_init : ByteArray := prog_6_method_1_code
def yX4_init : MethodName := ⟨RX4, "<init>", "()V"⟩
abbrev cX4_isShelf : ByteArray := prog_6_method_2_code
def yX4_isShelf : MethodName := ⟨RX4, "isShelf", "(I)Z"⟩
abbrev cX4_heldOn : ByteArray := prog_6_method_3_code
def yX4_heldOn : MethodName := ⟨RX4, "heldOn", "(I)I"⟩
abbrev cX4_sizeOn : ByteArray := prog_6_method_4_code
def yX4_sizeOn : MethodName := ⟨RX4, "sizeOn", "(I)I"⟩
abbrev cX4_hold : ByteArray := prog_6_method_5_code
def yX4_hold : MethodName := ⟨RX4, "hold", "(III)V"⟩
abbrev cX4_refusalOf : ByteArray := prog_6_method_6_code
def yX4_refusalOf : MethodName := ⟨RX4, "refusalOf", "(II)I"⟩
abbrev cX4_refusalOfTwo : ByteArray := prog_6_method_7_code
def yX4_refusalOfTwo : MethodName := ⟨RX4, "refusalOfTwo", "(II)I"⟩
abbrev cX4_holdsPart : ByteArray := prog_6_method_8_code
def yX4_holdsPart : MethodName := ⟨RX4, "holdsPart", "(III)Z"⟩
abbrev cX4_read : ByteArray := prog_6_method_9_code
def yX4_read : MethodName := ⟨RX4, "read", "(II)J"⟩
abbrev cX4_write : ByteArray := prog_6_method_10_code
def yX4_write : MethodName := ⟨RX4, "write", "(IIJ)V"⟩
abbrev cX4_copy : ByteArray := prog_6_method_11_code
def yX4_copy : MethodName := ⟨RX4, "copy", "(IIIII)V"⟩
abbrev cX4_lowest : ByteArray := prog_6_method_12_code
def yX4_lowest : MethodName := ⟨RX4, "lowest", "(IJ)J"⟩
def RX5 : String := "PointsForAll$Stock"
def TX5 : u_T := fun k => match k with
  | 0 => ("PointsForAll$Stock", "cells", "[[I", true)
  | 1 => ("PointsForAll$Stock", "things", "I", false)
  | _ => ("PointsForAll$Stock", "sorts", "I", false)
def tyX5 : Nat → FieldType := fun k => match k with
  | 0 => .array (.array .int)
  | 1 => .int
  | _ => .int
abbrev wsX50 : List Cond := u_ws RX5 TX5 3
theorem nmX5 : ∀ a, a < 3 → ∀ b, b < 3 → a ≠ b → (TX5 a).2.1 ≠ (TX5 b).2.1 := by decide +kernel
theorem tyX5_ok : ∀ k, k < 3 → parseFieldDescriptor (TX5 k).2.2.1 = some (tyX5 k) := by decide +kernel
abbrev cX5_init : ByteArray := prog_7_method_1_code
def yX5_init : MethodName := ⟨RX5, "<init>", "()V"⟩
abbrev cX5_hasThing : ByteArray := prog_7_method_2_code
def yX5_hasThing : MethodName := ⟨RX5, "hasThing", "(I)Z"⟩
abbrev cX5_hasSort : ByteArray := prog_7_method_3_code
def yX5_hasSort : MethodName := ⟨RX5, "hasSort", "(I)Z"⟩
abbrev cX5_at : ByteArray := prog_7_method_4_code
def yX5_at : MethodName := ⟨RX5, "at", "(II)I"⟩
abbrev cX5_write : ByteArray := prog_7_method_5_code
def yX5_write : MethodName := ⟨RX5, "write", "(III)V"⟩
abbrev cX5_addThing : ByteArray := prog_7_method_6_code
def yX5_addThing : MethodName := ⟨RX5, "addThing", "(IIII)I"⟩
abbrev cX5_addSort : ByteArray := prog_7_method_7_code
def yX5_addSort : MethodName := ⟨RX5, "addSort", "(III)I"⟩
abbrev cX5_pointsInAll : ByteArray := prog_7_method_8_code
def yX5_pointsInAll : MethodName := ⟨RX5, "pointsInAll", "(I)I"⟩
abbrev cX5_allHeads : ByteArray := prog_7_method_9_code
def yX5_allHeads : MethodName := ⟨RX5, "allHeads", "()I"⟩
abbrev cX5_digitOf : ByteArray := prog_7_method_10_code
def yX5_digitOf : MethodName := ⟨RX5, "digitOf", "(II)I"⟩
abbrev cX5_isBasket : ByteArray := prog_7_method_11_code
def yX5_isBasket : MethodName := ⟨RX5, "isBasket", "(I)Z"⟩
def RX6 : String := "PointsForAll$Tape"
def TX6 : u_T := fun k => match k with
  | 0 => ("PointsForAll$Tape", "bytes", "[I", true)
  | 1 => ("PointsForAll$Tape", "length", "I", false)
  | 2 => ("PointsForAll$Tape", "at", "I", false)
  | 3 => ("PointsForAll$Tape", "steps", "[I", true)
  | _ => ("PointsForAll$Tape", "written", "I", false)
def tyX6 : Nat → FieldType := fun k => match k with
  | 0 => .array .int
  | 1 => .int
  | 2 => .int
  | 3 => .array .int
  | _ => .int
abbrev wsX60 : List Cond := u_ws RX6 TX6 5
theorem nmX6 : ∀ a, a < 5 → ∀ b, b < 5 → a ≠ b → (TX6 a).2.1 ≠ (TX6 b).2.1 := by decide +kernel
theorem tyX6_ok : ∀ k, k < 5 → parseFieldDescriptor (TX6 k).2.2.1 = some (tyX6 k) := by decide +kernel
abbrev cX6_init : ByteArray := prog_8_method_1_code
def yX6_init : MethodName := ⟨RX6, "<init>", "()V"⟩
abbrev cX6_take : ByteArray := prog_8_method_2_code
def yX6_take : MethodName := ⟨RX6, "take", "(II)I"⟩
abbrev cX6_empty : ByteArray := prog_8_method_3_code
def yX6_empty : MethodName := ⟨RX6, "empty", "()V"⟩
abbrev cX6_place : ByteArray := prog_8_method_4_code
def yX6_place : MethodName := ⟨RX6, "place", "()I"⟩
abbrev cX6_size : ByteArray := prog_8_method_5_code
def yX6_size : MethodName := ⟨RX6, "size", "()I"⟩
abbrev cX6_stepAt : ByteArray := prog_8_method_6_code
def yX6_stepAt : MethodName := ⟨RX6, "stepAt", "(I)I"⟩
abbrev cX6_reads : ByteArray := prog_8_method_7_code
def yX6_reads : MethodName := ⟨RX6, "reads", "()Z"⟩
abbrev cX6_readLine : ByteArray := prog_8_method_8_code
def yX6_readLine : MethodName := ⟨RX6, "readLine", "()Z"⟩
abbrev cX6_readLevel : ByteArray := prog_8_method_9_code
def yX6_readLevel : MethodName := ⟨RX6, "readLevel", "(II)Z"⟩
abbrev cX6_readOne : ByteArray := prog_8_method_10_code
def yX6_readOne : MethodName := ⟨RX6, "readOne", "(I)Z"⟩
abbrev cX6_readInside : ByteArray := prog_8_method_11_code
def yX6_readInside : MethodName := ⟨RX6, "readInside", "(I)Z"⟩
abbrev cX6_readSigned : ByteArray := prog_8_method_12_code
def yX6_readSigned : MethodName := ⟨RX6, "readSigned", "(II)Z"⟩
abbrev cX6_readNumber : ByteArray := prog_8_method_13_code
def yX6_readNumber : MethodName := ⟨RX6, "readNumber", "()V"⟩
abbrev cX6_here : ByteArray := prog_8_method_14_code
def yX6_here : MethodName := ⟨RX6, "here", "()I"⟩
abbrev cX6_write : ByteArray := prog_8_method_15_code
def yX6_write : MethodName := ⟨RX6, "write", "(I)V"⟩
abbrev cX6_isName : ByteArray := prog_8_method_16_code
def yX6_isName : MethodName := ⟨RX6, "isName", "(I)Z"⟩
abbrev cX6_levelOf : ByteArray := prog_8_method_17_code
def yX6_levelOf : MethodName := ⟨RX6, "levelOf", "(I)I"⟩
def RX7 : String := "PointsForAll$Thought"
def TX7 : u_T := fun k => match k with
  | 0 => ("PointsForAll$Thought", "stock", "LPointsForAll$Stock;", true)
  | 1 => ("PointsForAll$Thought", "wants", "LPointsForAll$Wants;", true)
  | 2 => ("PointsForAll$Thought", "coin", "[I", true)
  | 3 => ("PointsForAll$Thought", "points", "[I", true)
  | 4 => ("PointsForAll$Thought", "worth", "[[I", true)
  | 5 => ("PointsForAll$Thought", "rest", "[I", true)
  | 6 => ("PointsForAll$Thought", "purse", "I", false)
  | 7 => ("PointsForAll$Thought", "book", "I", false)
  | 8 => ("PointsForAll$Thought", "price", "I", false)
  | 9 => ("PointsForAll$Thought", "bestWorth", "I", false)
  | 10 => ("PointsForAll$Thought", "bestCost", "I", false)
  | 11 => ("PointsForAll$Thought", "bestPoints", "I", false)
  | _ => ("PointsForAll$Thought", "bestDigits", "I", false)
def tyX7 : Nat → FieldType := fun k => match k with
  | 0 => .object "PointsForAll$Stock"
  | 1 => .object "PointsForAll$Wants"
  | 2 => .array .int
  | 3 => .array .int
  | 4 => .array (.array .int)
  | 5 => .array .int
  | 6 => .int
  | 7 => .int
  | 8 => .int
  | 9 => .int
  | 10 => .int
  | 11 => .int
  | _ => .int
abbrev wsX70 : List Cond := u_ws RX7 TX7 13
theorem nmX7 : ∀ a, a < 13 → ∀ b, b < 13 → a ≠ b → (TX7 a).2.1 ≠ (TX7 b).2.1 := by decide +kernel
theorem tyX7_ok : ∀ k, k < 13 → parseFieldDescriptor (TX7 k).2.2.1 = some (tyX7 k) := by decide +kernel
abbrev cX7_init : ByteArray := prog_9_method_1_code
def yX7_init : MethodName := ⟨RX7, "<init>", "(LPointsForAll$Stock;LPointsForAll$Wants;)V"⟩
abbrev cX7_recall : ByteArray := prog_9_method_2_code
def yX7_recall : MethodName := ⟨RX7, "recall", "()V"⟩
abbrev cX7_coinOf : ByteArray := prog_9_method_3_code
def yX7_coinOf : MethodName := ⟨RX7, "coinOf", "(I)I"⟩
abbrev cX7_pointsOf : ByteArray := prog_9_method_4_code
def yX7_pointsOf : MethodName := ⟨RX7, "pointsOf", "(I)I"⟩
abbrev cX7_think : ByteArray := prog_9_method_5_code
def yX7_think : MethodName := ⟨RX7, "think", "(III)V"⟩
abbrev cX7_worthOf : ByteArray := prog_9_method_6_code
def yX7_worthOf : MethodName := ⟨RX7, "worthOf", "(III)I"⟩
abbrev cX7_worthOfFirst : ByteArray := prog_9_method_7_code
def yX7_worthOfFirst : MethodName := ⟨RX7, "worthOfFirst", "(II)I"⟩
abbrev cX7_weigh : ByteArray := prog_9_method_8_code
def yX7_weigh : MethodName := ⟨RX7, "weigh", "(I)V"⟩
abbrev cX7_choose : ByteArray := prog_9_method_9_code
def yX7_choose : MethodName := ⟨RX7, "choose", "(I)V"⟩
abbrev cX7_search : ByteArray := prog_9_method_10_code
def yX7_search : MethodName := ⟨RX7, "search", "(III)V"⟩
abbrev cX7_descend : ByteArray := prog_9_method_11_code
def yX7_descend : MethodName := ⟨RX7, "descend", "(LPointsForAll$Thought;IIIII)V"⟩
abbrev cX7_isPayable : ByteArray := prog_9_method_12_code
def yX7_isPayable : MethodName := ⟨RX7, "isPayable", "(II)Z"⟩
abbrev cX7_compare : ByteArray := prog_9_method_13_code
def yX7_compare : MethodName := ⟨RX7, "compare", "(IIII)V"⟩
def RX8 : String := "PointsForAll$Wants"
def TX8 : u_T := fun k => match k with
  | 0 => ("PointsForAll$Wants", "steps", "[[I", true)
  | 1 => ("PointsForAll$Wants", "sizes", "[I", true)
  | 2 => ("PointsForAll$Wants", "count", "I", false)
  | 3 => ("PointsForAll$Wants", "named", "[I", true)
  | 4 => ("PointsForAll$Wants", "stack", "[I", true)
  | _ => ("PointsForAll$Wants", "top", "I", false)
def tyX8 : Nat → FieldType := fun k => match k with
  | 0 => .array (.array .int)
  | 1 => .array .int
  | 2 => .int
  | 3 => .array .int
  | 4 => .array .int
  | _ => .int
abbrev wsX80 : List Cond := u_ws RX8 TX8 6
theorem nmX8 : ∀ a, a < 6 → ∀ b, b < 6 → a ≠ b → (TX8 a).2.1 ≠ (TX8 b).2.1 := by decide +kernel
theorem tyX8_ok : ∀ k, k < 6 → parseFieldDescriptor (TX8 k).2.2.1 = some (tyX8 k) := by decide +kernel
abbrev cX8_init : ByteArray := prog_10_method_1_code
def yX8_init : MethodName := ⟨RX8, "<init>", "()V"⟩
abbrev cX8_known : ByteArray := prog_10_method_2_code
def yX8_known : MethodName := ⟨RX8, "known", "()I"⟩
abbrev cX8_learn : ByteArray := prog_10_method_3_code
def yX8_learn : MethodName := ⟨RX8, "learn", "(LPointsForAll$Tape;)I"⟩
abbrev cX8_name : ByteArray := prog_10_method_4_code
def yX8_name : MethodName := ⟨RX8, "name", "(CI)V"⟩
abbrev cX8_workOut : ByteArray := prog_10_method_5_code
def yX8_workOut : MethodName := ⟨RX8, "workOut", "(I)I"⟩
abbrev cX8_doStep : ByteArray := prog_10_method_6_code
def yX8_doStep : MethodName := ⟨RX8, "doStep", "(I)V"⟩
abbrev cX8_joined : ByteArray := prog_10_method_7_code
def yX8_joined : MethodName := ⟨RX8, "joined", "(III)I"⟩
abbrev cX8_push : ByteArray := prog_10_method_8_code
def yX8_push : MethodName := ⟨RX8, "push", "(I)V"⟩
abbrev cX8_pop : ByteArray := prog_10_method_9_code
def yX8_pop : MethodName := ⟨RX8, "pop", "()I"⟩
def RX9 : String := "PointsForAll"
def TX9 : u_T := fun k => match k with
  | 0 => ("PointsForAll", "stock", "LPointsForAll$Stock;", true)
  | 1 => ("PointsForAll", "history", "LPointsForAll$History;", true)
  | 2 => ("PointsForAll", "tape", "LPointsForAll$Tape;", true)
  | 3 => ("PointsForAll", "wants", "LPointsForAll$Wants;", true)
  | 4 => ("PointsForAll", "thought", "LPointsForAll$Thought;", true)
  | 5 => ("PointsForAll", "market", "LPointsForAll$Market;", true)
  | 6 => ("PointsForAll", "deals", "LPointsForAll$Deals;", true)
  | 7 => ("PointsForAll", "purses", "LPointsForAll$Purses;", true)
  | _ => ("PointsForAll", "shelves", "LPointsForAll$Shelves;", true)
def tyX9 : Nat → FieldType := fun k => match k with
  | 0 => .object "PointsForAll$Stock"
  | 1 => .object "PointsForAll$History"
  | 2 => .object "PointsForAll$Tape"
  | 3 => .object "PointsForAll$Wants"
  | 4 => .object "PointsForAll$Thought"
  | 5 => .object "PointsForAll$Market"
  | 6 => .object "PointsForAll$Deals"
  | 7 => .object "PointsForAll$Purses"
  | _ => .object "PointsForAll$Shelves"
abbrev wsX90 : List Cond := u_ws RX9 TX9 9
theorem nmX9 : ∀ a, a < 9 → ∀ b, b < 9 → a ≠ b → (TX9 a).2.1 ≠ (TX9 b).2.1 := by decide +kernel
theorem tyX9_ok : ∀ k, k < 9 → parseFieldDescriptor (TX9 k).2.2.1 = some (tyX9 k) := by decide +kernel
abbrev cX9_init : ByteArray := prog_1_method_1_code
def yX9_init : MethodName := ⟨RX9, "<init>", "()V"⟩
abbrev cX9_thing : ByteArray := prog_1_method_2_code
def yX9_thing : MethodName := ⟨RX9, "thing", "(III)I"⟩
abbrev cX9_things : ByteArray := prog_1_method_3_code
def yX9_things : MethodName := ⟨RX9, "things", "(III)I"⟩
abbrev cX9_mend : ByteArray := prog_1_method_4_code
def yX9_mend : MethodName := ⟨RX9, "mend", "(III)I"⟩
abbrev cX9_sort : ByteArray := prog_1_method_5_code
def yX9_sort : MethodName := ⟨RX9, "sort", "(III)I"⟩
abbrev cX9_purse : ByteArray := prog_1_method_6_code
def yX9_purse : MethodName := ⟨RX9, "purse", "(III)I"⟩
abbrev cX9_of : ByteArray := prog_1_method_7_code
def yX9_of : MethodName := ⟨RX9, "of", "(II)I"⟩
abbrev cX9_feed : ByteArray := prog_1_method_8_code
def yX9_feed : MethodName := ⟨RX9, "feed", "(II)I"⟩
abbrev cX9_want : ByteArray := prog_1_method_9_code
def yX9_want : MethodName := ⟨RX9, "want", "()I"⟩
abbrev cX9_worth : ByteArray := prog_1_method_10_code
def yX9_worth : MethodName := ⟨RX9, "worth", "(II)I"⟩
abbrev cX9_basket : ByteArray := prog_1_method_11_code
def yX9_basket : MethodName := ⟨RX9, "basket", "(II)I"⟩
abbrev cX9_wanted : ByteArray := prog_1_method_12_code
def yX9_wanted : MethodName := ⟨RX9, "wanted", "(II)I"⟩
abbrev cX9_led : ByteArray := prog_1_method_13_code
def yX9_led : MethodName := ⟨RX9, "led", "(II)I"⟩
abbrev cX9_found : ByteArray := prog_1_method_14_code
def yX9_found : MethodName := ⟨RX9, "found", "(II)I"⟩
abbrev cX9_set : ByteArray := prog_1_method_15_code
def yX9_set : MethodName := ⟨RX9, "set", "(I)I"⟩
abbrev cX9_tell : ByteArray := prog_1_method_16_code
def yX9_tell : MethodName := ⟨RX9, "tell", "(II)I"⟩
abbrev cX9_judge : ByteArray := prog_1_method_17_code
def yX9_judge : MethodName := ⟨RX9, "judge", "()I"⟩
abbrev cX9_changed : ByteArray := prog_1_method_18_code
def yX9_changed : MethodName := ⟨RX9, "changed", "(III)I"⟩
abbrev cX9_free : ByteArray := prog_1_method_19_code
def yX9_free : MethodName := ⟨RX9, "free", "()I"⟩
abbrev cX9_black : ByteArray := prog_1_method_20_code
def yX9_black : MethodName := ⟨RX9, "black", "(III)I"⟩
abbrev cX9_beside : ByteArray := prog_1_method_21_code
def yX9_beside : MethodName := ⟨RX9, "beside", "(II)I"⟩
abbrev cX9_loses : ByteArray := prog_1_method_22_code
def yX9_loses : MethodName := ⟨RX9, "loses", "(I)I"⟩
abbrev cX9_fewest : ByteArray := prog_1_method_23_code
def yX9_fewest : MethodName := ⟨RX9, "fewest", "()I"⟩
abbrev cX9_least : ByteArray := prog_1_method_24_code
def yX9_least : MethodName := ⟨RX9, "least", "(I)I"⟩
abbrev cX9_months : ByteArray := prog_1_method_25_code
def yX9_months : MethodName := ⟨RX9, "months", "(IIII)I"⟩
abbrev cX9_foresight : ByteArray := prog_1_method_26_code
def yX9_foresight : MethodName := ⟨RX9, "foresight", "(I)I"⟩
abbrev cX9_cheap : ByteArray := prog_1_method_27_code
def yX9_cheap : MethodName := ⟨RX9, "cheap", "(I)I"⟩
abbrev cX9_wrong : ByteArray := prog_1_method_28_code
def yX9_wrong : MethodName := ⟨RX9, "wrong", "(I)I"⟩
abbrev cX9_undo : ByteArray := prog_1_method_29_code
def yX9_undo : MethodName := ⟨RX9, "undo", "()I"⟩
abbrev cX9_redo : ByteArray := prog_1_method_30_code
def yX9_redo : MethodName := ⟨RX9, "redo", "()I"⟩
abbrev cX9_body : ByteArray := prog_1_method_31_code
def yX9_body : MethodName := ⟨RX9, "body", "(I)I"⟩
abbrev cX9_act : ByteArray := prog_1_method_32_code
def yX9_act : MethodName := ⟨RX9, "act", "(III)I"⟩
abbrev cX9_trace : ByteArray := prog_1_method_33_code
def yX9_trace : MethodName := ⟨RX9, "trace", "(I)I"⟩
abbrev cX9_keep : ByteArray := prog_1_method_34_code
def yX9_keep : MethodName := ⟨RX9, "keep", "(II)I"⟩
abbrev cX9_row : ByteArray := prog_1_method_35_code
def yX9_row : MethodName := ⟨RX9, "row", "(III)I"⟩
abbrev cX9_put : ByteArray := prog_1_method_36_code
def yX9_put : MethodName := ⟨RX9, "put", "(IIJ)I"⟩
abbrev cX9_element : ByteArray := prog_1_method_37_code
def yX9_element : MethodName := ⟨RX9, "element", "(II)J"⟩
abbrev cX9_shift : ByteArray := prog_1_method_38_code
def yX9_shift : MethodName := ⟨RX9, "shift", "(IIIII)I"⟩
abbrev cX9_taken : ByteArray := prog_1_method_39_code
def yX9_taken : MethodName := ⟨RX9, "taken", "(II)I"⟩
abbrev cX9_count : ByteArray := prog_1_method_40_code
def yX9_count : MethodName := ⟨RX9, "count", "(I)I"⟩
abbrev cX9_comesFrom : ByteArray := prog_1_method_41_code
def yX9_comesFrom : MethodName := ⟨RX9, "comesFrom", "(II)Z"⟩
abbrev cX9_isShare : ByteArray := prog_1_method_42_code
def yX9_isShare : MethodName := ⟨RX9, "isShare", "(I)Z"⟩
abbrev cX9_isWithin : ByteArray := prog_1_method_43_code
def yX9_isWithin : MethodName := ⟨RX9, "isWithin", "(III)Z"⟩
def RX10 : String := "PointsForAllModel"
def TX10 : u_T := fun k => match k with
  | 0 => ("PointsForAllModel", "may", "[I", true)
  | 1 => ("PointsForAllModel", "changeAt", "[I", true)
  | 2 => ("PointsForAllModel", "changeWas", "[I", true)
  | 3 => ("PointsForAllModel", "changeIs", "[I", true)
  | 4 => ("PointsForAllModel", "keptMany", "I", false)
  | 5 => ("PointsForAllModel", "done", "I", false)
  | 6 => ("PointsForAllModel", "things", "I", false)
  | 7 => ("PointsForAllModel", "madeAt", "[I", true)
  | 8 => ("PointsForAllModel", "sorts", "I", false)
  | 9 => ("PointsForAllModel", "heads", "[I", true)
  | 10 => ("PointsForAllModel", "babies", "[I", true)
  | 11 => ("PointsForAllModel", "wantOf", "[I", true)
  | 12 => ("PointsForAllModel", "told", "[I", true)
  | 13 => ("PointsForAllModel", "tape", "[I", true)
  | 14 => ("PointsForAllModel", "tapeMany", "I", false)
  | 15 => ("PointsForAllModel", "wants", "I", false)
  | 16 => ("PointsForAllModel", "text", "[I", true)
  | 17 => ("PointsForAllModel", "textMany", "[I", true)
  | 18 => ("PointsForAllModel", "base", "I", false)
  | 19 => ("PointsForAllModel", "at", "I", false)
  | 20 => ("PointsForAllModel", "ends", "I", false)
  | 21 => ("PointsForAllModel", "fault", "I", false)
  | 22 => ("PointsForAllModel", "opened", "I", false)
  | 23 => ("PointsForAllModel", "names", "[I", true)
  | 24 => ("PointsForAllModel", "worths", "[I", true)
  | 25 => ("PointsForAllModel", "inBasket", "[I", true)
  | 26 => ("PointsForAllModel", "basketWorth", "I", false)
  | 27 => ("PointsForAllModel", "basketCoin", "I", false)
  | 28 => ("PointsForAllModel", "basketPoints", "I", false)
  | 29 => ("PointsForAllModel", "dearer", "I", false)
  | 30 => ("PointsForAllModel", "bestWorth", "I", false)
  | 31 => ("PointsForAllModel", "bestCoin", "I", false)
  | 32 => ("PointsForAllModel", "bestPoints", "I", false)
  | 33 => ("PointsForAllModel", "wanted", "[I", true)
  | 34 => ("PointsForAllModel", "takes", "[I", true)
  | 35 => ("PointsForAllModel", "movedRounds", "I", false)
  | 36 => ("PointsForAllModel", "bothThen", "I", false)
  | 37 => ("PointsForAllModel", "leastBoth", "I", false)
  | 38 => ("PointsForAllModel", "leastRound", "I", false)
  | 39 => ("PointsForAllModel", "pointsThen", "[I", true)
  | 40 => ("PointsForAllModel", "pointsBest", "[I", true)
  | 41 => ("PointsForAllModel", "pointsWas", "[I", true)
  | 42 => ("PointsForAllModel", "changedWorth", "I", false)
  | 43 => ("PointsForAllModel", "changedPoints", "I", false)
  | 44 => ("PointsForAllModel", "worthBy", "[I", true)
  | 45 => ("PointsForAllModel", "bodies", "I", false)
  | 46 => ("PointsForAllModel", "bodyKind", "[I", true)
  | 47 => ("PointsForAllModel", "trace", "[I", true)
  | 48 => ("PointsForAllModel", "ran", "I", false)
  | 49 => ("PointsForAllModel", "ownKind", "I", false)
  | 50 => ("PointsForAllModel", "ownNumber", "I", false)
  | 51 => ("PointsForAllModel", "shelf", "[I", true)
  | 52 => ("PointsForAllModel", "many", "[I", true)
  | 53 => ("PointsForAllModel", "items", "[J", true)
  | _ => ("PointsForAllModel", "carried", "[J", true)
def tyX10 : Nat → FieldType := fun k => match k with
  | 0 => .array .int
  | 1 => .array .int
  | 2 => .array .int
  | 3 => .array .int
  | 4 => .int
  | 5 => .int
  | 6 => .int
  | 7 => .array .int
  | 8 => .int
  | 9 => .array .int
  | 10 => .array .int
  | 11 => .array .int
  | 12 => .array .int
  | 13 => .array .int
  | 14 => .int
  | 15 => .int
  | 16 => .array .int
  | 17 => .array .int
  | 18 => .int
  | 19 => .int
  | 20 => .int
  | 21 => .int
  | 22 => .int
  | 23 => .array .int
  | 24 => .array .int
  | 25 => .array .int
  | 26 => .int
  | 27 => .int
  | 28 => .int
  | 29 => .int
  | 30 => .int
  | 31 => .int
  | 32 => .int
  | 33 => .array .int
  | 34 => .array .int
  | 35 => .int
  | 36 => .int
  | 37 => .int
  | 38 => .int
  | 39 => .array .int
  | 40 => .array .int
  | 41 => .array .int
  | 42 => .int
  | 43 => .int
  | 44 => .array .int
  | 45 => .int
  | 46 => .array .int
  | 47 => .array .int
  | 48 => .int
  | 49 => .int
  | 50 => .int
  | 51 => .array .int
  | 52 => .array .int
  | 53 => .array .long
  | _ => .array .long
abbrev wsX100 : List Cond := u_ws RX10 TX10 55
theorem nmX10 : ∀ a, a < 55 → ∀ b, b < 55 → a ≠ b → (TX10 a).2.1 ≠ (TX10 b).2.1 := by decide +kernel
theorem tyX10_ok : ∀ k, k < 55 → parseFieldDescriptor (TX10 k).2.2.1 = some (tyX10 k) := by decide +kernel
abbrev cX10_within : ByteArray := prog_12_method_1_code
def yX10_within : MethodName := ⟨RX10, "within", "(JJJ)Z"⟩
abbrev cX10_size : ByteArray := prog_12_method_2_code
def yX10_size : MethodName := ⟨RX10, "size", "(I)I"⟩
abbrev cX10_init : ByteArray := prog_12_method_3_code
def yX10_init : MethodName := ⟨RX10, "<init>", "()V"⟩
abbrev cX10_becomes : ByteArray := prog_12_method_4_code
def yX10_becomes : MethodName := ⟨RX10, "becomes", "(II)I"⟩
abbrev cX10_undo : ByteArray := prog_12_method_5_code
def yX10_undo : MethodName := ⟨RX10, "undo", "()I"⟩
abbrev cX10_redo : ByteArray := prog_12_method_6_code
def yX10_redo : MethodName := ⟨RX10, "redo", "()I"⟩
abbrev cX10_isThing : ByteArray := prog_12_method_7_code
def yX10_isThing : MethodName := ⟨RX10, "isThing", "(I)Z"⟩
abbrev cX10_isSort : ByteArray := prog_12_method_8_code
def yX10_isSort : MethodName := ⟨RX10, "isSort", "(I)Z"⟩
abbrev cX10_isTwo : ByteArray := prog_12_method_9_code
def yX10_isTwo : MethodName := ⟨RX10, "isTwo", "(J)Z"⟩
abbrev cX10_adds : ByteArray := prog_12_method_10_code
def yX10_adds : MethodName := ⟨RX10, "adds", "(IIII)V"⟩
abbrev cX10_thing : ByteArray := prog_12_method_11_code
def yX10_thing : MethodName := ⟨RX10, "thing", "(III)I"⟩
abbrev cX10_things : ByteArray := prog_12_method_12_code
def yX10_things : MethodName := ⟨RX10, "things", "(III)I"⟩
abbrev cX10_mend : ByteArray := prog_12_method_13_code
def yX10_mend : MethodName := ⟨RX10, "mend", "(III)I"⟩
abbrev cX10_sort : ByteArray := prog_12_method_14_code
def yX10_sort : MethodName := ⟨RX10, "sort", "(III)I"⟩
abbrev cX10_purse : ByteArray := prog_12_method_15_code
def yX10_purse : MethodName := ⟨RX10, "purse", "(III)I"⟩
abbrev cX10_purseOf : ByteArray := prog_12_method_16_code
def yX10_purseOf : MethodName := ⟨RX10, "purseOf", "(I)I"⟩
abbrev cX10_pointsInAll : ByteArray := prog_12_method_17_code
def yX10_pointsInAll : MethodName := ⟨RX10, "pointsInAll", "(I)I"⟩
abbrev cX10_of : ByteArray := prog_12_method_18_code
def yX10_of : MethodName := ⟨RX10, "of", "(II)I"⟩
abbrev cX10_feed : ByteArray := prog_12_method_19_code
def yX10_feed : MethodName := ⟨RX10, "feed", "(II)I"⟩
abbrev cX10_byteAt : ByteArray := prog_12_method_20_code
def yX10_byteAt : MethodName := ⟨RX10, "byteAt", "()I"⟩
abbrev cX10_fails : ByteArray := prog_12_method_21_code
def yX10_fails : MethodName := ⟨RX10, "fails", "()I"⟩
abbrev cX10_takes : ByteArray := prog_12_method_22_code
def yX10_takes : MethodName := ⟨RX10, "takes", "(I)Z"⟩
abbrev cX10_either : ByteArray := prog_12_method_23_code
def yX10_either : MethodName := ⟨RX10, "either", "()I"⟩
abbrev cX10_both : ByteArray := prog_12_method_24_code
def yX10_both : MethodName := ⟨RX10, "both", "()I"⟩
abbrev cX10_compared : ByteArray := prog_12_method_25_code
def yX10_compared : MethodName := ⟨RX10, "compared", "()I"⟩
abbrev cX10_sums : ByteArray := prog_12_method_26_code
def yX10_sums : MethodName := ⟨RX10, "sums", "()I"⟩
abbrev cX10_product : ByteArray := prog_12_method_27_code
def yX10_product : MethodName := ⟨RX10, "product", "()I"⟩
abbrev cX10_nameOf : ByteArray := prog_12_method_28_code
def yX10_nameOf : MethodName := ⟨RX10, "nameOf", "(I)I"⟩
abbrev cX10_one : ByteArray := prog_12_method_29_code
def yX10_one : MethodName := ⟨RX10, "one", "()I"⟩
abbrev cX10_workOut : ByteArray := prog_12_method_30_code
def yX10_workOut : MethodName := ⟨RX10, "workOut", "(II)I"⟩
abbrev cX10_want : ByteArray := prog_12_method_31_code
def yX10_want : MethodName := ⟨RX10, "want", "()I"⟩
abbrev cX10_worthOf : ByteArray := prog_12_method_32_code
def yX10_worthOf : MethodName := ⟨RX10, "worthOf", "(III)I"⟩
abbrev cX10_worth : ByteArray := prog_12_method_33_code
def yX10_worth : MethodName := ⟨RX10, "worth", "(II)I"⟩
abbrev cX10_layWorths : ByteArray := prog_12_method_34_code
def yX10_layWorths : MethodName := ⟨RX10, "layWorths", "(I)V"⟩
abbrev cX10_baskets : ByteArray := prog_12_method_35_code
def yX10_baskets : MethodName := ⟨RX10, "baskets", "()I"⟩
abbrev cX10_unpack : ByteArray := prog_12_method_36_code
def yX10_unpack : MethodName := ⟨RX10, "unpack", "(I)V"⟩
abbrev cX10_findBest : ByteArray := prog_12_method_37_code
def yX10_findBest : MethodName := ⟨RX10, "findBest", "(III)I"⟩
abbrev cX10_bestOf : ByteArray := prog_12_method_38_code
def yX10_bestOf : MethodName := ⟨RX10, "bestOf", "(I)I"⟩
abbrev cX10_digitsNow : ByteArray := prog_12_method_39_code
def yX10_digitsNow : MethodName := ⟨RX10, "digitsNow", "()I"⟩
abbrev cX10_basket : ByteArray := prog_12_method_40_code
def yX10_basket : MethodName := ⟨RX10, "basket", "(II)I"⟩
abbrev cX10_findWanted : ByteArray := prog_12_method_41_code
def yX10_findWanted : MethodName := ⟨RX10, "findWanted", "()V"⟩
abbrev cX10_over : ByteArray := prog_12_method_42_code
def yX10_over : MethodName := ⟨RX10, "over", "(I)I"⟩
abbrev cX10_bothOver : ByteArray := prog_12_method_43_code
def yX10_bothOver : MethodName := ⟨RX10, "bothOver", "()I"⟩
abbrev cX10_wanted : ByteArray := prog_12_method_44_code
def yX10_wanted : MethodName := ⟨RX10, "wanted", "(II)I"⟩
abbrev cX10_led : ByteArray := prog_12_method_45_code
def yX10_led : MethodName := ⟨RX10, "led", "(II)I"⟩
abbrev cX10_goRounds : ByteArray := prog_12_method_46_code
def yX10_goRounds : MethodName := ⟨RX10, "goRounds", "(I)V"⟩
abbrev cX10_keepsLeast : ByteArray := prog_12_method_47_code
def yX10_keepsLeast : MethodName := ⟨RX10, "keepsLeast", "(I)V"⟩
abbrev cX10_areRounds : ByteArray := prog_12_method_48_code
def yX10_areRounds : MethodName := ⟨RX10, "areRounds", "(I)Z"⟩
abbrev cX10_found : ByteArray := prog_12_method_49_code
def yX10_found : MethodName := ⟨RX10, "found", "(II)I"⟩
abbrev cX10_set : ByteArray := prog_12_method_50_code
def yX10_set : MethodName := ⟨RX10, "set", "(I)I"⟩
abbrev cX10_areDigits : ByteArray := prog_12_method_51_code
def yX10_areDigits : MethodName := ⟨RX10, "areDigits", "(I)Z"⟩
abbrev cX10_tell : ByteArray := prog_12_method_52_code
def yX10_tell : MethodName := ⟨RX10, "tell", "(II)I"⟩
abbrev cX10_packed : ByteArray := prog_12_method_53_code
def yX10_packed : MethodName := ⟨RX10, "packed", "(I)I"⟩
abbrev cX10_judge : ByteArray := prog_12_method_54_code
def yX10_judge : MethodName := ⟨RX10, "judge", "()I"⟩
abbrev cX10_findChanged : ByteArray := prog_12_method_55_code
def yX10_findChanged : MethodName := ⟨RX10, "findChanged", "(II)V"⟩
abbrev cX10_isRate : ByteArray := prog_12_method_56_code
def yX10_isRate : MethodName := ⟨RX10, "isRate", "(I)Z"⟩
abbrev cX10_changed : ByteArray := prog_12_method_57_code
def yX10_changed : MethodName := ⟨RX10, "changed", "(III)I"⟩
abbrev cX10_free : ByteArray := prog_12_method_58_code
def yX10_free : MethodName := ⟨RX10, "free", "()I"⟩
abbrev cX10_black : ByteArray := prog_12_method_59_code
def yX10_black : MethodName := ⟨RX10, "black", "(III)I"⟩
abbrev cX10_isHow : ByteArray := prog_12_method_60_code
def yX10_isHow : MethodName := ⟨RX10, "isHow", "(I)Z"⟩
abbrev cX10_besideOf : ByteArray := prog_12_method_61_code
def yX10_besideOf : MethodName := ⟨RX10, "besideOf", "(II)I"⟩
abbrev cX10_beside : ByteArray := prog_12_method_62_code
def yX10_beside : MethodName := ⟨RX10, "beside", "(II)I"⟩
abbrev cX10_loses : ByteArray := prog_12_method_63_code
def yX10_loses : MethodName := ⟨RX10, "loses", "(I)I"⟩
abbrev cX10_bitsOf : ByteArray := prog_12_method_64_code
def yX10_bitsOf : MethodName := ⟨RX10, "bitsOf", "(I)I"⟩
abbrev cX10_isGone : ByteArray := prog_12_method_65_code
def yX10_isGone : MethodName := ⟨RX10, "isGone", "()Z"⟩
abbrev cX10_fewest : ByteArray := prog_12_method_66_code
def yX10_fewest : MethodName := ⟨RX10, "fewest", "()I"⟩
abbrev cX10_least : ByteArray := prog_12_method_67_code
def yX10_least : MethodName := ⟨RX10, "least", "(I)I"⟩
abbrev cX10_months : ByteArray := prog_12_method_68_code
def yX10_months : MethodName := ⟨RX10, "months", "(IIII)I"⟩
abbrev cX10_foresight : ByteArray := prog_12_method_69_code
def yX10_foresight : MethodName := ⟨RX10, "foresight", "(I)I"⟩
abbrev cX10_cheap : ByteArray := prog_12_method_70_code
def yX10_cheap : MethodName := ⟨RX10, "cheap", "(I)I"⟩
abbrev cX10_wrong : ByteArray := prog_12_method_71_code
def yX10_wrong : MethodName := ⟨RX10, "wrong", "(I)I"⟩
abbrev cX10_isBody : ByteArray := prog_12_method_72_code
def yX10_isBody : MethodName := ⟨RX10, "isBody", "(I)Z"⟩
abbrev cX10_kindOf : ByteArray := prog_12_method_73_code
def yX10_kindOf : MethodName := ⟨RX10, "kindOf", "(I)I"⟩
abbrev cX10_body : ByteArray := prog_12_method_74_code
def yX10_body : MethodName := ⟨RX10, "body", "(I)I"⟩
abbrev cX10_above : ByteArray := prog_12_method_75_code
def yX10_above : MethodName := ⟨RX10, "above", "(I)I"⟩
abbrev cX10_begins : ByteArray := prog_12_method_76_code
def yX10_begins : MethodName := ⟨RX10, "begins", "(I)V"⟩
abbrev cX10_buysAs : ByteArray := prog_12_method_77_code
def yX10_buysAs : MethodName := ⟨RX10, "buysAs", "(II)I"⟩
abbrev cX10_keepsAs : ByteArray := prog_12_method_78_code
def yX10_keepsAs : MethodName := ⟨RX10, "keepsAs", "(II)I"⟩
abbrev cX10_lendsAs : ByteArray := prog_12_method_79_code
def yX10_lendsAs : MethodName := ⟨RX10, "lendsAs", "(II)I"⟩
abbrev cX10_tellsAs : ByteArray := prog_12_method_80_code
def yX10_tellsAs : MethodName := ⟨RX10, "tellsAs", "(II)I"⟩
abbrev cX10_act : ByteArray := prog_12_method_81_code
def yX10_act : MethodName := ⟨RX10, "act", "(III)I"⟩
abbrev cX10_trace : ByteArray := prog_12_method_82_code
def yX10_trace : MethodName := ⟨RX10, "trace", "(I)I"⟩
abbrev cX10_isShelf : ByteArray := prog_12_method_83_code
def yX10_isShelf : MethodName := ⟨RX10, "isShelf", "(I)Z"⟩
abbrev cX10_keep : ByteArray := prog_12_method_84_code
def yX10_keep : MethodName := ⟨RX10, "keep", "(II)I"⟩
abbrev cX10_row : ByteArray := prog_12_method_85_code
def yX10_row : MethodName := ⟨RX10, "row", "(III)I"⟩
abbrev cX10_refusal : ByteArray := prog_12_method_86_code
def yX10_refusal : MethodName := ⟨RX10, "refusal", "(II)I"⟩
abbrev cX10_asSort : ByteArray := prog_12_method_87_code
def yX10_asSort : MethodName := ⟨RX10, "asSort", "(IJ)J"⟩
abbrev cX10_put : ByteArray := prog_12_method_88_code
def yX10_put : MethodName := ⟨RX10, "put", "(IIJ)I"⟩
abbrev cX10_element : ByteArray := prog_12_method_89_code
def yX10_element : MethodName := ⟨RX10, "element", "(II)J"⟩
abbrev cX10_shift : ByteArray := prog_12_method_90_code
def yX10_shift : MethodName := ⟨RX10, "shift", "(IIIII)I"⟩
abbrev cX10_taken : ByteArray := prog_12_method_91_code
def yX10_taken : MethodName := ⟨RX10, "taken", "(II)I"⟩
abbrev cX10_count : ByteArray := prog_12_method_92_code
def yX10_count : MethodName := ⟨RX10, "count", "(I)I"⟩
def RJ6 : String := "java/lang/Integer"
def TJ6 : u_T := fun k => match k with
  | _ => ("", "", "", false)
def tyJ6 : Nat → FieldType := fun k => match k with
  | _ => .int
abbrev wsJ60 : List Cond := u_ws RJ6 TJ6 0
theorem nmJ6 : ∀ a, a < 0 → ∀ b, b < 0 → a ≠ b → (TJ6 a).2.1 ≠ (TJ6 b).2.1 := by decide +kernel
theorem tyJ6_ok : ∀ k, k < 0 → parseFieldDescriptor (TJ6 k).2.2.1 = some (tyJ6 k) := by decide +kernel
abbrev cJ6_compare_7cf53 : ByteArray := prog_13_method_40_code
def yJ6_compare_7cf53 : MethodName := ⟨RJ6, "compare", "(II)I"⟩
abbrev cJ6_bitCount_0f7a4 : ByteArray := prog_13_method_49_code
def yJ6_bitCount_0f7a4 : MethodName := ⟨RJ6, "bitCount", "(I)I"⟩
def RJ9 : String := "java/lang/Math"
def TJ9 : u_T := fun k => match k with
  | _ => ("", "", "", false)
def tyJ9 : Nat → FieldType := fun k => match k with
  | _ => .int
abbrev wsJ90 : List Cond := u_ws RJ9 TJ9 0
theorem nmJ9 : ∀ a, a < 0 → ∀ b, b < 0 → a ≠ b → (TJ9 a).2.1 ≠ (TJ9 b).2.1 := by decide +kernel
theorem tyJ9_ok : ∀ k, k < 0 → parseFieldDescriptor (TJ9 k).2.2.1 = some (tyJ9 k) := by decide +kernel
abbrev cJ9_abs_0f7a4 : ByteArray := prog_14_method_59_code
def yJ9_abs_0f7a4 : MethodName := ⟨RJ9, "abs", "(I)I"⟩
abbrev cJ9_max_7cf53 : ByteArray := prog_14_method_65_code
def yJ9_max_7cf53 : MethodName := ⟨RJ9, "max", "(II)I"⟩
abbrev cJ9_min_7cf53 : ByteArray := prog_14_method_69_code
def yJ9_min_7cf53 : MethodName := ⟨RJ9, "min", "(II)I"⟩
def RJ10 : String := "java/lang/System"
def TJ10 : u_T := fun k => match k with
  | _ => ("", "", "", false)
def tyJ10 : Nat → FieldType := fun k => match k with
  | _ => .int
abbrev wsJ100 : List Cond := u_ws RJ10 TJ10 0
theorem nmJ10 : ∀ a, a < 0 → ∀ b, b < 0 → a ≠ b → (TJ10 a).2.1 ≠ (TJ10 b).2.1 := by decide +kernel
theorem tyJ10_ok : ∀ k, k < 0 → parseFieldDescriptor (TJ10 k).2.2.1 = some (tyJ10 k) := by decide +kernel
def RL : String := "PointsForAllLaw"
abbrev cL_law : ByteArray := code
def yL_law : MethodName := ⟨RL, "law", "([I)Z"⟩
abbrev vwCl : List vw_C := [(RX0, TX0, 5), (RX1, TX1, 7), (RX2, TX2, 8), (RX3, TX3, 6), (RX4, TX4, 3), (RX5, TX5, 3), (RX6, TX6, 5), (RX7, TX7, 13), (RX8, TX8, 6), (RX9, TX9, 9), (RX10, TX10, 55)]
end
section
theorem dX0_init_0 : decode cX0_init 0 = .ok (.aload_n 0, 1) := by decide +kernel
theorem dX0_init_1 : decode cX0_init 1 = .ok (.invokespecial 3, 3) := by decide +kernel
theorem dX0_init_4 : decode cX0_init 4 = .ok (.aload_n 0, 1) := by decide +kernel
theorem dX0_init_5 : decode cX0_init 5 = .ok (.sipush 259, 3) := by decide +kernel
theorem dX0_init_8 : decode cX0_init 8 = .ok (.newarray .int, 2) := by decide +kernel
theorem dX0_init_10 : decode cX0_init 10 = .ok (.putfield 9, 3) := by decide +kernel
theorem dX0_init_13 : decode cX0_init 13 = .ok (.aload_n 0, 1) := by decide +kernel
theorem dX0_init_14 : decode cX0_init 14 = .ok (.aload_n 1, 1) := by decide +kernel
theorem dX0_init_15 : decode cX0_init 15 = .ok (.putfield 15, 3) := by decide +kernel
theorem dX0_init_18 : decode cX0_init 18 = .ok (.aload_n 0, 1) := by decide +kernel
theorem dX0_init_19 : decode cX0_init 19 = .ok (.aload_n 2, 1) := by decide +kernel
theorem dX0_init_20 : decode cX0_init 20 = .ok (.putfield 19, 3) := by decide +kernel
theorem dX0_init_23 : decode cX0_init 23 = .ok (.return_, 1) := by decide +kernel
theorem dX0_plainWorth_0 : decode cX0_plainWorth 0 = .ok (.aload_n 0, 1) := by decide +kernel
theorem dX0_plainWorth_1 : decode cX0_plainWorth 1 = .ok (.getfield 19, 3) := by decide +kernel
theorem dX0_plainWorth_4 : decode cX0_plainWorth 4 = .ok (.invokevirtual 23, 3) := by decide +kernel
theorem dX0_plainWorth_7 : decode cX0_plainWorth 7 = .ok (.aload_n 0, 1) := by decide +kernel
theorem dX0_plainWorth_8 : decode cX0_plainWorth 8 = .ok (.getfield 19, 3) := by decide +kernel
theorem dX0_plainWorth_11 : decode cX0_plainWorth 11 = .ok (.iload_n 1, 1) := by decide +kernel
theorem dX0_plainWorth_12 : decode cX0_plainWorth 12 = .ok (.invokevirtual 28, 3) := by decide +kernel
theorem dX0_plainWorth_15 : decode cX0_plainWorth 15 = .ok (.aload_n 0, 1) := by decide +kernel
theorem dX0_plainWorth_16 : decode cX0_plainWorth 16 = .ok (.getfield 19, 3) := by decide +kernel
theorem dX0_plainWorth_19 : decode cX0_plainWorth 19 = .ok (.iload_n 1, 1) := by decide +kernel
theorem dX0_plainWorth_20 : decode cX0_plainWorth 20 = .ok (.invokevirtual 32, 3) := by decide +kernel
theorem dX0_plainWorth_23 : decode cX0_plainWorth 23 = .ok (.aload_n 0, 1) := by decide +kernel
theorem dX0_plainWorth_24 : decode cX0_plainWorth 24 = .ok (.getfield 19, 3) := by decide +kernel
theorem dX0_plainWorth_27 : decode cX0_plainWorth 27 = .ok (.getfield 35, 3) := by decide +kernel
theorem dX0_plainWorth_30 : decode cX0_plainWorth 30 = .ok (.ireturn, 1) := by decide +kernel
theorem dX0_exchange_0 : decode cX0_exchange 0 = .ok (.aload_n 0, 1) := by decide +kernel
theorem dX0_exchange_1 : decode cX0_exchange 1 = .ok (.getfield 19, 3) := by decide +kernel
theorem dX0_exchange_4 : decode cX0_exchange 4 = .ok (.invokevirtual 23, 3) := by decide +kernel
theorem dX0_exchange_7 : decode cX0_exchange 7 = .ok (.aload_n 0, 1) := by decide +kernel
theorem dX0_exchange_8 : decode cX0_exchange 8 = .ok (.getfield 19, 3) := by decide +kernel
theorem dX0_exchange_11 : decode cX0_exchange 11 = .ok (.iload_n 1, 1) := by decide +kernel
theorem dX0_exchange_12 : decode cX0_exchange 12 = .ok (.invokevirtual 28, 3) := by decide +kernel
theorem dX0_exchange_15 : decode cX0_exchange 15 = .ok (.iconst 0, 1) := by decide +kernel
theorem dX0_exchange_16 : decode cX0_exchange 16 = .ok (.istore_n 3, 1) := by decide +kernel
theorem dX0_exchange_17 : decode cX0_exchange 17 = .ok (.iload_n 3, 1) := by decide +kernel
theorem dX0_exchange_18 : decode cX0_exchange 18 = .ok (.aload_n 0, 1) := by decide +kernel
theorem dX0_exchange_19 : decode cX0_exchange 19 = .ok (.getfield 15, 3) := by decide +kernel
theorem dX0_exchange_22 : decode cX0_exchange 22 = .ok (.getfield 39, 3) := by decide +kernel
theorem dX0_exchange_25 : decode cX0_exchange 25 = .ok (.if_icmp .ge 42, 3) := by decide +kernel
theorem dX0_exchange_28 : decode cX0_exchange 28 = .ok (.aload_n 0, 1) := by decide +kernel
theorem dX0_exchange_29 : decode cX0_exchange 29 = .ok (.getfield 19, 3) := by decide +kernel
theorem dX0_exchange_32 : decode cX0_exchange 32 = .ok (.iload_n 3, 1) := by decide +kernel
theorem dX0_exchange_33 : decode cX0_exchange 33 = .ok (.invokevirtual 44, 3) := by decide +kernel
theorem dX0_exchange_36 : decode cX0_exchange 36 = .ok (.istore 4, 2) := by decide +kernel
theorem dX0_exchange_38 : decode cX0_exchange 38 = .ok (.aload_n 0, 1) := by decide +kernel
theorem dX0_exchange_39 : decode cX0_exchange 39 = .ok (.getfield 19, 3) := by decide +kernel
theorem dX0_exchange_42 : decode cX0_exchange 42 = .ok (.iload_n 3, 1) := by decide +kernel
theorem dX0_exchange_43 : decode cX0_exchange 43 = .ok (.aload_n 0, 1) := by decide +kernel
theorem dX0_exchange_44 : decode cX0_exchange 44 = .ok (.getfield 19, 3) := by decide +kernel
theorem dX0_exchange_47 : decode cX0_exchange 47 = .ok (.iload_n 3, 1) := by decide +kernel
theorem dX0_exchange_48 : decode cX0_exchange 48 = .ok (.invokevirtual 48, 3) := by decide +kernel
theorem dX0_exchange_51 : decode cX0_exchange 51 = .ok (.iload_n 2, 1) := by decide +kernel
theorem dX0_exchange_52 : decode cX0_exchange 52 = .ok (.iload 4, 2) := by decide +kernel
theorem dX0_exchange_54 : decode cX0_exchange 54 = .ok (.imul, 1) := by decide +kernel
theorem dX0_exchange_55 : decode cX0_exchange 55 = .ok (.iadd, 1) := by decide +kernel
theorem dX0_exchange_56 : decode cX0_exchange 56 = .ok (.iload 4, 2) := by decide +kernel
theorem dX0_exchange_58 : decode cX0_exchange 58 = .ok (.invokevirtual 51, 3) := by decide +kernel
theorem dX0_exchange_61 : decode cX0_exchange 61 = .ok (.iinc 3 1, 3) := by decide +kernel
theorem dX0_exchange_64 : decode cX0_exchange 64 = .ok (.goto (-47), 3) := by decide +kernel
theorem dX0_exchange_67 : decode cX0_exchange 67 = .ok (.aload_n 0, 1) := by decide +kernel
theorem dX0_exchange_68 : decode cX0_exchange 68 = .ok (.getfield 19, 3) := by decide +kernel
theorem dX0_exchange_71 : decode cX0_exchange 71 = .ok (.aload_n 0, 1) := by decide +kernel
theorem dX0_exchange_72 : decode cX0_exchange 72 = .ok (.getfield 15, 3) := by decide +kernel
theorem dX0_exchange_75 : decode cX0_exchange 75 = .ok (.iconst 5, 1) := by decide +kernel
theorem dX0_exchange_76 : decode cX0_exchange 76 = .ok (.iload_n 1, 1) := by decide +kernel
theorem dX0_exchange_77 : decode cX0_exchange 77 = .ok (.invokevirtual 55, 3) := by decide +kernel
theorem dX0_exchange_80 : decode cX0_exchange 80 = .ok (.iload_n 2, 1) := by decide +kernel
theorem dX0_exchange_81 : decode cX0_exchange 81 = .ok (.aload_n 0, 1) := by decide +kernel
theorem dX0_exchange_82 : decode cX0_exchange 82 = .ok (.getfield 15, 3) := by decide +kernel
theorem dX0_exchange_85 : decode cX0_exchange 85 = .ok (.iload_n 1, 1) := by decide +kernel
theorem dX0_exchange_86 : decode cX0_exchange 86 = .ok (.invokevirtual 59, 3) := by decide +kernel
theorem dX0_exchange_89 : decode cX0_exchange 89 = .ok (.imul, 1) := by decide +kernel
theorem dX0_exchange_90 : decode cX0_exchange 90 = .ok (.iadd, 1) := by decide +kernel
theorem dX0_exchange_91 : decode cX0_exchange 91 = .ok (.iconst 0, 1) := by decide +kernel
theorem dX0_exchange_92 : decode cX0_exchange 92 = .ok (.iconst 0, 1) := by decide +kernel
theorem dX0_exchange_93 : decode cX0_exchange 93 = .ok (.invokevirtual 62, 3) := by decide +kernel
theorem dX0_exchange_96 : decode cX0_exchange 96 = .ok (.return_, 1) := by decide +kernel
theorem dX0_pointsThere_0 : decode cX0_pointsThere 0 = .ok (.iconst 0, 1) := by decide +kernel
theorem dX0_pointsThere_1 : decode cX0_pointsThere 1 = .ok (.istore_n 1, 1) := by decide +kernel
theorem dX0_pointsThere_2 : decode cX0_pointsThere 2 = .ok (.iconst 0, 1) := by decide +kernel
theorem dX0_pointsThere_3 : decode cX0_pointsThere 3 = .ok (.istore_n 2, 1) := by decide +kernel
theorem dX0_pointsThere_4 : decode cX0_pointsThere 4 = .ok (.iload_n 2, 1) := by decide +kernel
theorem dX0_pointsThere_5 : decode cX0_pointsThere 5 = .ok (.aload_n 0, 1) := by decide +kernel
theorem dX0_pointsThere_6 : decode cX0_pointsThere 6 = .ok (.getfield 15, 3) := by decide +kernel
theorem dX0_pointsThere_9 : decode cX0_pointsThere 9 = .ok (.getfield 65, 3) := by decide +kernel
theorem dX0_pointsThere_12 : decode cX0_pointsThere 12 = .ok (.if_icmp .ge 30, 3) := by decide +kernel
theorem dX0_pointsThere_15 : decode cX0_pointsThere 15 = .ok (.iload_n 1, 1) := by decide +kernel
theorem dX0_pointsThere_16 : decode cX0_pointsThere 16 = .ok (.aload_n 0, 1) := by decide +kernel
theorem dX0_pointsThere_17 : decode cX0_pointsThere 17 = .ok (.getfield 15, 3) := by decide +kernel
theorem dX0_pointsThere_20 : decode cX0_pointsThere 20 = .ok (.iconst 4, 1) := by decide +kernel
theorem dX0_pointsThere_21 : decode cX0_pointsThere 21 = .ok (.iload_n 2, 1) := by decide +kernel
theorem dX0_pointsThere_22 : decode cX0_pointsThere 22 = .ok (.invokevirtual 55, 3) := by decide +kernel
theorem dX0_pointsThere_25 : decode cX0_pointsThere 25 = .ok (.aload_n 0, 1) := by decide +kernel
theorem dX0_pointsThere_26 : decode cX0_pointsThere 26 = .ok (.getfield 15, 3) := by decide +kernel
theorem dX0_pointsThere_29 : decode cX0_pointsThere 29 = .ok (.iload_n 2, 1) := by decide +kernel
theorem dX0_pointsThere_30 : decode cX0_pointsThere 30 = .ok (.invokevirtual 59, 3) := by decide +kernel
theorem dX0_pointsThere_33 : decode cX0_pointsThere 33 = .ok (.imul, 1) := by decide +kernel
theorem dX0_pointsThere_34 : decode cX0_pointsThere 34 = .ok (.iadd, 1) := by decide +kernel
theorem dX0_pointsThere_35 : decode cX0_pointsThere 35 = .ok (.istore_n 1, 1) := by decide +kernel
theorem dX0_pointsThere_36 : decode cX0_pointsThere 36 = .ok (.iinc 2 1, 3) := by decide +kernel
theorem dX0_pointsThere_39 : decode cX0_pointsThere 39 = .ok (.goto (-35), 3) := by decide +kernel
theorem dX0_pointsThere_42 : decode cX0_pointsThere 42 = .ok (.iload_n 1, 1) := by decide +kernel
theorem dX0_pointsThere_43 : decode cX0_pointsThere 43 = .ok (.ireturn, 1) := by decide +kernel
theorem dX0_pointsTaken_0 : decode cX0_pointsTaken 0 = .ok (.iconst 0, 1) := by decide +kernel
theorem dX0_pointsTaken_1 : decode cX0_pointsTaken 1 = .ok (.istore_n 2, 1) := by decide +kernel
theorem dX0_pointsTaken_2 : decode cX0_pointsTaken 2 = .ok (.iconst 0, 1) := by decide +kernel
theorem dX0_pointsTaken_3 : decode cX0_pointsTaken 3 = .ok (.istore_n 3, 1) := by decide +kernel
theorem dX0_pointsTaken_4 : decode cX0_pointsTaken 4 = .ok (.iload_n 3, 1) := by decide +kernel
theorem dX0_pointsTaken_5 : decode cX0_pointsTaken 5 = .ok (.aload_n 0, 1) := by decide +kernel
theorem dX0_pointsTaken_6 : decode cX0_pointsTaken 6 = .ok (.getfield 15, 3) := by decide +kernel
theorem dX0_pointsTaken_9 : decode cX0_pointsTaken 9 = .ok (.getfield 65, 3) := by decide +kernel
theorem dX0_pointsTaken_12 : decode cX0_pointsTaken 12 = .ok (.if_icmp .ge 35, 3) := by decide +kernel
theorem dX0_pointsTaken_15 : decode cX0_pointsTaken 15 = .ok (.aload_n 0, 1) := by decide +kernel
theorem dX0_pointsTaken_16 : decode cX0_pointsTaken 16 = .ok (.iload_n 3, 1) := by decide +kernel
theorem dX0_pointsTaken_17 : decode cX0_pointsTaken 17 = .ok (.iload_n 1, 1) := by decide +kernel
theorem dX0_pointsTaken_18 : decode cX0_pointsTaken 18 = .ok (.invokevirtual 68, 3) := by decide +kernel
theorem dX0_pointsTaken_21 : decode cX0_pointsTaken 21 = .ok (.iload_n 2, 1) := by decide +kernel
theorem dX0_pointsTaken_22 : decode cX0_pointsTaken 22 = .ok (.aload_n 0, 1) := by decide +kernel
theorem dX0_pointsTaken_23 : decode cX0_pointsTaken 23 = .ok (.getfield 15, 3) := by decide +kernel
theorem dX0_pointsTaken_26 : decode cX0_pointsTaken 26 = .ok (.iconst 4, 1) := by decide +kernel
theorem dX0_pointsTaken_27 : decode cX0_pointsTaken 27 = .ok (.iload_n 3, 1) := by decide +kernel
theorem dX0_pointsTaken_28 : decode cX0_pointsTaken 28 = .ok (.invokevirtual 55, 3) := by decide +kernel
theorem dX0_pointsTaken_31 : decode cX0_pointsTaken 31 = .ok (.aload_n 0, 1) := by decide +kernel
theorem dX0_pointsTaken_32 : decode cX0_pointsTaken 32 = .ok (.getfield 19, 3) := by decide +kernel
theorem dX0_pointsTaken_35 : decode cX0_pointsTaken 35 = .ok (.getfield 72, 3) := by decide +kernel
theorem dX0_pointsTaken_38 : decode cX0_pointsTaken 38 = .ok (.imul, 1) := by decide +kernel
theorem dX0_pointsTaken_39 : decode cX0_pointsTaken 39 = .ok (.iadd, 1) := by decide +kernel
theorem dX0_pointsTaken_40 : decode cX0_pointsTaken 40 = .ok (.istore_n 2, 1) := by decide +kernel
theorem dX0_pointsTaken_41 : decode cX0_pointsTaken 41 = .ok (.iinc 3 1, 3) := by decide +kernel
theorem dX0_pointsTaken_44 : decode cX0_pointsTaken 44 = .ok (.goto (-40), 3) := by decide +kernel
theorem dX0_pointsTaken_47 : decode cX0_pointsTaken 47 = .ok (.iload_n 2, 1) := by decide +kernel
theorem dX0_pointsTaken_48 : decode cX0_pointsTaken 48 = .ok (.ireturn, 1) := by decide +kernel
theorem dX0_byStealth_0 : decode cX0_byStealth 0 = .ok (.aload_n 0, 1) := by decide +kernel
theorem dX0_byStealth_1 : decode cX0_byStealth 1 = .ok (.getfield 19, 3) := by decide +kernel
theorem dX0_byStealth_4 : decode cX0_byStealth 4 = .ok (.invokevirtual 23, 3) := by decide +kernel
theorem dX0_byStealth_7 : decode cX0_byStealth 7 = .ok (.aload_n 0, 1) := by decide +kernel
theorem dX0_byStealth_8 : decode cX0_byStealth 8 = .ok (.getfield 19, 3) := by decide +kernel
theorem dX0_byStealth_11 : decode cX0_byStealth 11 = .ok (.iload_n 1, 1) := by decide +kernel
theorem dX0_byStealth_12 : decode cX0_byStealth 12 = .ok (.invokevirtual 28, 3) := by decide +kernel
theorem dX0_byStealth_15 : decode cX0_byStealth 15 = .ok (.iload_n 2, 1) := by decide +kernel
theorem dX0_byStealth_16 : decode cX0_byStealth 16 = .ok (.iload_n 3, 1) := by decide +kernel
theorem dX0_byStealth_17 : decode cX0_byStealth 17 = .ok (.iload 4, 2) := by decide +kernel
theorem dX0_byStealth_19 : decode cX0_byStealth 19 = .ok (.imul, 1) := by decide +kernel
theorem dX0_byStealth_20 : decode cX0_byStealth 20 = .ok (.bipush 99, 2) := by decide +kernel
theorem dX0_byStealth_22 : decode cX0_byStealth 22 = .ok (.iadd, 1) := by decide +kernel
theorem dX0_byStealth_23 : decode cX0_byStealth 23 = .ok (.bipush 100, 2) := by decide +kernel
theorem dX0_byStealth_25 : decode cX0_byStealth 25 = .ok (.idiv, 1) := by decide +kernel
theorem dX0_byStealth_26 : decode cX0_byStealth 26 = .ok (.iadd, 1) := by decide +kernel
theorem dX0_byStealth_27 : decode cX0_byStealth 27 = .ok (.istore 5, 2) := by decide +kernel
theorem dX0_byStealth_29 : decode cX0_byStealth 29 = .ok (.aload_n 0, 1) := by decide +kernel
theorem dX0_byStealth_30 : decode cX0_byStealth 30 = .ok (.getfield 19, 3) := by decide +kernel
theorem dX0_byStealth_33 : decode cX0_byStealth 33 = .ok (.aload_n 0, 1) := by decide +kernel
theorem dX0_byStealth_34 : decode cX0_byStealth 34 = .ok (.getfield 15, 3) := by decide +kernel
theorem dX0_byStealth_37 : decode cX0_byStealth 37 = .ok (.iconst 5, 1) := by decide +kernel
theorem dX0_byStealth_38 : decode cX0_byStealth 38 = .ok (.iload_n 1, 1) := by decide +kernel
theorem dX0_byStealth_39 : decode cX0_byStealth 39 = .ok (.invokevirtual 55, 3) := by decide +kernel
theorem dX0_byStealth_42 : decode cX0_byStealth 42 = .ok (.aload_n 0, 1) := by decide +kernel
theorem dX0_byStealth_43 : decode cX0_byStealth 43 = .ok (.getfield 15, 3) := by decide +kernel
theorem dX0_byStealth_46 : decode cX0_byStealth 46 = .ok (.iload_n 1, 1) := by decide +kernel
theorem dX0_byStealth_47 : decode cX0_byStealth 47 = .ok (.invokevirtual 59, 3) := by decide +kernel
theorem dX0_byStealth_50 : decode cX0_byStealth 50 = .ok (.iload 5, 2) := by decide +kernel
theorem dX0_byStealth_52 : decode cX0_byStealth 52 = .ok (.invokevirtual 62, 3) := by decide +kernel
theorem dX0_byStealth_55 : decode cX0_byStealth 55 = .ok (.aload_n 0, 1) := by decide +kernel
theorem dX0_byStealth_56 : decode cX0_byStealth 56 = .ok (.getfield 19, 3) := by decide +kernel
theorem dX0_byStealth_59 : decode cX0_byStealth 59 = .ok (.getfield 35, 3) := by decide +kernel
theorem dX0_byStealth_62 : decode cX0_byStealth 62 = .ok (.ireturn, 1) := by decide +kernel
theorem dX0_otherwise_0 : decode cX0_otherwise 0 = .ok (.aload_n 0, 1) := by decide +kernel
theorem dX0_otherwise_1 : decode cX0_otherwise 1 = .ok (.getfield 19, 3) := by decide +kernel
theorem dX0_otherwise_4 : decode cX0_otherwise 4 = .ok (.invokevirtual 23, 3) := by decide +kernel
theorem dX0_otherwise_7 : decode cX0_otherwise 7 = .ok (.aload_n 0, 1) := by decide +kernel
theorem dX0_otherwise_8 : decode cX0_otherwise 8 = .ok (.getfield 19, 3) := by decide +kernel
theorem dX0_otherwise_11 : decode cX0_otherwise 11 = .ok (.iload_n 1, 1) := by decide +kernel
theorem dX0_otherwise_12 : decode cX0_otherwise 12 = .ok (.invokevirtual 28, 3) := by decide +kernel
theorem dX0_otherwise_15 : decode cX0_otherwise 15 = .ok (.iload_n 2, 1) := by decide +kernel
theorem dX0_otherwise_16 : decode cX0_otherwise 16 = .ok (.ifCond .ne 10, 3) := by decide +kernel
theorem dX0_otherwise_19 : decode cX0_otherwise 19 = .ok (.aload_n 0, 1) := by decide +kernel
theorem dX0_otherwise_20 : decode cX0_otherwise 20 = .ok (.invokevirtual 75, 3) := by decide +kernel
theorem dX0_otherwise_23 : decode cX0_otherwise 23 = .ok (.goto 9, 3) := by decide +kernel
theorem dX0_otherwise_26 : decode cX0_otherwise 26 = .ok (.aload_n 0, 1) := by decide +kernel
theorem dX0_otherwise_27 : decode cX0_otherwise 27 = .ok (.iload_n 1, 1) := by decide +kernel
theorem dX0_otherwise_28 : decode cX0_otherwise 28 = .ok (.iload_n 2, 1) := by decide +kernel
theorem dX0_otherwise_29 : decode cX0_otherwise 29 = .ok (.invokevirtual 79, 3) := by decide +kernel
theorem dX0_otherwise_32 : decode cX0_otherwise 32 = .ok (.ireturn, 1) := by decide +kernel
theorem dX0_equalWorth_0 : decode cX0_equalWorth 0 = .ok (.aload_n 0, 1) := by decide +kernel
theorem dX0_equalWorth_1 : decode cX0_equalWorth 1 = .ok (.getfield 15, 3) := by decide +kernel
theorem dX0_equalWorth_4 : decode cX0_equalWorth 4 = .ok (.invokevirtual 82, 3) := by decide +kernel
theorem dX0_equalWorth_7 : decode cX0_equalWorth 7 = .ok (.istore_n 1, 1) := by decide +kernel
theorem dX0_equalWorth_8 : decode cX0_equalWorth 8 = .ok (.iconst 0, 1) := by decide +kernel
theorem dX0_equalWorth_9 : decode cX0_equalWorth 9 = .ok (.istore_n 2, 1) := by decide +kernel
theorem dX0_equalWorth_10 : decode cX0_equalWorth 10 = .ok (.iconst 0, 1) := by decide +kernel
theorem dX0_equalWorth_11 : decode cX0_equalWorth 11 = .ok (.istore_n 3, 1) := by decide +kernel
theorem dX0_equalWorth_12 : decode cX0_equalWorth 12 = .ok (.iload_n 3, 1) := by decide +kernel
theorem dX0_equalWorth_13 : decode cX0_equalWorth 13 = .ok (.aload_n 0, 1) := by decide +kernel
theorem dX0_equalWorth_14 : decode cX0_equalWorth 14 = .ok (.getfield 15, 3) := by decide +kernel
theorem dX0_equalWorth_17 : decode cX0_equalWorth 17 = .ok (.getfield 39, 3) := by decide +kernel
theorem dX0_equalWorth_20 : decode cX0_equalWorth 20 = .ok (.if_icmp .ge 47, 3) := by decide +kernel
theorem dX0_equalWorth_23 : decode cX0_equalWorth 23 = .ok (.iload_n 1, 1) := by decide +kernel
theorem dX0_equalWorth_24 : decode cX0_equalWorth 24 = .ok (.ifCond .ne 7, 3) := by decide +kernel
theorem dX0_equalWorth_27 : decode cX0_equalWorth 27 = .ok (.iconst 0, 1) := by decide +kernel
theorem dX0_equalWorth_28 : decode cX0_equalWorth 28 = .ok (.goto 14, 3) := by decide +kernel
theorem dX0_equalWorth_31 : decode cX0_equalWorth 31 = .ok (.aload_n 0, 1) := by decide +kernel
theorem dX0_equalWorth_32 : decode cX0_equalWorth 32 = .ok (.getfield 15, 3) := by decide +kernel
theorem dX0_equalWorth_35 : decode cX0_equalWorth 35 = .ok (.iconst 0, 1) := by decide +kernel
theorem dX0_equalWorth_36 : decode cX0_equalWorth 36 = .ok (.iload_n 3, 1) := by decide +kernel
theorem dX0_equalWorth_37 : decode cX0_equalWorth 37 = .ok (.invokevirtual 55, 3) := by decide +kernel
theorem dX0_equalWorth_40 : decode cX0_equalWorth 40 = .ok (.iload_n 1, 1) := by decide +kernel
theorem dX0_equalWorth_41 : decode cX0_equalWorth 41 = .ok (.idiv, 1) := by decide +kernel
theorem dX0_equalWorth_42 : decode cX0_equalWorth 42 = .ok (.istore 4, 2) := by decide +kernel
theorem dX0_equalWorth_44 : decode cX0_equalWorth 44 = .ok (.iload_n 2, 1) := by decide +kernel
theorem dX0_equalWorth_45 : decode cX0_equalWorth 45 = .ok (.aload_n 0, 1) := by decide +kernel
theorem dX0_equalWorth_46 : decode cX0_equalWorth 46 = .ok (.getfield 19, 3) := by decide +kernel
theorem dX0_equalWorth_49 : decode cX0_equalWorth 49 = .ok (.iload_n 3, 1) := by decide +kernel
theorem dX0_equalWorth_50 : decode cX0_equalWorth 50 = .ok (.iconst 3, 1) := by decide +kernel
theorem dX0_equalWorth_51 : decode cX0_equalWorth 51 = .ok (.iload 4, 2) := by decide +kernel
theorem dX0_equalWorth_53 : decode cX0_equalWorth 53 = .ok (.invokestatic 85, 3) := by decide +kernel
theorem dX0_equalWorth_56 : decode cX0_equalWorth 56 = .ok (.invokevirtual 90, 3) := by decide +kernel
theorem dX0_equalWorth_59 : decode cX0_equalWorth 59 = .ok (.iadd, 1) := by decide +kernel
theorem dX0_equalWorth_60 : decode cX0_equalWorth 60 = .ok (.istore_n 2, 1) := by decide +kernel
theorem dX0_equalWorth_61 : decode cX0_equalWorth 61 = .ok (.iinc 3 1, 3) := by decide +kernel
theorem dX0_equalWorth_64 : decode cX0_equalWorth 64 = .ok (.goto (-52), 3) := by decide +kernel
theorem dX0_equalWorth_67 : decode cX0_equalWorth 67 = .ok (.iload_n 2, 1) := by decide +kernel
theorem dX0_equalWorth_68 : decode cX0_equalWorth 68 = .ok (.ireturn, 1) := by decide +kernel
theorem dX0_coinWorth_0 : decode cX0_coinWorth 0 = .ok (.iconst 0, 1) := by decide +kernel
theorem dX0_coinWorth_1 : decode cX0_coinWorth 1 = .ok (.istore_n 3, 1) := by decide +kernel
theorem dX0_coinWorth_2 : decode cX0_coinWorth 2 = .ok (.iload_n 3, 1) := by decide +kernel
theorem dX0_coinWorth_3 : decode cX0_coinWorth 3 = .ok (.aload_n 0, 1) := by decide +kernel
theorem dX0_coinWorth_4 : decode cX0_coinWorth 4 = .ok (.getfield 15, 3) := by decide +kernel
theorem dX0_coinWorth_7 : decode cX0_coinWorth 7 = .ok (.getfield 39, 3) := by decide +kernel
theorem dX0_coinWorth_10 : decode cX0_coinWorth 10 = .ok (.if_icmp .ge 31, 3) := by decide +kernel
theorem dX0_coinWorth_13 : decode cX0_coinWorth 13 = .ok (.aload_n 0, 1) := by decide +kernel
theorem dX0_coinWorth_14 : decode cX0_coinWorth 14 = .ok (.getfield 19, 3) := by decide +kernel
theorem dX0_coinWorth_17 : decode cX0_coinWorth 17 = .ok (.iload_n 3, 1) := by decide +kernel
theorem dX0_coinWorth_18 : decode cX0_coinWorth 18 = .ok (.aload_n 0, 1) := by decide +kernel
theorem dX0_coinWorth_19 : decode cX0_coinWorth 19 = .ok (.getfield 19, 3) := by decide +kernel
theorem dX0_coinWorth_22 : decode cX0_coinWorth 22 = .ok (.iload_n 3, 1) := by decide +kernel
theorem dX0_coinWorth_23 : decode cX0_coinWorth 23 = .ok (.invokevirtual 48, 3) := by decide +kernel
theorem dX0_coinWorth_26 : decode cX0_coinWorth 26 = .ok (.iload_n 2, 1) := by decide +kernel
theorem dX0_coinWorth_27 : decode cX0_coinWorth 27 = .ok (.imul, 1) := by decide +kernel
theorem dX0_coinWorth_28 : decode cX0_coinWorth 28 = .ok (.bipush 100, 2) := by decide +kernel
theorem dX0_coinWorth_30 : decode cX0_coinWorth 30 = .ok (.idiv, 1) := by decide +kernel
theorem dX0_coinWorth_31 : decode cX0_coinWorth 31 = .ok (.iconst 0, 1) := by decide +kernel
theorem dX0_coinWorth_32 : decode cX0_coinWorth 32 = .ok (.invokevirtual 51, 3) := by decide +kernel
theorem dX0_coinWorth_35 : decode cX0_coinWorth 35 = .ok (.iinc 3 1, 3) := by decide +kernel
theorem dX0_coinWorth_38 : decode cX0_coinWorth 38 = .ok (.goto (-36), 3) := by decide +kernel
theorem dX0_coinWorth_41 : decode cX0_coinWorth 41 = .ok (.aload_n 0, 1) := by decide +kernel
theorem dX0_coinWorth_42 : decode cX0_coinWorth 42 = .ok (.getfield 19, 3) := by decide +kernel
theorem dX0_coinWorth_45 : decode cX0_coinWorth 45 = .ok (.aload_n 0, 1) := by decide +kernel
theorem dX0_coinWorth_46 : decode cX0_coinWorth 46 = .ok (.getfield 15, 3) := by decide +kernel
theorem dX0_coinWorth_49 : decode cX0_coinWorth 49 = .ok (.iconst 5, 1) := by decide +kernel
theorem dX0_coinWorth_50 : decode cX0_coinWorth 50 = .ok (.iload_n 1, 1) := by decide +kernel
theorem dX0_coinWorth_51 : decode cX0_coinWorth 51 = .ok (.invokevirtual 55, 3) := by decide +kernel
theorem dX0_coinWorth_54 : decode cX0_coinWorth 54 = .ok (.iconst 0, 1) := by decide +kernel
theorem dX0_coinWorth_55 : decode cX0_coinWorth 55 = .ok (.iconst 0, 1) := by decide +kernel
theorem dX0_coinWorth_56 : decode cX0_coinWorth 56 = .ok (.invokevirtual 62, 3) := by decide +kernel
theorem dX0_coinWorth_59 : decode cX0_coinWorth 59 = .ok (.aload_n 0, 1) := by decide +kernel
theorem dX0_coinWorth_60 : decode cX0_coinWorth 60 = .ok (.getfield 19, 3) := by decide +kernel
theorem dX0_coinWorth_63 : decode cX0_coinWorth 63 = .ok (.getfield 35, 3) := by decide +kernel
theorem dX0_coinWorth_66 : decode cX0_coinWorth 66 = .ok (.ireturn, 1) := by decide +kernel
theorem dX0_losers_0 : decode cX0_losers 0 = .ok (.iconst 0, 1) := by decide +kernel
theorem dX0_losers_1 : decode cX0_losers 1 = .ok (.istore_n 2, 1) := by decide +kernel
theorem dX0_losers_2 : decode cX0_losers 2 = .ok (.iconst 0, 1) := by decide +kernel
theorem dX0_losers_3 : decode cX0_losers 3 = .ok (.istore_n 3, 1) := by decide +kernel
theorem dX0_losers_4 : decode cX0_losers 4 = .ok (.iload_n 3, 1) := by decide +kernel
theorem dX0_losers_5 : decode cX0_losers 5 = .ok (.aload_n 0, 1) := by decide +kernel
theorem dX0_losers_6 : decode cX0_losers 6 = .ok (.getfield 15, 3) := by decide +kernel
theorem dX0_losers_9 : decode cX0_losers 9 = .ok (.getfield 65, 3) := by decide +kernel
theorem dX0_losers_12 : decode cX0_losers 12 = .ok (.if_icmp .ge 29, 3) := by decide +kernel
theorem dX0_losers_15 : decode cX0_losers 15 = .ok (.aload_n 0, 1) := by decide +kernel
theorem dX0_losers_16 : decode cX0_losers 16 = .ok (.iload_n 3, 1) := by decide +kernel
theorem dX0_losers_17 : decode cX0_losers 17 = .ok (.invokevirtual 93, 3) := by decide +kernel
theorem dX0_losers_20 : decode cX0_losers 20 = .ok (.aload_n 0, 1) := by decide +kernel
theorem dX0_losers_21 : decode cX0_losers 21 = .ok (.iload_n 3, 1) := by decide +kernel
theorem dX0_losers_22 : decode cX0_losers 22 = .ok (.iload_n 1, 1) := by decide +kernel
theorem dX0_losers_23 : decode cX0_losers 23 = .ok (.invokevirtual 96, 3) := by decide +kernel
theorem dX0_losers_26 : decode cX0_losers 26 = .ok (.if_icmp .ge 9, 3) := by decide +kernel
theorem dX0_losers_29 : decode cX0_losers 29 = .ok (.iload_n 2, 1) := by decide +kernel
theorem dX0_losers_30 : decode cX0_losers 30 = .ok (.iconst 1, 1) := by decide +kernel
theorem dX0_losers_31 : decode cX0_losers 31 = .ok (.iload_n 3, 1) := by decide +kernel
theorem dX0_losers_32 : decode cX0_losers 32 = .ok (.ishl, 1) := by decide +kernel
theorem dX0_losers_33 : decode cX0_losers 33 = .ok (.ior, 1) := by decide +kernel
theorem dX0_losers_34 : decode cX0_losers 34 = .ok (.istore_n 2, 1) := by decide +kernel
theorem dX0_losers_35 : decode cX0_losers 35 = .ok (.iinc 3 1, 3) := by decide +kernel
theorem dX0_losers_38 : decode cX0_losers 38 = .ok (.goto (-34), 3) := by decide +kernel
theorem dX0_losers_41 : decode cX0_losers 41 = .ok (.iload_n 2, 1) := by decide +kernel
theorem dX0_losers_42 : decode cX0_losers 42 = .ok (.ireturn, 1) := by decide +kernel
theorem dX0_live_0 : decode cX0_live 0 = .ok (.aload_n 0, 1) := by decide +kernel
theorem dX0_live_1 : decode cX0_live 1 = .ok (.getfield 19, 3) := by decide +kernel
theorem dX0_live_4 : decode cX0_live 4 = .ok (.invokevirtual 23, 3) := by decide +kernel
theorem dX0_live_7 : decode cX0_live 7 = .ok (.aload_n 0, 1) := by decide +kernel
theorem dX0_live_8 : decode cX0_live 8 = .ok (.getfield 19, 3) := by decide +kernel
theorem dX0_live_11 : decode cX0_live 11 = .ok (.iload_n 1, 1) := by decide +kernel
theorem dX0_live_12 : decode cX0_live 12 = .ok (.invokevirtual 28, 3) := by decide +kernel
theorem dX0_live_15 : decode cX0_live 15 = .ok (.aload_n 0, 1) := by decide +kernel
theorem dX0_live_16 : decode cX0_live 16 = .ok (.iconst 0, 1) := by decide +kernel
theorem dX0_live_17 : decode cX0_live 17 = .ok (.putfield 99, 3) := by decide +kernel
theorem dX0_live_20 : decode cX0_live 20 = .ok (.aload_n 0, 1) := by decide +kernel
theorem dX0_live_21 : decode cX0_live 21 = .ok (.iconst 0, 1) := by decide +kernel
theorem dX0_live_22 : decode cX0_live 22 = .ok (.putfield 102, 3) := by decide +kernel
theorem dX0_live_25 : decode cX0_live 25 = .ok (.iconst 0, 1) := by decide +kernel
theorem dX0_live_26 : decode cX0_live 26 = .ok (.istore 4, 2) := by decide +kernel
theorem dX0_live_28 : decode cX0_live 28 = .ok (.iconst 0, 1) := by decide +kernel
theorem dX0_live_29 : decode cX0_live 29 = .ok (.istore 5, 2) := by decide +kernel
theorem dX0_live_31 : decode cX0_live 31 = .ok (.iload 5, 2) := by decide +kernel
theorem dX0_live_33 : decode cX0_live 33 = .ok (.iload_n 2, 1) := by decide +kernel
theorem dX0_live_34 : decode cX0_live 34 = .ok (.if_icmp .ge 92, 3) := by decide +kernel
theorem dX0_live_37 : decode cX0_live 37 = .ok (.iload 4, 2) := by decide +kernel
theorem dX0_live_39 : decode cX0_live 39 = .ok (.iload_n 3, 1) := by decide +kernel
theorem dX0_live_40 : decode cX0_live 40 = .ok (.invokestatic 85, 3) := by decide +kernel
theorem dX0_live_43 : decode cX0_live 43 = .ok (.istore 6, 2) := by decide +kernel
theorem dX0_live_45 : decode cX0_live 45 = .ok (.aload_n 0, 1) := by decide +kernel
theorem dX0_live_46 : decode cX0_live 46 = .ok (.getfield 15, 3) := by decide +kernel
theorem dX0_live_49 : decode cX0_live 49 = .ok (.iload_n 1, 1) := by decide +kernel
theorem dX0_live_50 : decode cX0_live 50 = .ok (.invokevirtual 59, 3) := by decide +kernel
theorem dX0_live_53 : decode cX0_live 53 = .ok (.iload 6, 2) := by decide +kernel
theorem dX0_live_55 : decode cX0_live 55 = .ok (.iadd, 1) := by decide +kernel
theorem dX0_live_56 : decode cX0_live 56 = .ok (.istore 7, 2) := by decide +kernel
theorem dX0_live_58 : decode cX0_live 58 = .ok (.aload_n 0, 1) := by decide +kernel
theorem dX0_live_59 : decode cX0_live 59 = .ok (.getfield 19, 3) := by decide +kernel
theorem dX0_live_62 : decode cX0_live 62 = .ok (.aload_n 0, 1) := by decide +kernel
theorem dX0_live_63 : decode cX0_live 63 = .ok (.getfield 15, 3) := by decide +kernel
theorem dX0_live_66 : decode cX0_live 66 = .ok (.iconst 5, 1) := by decide +kernel
theorem dX0_live_67 : decode cX0_live 67 = .ok (.iload_n 1, 1) := by decide +kernel
theorem dX0_live_68 : decode cX0_live 68 = .ok (.invokevirtual 55, 3) := by decide +kernel
theorem dX0_live_71 : decode cX0_live 71 = .ok (.iload 7, 2) := by decide +kernel
theorem dX0_live_73 : decode cX0_live 73 = .ok (.bipush 100, 2) := by decide +kernel
theorem dX0_live_75 : decode cX0_live 75 = .ok (.invokevirtual 62, 3) := by decide +kernel
theorem dX0_live_78 : decode cX0_live 78 = .ok (.aload_n 0, 1) := by decide +kernel
theorem dX0_live_79 : decode cX0_live 79 = .ok (.dup, 1) := by decide +kernel
theorem dX0_live_80 : decode cX0_live 80 = .ok (.getfield 99, 3) := by decide +kernel
theorem dX0_live_83 : decode cX0_live 83 = .ok (.aload_n 0, 1) := by decide +kernel
theorem dX0_live_84 : decode cX0_live 84 = .ok (.getfield 19, 3) := by decide +kernel
theorem dX0_live_87 : decode cX0_live 87 = .ok (.getfield 35, 3) := by decide +kernel
theorem dX0_live_90 : decode cX0_live 90 = .ok (.iadd, 1) := by decide +kernel
theorem dX0_live_91 : decode cX0_live 91 = .ok (.putfield 99, 3) := by decide +kernel
theorem dX0_live_94 : decode cX0_live 94 = .ok (.aload_n 0, 1) := by decide +kernel
theorem dX0_live_95 : decode cX0_live 95 = .ok (.dup, 1) := by decide +kernel
theorem dX0_live_96 : decode cX0_live 96 = .ok (.getfield 102, 3) := by decide +kernel
theorem dX0_live_99 : decode cX0_live 99 = .ok (.iload 4, 2) := by decide +kernel
theorem dX0_live_101 : decode cX0_live 101 = .ok (.iload 6, 2) := by decide +kernel
theorem dX0_live_103 : decode cX0_live 103 = .ok (.isub, 1) := by decide +kernel
theorem dX0_live_104 : decode cX0_live 104 = .ok (.iadd, 1) := by decide +kernel
theorem dX0_live_105 : decode cX0_live 105 = .ok (.putfield 102, 3) := by decide +kernel
theorem dX0_live_108 : decode cX0_live 108 = .ok (.iload 7, 2) := by decide +kernel
theorem dX0_live_110 : decode cX0_live 110 = .ok (.aload_n 0, 1) := by decide +kernel
theorem dX0_live_111 : decode cX0_live 111 = .ok (.getfield 19, 3) := by decide +kernel
theorem dX0_live_114 : decode cX0_live 114 = .ok (.getfield 72, 3) := by decide +kernel
theorem dX0_live_117 : decode cX0_live 117 = .ok (.isub, 1) := by decide +kernel
theorem dX0_live_118 : decode cX0_live 118 = .ok (.istore 4, 2) := by decide +kernel
theorem dX0_live_120 : decode cX0_live 120 = .ok (.iinc 5 1, 3) := by decide +kernel
theorem dX0_live_123 : decode cX0_live 123 = .ok (.goto (-92), 3) := by decide +kernel
theorem dX0_live_126 : decode cX0_live 126 = .ok (.aload_n 0, 1) := by decide +kernel
theorem dX0_live_127 : decode cX0_live 127 = .ok (.dup, 1) := by decide +kernel
theorem dX0_live_128 : decode cX0_live 128 = .ok (.getfield 102, 3) := by decide +kernel
theorem dX0_live_131 : decode cX0_live 131 = .ok (.iload 4, 2) := by decide +kernel
theorem dX0_live_133 : decode cX0_live 133 = .ok (.iadd, 1) := by decide +kernel
theorem dX0_live_134 : decode cX0_live 134 = .ok (.putfield 102, 3) := by decide +kernel
theorem dX0_live_137 : decode cX0_live 137 = .ok (.return_, 1) := by decide +kernel
theorem dX0_gainByForesight_0 : decode cX0_gainByForesight 0 = .ok (.aload_n 0, 1) := by decide +kernel
theorem dX0_gainByForesight_1 : decode cX0_gainByForesight 1 = .ok (.iload_n 1, 1) := by decide +kernel
theorem dX0_gainByForesight_2 : decode cX0_gainByForesight 2 = .ok (.invokevirtual 93, 3) := by decide +kernel
theorem dX0_gainByForesight_5 : decode cX0_gainByForesight 5 = .ok (.istore_n 2, 1) := by decide +kernel
theorem dX0_gainByForesight_6 : decode cX0_gainByForesight 6 = .ok (.sipush 129, 3) := by decide +kernel
theorem dX0_gainByForesight_9 : decode cX0_gainByForesight 9 = .ok (.aload_n 0, 1) := by decide +kernel
theorem dX0_gainByForesight_10 : decode cX0_gainByForesight 10 = .ok (.getfield 15, 3) := by decide +kernel
theorem dX0_gainByForesight_13 : decode cX0_gainByForesight 13 = .ok (.iload_n 1, 1) := by decide +kernel
theorem dX0_gainByForesight_14 : decode cX0_gainByForesight 14 = .ok (.invokevirtual 59, 3) := by decide +kernel
theorem dX0_gainByForesight_17 : decode cX0_gainByForesight 17 = .ok (.invokestatic 85, 3) := by decide +kernel
theorem dX0_gainByForesight_20 : decode cX0_gainByForesight 20 = .ok (.istore_n 3, 1) := by decide +kernel
theorem dX0_gainByForesight_21 : decode cX0_gainByForesight 21 = .ok (.aload_n 0, 1) := by decide +kernel
theorem dX0_gainByForesight_22 : decode cX0_gainByForesight 22 = .ok (.aload_n 0, 1) := by decide +kernel
theorem dX0_gainByForesight_23 : decode cX0_gainByForesight 23 = .ok (.getfield 15, 3) := by decide +kernel
theorem dX0_gainByForesight_26 : decode cX0_gainByForesight 26 = .ok (.iconst 5, 1) := by decide +kernel
theorem dX0_gainByForesight_27 : decode cX0_gainByForesight 27 = .ok (.iload_n 1, 1) := by decide +kernel
theorem dX0_gainByForesight_28 : decode cX0_gainByForesight 28 = .ok (.invokevirtual 55, 3) := by decide +kernel
theorem dX0_gainByForesight_31 : decode cX0_gainByForesight 31 = .ok (.invokevirtual 105, 3) := by decide +kernel
theorem dX0_gainByForesight_34 : decode cX0_gainByForesight 34 = .ok (.iconst 0, 1) := by decide +kernel
theorem dX0_gainByForesight_35 : decode cX0_gainByForesight 35 = .ok (.istore 4, 2) := by decide +kernel
theorem dX0_gainByForesight_37 : decode cX0_gainByForesight 37 = .ok (.iconst 0, 1) := by decide +kernel
theorem dX0_gainByForesight_38 : decode cX0_gainByForesight 38 = .ok (.istore 5, 2) := by decide +kernel
theorem dX0_gainByForesight_40 : decode cX0_gainByForesight 40 = .ok (.iload 5, 2) := by decide +kernel
theorem dX0_gainByForesight_42 : decode cX0_gainByForesight 42 = .ok (.iload_n 3, 1) := by decide +kernel
theorem dX0_gainByForesight_43 : decode cX0_gainByForesight 43 = .ok (.if_icmp .gt 35, 3) := by decide +kernel
theorem dX0_gainByForesight_46 : decode cX0_gainByForesight 46 = .ok (.iload 4, 2) := by decide +kernel
theorem dX0_gainByForesight_48 : decode cX0_gainByForesight 48 = .ok (.aload_n 0, 1) := by decide +kernel
theorem dX0_gainByForesight_49 : decode cX0_gainByForesight 49 = .ok (.getfield 9, 3) := by decide +kernel
theorem dX0_gainByForesight_52 : decode cX0_gainByForesight 52 = .ok (.iload 5, 2) := by decide +kernel
theorem dX0_gainByForesight_54 : decode cX0_gainByForesight 54 = .ok (.iaload, 1) := by decide +kernel
theorem dX0_gainByForesight_55 : decode cX0_gainByForesight 55 = .ok (.aload_n 0, 1) := by decide +kernel
theorem dX0_gainByForesight_56 : decode cX0_gainByForesight 56 = .ok (.getfield 9, 3) := by decide +kernel
theorem dX0_gainByForesight_59 : decode cX0_gainByForesight 59 = .ok (.iconst 2, 1) := by decide +kernel
theorem dX0_gainByForesight_60 : decode cX0_gainByForesight 60 = .ok (.iload_n 3, 1) := by decide +kernel
theorem dX0_gainByForesight_61 : decode cX0_gainByForesight 61 = .ok (.imul, 1) := by decide +kernel
theorem dX0_gainByForesight_62 : decode cX0_gainByForesight 62 = .ok (.iload 5, 2) := by decide +kernel
theorem dX0_gainByForesight_64 : decode cX0_gainByForesight 64 = .ok (.isub, 1) := by decide +kernel
theorem dX0_gainByForesight_65 : decode cX0_gainByForesight 65 = .ok (.iaload, 1) := by decide +kernel
theorem dX0_gainByForesight_66 : decode cX0_gainByForesight 66 = .ok (.iadd, 1) := by decide +kernel
theorem dX0_gainByForesight_67 : decode cX0_gainByForesight 67 = .ok (.invokestatic 108, 3) := by decide +kernel
theorem dX0_gainByForesight_70 : decode cX0_gainByForesight 70 = .ok (.istore 4, 2) := by decide +kernel
theorem dX0_gainByForesight_72 : decode cX0_gainByForesight 72 = .ok (.iinc 5 1, 3) := by decide +kernel
theorem dX0_gainByForesight_75 : decode cX0_gainByForesight 75 = .ok (.goto (-35), 3) := by decide +kernel
theorem dX0_gainByForesight_78 : decode cX0_gainByForesight 78 = .ok (.iload 4, 2) := by decide +kernel
theorem dX0_gainByForesight_80 : decode cX0_gainByForesight 80 = .ok (.iconst 2, 1) := by decide +kernel
theorem dX0_gainByForesight_81 : decode cX0_gainByForesight 81 = .ok (.iload_n 2, 1) := by decide +kernel
theorem dX0_gainByForesight_82 : decode cX0_gainByForesight 82 = .ok (.imul, 1) := by decide +kernel
theorem dX0_gainByForesight_83 : decode cX0_gainByForesight 83 = .ok (.isub, 1) := by decide +kernel
theorem dX0_gainByForesight_84 : decode cX0_gainByForesight 84 = .ok (.ireturn, 1) := by decide +kernel
theorem dX0_reachAll_0 : decode cX0_reachAll 0 = .ok (.iconst 0, 1) := by decide +kernel
theorem dX0_reachAll_1 : decode cX0_reachAll 1 = .ok (.istore_n 2, 1) := by decide +kernel
theorem dX0_reachAll_2 : decode cX0_reachAll 2 = .ok (.iload_n 2, 1) := by decide +kernel
theorem dX0_reachAll_3 : decode cX0_reachAll 3 = .ok (.aload_n 0, 1) := by decide +kernel
theorem dX0_reachAll_4 : decode cX0_reachAll 4 = .ok (.getfield 9, 3) := by decide +kernel
theorem dX0_reachAll_7 : decode cX0_reachAll 7 = .ok (.arraylength, 1) := by decide +kernel
theorem dX0_reachAll_8 : decode cX0_reachAll 8 = .ok (.if_icmp .ge 16, 3) := by decide +kernel
theorem dX0_reachAll_11 : decode cX0_reachAll 11 = .ok (.aload_n 0, 1) := by decide +kernel
theorem dX0_reachAll_12 : decode cX0_reachAll 12 = .ok (.getfield 9, 3) := by decide +kernel
theorem dX0_reachAll_15 : decode cX0_reachAll 15 = .ok (.iload_n 2, 1) := by decide +kernel
theorem dX0_reachAll_16 : decode cX0_reachAll 16 = .ok (.iconst 0, 1) := by decide +kernel
theorem dX0_reachAll_17 : decode cX0_reachAll 17 = .ok (.iastore, 1) := by decide +kernel
theorem dX0_reachAll_18 : decode cX0_reachAll 18 = .ok (.iinc 2 1, 3) := by decide +kernel
theorem dX0_reachAll_21 : decode cX0_reachAll 21 = .ok (.goto (-19), 3) := by decide +kernel
theorem dX0_reachAll_24 : decode cX0_reachAll 24 = .ok (.aload_n 0, 1) := by decide +kernel
theorem dX0_reachAll_25 : decode cX0_reachAll 25 = .ok (.iconst 0, 1) := by decide +kernel
theorem dX0_reachAll_26 : decode cX0_reachAll 26 = .ok (.iconst 0, 1) := by decide +kernel
theorem dX0_reachAll_27 : decode cX0_reachAll 27 = .ok (.iload_n 1, 1) := by decide +kernel
theorem dX0_reachAll_28 : decode cX0_reachAll 28 = .ok (.iconst 0, 1) := by decide +kernel
theorem dX0_reachAll_29 : decode cX0_reachAll 29 = .ok (.invokestatic 111, 3) := by decide +kernel
theorem dX0_reachAll_32 : decode cX0_reachAll 32 = .ok (.iconst 1, 1) := by decide +kernel
theorem dX0_reachAll_33 : decode cX0_reachAll 33 = .ok (.istore_n 2, 1) := by decide +kernel
theorem dX0_reachAll_34 : decode cX0_reachAll 34 = .ok (.iload_n 2, 1) := by decide +kernel
theorem dX0_reachAll_35 : decode cX0_reachAll 35 = .ok (.aload_n 0, 1) := by decide +kernel
theorem dX0_reachAll_36 : decode cX0_reachAll 36 = .ok (.getfield 9, 3) := by decide +kernel
theorem dX0_reachAll_39 : decode cX0_reachAll 39 = .ok (.arraylength, 1) := by decide +kernel
theorem dX0_reachAll_40 : decode cX0_reachAll 40 = .ok (.if_icmp .ge 32, 3) := by decide +kernel
theorem dX0_reachAll_43 : decode cX0_reachAll 43 = .ok (.aload_n 0, 1) := by decide +kernel
theorem dX0_reachAll_44 : decode cX0_reachAll 44 = .ok (.getfield 9, 3) := by decide +kernel
theorem dX0_reachAll_47 : decode cX0_reachAll 47 = .ok (.iload_n 2, 1) := by decide +kernel
theorem dX0_reachAll_48 : decode cX0_reachAll 48 = .ok (.aload_n 0, 1) := by decide +kernel
theorem dX0_reachAll_49 : decode cX0_reachAll 49 = .ok (.getfield 9, 3) := by decide +kernel
theorem dX0_reachAll_52 : decode cX0_reachAll 52 = .ok (.iload_n 2, 1) := by decide +kernel
theorem dX0_reachAll_53 : decode cX0_reachAll 53 = .ok (.iaload, 1) := by decide +kernel
theorem dX0_reachAll_54 : decode cX0_reachAll 54 = .ok (.aload_n 0, 1) := by decide +kernel
theorem dX0_reachAll_55 : decode cX0_reachAll 55 = .ok (.getfield 9, 3) := by decide +kernel
theorem dX0_reachAll_58 : decode cX0_reachAll 58 = .ok (.iload_n 2, 1) := by decide +kernel
theorem dX0_reachAll_59 : decode cX0_reachAll 59 = .ok (.iconst 1, 1) := by decide +kernel
theorem dX0_reachAll_60 : decode cX0_reachAll 60 = .ok (.isub, 1) := by decide +kernel
theorem dX0_reachAll_61 : decode cX0_reachAll 61 = .ok (.iaload, 1) := by decide +kernel
theorem dX0_reachAll_62 : decode cX0_reachAll 62 = .ok (.invokestatic 108, 3) := by decide +kernel
theorem dX0_reachAll_65 : decode cX0_reachAll 65 = .ok (.iastore, 1) := by decide +kernel
theorem dX0_reachAll_66 : decode cX0_reachAll 66 = .ok (.iinc 2 1, 3) := by decide +kernel
theorem dX0_reachAll_69 : decode cX0_reachAll 69 = .ok (.goto (-35), 3) := by decide +kernel
theorem dX0_reachAll_72 : decode cX0_reachAll 72 = .ok (.return_, 1) := by decide +kernel
theorem dX0_spread_0 : decode cX0_spread 0 = .ok (.iload_n 3, 1) := by decide +kernel
theorem dX0_spread_1 : decode cX0_spread 1 = .ok (.ifCond .lt 13, 3) := by decide +kernel
theorem dX0_spread_4 : decode cX0_spread 4 = .ok (.iload 4, 2) := by decide +kernel
theorem dX0_spread_6 : decode cX0_spread 6 = .ok (.aload_n 0, 1) := by decide +kernel
theorem dX0_spread_7 : decode cX0_spread 7 = .ok (.getfield 9, 3) := by decide +kernel
theorem dX0_spread_10 : decode cX0_spread 10 = .ok (.arraylength, 1) := by decide +kernel
theorem dX0_spread_11 : decode cX0_spread 11 = .ok (.if_icmp .lt 4, 3) := by decide +kernel
theorem dX0_spread_14 : decode cX0_spread 14 = .ok (.return_, 1) := by decide +kernel
theorem dX0_spread_15 : decode cX0_spread 15 = .ok (.iload_n 1, 1) := by decide +kernel
theorem dX0_spread_16 : decode cX0_spread 16 = .ok (.aload_n 0, 1) := by decide +kernel
theorem dX0_spread_17 : decode cX0_spread 17 = .ok (.getfield 15, 3) := by decide +kernel
theorem dX0_spread_20 : decode cX0_spread 20 = .ok (.getfield 39, 3) := by decide +kernel
theorem dX0_spread_23 : decode cX0_spread 23 = .ok (.if_icmp .ge 9, 3) := by decide +kernel
theorem dX0_spread_26 : decode cX0_spread 26 = .ok (.iload_n 1, 1) := by decide +kernel
theorem dX0_spread_27 : decode cX0_spread 27 = .ok (.bipush 6, 2) := by decide +kernel
theorem dX0_spread_29 : decode cX0_spread 29 = .ok (.if_icmp .lt 22, 3) := by decide +kernel
theorem dX0_spread_32 : decode cX0_spread 32 = .ok (.aload_n 0, 1) := by decide +kernel
theorem dX0_spread_33 : decode cX0_spread 33 = .ok (.getfield 9, 3) := by decide +kernel
theorem dX0_spread_36 : decode cX0_spread 36 = .ok (.iload 4, 2) := by decide +kernel
theorem dX0_spread_38 : decode cX0_spread 38 = .ok (.aload_n 0, 1) := by decide +kernel
theorem dX0_spread_39 : decode cX0_spread 39 = .ok (.getfield 9, 3) := by decide +kernel
theorem dX0_spread_42 : decode cX0_spread 42 = .ok (.iload 4, 2) := by decide +kernel
theorem dX0_spread_44 : decode cX0_spread 44 = .ok (.iaload, 1) := by decide +kernel
theorem dX0_spread_45 : decode cX0_spread 45 = .ok (.iload_n 2, 1) := by decide +kernel
theorem dX0_spread_46 : decode cX0_spread 46 = .ok (.invokestatic 108, 3) := by decide +kernel
theorem dX0_spread_49 : decode cX0_spread 49 = .ok (.iastore, 1) := by decide +kernel
theorem dX0_spread_50 : decode cX0_spread 50 = .ok (.return_, 1) := by decide +kernel
theorem dX0_spread_51 : decode cX0_spread 51 = .ok (.aload_n 0, 1) := by decide +kernel
theorem dX0_spread_52 : decode cX0_spread 52 = .ok (.getfield 19, 3) := by decide +kernel
theorem dX0_spread_55 : decode cX0_spread 55 = .ok (.iload_n 1, 1) := by decide +kernel
theorem dX0_spread_56 : decode cX0_spread 56 = .ok (.invokevirtual 48, 3) := by decide +kernel
theorem dX0_spread_59 : decode cX0_spread 59 = .ok (.istore 5, 2) := by decide +kernel
theorem dX0_spread_61 : decode cX0_spread 61 = .ok (.aload_n 0, 1) := by decide +kernel
theorem dX0_spread_62 : decode cX0_spread 62 = .ok (.getfield 19, 3) := by decide +kernel
theorem dX0_spread_65 : decode cX0_spread 65 = .ok (.iload_n 1, 1) := by decide +kernel
theorem dX0_spread_66 : decode cX0_spread 66 = .ok (.invokevirtual 44, 3) := by decide +kernel
theorem dX0_spread_69 : decode cX0_spread 69 = .ok (.istore 6, 2) := by decide +kernel
theorem dX0_spread_71 : decode cX0_spread 71 = .ok (.iconst 0, 1) := by decide +kernel
theorem dX0_spread_72 : decode cX0_spread 72 = .ok (.istore 7, 2) := by decide +kernel
theorem dX0_spread_74 : decode cX0_spread 74 = .ok (.iload 7, 2) := by decide +kernel
theorem dX0_spread_76 : decode cX0_spread 76 = .ok (.iconst 3, 1) := by decide +kernel
theorem dX0_spread_77 : decode cX0_spread 77 = .ok (.if_icmp .gt 47, 3) := by decide +kernel
theorem dX0_spread_80 : decode cX0_spread 80 = .ok (.aload_n 0, 1) := by decide +kernel
theorem dX0_spread_81 : decode cX0_spread 81 = .ok (.getfield 19, 3) := by decide +kernel
theorem dX0_spread_84 : decode cX0_spread 84 = .ok (.iload_n 1, 1) := by decide +kernel
theorem dX0_spread_85 : decode cX0_spread 85 = .ok (.iload 7, 2) := by decide +kernel
theorem dX0_spread_87 : decode cX0_spread 87 = .ok (.invokevirtual 90, 3) := by decide +kernel
theorem dX0_spread_90 : decode cX0_spread 90 = .ok (.istore 8, 2) := by decide +kernel
theorem dX0_spread_92 : decode cX0_spread 92 = .ok (.aload_n 0, 1) := by decide +kernel
theorem dX0_spread_93 : decode cX0_spread 93 = .ok (.iload_n 1, 1) := by decide +kernel
theorem dX0_spread_94 : decode cX0_spread 94 = .ok (.iconst 1, 1) := by decide +kernel
theorem dX0_spread_95 : decode cX0_spread 95 = .ok (.iadd, 1) := by decide +kernel
theorem dX0_spread_96 : decode cX0_spread 96 = .ok (.iload_n 2, 1) := by decide +kernel
theorem dX0_spread_97 : decode cX0_spread 97 = .ok (.iload 8, 2) := by decide +kernel
theorem dX0_spread_99 : decode cX0_spread 99 = .ok (.iadd, 1) := by decide +kernel
theorem dX0_spread_100 : decode cX0_spread 100 = .ok (.iload_n 3, 1) := by decide +kernel
theorem dX0_spread_101 : decode cX0_spread 101 = .ok (.iload 7, 2) := by decide +kernel
theorem dX0_spread_103 : decode cX0_spread 103 = .ok (.iload 5, 2) := by decide +kernel
theorem dX0_spread_105 : decode cX0_spread 105 = .ok (.imul, 1) := by decide +kernel
theorem dX0_spread_106 : decode cX0_spread 106 = .ok (.isub, 1) := by decide +kernel
theorem dX0_spread_107 : decode cX0_spread 107 = .ok (.iload 4, 2) := by decide +kernel
theorem dX0_spread_109 : decode cX0_spread 109 = .ok (.iload 7, 2) := by decide +kernel
theorem dX0_spread_111 : decode cX0_spread 111 = .ok (.iload 6, 2) := by decide +kernel
theorem dX0_spread_113 : decode cX0_spread 113 = .ok (.imul, 1) := by decide +kernel
theorem dX0_spread_114 : decode cX0_spread 114 = .ok (.iadd, 1) := by decide +kernel
theorem dX0_spread_115 : decode cX0_spread 115 = .ok (.invokestatic 111, 3) := by decide +kernel
theorem dX0_spread_118 : decode cX0_spread 118 = .ok (.iinc 7 1, 3) := by decide +kernel
theorem dX0_spread_121 : decode cX0_spread 121 = .ok (.goto (-47), 3) := by decide +kernel
theorem dX0_spread_124 : decode cX0_spread 124 = .ok (.return_, 1) := by decide +kernel
theorem dX1_init_0 : decode cX1_init 0 = .ok (.aload_n 0, 1) := by decide +kernel
theorem dX1_init_1 : decode cX1_init 1 = .ok (.invokespecial 3, 3) := by decide +kernel
theorem dX1_init_4 : decode cX1_init 4 = .ok (.aload_n 0, 1) := by decide +kernel
theorem dX1_init_5 : decode cX1_init 5 = .ok (.bipush 40, 2) := by decide +kernel
theorem dX1_init_7 : decode cX1_init 7 = .ok (.newarray .int, 2) := by decide +kernel
theorem dX1_init_9 : decode cX1_init 9 = .ok (.putfield 9, 3) := by decide +kernel
theorem dX1_init_12 : decode cX1_init 12 = .ok (.aload_n 0, 1) := by decide +kernel
theorem dX1_init_13 : decode cX1_init 13 = .ok (.bipush 40, 2) := by decide +kernel
theorem dX1_init_15 : decode cX1_init 15 = .ok (.newarray .int, 2) := by decide +kernel
theorem dX1_init_17 : decode cX1_init 17 = .ok (.putfield 15, 3) := by decide +kernel
theorem dX1_init_20 : decode cX1_init 20 = .ok (.aload_n 0, 1) := by decide +kernel
theorem dX1_init_21 : decode cX1_init 21 = .ok (.bipush 40, 2) := by decide +kernel
theorem dX1_init_23 : decode cX1_init 23 = .ok (.newarray .int, 2) := by decide +kernel
theorem dX1_init_25 : decode cX1_init 25 = .ok (.putfield 18, 3) := by decide +kernel
theorem dX1_init_28 : decode cX1_init 28 = .ok (.aload_n 0, 1) := by decide +kernel
theorem dX1_init_29 : decode cX1_init 29 = .ok (.bipush 40, 2) := by decide +kernel
theorem dX1_init_31 : decode cX1_init 31 = .ok (.newarray .int, 2) := by decide +kernel
theorem dX1_init_33 : decode cX1_init 33 = .ok (.putfield 21, 3) := by decide +kernel
theorem dX1_init_36 : decode cX1_init 36 = .ok (.aload_n 0, 1) := by decide +kernel
theorem dX1_init_37 : decode cX1_init 37 = .ok (.aload_n 1, 1) := by decide +kernel
theorem dX1_init_38 : decode cX1_init 38 = .ok (.putfield 24, 3) := by decide +kernel
theorem dX1_init_41 : decode cX1_init 41 = .ok (.return_, 1) := by decide +kernel
theorem dX1_change_0 : decode cX1_change 0 = .ok (.aload_n 0, 1) := by decide +kernel
theorem dX1_change_1 : decode cX1_change 1 = .ok (.getfield 24, 3) := by decide +kernel
theorem dX1_change_4 : decode cX1_change 4 = .ok (.iload_n 1, 1) := by decide +kernel
theorem dX1_change_5 : decode cX1_change 5 = .ok (.iload_n 2, 1) := by decide +kernel
theorem dX1_change_6 : decode cX1_change 6 = .ok (.invokevirtual 28, 3) := by decide +kernel
theorem dX1_change_9 : decode cX1_change 9 = .ok (.istore 4, 2) := by decide +kernel
theorem dX1_change_11 : decode cX1_change 11 = .ok (.iload 4, 2) := by decide +kernel
theorem dX1_change_13 : decode cX1_change 13 = .ok (.iload_n 3, 1) := by decide +kernel
theorem dX1_change_14 : decode cX1_change 14 = .ok (.if_icmp .eq 22, 3) := by decide +kernel
theorem dX1_change_17 : decode cX1_change 17 = .ok (.aload_n 0, 1) := by decide +kernel
theorem dX1_change_18 : decode cX1_change 18 = .ok (.iload_n 1, 1) := by decide +kernel
theorem dX1_change_19 : decode cX1_change 19 = .ok (.iload_n 2, 1) := by decide +kernel
theorem dX1_change_20 : decode cX1_change 20 = .ok (.iload 4, 2) := by decide +kernel
theorem dX1_change_22 : decode cX1_change 22 = .ok (.iload_n 3, 1) := by decide +kernel
theorem dX1_change_23 : decode cX1_change 23 = .ok (.invokevirtual 34, 3) := by decide +kernel
theorem dX1_change_26 : decode cX1_change 26 = .ok (.aload_n 0, 1) := by decide +kernel
theorem dX1_change_27 : decode cX1_change 27 = .ok (.getfield 24, 3) := by decide +kernel
theorem dX1_change_30 : decode cX1_change 30 = .ok (.iload_n 1, 1) := by decide +kernel
theorem dX1_change_31 : decode cX1_change 31 = .ok (.iload_n 2, 1) := by decide +kernel
theorem dX1_change_32 : decode cX1_change 32 = .ok (.iload_n 3, 1) := by decide +kernel
theorem dX1_change_33 : decode cX1_change 33 = .ok (.invokevirtual 38, 3) := by decide +kernel
theorem dX1_change_36 : decode cX1_change 36 = .ok (.iload 4, 2) := by decide +kernel
theorem dX1_change_38 : decode cX1_change 38 = .ok (.ireturn, 1) := by decide +kernel
theorem dX1_goBack_0 : decode cX1_goBack 0 = .ok (.aload_n 0, 1) := by decide +kernel
theorem dX1_goBack_1 : decode cX1_goBack 1 = .ok (.getfield 42, 3) := by decide +kernel
theorem dX1_goBack_4 : decode cX1_goBack 4 = .ok (.ifCond .gt 6, 3) := by decide +kernel
theorem dX1_goBack_7 : decode cX1_goBack 7 = .ok (.bipush (-5), 2) := by decide +kernel
theorem dX1_goBack_9 : decode cX1_goBack 9 = .ok (.ireturn, 1) := by decide +kernel
theorem dX1_goBack_10 : decode cX1_goBack 10 = .ok (.aload_n 0, 1) := by decide +kernel
theorem dX1_goBack_11 : decode cX1_goBack 11 = .ok (.dup, 1) := by decide +kernel
theorem dX1_goBack_12 : decode cX1_goBack 12 = .ok (.getfield 42, 3) := by decide +kernel
theorem dX1_goBack_15 : decode cX1_goBack 15 = .ok (.iconst 1, 1) := by decide +kernel
theorem dX1_goBack_16 : decode cX1_goBack 16 = .ok (.isub, 1) := by decide +kernel
theorem dX1_goBack_17 : decode cX1_goBack 17 = .ok (.putfield 42, 3) := by decide +kernel
theorem dX1_goBack_20 : decode cX1_goBack 20 = .ok (.aload_n 0, 1) := by decide +kernel
theorem dX1_goBack_21 : decode cX1_goBack 21 = .ok (.dup, 1) := by decide +kernel
theorem dX1_goBack_22 : decode cX1_goBack 22 = .ok (.getfield 46, 3) := by decide +kernel
theorem dX1_goBack_25 : decode cX1_goBack 25 = .ok (.iconst 1, 1) := by decide +kernel
theorem dX1_goBack_26 : decode cX1_goBack 26 = .ok (.iadd, 1) := by decide +kernel
theorem dX1_goBack_27 : decode cX1_goBack 27 = .ok (.putfield 46, 3) := by decide +kernel
theorem dX1_goBack_30 : decode cX1_goBack 30 = .ok (.aload_n 0, 1) := by decide +kernel
theorem dX1_goBack_31 : decode cX1_goBack 31 = .ok (.getfield 24, 3) := by decide +kernel
theorem dX1_goBack_34 : decode cX1_goBack 34 = .ok (.aload_n 0, 1) := by decide +kernel
theorem dX1_goBack_35 : decode cX1_goBack 35 = .ok (.getfield 9, 3) := by decide +kernel
theorem dX1_goBack_38 : decode cX1_goBack 38 = .ok (.aload_n 0, 1) := by decide +kernel
theorem dX1_goBack_39 : decode cX1_goBack 39 = .ok (.getfield 42, 3) := by decide +kernel
theorem dX1_goBack_42 : decode cX1_goBack 42 = .ok (.iaload, 1) := by decide +kernel
theorem dX1_goBack_43 : decode cX1_goBack 43 = .ok (.aload_n 0, 1) := by decide +kernel
theorem dX1_goBack_44 : decode cX1_goBack 44 = .ok (.getfield 15, 3) := by decide +kernel
theorem dX1_goBack_47 : decode cX1_goBack 47 = .ok (.aload_n 0, 1) := by decide +kernel
theorem dX1_goBack_48 : decode cX1_goBack 48 = .ok (.getfield 42, 3) := by decide +kernel
theorem dX1_goBack_51 : decode cX1_goBack 51 = .ok (.iaload, 1) := by decide +kernel
theorem dX1_goBack_52 : decode cX1_goBack 52 = .ok (.aload_n 0, 1) := by decide +kernel
theorem dX1_goBack_53 : decode cX1_goBack 53 = .ok (.getfield 18, 3) := by decide +kernel
theorem dX1_goBack_56 : decode cX1_goBack 56 = .ok (.aload_n 0, 1) := by decide +kernel
theorem dX1_goBack_57 : decode cX1_goBack 57 = .ok (.getfield 42, 3) := by decide +kernel
theorem dX1_goBack_60 : decode cX1_goBack 60 = .ok (.iaload, 1) := by decide +kernel
theorem dX1_goBack_61 : decode cX1_goBack 61 = .ok (.invokevirtual 38, 3) := by decide +kernel
theorem dX1_goBack_64 : decode cX1_goBack 64 = .ok (.aload_n 0, 1) := by decide +kernel
theorem dX1_goBack_65 : decode cX1_goBack 65 = .ok (.getfield 42, 3) := by decide +kernel
theorem dX1_goBack_68 : decode cX1_goBack 68 = .ok (.ireturn, 1) := by decide +kernel
theorem dX1_goOn_0 : decode cX1_goOn 0 = .ok (.aload_n 0, 1) := by decide +kernel
theorem dX1_goOn_1 : decode cX1_goOn 1 = .ok (.getfield 46, 3) := by decide +kernel
theorem dX1_goOn_4 : decode cX1_goOn 4 = .ok (.ifCond .le 12, 3) := by decide +kernel
theorem dX1_goOn_7 : decode cX1_goOn 7 = .ok (.aload_n 0, 1) := by decide +kernel
theorem dX1_goOn_8 : decode cX1_goOn 8 = .ok (.getfield 42, 3) := by decide +kernel
theorem dX1_goOn_11 : decode cX1_goOn 11 = .ok (.bipush 40, 2) := by decide +kernel
theorem dX1_goOn_13 : decode cX1_goOn 13 = .ok (.if_icmp .lt 6, 3) := by decide +kernel
theorem dX1_goOn_16 : decode cX1_goOn 16 = .ok (.bipush (-5), 2) := by decide +kernel
theorem dX1_goOn_18 : decode cX1_goOn 18 = .ok (.ireturn, 1) := by decide +kernel
theorem dX1_goOn_19 : decode cX1_goOn 19 = .ok (.aload_n 0, 1) := by decide +kernel
theorem dX1_goOn_20 : decode cX1_goOn 20 = .ok (.getfield 24, 3) := by decide +kernel
theorem dX1_goOn_23 : decode cX1_goOn 23 = .ok (.aload_n 0, 1) := by decide +kernel
theorem dX1_goOn_24 : decode cX1_goOn 24 = .ok (.getfield 9, 3) := by decide +kernel
theorem dX1_goOn_27 : decode cX1_goOn 27 = .ok (.aload_n 0, 1) := by decide +kernel
theorem dX1_goOn_28 : decode cX1_goOn 28 = .ok (.getfield 42, 3) := by decide +kernel
theorem dX1_goOn_31 : decode cX1_goOn 31 = .ok (.iaload, 1) := by decide +kernel
theorem dX1_goOn_32 : decode cX1_goOn 32 = .ok (.aload_n 0, 1) := by decide +kernel
theorem dX1_goOn_33 : decode cX1_goOn 33 = .ok (.getfield 15, 3) := by decide +kernel
theorem dX1_goOn_36 : decode cX1_goOn 36 = .ok (.aload_n 0, 1) := by decide +kernel
theorem dX1_goOn_37 : decode cX1_goOn 37 = .ok (.getfield 42, 3) := by decide +kernel
theorem dX1_goOn_40 : decode cX1_goOn 40 = .ok (.iaload, 1) := by decide +kernel
theorem dX1_goOn_41 : decode cX1_goOn 41 = .ok (.aload_n 0, 1) := by decide +kernel
theorem dX1_goOn_42 : decode cX1_goOn 42 = .ok (.getfield 21, 3) := by decide +kernel
theorem dX1_goOn_45 : decode cX1_goOn 45 = .ok (.aload_n 0, 1) := by decide +kernel
theorem dX1_goOn_46 : decode cX1_goOn 46 = .ok (.getfield 42, 3) := by decide +kernel
theorem dX1_goOn_49 : decode cX1_goOn 49 = .ok (.iaload, 1) := by decide +kernel
theorem dX1_goOn_50 : decode cX1_goOn 50 = .ok (.invokevirtual 38, 3) := by decide +kernel
theorem dX1_goOn_53 : decode cX1_goOn 53 = .ok (.aload_n 0, 1) := by decide +kernel
theorem dX1_goOn_54 : decode cX1_goOn 54 = .ok (.dup, 1) := by decide +kernel
theorem dX1_goOn_55 : decode cX1_goOn 55 = .ok (.getfield 42, 3) := by decide +kernel
theorem dX1_goOn_58 : decode cX1_goOn 58 = .ok (.iconst 1, 1) := by decide +kernel
theorem dX1_goOn_59 : decode cX1_goOn 59 = .ok (.iadd, 1) := by decide +kernel
theorem dX1_goOn_60 : decode cX1_goOn 60 = .ok (.putfield 42, 3) := by decide +kernel
theorem dX1_goOn_63 : decode cX1_goOn 63 = .ok (.aload_n 0, 1) := by decide +kernel
theorem dX1_goOn_64 : decode cX1_goOn 64 = .ok (.dup, 1) := by decide +kernel
theorem dX1_goOn_65 : decode cX1_goOn 65 = .ok (.getfield 46, 3) := by decide +kernel
theorem dX1_goOn_68 : decode cX1_goOn 68 = .ok (.iconst 1, 1) := by decide +kernel
theorem dX1_goOn_69 : decode cX1_goOn 69 = .ok (.isub, 1) := by decide +kernel
theorem dX1_goOn_70 : decode cX1_goOn 70 = .ok (.putfield 46, 3) := by decide +kernel
theorem dX1_goOn_73 : decode cX1_goOn 73 = .ok (.aload_n 0, 1) := by decide +kernel
theorem dX1_goOn_74 : decode cX1_goOn 74 = .ok (.getfield 46, 3) := by decide +kernel
theorem dX1_goOn_77 : decode cX1_goOn 77 = .ok (.ireturn, 1) := by decide +kernel
theorem dX1_note_0 : decode cX1_note 0 = .ok (.aload_n 0, 1) := by decide +kernel
theorem dX1_note_1 : decode cX1_note 1 = .ok (.getfield 42, 3) := by decide +kernel
theorem dX1_note_4 : decode cX1_note 4 = .ok (.bipush 40, 2) := by decide +kernel
theorem dX1_note_6 : decode cX1_note 6 = .ok (.if_icmp .lt 7, 3) := by decide +kernel
theorem dX1_note_9 : decode cX1_note 9 = .ok (.aload_n 0, 1) := by decide +kernel
theorem dX1_note_10 : decode cX1_note 10 = .ok (.invokevirtual 49, 3) := by decide +kernel
theorem dX1_note_13 : decode cX1_note 13 = .ok (.aload_n 0, 1) := by decide +kernel
theorem dX1_note_14 : decode cX1_note 14 = .ok (.getfield 9, 3) := by decide +kernel
theorem dX1_note_17 : decode cX1_note 17 = .ok (.aload_n 0, 1) := by decide +kernel
theorem dX1_note_18 : decode cX1_note 18 = .ok (.getfield 42, 3) := by decide +kernel
theorem dX1_note_21 : decode cX1_note 21 = .ok (.iload_n 1, 1) := by decide +kernel
theorem dX1_note_22 : decode cX1_note 22 = .ok (.iastore, 1) := by decide +kernel
theorem dX1_note_23 : decode cX1_note 23 = .ok (.aload_n 0, 1) := by decide +kernel
theorem dX1_note_24 : decode cX1_note 24 = .ok (.getfield 15, 3) := by decide +kernel
theorem dX1_note_27 : decode cX1_note 27 = .ok (.aload_n 0, 1) := by decide +kernel
theorem dX1_note_28 : decode cX1_note 28 = .ok (.getfield 42, 3) := by decide +kernel
theorem dX1_note_31 : decode cX1_note 31 = .ok (.iload_n 2, 1) := by decide +kernel
theorem dX1_note_32 : decode cX1_note 32 = .ok (.iastore, 1) := by decide +kernel
theorem dX1_note_33 : decode cX1_note 33 = .ok (.aload_n 0, 1) := by decide +kernel
theorem dX1_note_34 : decode cX1_note 34 = .ok (.getfield 18, 3) := by decide +kernel
theorem dX1_note_37 : decode cX1_note 37 = .ok (.aload_n 0, 1) := by decide +kernel
theorem dX1_note_38 : decode cX1_note 38 = .ok (.getfield 42, 3) := by decide +kernel
theorem dX1_note_41 : decode cX1_note 41 = .ok (.iload_n 3, 1) := by decide +kernel
theorem dX1_note_42 : decode cX1_note 42 = .ok (.iastore, 1) := by decide +kernel
theorem dX1_note_43 : decode cX1_note 43 = .ok (.aload_n 0, 1) := by decide +kernel
theorem dX1_note_44 : decode cX1_note 44 = .ok (.getfield 21, 3) := by decide +kernel
theorem dX1_note_47 : decode cX1_note 47 = .ok (.aload_n 0, 1) := by decide +kernel
theorem dX1_note_48 : decode cX1_note 48 = .ok (.getfield 42, 3) := by decide +kernel
theorem dX1_note_51 : decode cX1_note 51 = .ok (.iload 4, 2) := by decide +kernel
theorem dX1_note_53 : decode cX1_note 53 = .ok (.iastore, 1) := by decide +kernel
theorem dX1_note_54 : decode cX1_note 54 = .ok (.aload_n 0, 1) := by decide +kernel
theorem dX1_note_55 : decode cX1_note 55 = .ok (.dup, 1) := by decide +kernel
theorem dX1_note_56 : decode cX1_note 56 = .ok (.getfield 42, 3) := by decide +kernel
theorem dX1_note_59 : decode cX1_note 59 = .ok (.iconst 1, 1) := by decide +kernel
theorem dX1_note_60 : decode cX1_note 60 = .ok (.iadd, 1) := by decide +kernel
theorem dX1_note_61 : decode cX1_note 61 = .ok (.putfield 42, 3) := by decide +kernel
theorem dX1_note_64 : decode cX1_note 64 = .ok (.aload_n 0, 1) := by decide +kernel
theorem dX1_note_65 : decode cX1_note 65 = .ok (.iconst 0, 1) := by decide +kernel
theorem dX1_note_66 : decode cX1_note 66 = .ok (.putfield 46, 3) := by decide +kernel
theorem dX1_note_69 : decode cX1_note 69 = .ok (.return_, 1) := by decide +kernel
theorem dX1_dropFirst_0 : decode cX1_dropFirst 0 = .ok (.iconst 1, 1) := by decide +kernel
theorem dX1_dropFirst_1 : decode cX1_dropFirst 1 = .ok (.istore_n 1, 1) := by decide +kernel
theorem dX1_dropFirst_2 : decode cX1_dropFirst 2 = .ok (.iload_n 1, 1) := by decide +kernel
theorem dX1_dropFirst_3 : decode cX1_dropFirst 3 = .ok (.bipush 40, 2) := by decide +kernel
theorem dX1_dropFirst_5 : decode cX1_dropFirst 5 = .ok (.if_icmp .ge 65, 3) := by decide +kernel
theorem dX1_dropFirst_8 : decode cX1_dropFirst 8 = .ok (.aload_n 0, 1) := by decide +kernel
theorem dX1_dropFirst_9 : decode cX1_dropFirst 9 = .ok (.getfield 9, 3) := by decide +kernel
theorem dX1_dropFirst_12 : decode cX1_dropFirst 12 = .ok (.iload_n 1, 1) := by decide +kernel
theorem dX1_dropFirst_13 : decode cX1_dropFirst 13 = .ok (.iconst 1, 1) := by decide +kernel
theorem dX1_dropFirst_14 : decode cX1_dropFirst 14 = .ok (.isub, 1) := by decide +kernel
theorem dX1_dropFirst_15 : decode cX1_dropFirst 15 = .ok (.aload_n 0, 1) := by decide +kernel
theorem dX1_dropFirst_16 : decode cX1_dropFirst 16 = .ok (.getfield 9, 3) := by decide +kernel
theorem dX1_dropFirst_19 : decode cX1_dropFirst 19 = .ok (.iload_n 1, 1) := by decide +kernel
theorem dX1_dropFirst_20 : decode cX1_dropFirst 20 = .ok (.iaload, 1) := by decide +kernel
theorem dX1_dropFirst_21 : decode cX1_dropFirst 21 = .ok (.iastore, 1) := by decide +kernel
theorem dX1_dropFirst_22 : decode cX1_dropFirst 22 = .ok (.aload_n 0, 1) := by decide +kernel
theorem dX1_dropFirst_23 : decode cX1_dropFirst 23 = .ok (.getfield 15, 3) := by decide +kernel
theorem dX1_dropFirst_26 : decode cX1_dropFirst 26 = .ok (.iload_n 1, 1) := by decide +kernel
theorem dX1_dropFirst_27 : decode cX1_dropFirst 27 = .ok (.iconst 1, 1) := by decide +kernel
theorem dX1_dropFirst_28 : decode cX1_dropFirst 28 = .ok (.isub, 1) := by decide +kernel
theorem dX1_dropFirst_29 : decode cX1_dropFirst 29 = .ok (.aload_n 0, 1) := by decide +kernel
theorem dX1_dropFirst_30 : decode cX1_dropFirst 30 = .ok (.getfield 15, 3) := by decide +kernel
theorem dX1_dropFirst_33 : decode cX1_dropFirst 33 = .ok (.iload_n 1, 1) := by decide +kernel
theorem dX1_dropFirst_34 : decode cX1_dropFirst 34 = .ok (.iaload, 1) := by decide +kernel
theorem dX1_dropFirst_35 : decode cX1_dropFirst 35 = .ok (.iastore, 1) := by decide +kernel
theorem dX1_dropFirst_36 : decode cX1_dropFirst 36 = .ok (.aload_n 0, 1) := by decide +kernel
theorem dX1_dropFirst_37 : decode cX1_dropFirst 37 = .ok (.getfield 18, 3) := by decide +kernel
theorem dX1_dropFirst_40 : decode cX1_dropFirst 40 = .ok (.iload_n 1, 1) := by decide +kernel
theorem dX1_dropFirst_41 : decode cX1_dropFirst 41 = .ok (.iconst 1, 1) := by decide +kernel
theorem dX1_dropFirst_42 : decode cX1_dropFirst 42 = .ok (.isub, 1) := by decide +kernel
theorem dX1_dropFirst_43 : decode cX1_dropFirst 43 = .ok (.aload_n 0, 1) := by decide +kernel
theorem dX1_dropFirst_44 : decode cX1_dropFirst 44 = .ok (.getfield 18, 3) := by decide +kernel
theorem dX1_dropFirst_47 : decode cX1_dropFirst 47 = .ok (.iload_n 1, 1) := by decide +kernel
theorem dX1_dropFirst_48 : decode cX1_dropFirst 48 = .ok (.iaload, 1) := by decide +kernel
theorem dX1_dropFirst_49 : decode cX1_dropFirst 49 = .ok (.iastore, 1) := by decide +kernel
theorem dX1_dropFirst_50 : decode cX1_dropFirst 50 = .ok (.aload_n 0, 1) := by decide +kernel
theorem dX1_dropFirst_51 : decode cX1_dropFirst 51 = .ok (.getfield 21, 3) := by decide +kernel
theorem dX1_dropFirst_54 : decode cX1_dropFirst 54 = .ok (.iload_n 1, 1) := by decide +kernel
theorem dX1_dropFirst_55 : decode cX1_dropFirst 55 = .ok (.iconst 1, 1) := by decide +kernel
theorem dX1_dropFirst_56 : decode cX1_dropFirst 56 = .ok (.isub, 1) := by decide +kernel
theorem dX1_dropFirst_57 : decode cX1_dropFirst 57 = .ok (.aload_n 0, 1) := by decide +kernel
theorem dX1_dropFirst_58 : decode cX1_dropFirst 58 = .ok (.getfield 21, 3) := by decide +kernel
theorem dX1_dropFirst_61 : decode cX1_dropFirst 61 = .ok (.iload_n 1, 1) := by decide +kernel
theorem dX1_dropFirst_62 : decode cX1_dropFirst 62 = .ok (.iaload, 1) := by decide +kernel
theorem dX1_dropFirst_63 : decode cX1_dropFirst 63 = .ok (.iastore, 1) := by decide +kernel
theorem dX1_dropFirst_64 : decode cX1_dropFirst 64 = .ok (.iinc 1 1, 3) := by decide +kernel
theorem dX1_dropFirst_67 : decode cX1_dropFirst 67 = .ok (.goto (-65), 3) := by decide +kernel
theorem dX1_dropFirst_70 : decode cX1_dropFirst 70 = .ok (.aload_n 0, 1) := by decide +kernel
theorem dX1_dropFirst_71 : decode cX1_dropFirst 71 = .ok (.bipush 39, 2) := by decide +kernel
theorem dX1_dropFirst_73 : decode cX1_dropFirst 73 = .ok (.putfield 42, 3) := by decide +kernel
theorem dX1_dropFirst_76 : decode cX1_dropFirst 76 = .ok (.return_, 1) := by decide +kernel
theorem dX2_init_0 : decode cX2_init 0 = .ok (.aload_n 0, 1) := by decide +kernel
theorem dX2_init_1 : decode cX2_init 1 = .ok (.invokespecial 3, 3) := by decide +kernel
theorem dX2_init_4 : decode cX2_init 4 = .ok (.aload_n 0, 1) := by decide +kernel
theorem dX2_init_5 : decode cX2_init 5 = .ok (.bipush 6, 2) := by decide +kernel
theorem dX2_init_7 : decode cX2_init 7 = .ok (.newarray .int, 2) := by decide +kernel
theorem dX2_init_9 : decode cX2_init 9 = .ok (.putfield 9, 3) := by decide +kernel
theorem dX2_init_12 : decode cX2_init 12 = .ok (.aload_n 0, 1) := by decide +kernel
theorem dX2_init_13 : decode cX2_init 13 = .ok (.iconst 5, 1) := by decide +kernel
theorem dX2_init_14 : decode cX2_init 14 = .ok (.newarray .int, 2) := by decide +kernel
theorem dX2_init_16 : decode cX2_init 16 = .ok (.putfield 15, 3) := by decide +kernel
theorem dX2_init_19 : decode cX2_init 19 = .ok (.aload_n 0, 1) := by decide +kernel
theorem dX2_init_20 : decode cX2_init 20 = .ok (.bipush 6, 2) := by decide +kernel
theorem dX2_init_22 : decode cX2_init 22 = .ok (.newarray .int, 2) := by decide +kernel
theorem dX2_init_24 : decode cX2_init 24 = .ok (.putfield 18, 3) := by decide +kernel
theorem dX2_init_27 : decode cX2_init 27 = .ok (.aload_n 0, 1) := by decide +kernel
theorem dX2_init_28 : decode cX2_init 28 = .ok (.aload_n 1, 1) := by decide +kernel
theorem dX2_init_29 : decode cX2_init 29 = .ok (.putfield 21, 3) := by decide +kernel
theorem dX2_init_32 : decode cX2_init 32 = .ok (.aload_n 0, 1) := by decide +kernel
theorem dX2_init_33 : decode cX2_init 33 = .ok (.aload_n 2, 1) := by decide +kernel
theorem dX2_init_34 : decode cX2_init 34 = .ok (.putfield 25, 3) := by decide +kernel
theorem dX2_init_37 : decode cX2_init 37 = .ok (.return_, 1) := by decide +kernel
theorem dX2_wantAll_0 : decode cX2_wantAll 0 = .ok (.iconst 0, 1) := by decide +kernel
theorem dX2_wantAll_1 : decode cX2_wantAll 1 = .ok (.istore_n 1, 1) := by decide +kernel
theorem dX2_wantAll_2 : decode cX2_wantAll 2 = .ok (.iload_n 1, 1) := by decide +kernel
theorem dX2_wantAll_3 : decode cX2_wantAll 3 = .ok (.aload_n 0, 1) := by decide +kernel
theorem dX2_wantAll_4 : decode cX2_wantAll 4 = .ok (.getfield 21, 3) := by decide +kernel
theorem dX2_wantAll_7 : decode cX2_wantAll 7 = .ok (.getfield 29, 3) := by decide +kernel
theorem dX2_wantAll_10 : decode cX2_wantAll 10 = .ok (.if_icmp .ge 16, 3) := by decide +kernel
theorem dX2_wantAll_13 : decode cX2_wantAll 13 = .ok (.aload_n 0, 1) := by decide +kernel
theorem dX2_wantAll_14 : decode cX2_wantAll 14 = .ok (.getfield 9, 3) := by decide +kernel
theorem dX2_wantAll_17 : decode cX2_wantAll 17 = .ok (.iload_n 1, 1) := by decide +kernel
theorem dX2_wantAll_18 : decode cX2_wantAll 18 = .ok (.iconst 0, 1) := by decide +kernel
theorem dX2_wantAll_19 : decode cX2_wantAll 19 = .ok (.iastore, 1) := by decide +kernel
theorem dX2_wantAll_20 : decode cX2_wantAll 20 = .ok (.iinc 1 1, 3) := by decide +kernel
theorem dX2_wantAll_23 : decode cX2_wantAll 23 = .ok (.goto (-21), 3) := by decide +kernel
theorem dX2_wantAll_26 : decode cX2_wantAll 26 = .ok (.iconst 0, 1) := by decide +kernel
theorem dX2_wantAll_27 : decode cX2_wantAll 27 = .ok (.istore_n 1, 1) := by decide +kernel
theorem dX2_wantAll_28 : decode cX2_wantAll 28 = .ok (.iload_n 1, 1) := by decide +kernel
theorem dX2_wantAll_29 : decode cX2_wantAll 29 = .ok (.aload_n 0, 1) := by decide +kernel
theorem dX2_wantAll_30 : decode cX2_wantAll 30 = .ok (.getfield 21, 3) := by decide +kernel
theorem dX2_wantAll_33 : decode cX2_wantAll 33 = .ok (.getfield 35, 3) := by decide +kernel
theorem dX2_wantAll_36 : decode cX2_wantAll 36 = .ok (.if_icmp .ge 78, 3) := by decide +kernel
theorem dX2_wantAll_39 : decode cX2_wantAll 39 = .ok (.aload_n 0, 1) := by decide +kernel
theorem dX2_wantAll_40 : decode cX2_wantAll 40 = .ok (.getfield 25, 3) := by decide +kernel
theorem dX2_wantAll_43 : decode cX2_wantAll 43 = .ok (.iload_n 1, 1) := by decide +kernel
theorem dX2_wantAll_44 : decode cX2_wantAll 44 = .ok (.invokevirtual 38, 3) := by decide +kernel
theorem dX2_wantAll_47 : decode cX2_wantAll 47 = .ok (.aload_n 0, 1) := by decide +kernel
theorem dX2_wantAll_48 : decode cX2_wantAll 48 = .ok (.getfield 25, 3) := by decide +kernel
theorem dX2_wantAll_51 : decode cX2_wantAll 51 = .ok (.iload_n 1, 1) := by decide +kernel
theorem dX2_wantAll_52 : decode cX2_wantAll 52 = .ok (.invokevirtual 44, 3) := by decide +kernel
theorem dX2_wantAll_55 : decode cX2_wantAll 55 = .ok (.iconst 0, 1) := by decide +kernel
theorem dX2_wantAll_56 : decode cX2_wantAll 56 = .ok (.istore_n 2, 1) := by decide +kernel
theorem dX2_wantAll_57 : decode cX2_wantAll 57 = .ok (.iload_n 2, 1) := by decide +kernel
theorem dX2_wantAll_58 : decode cX2_wantAll 58 = .ok (.aload_n 0, 1) := by decide +kernel
theorem dX2_wantAll_59 : decode cX2_wantAll 59 = .ok (.getfield 21, 3) := by decide +kernel
theorem dX2_wantAll_62 : decode cX2_wantAll 62 = .ok (.getfield 29, 3) := by decide +kernel
theorem dX2_wantAll_65 : decode cX2_wantAll 65 = .ok (.if_icmp .ge 43, 3) := by decide +kernel
theorem dX2_wantAll_68 : decode cX2_wantAll 68 = .ok (.aload_n 0, 1) := by decide +kernel
theorem dX2_wantAll_69 : decode cX2_wantAll 69 = .ok (.getfield 9, 3) := by decide +kernel
theorem dX2_wantAll_72 : decode cX2_wantAll 72 = .ok (.iload_n 2, 1) := by decide +kernel
theorem dX2_wantAll_73 : decode cX2_wantAll 73 = .ok (.dup2, 1) := by decide +kernel
theorem dX2_wantAll_74 : decode cX2_wantAll 74 = .ok (.iaload, 1) := by decide +kernel
theorem dX2_wantAll_75 : decode cX2_wantAll 75 = .ok (.aload_n 0, 1) := by decide +kernel
theorem dX2_wantAll_76 : decode cX2_wantAll 76 = .ok (.getfield 21, 3) := by decide +kernel
theorem dX2_wantAll_79 : decode cX2_wantAll 79 = .ok (.iconst 4, 1) := by decide +kernel
theorem dX2_wantAll_80 : decode cX2_wantAll 80 = .ok (.iload_n 1, 1) := by decide +kernel
theorem dX2_wantAll_81 : decode cX2_wantAll 81 = .ok (.invokevirtual 47, 3) := by decide +kernel
theorem dX2_wantAll_84 : decode cX2_wantAll 84 = .ok (.aload_n 0, 1) := by decide +kernel
theorem dX2_wantAll_85 : decode cX2_wantAll 85 = .ok (.getfield 21, 3) := by decide +kernel
theorem dX2_wantAll_88 : decode cX2_wantAll 88 = .ok (.aload_n 0, 1) := by decide +kernel
theorem dX2_wantAll_89 : decode cX2_wantAll 89 = .ok (.getfield 25, 3) := by decide +kernel
theorem dX2_wantAll_92 : decode cX2_wantAll 92 = .ok (.getfield 51, 3) := by decide +kernel
theorem dX2_wantAll_95 : decode cX2_wantAll 95 = .ok (.iload_n 2, 1) := by decide +kernel
theorem dX2_wantAll_96 : decode cX2_wantAll 96 = .ok (.invokevirtual 54, 3) := by decide +kernel
theorem dX2_wantAll_99 : decode cX2_wantAll 99 = .ok (.imul, 1) := by decide +kernel
theorem dX2_wantAll_100 : decode cX2_wantAll 100 = .ok (.iadd, 1) := by decide +kernel
theorem dX2_wantAll_101 : decode cX2_wantAll 101 = .ok (.iastore, 1) := by decide +kernel
theorem dX2_wantAll_102 : decode cX2_wantAll 102 = .ok (.iinc 2 1, 3) := by decide +kernel
theorem dX2_wantAll_105 : decode cX2_wantAll 105 = .ok (.goto (-48), 3) := by decide +kernel
theorem dX2_wantAll_108 : decode cX2_wantAll 108 = .ok (.iinc 1 1, 3) := by decide +kernel
theorem dX2_wantAll_111 : decode cX2_wantAll 111 = .ok (.goto (-83), 3) := by decide +kernel
theorem dX2_wantAll_114 : decode cX2_wantAll 114 = .ok (.return_, 1) := by decide +kernel
theorem dX2_wantedOf_0 : decode cX2_wantedOf 0 = .ok (.iload_n 1, 1) := by decide +kernel
theorem dX2_wantedOf_1 : decode cX2_wantedOf 1 = .ok (.iconst 0, 1) := by decide +kernel
theorem dX2_wantedOf_2 : decode cX2_wantedOf 2 = .ok (.iconst 5, 1) := by decide +kernel
theorem dX2_wantedOf_3 : decode cX2_wantedOf 3 = .ok (.invokestatic 57, 3) := by decide +kernel
theorem dX2_wantedOf_6 : decode cX2_wantedOf 6 = .ok (.ifCond .eq 12, 3) := by decide +kernel
theorem dX2_wantedOf_9 : decode cX2_wantedOf 9 = .ok (.aload_n 0, 1) := by decide +kernel
theorem dX2_wantedOf_10 : decode cX2_wantedOf 10 = .ok (.getfield 9, 3) := by decide +kernel
theorem dX2_wantedOf_13 : decode cX2_wantedOf 13 = .ok (.iload_n 1, 1) := by decide +kernel
theorem dX2_wantedOf_14 : decode cX2_wantedOf 14 = .ok (.iaload, 1) := by decide +kernel
theorem dX2_wantedOf_15 : decode cX2_wantedOf 15 = .ok (.goto 4, 3) := by decide +kernel
theorem dX2_wantedOf_18 : decode cX2_wantedOf 18 = .ok (.iconst 0, 1) := by decide +kernel
theorem dX2_wantedOf_19 : decode cX2_wantedOf 19 = .ok (.ireturn, 1) := by decide +kernel
theorem dX2_overOf_0 : decode cX2_overOf 0 = .ok (.aload_n 0, 1) := by decide +kernel
theorem dX2_overOf_1 : decode cX2_overOf 1 = .ok (.getfield 21, 3) := by decide +kernel
theorem dX2_overOf_4 : decode cX2_overOf 4 = .ok (.iconst 0, 1) := by decide +kernel
theorem dX2_overOf_5 : decode cX2_overOf 5 = .ok (.iload_n 1, 1) := by decide +kernel
theorem dX2_overOf_6 : decode cX2_overOf 6 = .ok (.invokevirtual 47, 3) := by decide +kernel
theorem dX2_overOf_9 : decode cX2_overOf 9 = .ok (.aload_n 0, 1) := by decide +kernel
theorem dX2_overOf_10 : decode cX2_overOf 10 = .ok (.iload_n 1, 1) := by decide +kernel
theorem dX2_overOf_11 : decode cX2_overOf 11 = .ok (.invokevirtual 61, 3) := by decide +kernel
theorem dX2_overOf_14 : decode cX2_overOf 14 = .ok (.isub, 1) := by decide +kernel
theorem dX2_overOf_15 : decode cX2_overOf 15 = .ok (.ireturn, 1) := by decide +kernel
theorem dX2_bothTogether_0 : decode cX2_bothTogether 0 = .ok (.iconst 0, 1) := by decide +kernel
theorem dX2_bothTogether_1 : decode cX2_bothTogether 1 = .ok (.istore_n 1, 1) := by decide +kernel
theorem dX2_bothTogether_2 : decode cX2_bothTogether 2 = .ok (.iconst 0, 1) := by decide +kernel
theorem dX2_bothTogether_3 : decode cX2_bothTogether 3 = .ok (.istore_n 2, 1) := by decide +kernel
theorem dX2_bothTogether_4 : decode cX2_bothTogether 4 = .ok (.iload_n 2, 1) := by decide +kernel
theorem dX2_bothTogether_5 : decode cX2_bothTogether 5 = .ok (.aload_n 0, 1) := by decide +kernel
theorem dX2_bothTogether_6 : decode cX2_bothTogether 6 = .ok (.getfield 21, 3) := by decide +kernel
theorem dX2_bothTogether_9 : decode cX2_bothTogether 9 = .ok (.getfield 29, 3) := by decide +kernel
theorem dX2_bothTogether_12 : decode cX2_bothTogether 12 = .ok (.if_icmp .ge 20, 3) := by decide +kernel
theorem dX2_bothTogether_15 : decode cX2_bothTogether 15 = .ok (.iload_n 1, 1) := by decide +kernel
theorem dX2_bothTogether_16 : decode cX2_bothTogether 16 = .ok (.aload_n 0, 1) := by decide +kernel
theorem dX2_bothTogether_17 : decode cX2_bothTogether 17 = .ok (.iload_n 2, 1) := by decide +kernel
theorem dX2_bothTogether_18 : decode cX2_bothTogether 18 = .ok (.invokevirtual 65, 3) := by decide +kernel
theorem dX2_bothTogether_21 : decode cX2_bothTogether 21 = .ok (.invokestatic 68, 3) := by decide +kernel
theorem dX2_bothTogether_24 : decode cX2_bothTogether 24 = .ok (.iadd, 1) := by decide +kernel
theorem dX2_bothTogether_25 : decode cX2_bothTogether 25 = .ok (.istore_n 1, 1) := by decide +kernel
theorem dX2_bothTogether_26 : decode cX2_bothTogether 26 = .ok (.iinc 2 1, 3) := by decide +kernel
theorem dX2_bothTogether_29 : decode cX2_bothTogether 29 = .ok (.goto (-25), 3) := by decide +kernel
theorem dX2_bothTogether_32 : decode cX2_bothTogether 32 = .ok (.iload_n 1, 1) := by decide +kernel
theorem dX2_bothTogether_33 : decode cX2_bothTogether 33 = .ok (.ireturn, 1) := by decide +kernel
theorem dX2_findPoints_0 : decode cX2_findPoints 0 = .ok (.aload_n 0, 1) := by decide +kernel
theorem dX2_findPoints_1 : decode cX2_findPoints 1 = .ok (.getfield 25, 3) := by decide +kernel
theorem dX2_findPoints_4 : decode cX2_findPoints 4 = .ok (.invokevirtual 73, 3) := by decide +kernel
theorem dX2_findPoints_7 : decode cX2_findPoints 7 = .ok (.aload_n 0, 1) := by decide +kernel
theorem dX2_findPoints_8 : decode cX2_findPoints 8 = .ok (.invokevirtual 76, 3) := by decide +kernel
theorem dX2_findPoints_11 : decode cX2_findPoints 11 = .ok (.aload_n 0, 1) := by decide +kernel
theorem dX2_findPoints_12 : decode cX2_findPoints 12 = .ok (.iconst 0, 1) := by decide +kernel
theorem dX2_findPoints_13 : decode cX2_findPoints 13 = .ok (.putfield 79, 3) := by decide +kernel
theorem dX2_findPoints_16 : decode cX2_findPoints 16 = .ok (.aload_n 0, 1) := by decide +kernel
theorem dX2_findPoints_17 : decode cX2_findPoints 17 = .ok (.invokevirtual 82, 3) := by decide +kernel
theorem dX2_findPoints_20 : decode cX2_findPoints 20 = .ok (.iconst 1, 1) := by decide +kernel
theorem dX2_findPoints_21 : decode cX2_findPoints 21 = .ok (.istore_n 2, 1) := by decide +kernel
theorem dX2_findPoints_22 : decode cX2_findPoints 22 = .ok (.iload_n 2, 1) := by decide +kernel
theorem dX2_findPoints_23 : decode cX2_findPoints 23 = .ok (.iload_n 1, 1) := by decide +kernel
theorem dX2_findPoints_24 : decode cX2_findPoints 24 = .ok (.if_icmp .gt 40, 3) := by decide +kernel
theorem dX2_findPoints_27 : decode cX2_findPoints 27 = .ok (.aload_n 0, 1) := by decide +kernel
theorem dX2_findPoints_28 : decode cX2_findPoints 28 = .ok (.invokevirtual 85, 3) := by decide +kernel
theorem dX2_findPoints_31 : decode cX2_findPoints 31 = .ok (.ifCond .eq 33, 3) := by decide +kernel
theorem dX2_findPoints_34 : decode cX2_findPoints 34 = .ok (.aload_n 0, 1) := by decide +kernel
theorem dX2_findPoints_35 : decode cX2_findPoints 35 = .ok (.iload_n 2, 1) := by decide +kernel
theorem dX2_findPoints_36 : decode cX2_findPoints 36 = .ok (.putfield 79, 3) := by decide +kernel
theorem dX2_findPoints_39 : decode cX2_findPoints 39 = .ok (.aload_n 0, 1) := by decide +kernel
theorem dX2_findPoints_40 : decode cX2_findPoints 40 = .ok (.invokevirtual 76, 3) := by decide +kernel
theorem dX2_findPoints_43 : decode cX2_findPoints 43 = .ok (.aload_n 0, 1) := by decide +kernel
theorem dX2_findPoints_44 : decode cX2_findPoints 44 = .ok (.invokevirtual 89, 3) := by decide +kernel
theorem dX2_findPoints_47 : decode cX2_findPoints 47 = .ok (.aload_n 0, 1) := by decide +kernel
theorem dX2_findPoints_48 : decode cX2_findPoints 48 = .ok (.getfield 93, 3) := by decide +kernel
theorem dX2_findPoints_51 : decode cX2_findPoints 51 = .ok (.if_icmp .ge 7, 3) := by decide +kernel
theorem dX2_findPoints_54 : decode cX2_findPoints 54 = .ok (.aload_n 0, 1) := by decide +kernel
theorem dX2_findPoints_55 : decode cX2_findPoints 55 = .ok (.invokevirtual 82, 3) := by decide +kernel
theorem dX2_findPoints_58 : decode cX2_findPoints 58 = .ok (.iinc 2 1, 3) := by decide +kernel
theorem dX2_findPoints_61 : decode cX2_findPoints 61 = .ok (.goto (-39), 3) := by decide +kernel
theorem dX2_findPoints_64 : decode cX2_findPoints 64 = .ok (.return_, 1) := by decide +kernel
theorem dX2_leastPointsOf_0 : decode cX2_leastPointsOf 0 = .ok (.iload_n 1, 1) := by decide +kernel
theorem dX2_leastPointsOf_1 : decode cX2_leastPointsOf 1 = .ok (.iconst 0, 1) := by decide +kernel
theorem dX2_leastPointsOf_2 : decode cX2_leastPointsOf 2 = .ok (.iconst 5, 1) := by decide +kernel
theorem dX2_leastPointsOf_3 : decode cX2_leastPointsOf 3 = .ok (.invokestatic 57, 3) := by decide +kernel
theorem dX2_leastPointsOf_6 : decode cX2_leastPointsOf 6 = .ok (.ifCond .eq 12, 3) := by decide +kernel
theorem dX2_leastPointsOf_9 : decode cX2_leastPointsOf 9 = .ok (.aload_n 0, 1) := by decide +kernel
theorem dX2_leastPointsOf_10 : decode cX2_leastPointsOf 10 = .ok (.getfield 18, 3) := by decide +kernel
theorem dX2_leastPointsOf_13 : decode cX2_leastPointsOf 13 = .ok (.iload_n 1, 1) := by decide +kernel
theorem dX2_leastPointsOf_14 : decode cX2_leastPointsOf 14 = .ok (.iaload, 1) := by decide +kernel
theorem dX2_leastPointsOf_15 : decode cX2_leastPointsOf 15 = .ok (.goto 4, 3) := by decide +kernel
theorem dX2_leastPointsOf_18 : decode cX2_leastPointsOf 18 = .ok (.iconst 0, 1) := by decide +kernel
theorem dX2_leastPointsOf_19 : decode cX2_leastPointsOf 19 = .ok (.ireturn, 1) := by decide +kernel
theorem dX2_keepLeast_0 : decode cX2_keepLeast 0 = .ok (.aload_n 0, 1) := by decide +kernel
theorem dX2_keepLeast_1 : decode cX2_keepLeast 1 = .ok (.aload_n 0, 1) := by decide +kernel
theorem dX2_keepLeast_2 : decode cX2_keepLeast 2 = .ok (.invokevirtual 89, 3) := by decide +kernel
theorem dX2_keepLeast_5 : decode cX2_keepLeast 5 = .ok (.putfield 93, 3) := by decide +kernel
theorem dX2_keepLeast_8 : decode cX2_keepLeast 8 = .ok (.aload_n 0, 1) := by decide +kernel
theorem dX2_keepLeast_9 : decode cX2_keepLeast 9 = .ok (.aload_n 0, 1) := by decide +kernel
theorem dX2_keepLeast_10 : decode cX2_keepLeast 10 = .ok (.getfield 79, 3) := by decide +kernel
theorem dX2_keepLeast_13 : decode cX2_keepLeast 13 = .ok (.putfield 96, 3) := by decide +kernel
theorem dX2_keepLeast_16 : decode cX2_keepLeast 16 = .ok (.iconst 0, 1) := by decide +kernel
theorem dX2_keepLeast_17 : decode cX2_keepLeast 17 = .ok (.istore_n 1, 1) := by decide +kernel
theorem dX2_keepLeast_18 : decode cX2_keepLeast 18 = .ok (.iload_n 1, 1) := by decide +kernel
theorem dX2_keepLeast_19 : decode cX2_keepLeast 19 = .ok (.aload_n 0, 1) := by decide +kernel
theorem dX2_keepLeast_20 : decode cX2_keepLeast 20 = .ok (.getfield 21, 3) := by decide +kernel
theorem dX2_keepLeast_23 : decode cX2_keepLeast 23 = .ok (.getfield 29, 3) := by decide +kernel
theorem dX2_keepLeast_26 : decode cX2_keepLeast 26 = .ok (.if_icmp .ge 23, 3) := by decide +kernel
theorem dX2_keepLeast_29 : decode cX2_keepLeast 29 = .ok (.aload_n 0, 1) := by decide +kernel
theorem dX2_keepLeast_30 : decode cX2_keepLeast 30 = .ok (.getfield 18, 3) := by decide +kernel
theorem dX2_keepLeast_33 : decode cX2_keepLeast 33 = .ok (.iload_n 1, 1) := by decide +kernel
theorem dX2_keepLeast_34 : decode cX2_keepLeast 34 = .ok (.aload_n 0, 1) := by decide +kernel
theorem dX2_keepLeast_35 : decode cX2_keepLeast 35 = .ok (.getfield 25, 3) := by decide +kernel
theorem dX2_keepLeast_38 : decode cX2_keepLeast 38 = .ok (.iload_n 1, 1) := by decide +kernel
theorem dX2_keepLeast_39 : decode cX2_keepLeast 39 = .ok (.invokevirtual 99, 3) := by decide +kernel
theorem dX2_keepLeast_42 : decode cX2_keepLeast 42 = .ok (.iastore, 1) := by decide +kernel
theorem dX2_keepLeast_43 : decode cX2_keepLeast 43 = .ok (.iinc 1 1, 3) := by decide +kernel
theorem dX2_keepLeast_46 : decode cX2_keepLeast 46 = .ok (.goto (-28), 3) := by decide +kernel
theorem dX2_keepLeast_49 : decode cX2_keepLeast 49 = .ok (.return_, 1) := by decide +kernel
theorem dX2_movePoints_0 : decode cX2_movePoints 0 = .ok (.iconst 0, 1) := by decide +kernel
theorem dX2_movePoints_1 : decode cX2_movePoints 1 = .ok (.istore_n 1, 1) := by decide +kernel
theorem dX2_movePoints_2 : decode cX2_movePoints 2 = .ok (.iconst 0, 1) := by decide +kernel
theorem dX2_movePoints_3 : decode cX2_movePoints 3 = .ok (.istore_n 2, 1) := by decide +kernel
theorem dX2_movePoints_4 : decode cX2_movePoints 4 = .ok (.iload_n 2, 1) := by decide +kernel
theorem dX2_movePoints_5 : decode cX2_movePoints 5 = .ok (.aload_n 0, 1) := by decide +kernel
theorem dX2_movePoints_6 : decode cX2_movePoints 6 = .ok (.getfield 21, 3) := by decide +kernel
theorem dX2_movePoints_9 : decode cX2_movePoints 9 = .ok (.getfield 29, 3) := by decide +kernel
theorem dX2_movePoints_12 : decode cX2_movePoints 12 = .ok (.if_icmp .ge 68, 3) := by decide +kernel
theorem dX2_movePoints_15 : decode cX2_movePoints 15 = .ok (.aload_n 0, 1) := by decide +kernel
theorem dX2_movePoints_16 : decode cX2_movePoints 16 = .ok (.getfield 25, 3) := by decide +kernel
theorem dX2_movePoints_19 : decode cX2_movePoints 19 = .ok (.iload_n 2, 1) := by decide +kernel
theorem dX2_movePoints_20 : decode cX2_movePoints 20 = .ok (.invokevirtual 99, 3) := by decide +kernel
theorem dX2_movePoints_23 : decode cX2_movePoints 23 = .ok (.istore_n 3, 1) := by decide +kernel
theorem dX2_movePoints_24 : decode cX2_movePoints 24 = .ok (.iload_n 3, 1) := by decide +kernel
theorem dX2_movePoints_25 : decode cX2_movePoints 25 = .ok (.aload_n 0, 1) := by decide +kernel
theorem dX2_movePoints_26 : decode cX2_movePoints 26 = .ok (.iload_n 2, 1) := by decide +kernel
theorem dX2_movePoints_27 : decode cX2_movePoints 27 = .ok (.invokevirtual 65, 3) := by decide +kernel
theorem dX2_movePoints_30 : decode cX2_movePoints 30 = .ok (.iconst 0, 1) := by decide +kernel
theorem dX2_movePoints_31 : decode cX2_movePoints 31 = .ok (.invokestatic 102, 3) := by decide +kernel
theorem dX2_movePoints_34 : decode cX2_movePoints 34 = .ok (.isub, 1) := by decide +kernel
theorem dX2_movePoints_35 : decode cX2_movePoints 35 = .ok (.istore 4, 2) := by decide +kernel
theorem dX2_movePoints_37 : decode cX2_movePoints 37 = .ok (.iload 4, 2) := by decide +kernel
theorem dX2_movePoints_39 : decode cX2_movePoints 39 = .ok (.iload_n 3, 1) := by decide +kernel
theorem dX2_movePoints_40 : decode cX2_movePoints 40 = .ok (.if_icmp .eq 34, 3) := by decide +kernel
theorem dX2_movePoints_43 : decode cX2_movePoints 43 = .ok (.iload 4, 2) := by decide +kernel
theorem dX2_movePoints_45 : decode cX2_movePoints 45 = .ok (.iconst 0, 1) := by decide +kernel
theorem dX2_movePoints_46 : decode cX2_movePoints 46 = .ok (.bipush 99, 2) := by decide +kernel
theorem dX2_movePoints_48 : decode cX2_movePoints 48 = .ok (.invokestatic 57, 3) := by decide +kernel
theorem dX2_movePoints_51 : decode cX2_movePoints 51 = .ok (.ifCond .eq 23, 3) := by decide +kernel
theorem dX2_movePoints_54 : decode cX2_movePoints 54 = .ok (.aload_n 0, 1) := by decide +kernel
theorem dX2_movePoints_55 : decode cX2_movePoints 55 = .ok (.getfield 25, 3) := by decide +kernel
theorem dX2_movePoints_58 : decode cX2_movePoints 58 = .ok (.iload_n 2, 1) := by decide +kernel
theorem dX2_movePoints_59 : decode cX2_movePoints 59 = .ok (.aload_n 0, 1) := by decide +kernel
theorem dX2_movePoints_60 : decode cX2_movePoints 60 = .ok (.getfield 25, 3) := by decide +kernel
theorem dX2_movePoints_63 : decode cX2_movePoints 63 = .ok (.iload_n 2, 1) := by decide +kernel
theorem dX2_movePoints_64 : decode cX2_movePoints 64 = .ok (.invokevirtual 107, 3) := by decide +kernel
theorem dX2_movePoints_67 : decode cX2_movePoints 67 = .ok (.iload 4, 2) := by decide +kernel
theorem dX2_movePoints_69 : decode cX2_movePoints 69 = .ok (.invokevirtual 110, 3) := by decide +kernel
theorem dX2_movePoints_72 : decode cX2_movePoints 72 = .ok (.iconst 1, 1) := by decide +kernel
theorem dX2_movePoints_73 : decode cX2_movePoints 73 = .ok (.istore_n 1, 1) := by decide +kernel
theorem dX2_movePoints_74 : decode cX2_movePoints 74 = .ok (.iinc 2 1, 3) := by decide +kernel
theorem dX2_movePoints_77 : decode cX2_movePoints 77 = .ok (.goto (-73), 3) := by decide +kernel
theorem dX2_movePoints_80 : decode cX2_movePoints 80 = .ok (.iload_n 1, 1) := by decide +kernel
theorem dX2_movePoints_81 : decode cX2_movePoints 81 = .ok (.ireturn, 1) := by decide +kernel
theorem dX2_hear_0 : decode cX2_hear 0 = .ok (.iload_n 1, 1) := by decide +kernel
theorem dX2_hear_1 : decode cX2_hear 1 = .ok (.iconst 0, 1) := by decide +kernel
theorem dX2_hear_2 : decode cX2_hear 2 = .ok (.iconst 4, 1) := by decide +kernel
theorem dX2_hear_3 : decode cX2_hear 3 = .ok (.invokestatic 57, 3) := by decide +kernel
theorem dX2_hear_6 : decode cX2_hear 6 = .ok (.ifCond .ne 5, 3) := by decide +kernel
theorem dX2_hear_9 : decode cX2_hear 9 = .ok (.iconst (-1), 1) := by decide +kernel
theorem dX2_hear_10 : decode cX2_hear 10 = .ok (.ireturn, 1) := by decide +kernel
theorem dX2_hear_11 : decode cX2_hear 11 = .ok (.aload_n 0, 1) := by decide +kernel
theorem dX2_hear_12 : decode cX2_hear 12 = .ok (.getfield 15, 3) := by decide +kernel
theorem dX2_hear_15 : decode cX2_hear 15 = .ok (.iload_n 1, 1) := by decide +kernel
theorem dX2_hear_16 : decode cX2_hear 16 = .ok (.iaload, 1) := by decide +kernel
theorem dX2_hear_17 : decode cX2_hear 17 = .ok (.istore_n 3, 1) := by decide +kernel
theorem dX2_hear_18 : decode cX2_hear 18 = .ok (.aload_n 0, 1) := by decide +kernel
theorem dX2_hear_19 : decode cX2_hear 19 = .ok (.getfield 15, 3) := by decide +kernel
theorem dX2_hear_22 : decode cX2_hear 22 = .ok (.iload_n 1, 1) := by decide +kernel
theorem dX2_hear_23 : decode cX2_hear 23 = .ok (.iload_n 2, 1) := by decide +kernel
theorem dX2_hear_24 : decode cX2_hear 24 = .ok (.iastore, 1) := by decide +kernel
theorem dX2_hear_25 : decode cX2_hear 25 = .ok (.iload_n 3, 1) := by decide +kernel
theorem dX2_hear_26 : decode cX2_hear 26 = .ok (.ireturn, 1) := by decide +kernel
theorem dX2_judged_0 : decode cX2_judged 0 = .ok (.aload_n 0, 1) := by decide +kernel
theorem dX2_judged_1 : decode cX2_judged 1 = .ok (.getfield 25, 3) := by decide +kernel
theorem dX2_judged_4 : decode cX2_judged 4 = .ok (.invokevirtual 73, 3) := by decide +kernel
theorem dX2_judged_7 : decode cX2_judged 7 = .ok (.iconst 0, 1) := by decide +kernel
theorem dX2_judged_8 : decode cX2_judged 8 = .ok (.istore_n 1, 1) := by decide +kernel
theorem dX2_judged_9 : decode cX2_judged 9 = .ok (.iload_n 1, 1) := by decide +kernel
theorem dX2_judged_10 : decode cX2_judged 10 = .ok (.aload_n 0, 1) := by decide +kernel
theorem dX2_judged_11 : decode cX2_judged 11 = .ok (.getfield 21, 3) := by decide +kernel
theorem dX2_judged_14 : decode cX2_judged 14 = .ok (.getfield 35, 3) := by decide +kernel
theorem dX2_judged_17 : decode cX2_judged 17 = .ok (.if_icmp .ge 23, 3) := by decide +kernel
theorem dX2_judged_20 : decode cX2_judged 20 = .ok (.aload_n 0, 1) := by decide +kernel
theorem dX2_judged_21 : decode cX2_judged 21 = .ok (.iload_n 1, 1) := by decide +kernel
theorem dX2_judged_22 : decode cX2_judged 22 = .ok (.invokevirtual 114, 3) := by decide +kernel
theorem dX2_judged_25 : decode cX2_judged 25 = .ok (.istore_n 2, 1) := by decide +kernel
theorem dX2_judged_26 : decode cX2_judged 26 = .ok (.iload_n 2, 1) := by decide +kernel
theorem dX2_judged_27 : decode cX2_judged 27 = .ok (.ifCond .eq 7, 3) := by decide +kernel
theorem dX2_judged_30 : decode cX2_judged 30 = .ok (.iload_n 2, 1) := by decide +kernel
theorem dX2_judged_31 : decode cX2_judged 31 = .ok (.iload_n 1, 1) := by decide +kernel
theorem dX2_judged_32 : decode cX2_judged 32 = .ok (.iadd, 1) := by decide +kernel
theorem dX2_judged_33 : decode cX2_judged 33 = .ok (.ireturn, 1) := by decide +kernel
theorem dX2_judged_34 : decode cX2_judged 34 = .ok (.iinc 1 1, 3) := by decide +kernel
theorem dX2_judged_37 : decode cX2_judged 37 = .ok (.goto (-28), 3) := by decide +kernel
theorem dX2_judged_40 : decode cX2_judged 40 = .ok (.iconst 0, 1) := by decide +kernel
theorem dX2_judged_41 : decode cX2_judged 41 = .ok (.istore_n 1, 1) := by decide +kernel
theorem dX2_judged_42 : decode cX2_judged 42 = .ok (.iload_n 1, 1) := by decide +kernel
theorem dX2_judged_43 : decode cX2_judged 43 = .ok (.aload_n 0, 1) := by decide +kernel
theorem dX2_judged_44 : decode cX2_judged 44 = .ok (.getfield 21, 3) := by decide +kernel
theorem dX2_judged_47 : decode cX2_judged 47 = .ok (.getfield 29, 3) := by decide +kernel
theorem dX2_judged_50 : decode cX2_judged 50 = .ok (.if_icmp .ge 31, 3) := by decide +kernel
theorem dX2_judged_53 : decode cX2_judged 53 = .ok (.aload_n 0, 1) := by decide +kernel
theorem dX2_judged_54 : decode cX2_judged 54 = .ok (.iload_n 1, 1) := by decide +kernel
theorem dX2_judged_55 : decode cX2_judged 55 = .ok (.invokevirtual 117, 3) := by decide +kernel
theorem dX2_judged_58 : decode cX2_judged 58 = .ok (.aload_n 0, 1) := by decide +kernel
theorem dX2_judged_59 : decode cX2_judged 59 = .ok (.getfield 21, 3) := by decide +kernel
theorem dX2_judged_62 : decode cX2_judged 62 = .ok (.iconst 0, 1) := by decide +kernel
theorem dX2_judged_63 : decode cX2_judged 63 = .ok (.iload_n 1, 1) := by decide +kernel
theorem dX2_judged_64 : decode cX2_judged 64 = .ok (.invokevirtual 47, 3) := by decide +kernel
theorem dX2_judged_67 : decode cX2_judged 67 = .ok (.if_icmp .le 8, 3) := by decide +kernel
theorem dX2_judged_70 : decode cX2_judged 70 = .ok (.bipush 30, 2) := by decide +kernel
theorem dX2_judged_72 : decode cX2_judged 72 = .ok (.iload_n 1, 1) := by decide +kernel
theorem dX2_judged_73 : decode cX2_judged 73 = .ok (.iadd, 1) := by decide +kernel
theorem dX2_judged_74 : decode cX2_judged 74 = .ok (.ireturn, 1) := by decide +kernel
theorem dX2_judged_75 : decode cX2_judged 75 = .ok (.iinc 1 1, 3) := by decide +kernel
theorem dX2_judged_78 : decode cX2_judged 78 = .ok (.goto (-36), 3) := by decide +kernel
theorem dX2_judged_81 : decode cX2_judged 81 = .ok (.bipush (-2), 2) := by decide +kernel
theorem dX2_judged_83 : decode cX2_judged 83 = .ok (.ireturn, 1) := by decide +kernel
theorem dX2_faultOf_0 : decode cX2_faultOf 0 = .ok (.aload_n 0, 1) := by decide +kernel
theorem dX2_faultOf_1 : decode cX2_faultOf 1 = .ok (.getfield 25, 3) := by decide +kernel
theorem dX2_faultOf_4 : decode cX2_faultOf 4 = .ok (.iload_n 1, 1) := by decide +kernel
theorem dX2_faultOf_5 : decode cX2_faultOf 5 = .ok (.invokevirtual 38, 3) := by decide +kernel
theorem dX2_faultOf_8 : decode cX2_faultOf 8 = .ok (.aload_n 0, 1) := by decide +kernel
theorem dX2_faultOf_9 : decode cX2_faultOf 9 = .ok (.getfield 25, 3) := by decide +kernel
theorem dX2_faultOf_12 : decode cX2_faultOf 12 = .ok (.iload_n 1, 1) := by decide +kernel
theorem dX2_faultOf_13 : decode cX2_faultOf 13 = .ok (.invokevirtual 44, 3) := by decide +kernel
theorem dX2_faultOf_16 : decode cX2_faultOf 16 = .ok (.iconst 0, 1) := by decide +kernel
theorem dX2_faultOf_17 : decode cX2_faultOf 17 = .ok (.istore_n 2, 1) := by decide +kernel
theorem dX2_faultOf_18 : decode cX2_faultOf 18 = .ok (.iconst 0, 1) := by decide +kernel
theorem dX2_faultOf_19 : decode cX2_faultOf 19 = .ok (.istore_n 3, 1) := by decide +kernel
theorem dX2_faultOf_20 : decode cX2_faultOf 20 = .ok (.iconst 0, 1) := by decide +kernel
theorem dX2_faultOf_21 : decode cX2_faultOf 21 = .ok (.istore 4, 2) := by decide +kernel
theorem dX2_faultOf_23 : decode cX2_faultOf 23 = .ok (.iconst 0, 1) := by decide +kernel
theorem dX2_faultOf_24 : decode cX2_faultOf 24 = .ok (.istore 5, 2) := by decide +kernel
theorem dX2_faultOf_26 : decode cX2_faultOf 26 = .ok (.iload 5, 2) := by decide +kernel
theorem dX2_faultOf_28 : decode cX2_faultOf 28 = .ok (.aload_n 0, 1) := by decide +kernel
theorem dX2_faultOf_29 : decode cX2_faultOf 29 = .ok (.getfield 21, 3) := by decide +kernel
theorem dX2_faultOf_32 : decode cX2_faultOf 32 = .ok (.getfield 29, 3) := by decide +kernel
theorem dX2_faultOf_35 : decode cX2_faultOf 35 = .ok (.if_icmp .ge 72, 3) := by decide +kernel
theorem dX2_faultOf_38 : decode cX2_faultOf 38 = .ok (.aload_n 0, 1) := by decide +kernel
theorem dX2_faultOf_39 : decode cX2_faultOf 39 = .ok (.getfield 21, 3) := by decide +kernel
theorem dX2_faultOf_42 : decode cX2_faultOf 42 = .ok (.aload_n 0, 1) := by decide +kernel
theorem dX2_faultOf_43 : decode cX2_faultOf 43 = .ok (.getfield 15, 3) := by decide +kernel
theorem dX2_faultOf_46 : decode cX2_faultOf 46 = .ok (.iload_n 1, 1) := by decide +kernel
theorem dX2_faultOf_47 : decode cX2_faultOf 47 = .ok (.iaload, 1) := by decide +kernel
theorem dX2_faultOf_48 : decode cX2_faultOf 48 = .ok (.iload 5, 2) := by decide +kernel
theorem dX2_faultOf_50 : decode cX2_faultOf 50 = .ok (.invokevirtual 54, 3) := by decide +kernel
theorem dX2_faultOf_53 : decode cX2_faultOf 53 = .ok (.istore 6, 2) := by decide +kernel
theorem dX2_faultOf_55 : decode cX2_faultOf 55 = .ok (.iload_n 2, 1) := by decide +kernel
theorem dX2_faultOf_56 : decode cX2_faultOf 56 = .ok (.aload_n 0, 1) := by decide +kernel
theorem dX2_faultOf_57 : decode cX2_faultOf 57 = .ok (.getfield 25, 3) := by decide +kernel
theorem dX2_faultOf_60 : decode cX2_faultOf 60 = .ok (.iload 5, 2) := by decide +kernel
theorem dX2_faultOf_62 : decode cX2_faultOf 62 = .ok (.iload 6, 2) := by decide +kernel
theorem dX2_faultOf_64 : decode cX2_faultOf 64 = .ok (.invokevirtual 120, 3) := by decide +kernel
theorem dX2_faultOf_67 : decode cX2_faultOf 67 = .ok (.iadd, 1) := by decide +kernel
theorem dX2_faultOf_68 : decode cX2_faultOf 68 = .ok (.istore_n 2, 1) := by decide +kernel
theorem dX2_faultOf_69 : decode cX2_faultOf 69 = .ok (.iload_n 3, 1) := by decide +kernel
theorem dX2_faultOf_70 : decode cX2_faultOf 70 = .ok (.iload 6, 2) := by decide +kernel
theorem dX2_faultOf_72 : decode cX2_faultOf 72 = .ok (.aload_n 0, 1) := by decide +kernel
theorem dX2_faultOf_73 : decode cX2_faultOf 73 = .ok (.getfield 25, 3) := by decide +kernel
theorem dX2_faultOf_76 : decode cX2_faultOf 76 = .ok (.iload 5, 2) := by decide +kernel
theorem dX2_faultOf_78 : decode cX2_faultOf 78 = .ok (.invokevirtual 107, 3) := by decide +kernel
theorem dX2_faultOf_81 : decode cX2_faultOf 81 = .ok (.imul, 1) := by decide +kernel
theorem dX2_faultOf_82 : decode cX2_faultOf 82 = .ok (.iadd, 1) := by decide +kernel
theorem dX2_faultOf_83 : decode cX2_faultOf 83 = .ok (.istore_n 3, 1) := by decide +kernel
theorem dX2_faultOf_84 : decode cX2_faultOf 84 = .ok (.iload 4, 2) := by decide +kernel
theorem dX2_faultOf_86 : decode cX2_faultOf 86 = .ok (.iload 6, 2) := by decide +kernel
theorem dX2_faultOf_88 : decode cX2_faultOf 88 = .ok (.aload_n 0, 1) := by decide +kernel
theorem dX2_faultOf_89 : decode cX2_faultOf 89 = .ok (.getfield 25, 3) := by decide +kernel
theorem dX2_faultOf_92 : decode cX2_faultOf 92 = .ok (.iload 5, 2) := by decide +kernel
theorem dX2_faultOf_94 : decode cX2_faultOf 94 = .ok (.invokevirtual 99, 3) := by decide +kernel
theorem dX2_faultOf_97 : decode cX2_faultOf 97 = .ok (.imul, 1) := by decide +kernel
theorem dX2_faultOf_98 : decode cX2_faultOf 98 = .ok (.iadd, 1) := by decide +kernel
theorem dX2_faultOf_99 : decode cX2_faultOf 99 = .ok (.istore 4, 2) := by decide +kernel
theorem dX2_faultOf_101 : decode cX2_faultOf 101 = .ok (.iinc 5 1, 3) := by decide +kernel
theorem dX2_faultOf_104 : decode cX2_faultOf 104 = .ok (.goto (-78), 3) := by decide +kernel
theorem dX2_faultOf_107 : decode cX2_faultOf 107 = .ok (.aload_n 0, 1) := by decide +kernel
theorem dX2_faultOf_108 : decode cX2_faultOf 108 = .ok (.getfield 25, 3) := by decide +kernel
theorem dX2_faultOf_111 : decode cX2_faultOf 111 = .ok (.iload_n 3, 1) := by decide +kernel
theorem dX2_faultOf_112 : decode cX2_faultOf 112 = .ok (.iload 4, 2) := by decide +kernel
theorem dX2_faultOf_114 : decode cX2_faultOf 114 = .ok (.invokevirtual 123, 3) := by decide +kernel
theorem dX2_faultOf_117 : decode cX2_faultOf 117 = .ok (.ifCond .ne 6, 3) := by decide +kernel
theorem dX2_faultOf_120 : decode cX2_faultOf 120 = .ok (.bipush 10, 2) := by decide +kernel
theorem dX2_faultOf_122 : decode cX2_faultOf 122 = .ok (.ireturn, 1) := by decide +kernel
theorem dX2_faultOf_123 : decode cX2_faultOf 123 = .ok (.iload_n 2, 1) := by decide +kernel
theorem dX2_faultOf_124 : decode cX2_faultOf 124 = .ok (.aload_n 0, 1) := by decide +kernel
theorem dX2_faultOf_125 : decode cX2_faultOf 125 = .ok (.getfield 25, 3) := by decide +kernel
theorem dX2_faultOf_128 : decode cX2_faultOf 128 = .ok (.getfield 127, 3) := by decide +kernel
theorem dX2_faultOf_131 : decode cX2_faultOf 131 = .ok (.if_icmp .ge 8, 3) := by decide +kernel
theorem dX2_faultOf_134 : decode cX2_faultOf 134 = .ok (.bipush 20, 2) := by decide +kernel
theorem dX2_faultOf_136 : decode cX2_faultOf 136 = .ok (.goto 4, 3) := by decide +kernel
theorem dX2_faultOf_139 : decode cX2_faultOf 139 = .ok (.iconst 0, 1) := by decide +kernel
theorem dX2_faultOf_140 : decode cX2_faultOf 140 = .ok (.ireturn, 1) := by decide +kernel
theorem dX2_toldOf_0 : decode cX2_toldOf 0 = .ok (.iconst 0, 1) := by decide +kernel
theorem dX2_toldOf_1 : decode cX2_toldOf 1 = .ok (.istore_n 2, 1) := by decide +kernel
theorem dX2_toldOf_2 : decode cX2_toldOf 2 = .ok (.iconst 0, 1) := by decide +kernel
theorem dX2_toldOf_3 : decode cX2_toldOf 3 = .ok (.istore_n 3, 1) := by decide +kernel
theorem dX2_toldOf_4 : decode cX2_toldOf 4 = .ok (.iload_n 3, 1) := by decide +kernel
theorem dX2_toldOf_5 : decode cX2_toldOf 5 = .ok (.aload_n 0, 1) := by decide +kernel
theorem dX2_toldOf_6 : decode cX2_toldOf 6 = .ok (.getfield 21, 3) := by decide +kernel
theorem dX2_toldOf_9 : decode cX2_toldOf 9 = .ok (.getfield 35, 3) := by decide +kernel
theorem dX2_toldOf_12 : decode cX2_toldOf 12 = .ok (.if_icmp .ge 36, 3) := by decide +kernel
theorem dX2_toldOf_15 : decode cX2_toldOf 15 = .ok (.iload_n 2, 1) := by decide +kernel
theorem dX2_toldOf_16 : decode cX2_toldOf 16 = .ok (.aload_n 0, 1) := by decide +kernel
theorem dX2_toldOf_17 : decode cX2_toldOf 17 = .ok (.getfield 21, 3) := by decide +kernel
theorem dX2_toldOf_20 : decode cX2_toldOf 20 = .ok (.iconst 4, 1) := by decide +kernel
theorem dX2_toldOf_21 : decode cX2_toldOf 21 = .ok (.iload_n 3, 1) := by decide +kernel
theorem dX2_toldOf_22 : decode cX2_toldOf 22 = .ok (.invokevirtual 47, 3) := by decide +kernel
theorem dX2_toldOf_25 : decode cX2_toldOf 25 = .ok (.aload_n 0, 1) := by decide +kernel
theorem dX2_toldOf_26 : decode cX2_toldOf 26 = .ok (.getfield 21, 3) := by decide +kernel
theorem dX2_toldOf_29 : decode cX2_toldOf 29 = .ok (.aload_n 0, 1) := by decide +kernel
theorem dX2_toldOf_30 : decode cX2_toldOf 30 = .ok (.getfield 15, 3) := by decide +kernel
theorem dX2_toldOf_33 : decode cX2_toldOf 33 = .ok (.iload_n 3, 1) := by decide +kernel
theorem dX2_toldOf_34 : decode cX2_toldOf 34 = .ok (.iaload, 1) := by decide +kernel
theorem dX2_toldOf_35 : decode cX2_toldOf 35 = .ok (.iload_n 1, 1) := by decide +kernel
theorem dX2_toldOf_36 : decode cX2_toldOf 36 = .ok (.invokevirtual 54, 3) := by decide +kernel
theorem dX2_toldOf_39 : decode cX2_toldOf 39 = .ok (.imul, 1) := by decide +kernel
theorem dX2_toldOf_40 : decode cX2_toldOf 40 = .ok (.iadd, 1) := by decide +kernel
theorem dX2_toldOf_41 : decode cX2_toldOf 41 = .ok (.istore_n 2, 1) := by decide +kernel
theorem dX2_toldOf_42 : decode cX2_toldOf 42 = .ok (.iinc 3 1, 3) := by decide +kernel
theorem dX2_toldOf_45 : decode cX2_toldOf 45 = .ok (.goto (-41), 3) := by decide +kernel
theorem dX2_toldOf_48 : decode cX2_toldOf 48 = .ok (.iload_n 2, 1) := by decide +kernel
theorem dX2_toldOf_49 : decode cX2_toldOf 49 = .ok (.ireturn, 1) := by decide +kernel
theorem dX2_servesAll_0 : decode cX2_servesAll 0 = .ok (.aload_n 0, 1) := by decide +kernel
theorem dX2_servesAll_1 : decode cX2_servesAll 1 = .ok (.getfield 25, 3) := by decide +kernel
theorem dX2_servesAll_4 : decode cX2_servesAll 4 = .ok (.invokevirtual 73, 3) := by decide +kernel
theorem dX2_servesAll_7 : decode cX2_servesAll 7 = .ok (.iconst 0, 1) := by decide +kernel
theorem dX2_servesAll_8 : decode cX2_servesAll 8 = .ok (.istore_n 2, 1) := by decide +kernel
theorem dX2_servesAll_9 : decode cX2_servesAll 9 = .ok (.iload_n 2, 1) := by decide +kernel
theorem dX2_servesAll_10 : decode cX2_servesAll 10 = .ok (.aload_n 0, 1) := by decide +kernel
theorem dX2_servesAll_11 : decode cX2_servesAll 11 = .ok (.getfield 21, 3) := by decide +kernel
theorem dX2_servesAll_14 : decode cX2_servesAll 14 = .ok (.getfield 29, 3) := by decide +kernel
theorem dX2_servesAll_17 : decode cX2_servesAll 17 = .ok (.if_icmp .ge 34, 3) := by decide +kernel
theorem dX2_servesAll_20 : decode cX2_servesAll 20 = .ok (.iload_n 1, 1) := by decide +kernel
theorem dX2_servesAll_21 : decode cX2_servesAll 21 = .ok (.iload_n 2, 1) := by decide +kernel
theorem dX2_servesAll_22 : decode cX2_servesAll 22 = .ok (.ishr, 1) := by decide +kernel
theorem dX2_servesAll_23 : decode cX2_servesAll 23 = .ok (.iconst 1, 1) := by decide +kernel
theorem dX2_servesAll_24 : decode cX2_servesAll 24 = .ok (.iand, 1) := by decide +kernel
theorem dX2_servesAll_25 : decode cX2_servesAll 25 = .ok (.ifCond .ne 20, 3) := by decide +kernel
theorem dX2_servesAll_28 : decode cX2_servesAll 28 = .ok (.aload_n 0, 1) := by decide +kernel
theorem dX2_servesAll_29 : decode cX2_servesAll 29 = .ok (.getfield 25, 3) := by decide +kernel
theorem dX2_servesAll_32 : decode cX2_servesAll 32 = .ok (.iload_n 2, 1) := by decide +kernel
theorem dX2_servesAll_33 : decode cX2_servesAll 33 = .ok (.aload_n 0, 1) := by decide +kernel
theorem dX2_servesAll_34 : decode cX2_servesAll 34 = .ok (.getfield 25, 3) := by decide +kernel
theorem dX2_servesAll_37 : decode cX2_servesAll 37 = .ok (.iload_n 2, 1) := by decide +kernel
theorem dX2_servesAll_38 : decode cX2_servesAll 38 = .ok (.invokevirtual 107, 3) := by decide +kernel
theorem dX2_servesAll_41 : decode cX2_servesAll 41 = .ok (.iconst 0, 1) := by decide +kernel
theorem dX2_servesAll_42 : decode cX2_servesAll 42 = .ok (.invokevirtual 110, 3) := by decide +kernel
theorem dX2_servesAll_45 : decode cX2_servesAll 45 = .ok (.iinc 2 1, 3) := by decide +kernel
theorem dX2_servesAll_48 : decode cX2_servesAll 48 = .ok (.goto (-39), 3) := by decide +kernel
theorem dX2_servesAll_51 : decode cX2_servesAll 51 = .ok (.aload_n 0, 1) := by decide +kernel
theorem dX2_servesAll_52 : decode cX2_servesAll 52 = .ok (.invokevirtual 76, 3) := by decide +kernel
theorem dX2_servesAll_55 : decode cX2_servesAll 55 = .ok (.iconst 0, 1) := by decide +kernel
theorem dX2_servesAll_56 : decode cX2_servesAll 56 = .ok (.istore_n 2, 1) := by decide +kernel
theorem dX2_servesAll_57 : decode cX2_servesAll 57 = .ok (.iload_n 2, 1) := by decide +kernel
theorem dX2_servesAll_58 : decode cX2_servesAll 58 = .ok (.aload_n 0, 1) := by decide +kernel
theorem dX2_servesAll_59 : decode cX2_servesAll 59 = .ok (.getfield 21, 3) := by decide +kernel
theorem dX2_servesAll_62 : decode cX2_servesAll 62 = .ok (.getfield 29, 3) := by decide +kernel
theorem dX2_servesAll_65 : decode cX2_servesAll 65 = .ok (.if_icmp .ge 19, 3) := by decide +kernel
theorem dX2_servesAll_68 : decode cX2_servesAll 68 = .ok (.aload_n 0, 1) := by decide +kernel
theorem dX2_servesAll_69 : decode cX2_servesAll 69 = .ok (.iload_n 2, 1) := by decide +kernel
theorem dX2_servesAll_70 : decode cX2_servesAll 70 = .ok (.invokevirtual 65, 3) := by decide +kernel
theorem dX2_servesAll_73 : decode cX2_servesAll 73 = .ok (.ifCond .ge 5, 3) := by decide +kernel
theorem dX2_servesAll_76 : decode cX2_servesAll 76 = .ok (.iconst 0, 1) := by decide +kernel
theorem dX2_servesAll_77 : decode cX2_servesAll 77 = .ok (.ireturn, 1) := by decide +kernel
theorem dX2_servesAll_78 : decode cX2_servesAll 78 = .ok (.iinc 2 1, 3) := by decide +kernel
theorem dX2_servesAll_81 : decode cX2_servesAll 81 = .ok (.goto (-24), 3) := by decide +kernel
theorem dX2_servesAll_84 : decode cX2_servesAll 84 = .ok (.iconst 1, 1) := by decide +kernel
theorem dX2_servesAll_85 : decode cX2_servesAll 85 = .ok (.ireturn, 1) := by decide +kernel
theorem dX2_takersOf_0 : decode cX2_takersOf 0 = .ok (.aload_n 0, 1) := by decide +kernel
theorem dX2_takersOf_1 : decode cX2_takersOf 1 = .ok (.getfield 25, 3) := by decide +kernel
theorem dX2_takersOf_4 : decode cX2_takersOf 4 = .ok (.invokevirtual 73, 3) := by decide +kernel
theorem dX2_takersOf_7 : decode cX2_takersOf 7 = .ok (.iconst 0, 1) := by decide +kernel
theorem dX2_takersOf_8 : decode cX2_takersOf 8 = .ok (.istore_n 2, 1) := by decide +kernel
theorem dX2_takersOf_9 : decode cX2_takersOf 9 = .ok (.iconst 0, 1) := by decide +kernel
theorem dX2_takersOf_10 : decode cX2_takersOf 10 = .ok (.istore_n 3, 1) := by decide +kernel
theorem dX2_takersOf_11 : decode cX2_takersOf 11 = .ok (.iload_n 3, 1) := by decide +kernel
theorem dX2_takersOf_12 : decode cX2_takersOf 12 = .ok (.aload_n 0, 1) := by decide +kernel
theorem dX2_takersOf_13 : decode cX2_takersOf 13 = .ok (.getfield 21, 3) := by decide +kernel
theorem dX2_takersOf_16 : decode cX2_takersOf 16 = .ok (.getfield 35, 3) := by decide +kernel
theorem dX2_takersOf_19 : decode cX2_takersOf 19 = .ok (.if_icmp .ge 49, 3) := by decide +kernel
theorem dX2_takersOf_22 : decode cX2_takersOf 22 = .ok (.aload_n 0, 1) := by decide +kernel
theorem dX2_takersOf_23 : decode cX2_takersOf 23 = .ok (.getfield 25, 3) := by decide +kernel
theorem dX2_takersOf_26 : decode cX2_takersOf 26 = .ok (.iload_n 3, 1) := by decide +kernel
theorem dX2_takersOf_27 : decode cX2_takersOf 27 = .ok (.invokevirtual 38, 3) := by decide +kernel
theorem dX2_takersOf_30 : decode cX2_takersOf 30 = .ok (.aload_n 0, 1) := by decide +kernel
theorem dX2_takersOf_31 : decode cX2_takersOf 31 = .ok (.getfield 25, 3) := by decide +kernel
theorem dX2_takersOf_34 : decode cX2_takersOf 34 = .ok (.iload_n 3, 1) := by decide +kernel
theorem dX2_takersOf_35 : decode cX2_takersOf 35 = .ok (.invokevirtual 44, 3) := by decide +kernel
theorem dX2_takersOf_38 : decode cX2_takersOf 38 = .ok (.aload_n 0, 1) := by decide +kernel
theorem dX2_takersOf_39 : decode cX2_takersOf 39 = .ok (.getfield 21, 3) := by decide +kernel
theorem dX2_takersOf_42 : decode cX2_takersOf 42 = .ok (.aload_n 0, 1) := by decide +kernel
theorem dX2_takersOf_43 : decode cX2_takersOf 43 = .ok (.getfield 25, 3) := by decide +kernel
theorem dX2_takersOf_46 : decode cX2_takersOf 46 = .ok (.getfield 51, 3) := by decide +kernel
theorem dX2_takersOf_49 : decode cX2_takersOf 49 = .ok (.iload_n 1, 1) := by decide +kernel
theorem dX2_takersOf_50 : decode cX2_takersOf 50 = .ok (.invokevirtual 54, 3) := by decide +kernel
theorem dX2_takersOf_53 : decode cX2_takersOf 53 = .ok (.ifCond .le 9, 3) := by decide +kernel
theorem dX2_takersOf_56 : decode cX2_takersOf 56 = .ok (.iload_n 2, 1) := by decide +kernel
theorem dX2_takersOf_57 : decode cX2_takersOf 57 = .ok (.iconst 1, 1) := by decide +kernel
theorem dX2_takersOf_58 : decode cX2_takersOf 58 = .ok (.iload_n 3, 1) := by decide +kernel
theorem dX2_takersOf_59 : decode cX2_takersOf 59 = .ok (.ishl, 1) := by decide +kernel
theorem dX2_takersOf_60 : decode cX2_takersOf 60 = .ok (.ior, 1) := by decide +kernel
theorem dX2_takersOf_61 : decode cX2_takersOf 61 = .ok (.istore_n 2, 1) := by decide +kernel
theorem dX2_takersOf_62 : decode cX2_takersOf 62 = .ok (.iinc 3 1, 3) := by decide +kernel
theorem dX2_takersOf_65 : decode cX2_takersOf 65 = .ok (.goto (-54), 3) := by decide +kernel
theorem dX2_takersOf_68 : decode cX2_takersOf 68 = .ok (.iload_n 2, 1) := by decide +kernel
theorem dX2_takersOf_69 : decode cX2_takersOf 69 = .ok (.ireturn, 1) := by decide +kernel
theorem dX2_cheapest_0 : decode cX2_cheapest 0 = .ok (.bipush (-2), 2) := by decide +kernel
theorem dX2_cheapest_2 : decode cX2_cheapest 2 = .ok (.istore_n 2, 1) := by decide +kernel
theorem dX2_cheapest_3 : decode cX2_cheapest 3 = .ok (.iconst 0, 1) := by decide +kernel
theorem dX2_cheapest_4 : decode cX2_cheapest 4 = .ok (.istore_n 3, 1) := by decide +kernel
theorem dX2_cheapest_5 : decode cX2_cheapest 5 = .ok (.iload_n 3, 1) := by decide +kernel
theorem dX2_cheapest_6 : decode cX2_cheapest 6 = .ok (.aload_n 0, 1) := by decide +kernel
theorem dX2_cheapest_7 : decode cX2_cheapest 7 = .ok (.getfield 21, 3) := by decide +kernel
theorem dX2_cheapest_10 : decode cX2_cheapest 10 = .ok (.getfield 29, 3) := by decide +kernel
theorem dX2_cheapest_13 : decode cX2_cheapest 13 = .ok (.if_icmp .ge 73, 3) := by decide +kernel
theorem dX2_cheapest_16 : decode cX2_cheapest 16 = .ok (.aload_n 0, 1) := by decide +kernel
theorem dX2_cheapest_17 : decode cX2_cheapest 17 = .ok (.getfield 21, 3) := by decide +kernel
theorem dX2_cheapest_20 : decode cX2_cheapest 20 = .ok (.iconst 3, 1) := by decide +kernel
theorem dX2_cheapest_21 : decode cX2_cheapest 21 = .ok (.iload_n 3, 1) := by decide +kernel
theorem dX2_cheapest_22 : decode cX2_cheapest 22 = .ok (.invokevirtual 47, 3) := by decide +kernel
theorem dX2_cheapest_25 : decode cX2_cheapest 25 = .ok (.aload_n 0, 1) := by decide +kernel
theorem dX2_cheapest_26 : decode cX2_cheapest 26 = .ok (.getfield 21, 3) := by decide +kernel
theorem dX2_cheapest_29 : decode cX2_cheapest 29 = .ok (.iconst 1, 1) := by decide +kernel
theorem dX2_cheapest_30 : decode cX2_cheapest 30 = .ok (.iload_n 3, 1) := by decide +kernel
theorem dX2_cheapest_31 : decode cX2_cheapest 31 = .ok (.invokevirtual 47, 3) := by decide +kernel
theorem dX2_cheapest_34 : decode cX2_cheapest 34 = .ok (.iload_n 1, 1) := by decide +kernel
theorem dX2_cheapest_35 : decode cX2_cheapest 35 = .ok (.isub, 1) := by decide +kernel
theorem dX2_cheapest_36 : decode cX2_cheapest 36 = .ok (.if_icmp .gt 7, 3) := by decide +kernel
theorem dX2_cheapest_39 : decode cX2_cheapest 39 = .ok (.iconst 1, 1) := by decide +kernel
theorem dX2_cheapest_40 : decode cX2_cheapest 40 = .ok (.goto 4, 3) := by decide +kernel
theorem dX2_cheapest_43 : decode cX2_cheapest 43 = .ok (.iconst 0, 1) := by decide +kernel
theorem dX2_cheapest_44 : decode cX2_cheapest 44 = .ok (.istore 4, 2) := by decide +kernel
theorem dX2_cheapest_46 : decode cX2_cheapest 46 = .ok (.iload 4, 2) := by decide +kernel
theorem dX2_cheapest_48 : decode cX2_cheapest 48 = .ok (.ifCond .eq 32, 3) := by decide +kernel
theorem dX2_cheapest_51 : decode cX2_cheapest 51 = .ok (.iload_n 2, 1) := by decide +kernel
theorem dX2_cheapest_52 : decode cX2_cheapest 52 = .ok (.bipush (-2), 2) := by decide +kernel
theorem dX2_cheapest_54 : decode cX2_cheapest 54 = .ok (.if_icmp .eq 24, 3) := by decide +kernel
theorem dX2_cheapest_57 : decode cX2_cheapest 57 = .ok (.aload_n 0, 1) := by decide +kernel
theorem dX2_cheapest_58 : decode cX2_cheapest 58 = .ok (.getfield 21, 3) := by decide +kernel
theorem dX2_cheapest_61 : decode cX2_cheapest 61 = .ok (.iconst 2, 1) := by decide +kernel
theorem dX2_cheapest_62 : decode cX2_cheapest 62 = .ok (.iload_n 3, 1) := by decide +kernel
theorem dX2_cheapest_63 : decode cX2_cheapest 63 = .ok (.invokevirtual 47, 3) := by decide +kernel
theorem dX2_cheapest_66 : decode cX2_cheapest 66 = .ok (.aload_n 0, 1) := by decide +kernel
theorem dX2_cheapest_67 : decode cX2_cheapest 67 = .ok (.getfield 21, 3) := by decide +kernel
theorem dX2_cheapest_70 : decode cX2_cheapest 70 = .ok (.iconst 2, 1) := by decide +kernel
theorem dX2_cheapest_71 : decode cX2_cheapest 71 = .ok (.iload_n 2, 1) := by decide +kernel
theorem dX2_cheapest_72 : decode cX2_cheapest 72 = .ok (.invokevirtual 47, 3) := by decide +kernel
theorem dX2_cheapest_75 : decode cX2_cheapest 75 = .ok (.if_icmp .ge 5, 3) := by decide +kernel
theorem dX2_cheapest_78 : decode cX2_cheapest 78 = .ok (.iload_n 3, 1) := by decide +kernel
theorem dX2_cheapest_79 : decode cX2_cheapest 79 = .ok (.istore_n 2, 1) := by decide +kernel
theorem dX2_cheapest_80 : decode cX2_cheapest 80 = .ok (.iinc 3 1, 3) := by decide +kernel
theorem dX2_cheapest_83 : decode cX2_cheapest 83 = .ok (.goto (-78), 3) := by decide +kernel
theorem dX2_cheapest_86 : decode cX2_cheapest 86 = .ok (.iload_n 2, 1) := by decide +kernel
theorem dX2_cheapest_87 : decode cX2_cheapest 87 = .ok (.ireturn, 1) := by decide +kernel
theorem dX2_findWorst_0 : decode cX2_findWorst 0 = .ok (.aload_n 0, 1) := by decide +kernel
theorem dX2_findWorst_1 : decode cX2_findWorst 1 = .ok (.getfield 25, 3) := by decide +kernel
theorem dX2_findWorst_4 : decode cX2_findWorst 4 = .ok (.invokevirtual 73, 3) := by decide +kernel
theorem dX2_findWorst_7 : decode cX2_findWorst 7 = .ok (.aload_n 0, 1) := by decide +kernel
theorem dX2_findWorst_8 : decode cX2_findWorst 8 = .ok (.invokevirtual 76, 3) := by decide +kernel
theorem dX2_findWorst_11 : decode cX2_findWorst 11 = .ok (.bipush (-2), 2) := by decide +kernel
theorem dX2_findWorst_13 : decode cX2_findWorst 13 = .ok (.istore_n 1, 1) := by decide +kernel
theorem dX2_findWorst_14 : decode cX2_findWorst 14 = .ok (.iconst 0, 1) := by decide +kernel
theorem dX2_findWorst_15 : decode cX2_findWorst 15 = .ok (.istore_n 2, 1) := by decide +kernel
theorem dX2_findWorst_16 : decode cX2_findWorst 16 = .ok (.iload_n 2, 1) := by decide +kernel
theorem dX2_findWorst_17 : decode cX2_findWorst 17 = .ok (.aload_n 0, 1) := by decide +kernel
theorem dX2_findWorst_18 : decode cX2_findWorst 18 = .ok (.getfield 21, 3) := by decide +kernel
theorem dX2_findWorst_21 : decode cX2_findWorst 21 = .ok (.getfield 29, 3) := by decide +kernel
theorem dX2_findWorst_24 : decode cX2_findWorst 24 = .ok (.if_icmp .ge 42, 3) := by decide +kernel
theorem dX2_findWorst_27 : decode cX2_findWorst 27 = .ok (.aload_n 0, 1) := by decide +kernel
theorem dX2_findWorst_28 : decode cX2_findWorst 28 = .ok (.getfield 21, 3) := by decide +kernel
theorem dX2_findWorst_31 : decode cX2_findWorst 31 = .ok (.iconst 0, 1) := by decide +kernel
theorem dX2_findWorst_32 : decode cX2_findWorst 32 = .ok (.iload_n 2, 1) := by decide +kernel
theorem dX2_findWorst_33 : decode cX2_findWorst 33 = .ok (.invokevirtual 47, 3) := by decide +kernel
theorem dX2_findWorst_36 : decode cX2_findWorst 36 = .ok (.ifCond .le 24, 3) := by decide +kernel
theorem dX2_findWorst_39 : decode cX2_findWorst 39 = .ok (.iload_n 1, 1) := by decide +kernel
theorem dX2_findWorst_40 : decode cX2_findWorst 40 = .ok (.bipush (-2), 2) := by decide +kernel
theorem dX2_findWorst_42 : decode cX2_findWorst 42 = .ok (.if_icmp .eq 16, 3) := by decide +kernel
theorem dX2_findWorst_45 : decode cX2_findWorst 45 = .ok (.aload_n 0, 1) := by decide +kernel
theorem dX2_findWorst_46 : decode cX2_findWorst 46 = .ok (.iload_n 2, 1) := by decide +kernel
theorem dX2_findWorst_47 : decode cX2_findWorst 47 = .ok (.invokevirtual 130, 3) := by decide +kernel
theorem dX2_findWorst_50 : decode cX2_findWorst 50 = .ok (.aload_n 0, 1) := by decide +kernel
theorem dX2_findWorst_51 : decode cX2_findWorst 51 = .ok (.iload_n 1, 1) := by decide +kernel
theorem dX2_findWorst_52 : decode cX2_findWorst 52 = .ok (.invokevirtual 130, 3) := by decide +kernel
theorem dX2_findWorst_55 : decode cX2_findWorst 55 = .ok (.if_icmp .le 5, 3) := by decide +kernel
theorem dX2_findWorst_58 : decode cX2_findWorst 58 = .ok (.iload_n 2, 1) := by decide +kernel
theorem dX2_findWorst_59 : decode cX2_findWorst 59 = .ok (.istore_n 1, 1) := by decide +kernel
theorem dX2_findWorst_60 : decode cX2_findWorst 60 = .ok (.iinc 2 1, 3) := by decide +kernel
theorem dX2_findWorst_63 : decode cX2_findWorst 63 = .ok (.goto (-47), 3) := by decide +kernel
theorem dX2_findWorst_66 : decode cX2_findWorst 66 = .ok (.iload_n 1, 1) := by decide +kernel
theorem dX2_findWorst_67 : decode cX2_findWorst 67 = .ok (.ireturn, 1) := by decide +kernel
theorem dX2_offOf_0 : decode cX2_offOf 0 = .ok (.aload_n 0, 1) := by decide +kernel
theorem dX2_offOf_1 : decode cX2_offOf 1 = .ok (.getfield 21, 3) := by decide +kernel
theorem dX2_offOf_4 : decode cX2_offOf 4 = .ok (.iconst 0, 1) := by decide +kernel
theorem dX2_offOf_5 : decode cX2_offOf 5 = .ok (.iload_n 1, 1) := by decide +kernel
theorem dX2_offOf_6 : decode cX2_offOf 6 = .ok (.invokevirtual 47, 3) := by decide +kernel
theorem dX2_offOf_9 : decode cX2_offOf 9 = .ok (.istore_n 2, 1) := by decide +kernel
theorem dX2_offOf_10 : decode cX2_offOf 10 = .ok (.iload_n 2, 1) := by decide +kernel
theorem dX2_offOf_11 : decode cX2_offOf 11 = .ok (.ifCond .ne 7, 3) := by decide +kernel
theorem dX2_offOf_14 : decode cX2_offOf 14 = .ok (.iconst 0, 1) := by decide +kernel
theorem dX2_offOf_15 : decode cX2_offOf 15 = .ok (.goto 17, 3) := by decide +kernel
theorem dX2_offOf_18 : decode cX2_offOf 18 = .ok (.aload_n 0, 1) := by decide +kernel
theorem dX2_offOf_19 : decode cX2_offOf 19 = .ok (.iload_n 1, 1) := by decide +kernel
theorem dX2_offOf_20 : decode cX2_offOf 20 = .ok (.invokevirtual 65, 3) := by decide +kernel
theorem dX2_offOf_23 : decode cX2_offOf 23 = .ok (.invokestatic 68, 3) := by decide +kernel
theorem dX2_offOf_26 : decode cX2_offOf 26 = .ok (.sipush 1000, 3) := by decide +kernel
theorem dX2_offOf_29 : decode cX2_offOf 29 = .ok (.imul, 1) := by decide +kernel
theorem dX2_offOf_30 : decode cX2_offOf 30 = .ok (.iload_n 2, 1) := by decide +kernel
theorem dX2_offOf_31 : decode cX2_offOf 31 = .ok (.idiv, 1) := by decide +kernel
theorem dX2_offOf_32 : decode cX2_offOf 32 = .ok (.ireturn, 1) := by decide +kernel
theorem dX3_init_0 : decode cX3_init 0 = .ok (.aload_n 0, 1) := by decide +kernel
theorem dX3_init_1 : decode cX3_init 1 = .ok (.invokespecial 3, 3) := by decide +kernel
theorem dX3_init_4 : decode cX3_init 4 = .ok (.aload_n 0, 1) := by decide +kernel
theorem dX3_init_5 : decode cX3_init 5 = .ok (.bipush 50, 2) := by decide +kernel
theorem dX3_init_7 : decode cX3_init 7 = .ok (.newarray .int, 2) := by decide +kernel
theorem dX3_init_9 : decode cX3_init 9 = .ok (.putfield 9, 3) := by decide +kernel
theorem dX3_init_12 : decode cX3_init 12 = .ok (.aload_n 0, 1) := by decide +kernel
theorem dX3_init_13 : decode cX3_init 13 = .ok (.bipush 24, 2) := by decide +kernel
theorem dX3_init_15 : decode cX3_init 15 = .ok (.newarray .int, 2) := by decide +kernel
theorem dX3_init_17 : decode cX3_init 17 = .ok (.putfield 15, 3) := by decide +kernel
theorem dX3_init_20 : decode cX3_init 20 = .ok (.return_, 1) := by decide +kernel
theorem dX3_has_0 : decode cX3_has 0 = .ok (.iload_n 1, 1) := by decide +kernel
theorem dX3_has_1 : decode cX3_has 1 = .ok (.iconst 0, 1) := by decide +kernel
theorem dX3_has_2 : decode cX3_has 2 = .ok (.aload_n 0, 1) := by decide +kernel
theorem dX3_has_3 : decode cX3_has 3 = .ok (.getfield 18, 3) := by decide +kernel
theorem dX3_has_6 : decode cX3_has 6 = .ok (.iconst 1, 1) := by decide +kernel
theorem dX3_has_7 : decode cX3_has 7 = .ok (.isub, 1) := by decide +kernel
theorem dX3_has_8 : decode cX3_has 8 = .ok (.invokestatic 22, 3) := by decide +kernel
theorem dX3_has_11 : decode cX3_has 11 = .ok (.ifCond .eq 13, 3) := by decide +kernel
theorem dX3_has_14 : decode cX3_has 14 = .ok (.iload_n 1, 1) := by decide +kernel
theorem dX3_has_15 : decode cX3_has 15 = .ok (.bipush 50, 2) := by decide +kernel
theorem dX3_has_17 : decode cX3_has 17 = .ok (.if_icmp .ge 7, 3) := by decide +kernel
theorem dX3_has_20 : decode cX3_has 20 = .ok (.iconst 1, 1) := by decide +kernel
theorem dX3_has_21 : decode cX3_has 21 = .ok (.goto 4, 3) := by decide +kernel
theorem dX3_has_24 : decode cX3_has 24 = .ok (.iconst 0, 1) := by decide +kernel
theorem dX3_has_25 : decode cX3_has 25 = .ok (.ireturn, 1) := by decide +kernel
theorem dX3_add_0 : decode cX3_add 0 = .ok (.aload_n 0, 1) := by decide +kernel
theorem dX3_add_1 : decode cX3_add 1 = .ok (.getfield 18, 3) := by decide +kernel
theorem dX3_add_4 : decode cX3_add 4 = .ok (.bipush 50, 2) := by decide +kernel
theorem dX3_add_6 : decode cX3_add 6 = .ok (.if_icmp .lt 6, 3) := by decide +kernel
theorem dX3_add_9 : decode cX3_add 9 = .ok (.bipush (-3), 2) := by decide +kernel
theorem dX3_add_11 : decode cX3_add 11 = .ok (.ireturn, 1) := by decide +kernel
theorem dX3_add_12 : decode cX3_add 12 = .ok (.aload_n 0, 1) := by decide +kernel
theorem dX3_add_13 : decode cX3_add 13 = .ok (.getfield 9, 3) := by decide +kernel
theorem dX3_add_16 : decode cX3_add 16 = .ok (.aload_n 0, 1) := by decide +kernel
theorem dX3_add_17 : decode cX3_add 17 = .ok (.getfield 18, 3) := by decide +kernel
theorem dX3_add_20 : decode cX3_add 20 = .ok (.iload_n 1, 1) := by decide +kernel
theorem dX3_add_21 : decode cX3_add 21 = .ok (.iastore, 1) := by decide +kernel
theorem dX3_add_22 : decode cX3_add 22 = .ok (.aload_n 0, 1) := by decide +kernel
theorem dX3_add_23 : decode cX3_add 23 = .ok (.dup, 1) := by decide +kernel
theorem dX3_add_24 : decode cX3_add 24 = .ok (.getfield 18, 3) := by decide +kernel
theorem dX3_add_27 : decode cX3_add 27 = .ok (.dup_x1, 1) := by decide +kernel
theorem dX3_add_28 : decode cX3_add 28 = .ok (.iconst 1, 1) := by decide +kernel
theorem dX3_add_29 : decode cX3_add 29 = .ok (.iadd, 1) := by decide +kernel
theorem dX3_add_30 : decode cX3_add 30 = .ok (.putfield 18, 3) := by decide +kernel
theorem dX3_add_33 : decode cX3_add 33 = .ok (.ireturn, 1) := by decide +kernel
theorem dX3_kindOf_0 : decode cX3_kindOf 0 = .ok (.aload_n 0, 1) := by decide +kernel
theorem dX3_kindOf_1 : decode cX3_kindOf 1 = .ok (.iload_n 1, 1) := by decide +kernel
theorem dX3_kindOf_2 : decode cX3_kindOf 2 = .ok (.invokevirtual 26, 3) := by decide +kernel
theorem dX3_kindOf_5 : decode cX3_kindOf 5 = .ok (.ifCond .eq 12, 3) := by decide +kernel
theorem dX3_kindOf_8 : decode cX3_kindOf 8 = .ok (.aload_n 0, 1) := by decide +kernel
theorem dX3_kindOf_9 : decode cX3_kindOf 9 = .ok (.getfield 9, 3) := by decide +kernel
theorem dX3_kindOf_12 : decode cX3_kindOf 12 = .ok (.iload_n 1, 1) := by decide +kernel
theorem dX3_kindOf_13 : decode cX3_kindOf 13 = .ok (.iaload, 1) := by decide +kernel
theorem dX3_kindOf_14 : decode cX3_kindOf 14 = .ok (.goto 4, 3) := by decide +kernel
theorem dX3_kindOf_17 : decode cX3_kindOf 17 = .ok (.iconst (-1), 1) := by decide +kernel
theorem dX3_kindOf_18 : decode cX3_kindOf 18 = .ok (.ireturn, 1) := by decide +kernel
theorem dX3_isUnder_0 : decode cX3_isUnder 0 = .ok (.iload_n 1, 1) := by decide +kernel
theorem dX3_isUnder_1 : decode cX3_isUnder 1 = .ok (.istore_n 3, 1) := by decide +kernel
theorem dX3_isUnder_2 : decode cX3_isUnder 2 = .ok (.iconst 0, 1) := by decide +kernel
theorem dX3_isUnder_3 : decode cX3_isUnder 3 = .ok (.istore 4, 2) := by decide +kernel
theorem dX3_isUnder_5 : decode cX3_isUnder 5 = .ok (.iload 4, 2) := by decide +kernel
theorem dX3_isUnder_7 : decode cX3_isUnder 7 = .ok (.bipush 8, 2) := by decide +kernel
theorem dX3_isUnder_9 : decode cX3_isUnder 9 = .ok (.if_icmp .ge 19, 3) := by decide +kernel
theorem dX3_isUnder_12 : decode cX3_isUnder 12 = .ok (.iload_n 3, 1) := by decide +kernel
theorem dX3_isUnder_13 : decode cX3_isUnder 13 = .ok (.iload_n 2, 1) := by decide +kernel
theorem dX3_isUnder_14 : decode cX3_isUnder 14 = .ok (.if_icmp .eq 14, 3) := by decide +kernel
theorem dX3_isUnder_17 : decode cX3_isUnder 17 = .ok (.iload_n 3, 1) := by decide +kernel
theorem dX3_isUnder_18 : decode cX3_isUnder 18 = .ok (.invokestatic 30, 3) := by decide +kernel
theorem dX3_isUnder_21 : decode cX3_isUnder 21 = .ok (.istore_n 3, 1) := by decide +kernel
theorem dX3_isUnder_22 : decode cX3_isUnder 22 = .ok (.iinc 4 1, 3) := by decide +kernel
theorem dX3_isUnder_25 : decode cX3_isUnder 25 = .ok (.goto (-20), 3) := by decide +kernel
theorem dX3_isUnder_28 : decode cX3_isUnder 28 = .ok (.iload_n 3, 1) := by decide +kernel
theorem dX3_isUnder_29 : decode cX3_isUnder 29 = .ok (.iload_n 2, 1) := by decide +kernel
theorem dX3_isUnder_30 : decode cX3_isUnder 30 = .ok (.if_icmp .ne 7, 3) := by decide +kernel
theorem dX3_isUnder_33 : decode cX3_isUnder 33 = .ok (.iconst 1, 1) := by decide +kernel
theorem dX3_isUnder_34 : decode cX3_isUnder 34 = .ok (.goto 4, 3) := by decide +kernel
theorem dX3_isUnder_37 : decode cX3_isUnder 37 = .ok (.iconst 0, 1) := by decide +kernel
theorem dX3_isUnder_38 : decode cX3_isUnder 38 = .ok (.ireturn, 1) := by decide +kernel
theorem dX3_forget_0 : decode cX3_forget 0 = .ok (.aload_n 0, 1) := by decide +kernel
theorem dX3_forget_1 : decode cX3_forget 1 = .ok (.iconst 0, 1) := by decide +kernel
theorem dX3_forget_2 : decode cX3_forget 2 = .ok (.putfield 34, 3) := by decide +kernel
theorem dX3_forget_5 : decode cX3_forget 5 = .ok (.return_, 1) := by decide +kernel
theorem dX3_traced_0 : decode cX3_traced 0 = .ok (.iload_n 1, 1) := by decide +kernel
theorem dX3_traced_1 : decode cX3_traced 1 = .ok (.iconst 0, 1) := by decide +kernel
theorem dX3_traced_2 : decode cX3_traced 2 = .ok (.aload_n 0, 1) := by decide +kernel
theorem dX3_traced_3 : decode cX3_traced 3 = .ok (.getfield 34, 3) := by decide +kernel
theorem dX3_traced_6 : decode cX3_traced 6 = .ok (.bipush 24, 2) := by decide +kernel
theorem dX3_traced_8 : decode cX3_traced 8 = .ok (.invokestatic 37, 3) := by decide +kernel
theorem dX3_traced_11 : decode cX3_traced 11 = .ok (.iconst 1, 1) := by decide +kernel
theorem dX3_traced_12 : decode cX3_traced 12 = .ok (.isub, 1) := by decide +kernel
theorem dX3_traced_13 : decode cX3_traced 13 = .ok (.invokestatic 22, 3) := by decide +kernel
theorem dX3_traced_16 : decode cX3_traced 16 = .ok (.ifCond .eq 12, 3) := by decide +kernel
theorem dX3_traced_19 : decode cX3_traced 19 = .ok (.aload_n 0, 1) := by decide +kernel
theorem dX3_traced_20 : decode cX3_traced 20 = .ok (.getfield 15, 3) := by decide +kernel
theorem dX3_traced_23 : decode cX3_traced 23 = .ok (.iload_n 1, 1) := by decide +kernel
theorem dX3_traced_24 : decode cX3_traced 24 = .ok (.iaload, 1) := by decide +kernel
theorem dX3_traced_25 : decode cX3_traced 25 = .ok (.goto 4, 3) := by decide +kernel
theorem dX3_traced_28 : decode cX3_traced 28 = .ok (.iconst (-1), 1) := by decide +kernel
theorem dX3_traced_29 : decode cX3_traced 29 = .ok (.ireturn, 1) := by decide +kernel
theorem dX3_start_0 : decode cX3_start 0 = .ok (.aload_n 0, 1) := by decide +kernel
theorem dX3_start_1 : decode cX3_start 1 = .ok (.iload_n 1, 1) := by decide +kernel
theorem dX3_start_2 : decode cX3_start 2 = .ok (.putfield 43, 3) := by decide +kernel
theorem dX3_start_5 : decode cX3_start 5 = .ok (.aload_n 0, 1) := by decide +kernel
theorem dX3_start_6 : decode cX3_start 6 = .ok (.aload_n 0, 1) := by decide +kernel
theorem dX3_start_7 : decode cX3_start 7 = .ok (.iload_n 1, 1) := by decide +kernel
theorem dX3_start_8 : decode cX3_start 8 = .ok (.invokevirtual 46, 3) := by decide +kernel
theorem dX3_start_11 : decode cX3_start 11 = .ok (.putfield 49, 3) := by decide +kernel
theorem dX3_start_14 : decode cX3_start 14 = .ok (.aload_n 0, 1) := by decide +kernel
theorem dX3_start_15 : decode cX3_start 15 = .ok (.aload_n 0, 1) := by decide +kernel
theorem dX3_start_16 : decode cX3_start 16 = .ok (.getfield 49, 3) := by decide +kernel
theorem dX3_start_19 : decode cX3_start 19 = .ok (.iload_n 2, 1) := by decide +kernel
theorem dX3_start_20 : decode cX3_start 20 = .ok (.iload_n 3, 1) := by decide +kernel
theorem dX3_start_21 : decode cX3_start 21 = .ok (.iconst 0, 1) := by decide +kernel
theorem dX3_start_22 : decode cX3_start 22 = .ok (.invokevirtual 52, 3) := by decide +kernel
theorem dX3_start_25 : decode cX3_start 25 = .ok (.ireturn, 1) := by decide +kernel
theorem dX3_run_0 : decode cX3_run 0 = .ok (.iload_n 1, 1) := by decide +kernel
theorem dX3_run_1 : decode cX3_run 1 = .ok (.istore 5, 2) := by decide +kernel
theorem dX3_run_3 : decode cX3_run 3 = .ok (.iconst 0, 1) := by decide +kernel
theorem dX3_run_4 : decode cX3_run 4 = .ok (.istore 6, 2) := by decide +kernel
theorem dX3_run_6 : decode cX3_run 6 = .ok (.iload 6, 2) := by decide +kernel
theorem dX3_run_8 : decode cX3_run 8 = .ok (.bipush 8, 2) := by decide +kernel
theorem dX3_run_10 : decode cX3_run 10 = .ok (.if_icmp .ge 25, 3) := by decide +kernel
theorem dX3_run_13 : decode cX3_run 13 = .ok (.iload 5, 2) := by decide +kernel
theorem dX3_run_15 : decode cX3_run 15 = .ok (.iload_n 2, 1) := by decide +kernel
theorem dX3_run_16 : decode cX3_run 16 = .ok (.invokestatic 56, 3) := by decide +kernel
theorem dX3_run_19 : decode cX3_run 19 = .ok (.ifCond .ne 16, 3) := by decide +kernel
theorem dX3_run_22 : decode cX3_run 22 = .ok (.iload 5, 2) := by decide +kernel
theorem dX3_run_24 : decode cX3_run 24 = .ok (.invokestatic 30, 3) := by decide +kernel
theorem dX3_run_27 : decode cX3_run 27 = .ok (.istore 5, 2) := by decide +kernel
theorem dX3_run_29 : decode cX3_run 29 = .ok (.iinc 6 1, 3) := by decide +kernel
theorem dX3_run_32 : decode cX3_run 32 = .ok (.goto (-26), 3) := by decide +kernel
theorem dX3_run_35 : decode cX3_run 35 = .ok (.iload 5, 2) := by decide +kernel
theorem dX3_run_37 : decode cX3_run 37 = .ok (.iload_n 2, 1) := by decide +kernel
theorem dX3_run_38 : decode cX3_run 38 = .ok (.invokestatic 56, 3) := by decide +kernel
theorem dX3_run_41 : decode cX3_run 41 = .ok (.istore 6, 2) := by decide +kernel
theorem dX3_run_43 : decode cX3_run 43 = .ok (.iload 6, 2) := by decide +kernel
theorem dX3_run_45 : decode cX3_run 45 = .ok (.ifCond .eq 10, 3) := by decide +kernel
theorem dX3_run_48 : decode cX3_run 48 = .ok (.iload 4, 2) := by decide +kernel
theorem dX3_run_50 : decode cX3_run 50 = .ok (.bipush 30, 2) := by decide +kernel
theorem dX3_run_52 : decode cX3_run 52 = .ok (.if_icmp .le 5, 3) := by decide +kernel
theorem dX3_run_55 : decode cX3_run 55 = .ok (.iconst 0, 1) := by decide +kernel
theorem dX3_run_56 : decode cX3_run 56 = .ok (.ireturn, 1) := by decide +kernel
theorem dX3_run_57 : decode cX3_run 57 = .ok (.aload_n 0, 1) := by decide +kernel
theorem dX3_run_58 : decode cX3_run 58 = .ok (.getfield 34, 3) := by decide +kernel
theorem dX3_run_61 : decode cX3_run 61 = .ok (.bipush 24, 2) := by decide +kernel
theorem dX3_run_63 : decode cX3_run 63 = .ok (.if_icmp .ge 14, 3) := by decide +kernel
theorem dX3_run_66 : decode cX3_run 66 = .ok (.aload_n 0, 1) := by decide +kernel
theorem dX3_run_67 : decode cX3_run 67 = .ok (.getfield 15, 3) := by decide +kernel
theorem dX3_run_70 : decode cX3_run 70 = .ok (.aload_n 0, 1) := by decide +kernel
theorem dX3_run_71 : decode cX3_run 71 = .ok (.getfield 34, 3) := by decide +kernel
theorem dX3_run_74 : decode cX3_run 74 = .ok (.iload 6, 2) := by decide +kernel
theorem dX3_run_76 : decode cX3_run 76 = .ok (.iastore, 1) := by decide +kernel
theorem dX3_run_77 : decode cX3_run 77 = .ok (.aload_n 0, 1) := by decide +kernel
theorem dX3_run_78 : decode cX3_run 78 = .ok (.dup, 1) := by decide +kernel
theorem dX3_run_79 : decode cX3_run 79 = .ok (.getfield 34, 3) := by decide +kernel
theorem dX3_run_82 : decode cX3_run 82 = .ok (.iconst 1, 1) := by decide +kernel
theorem dX3_run_83 : decode cX3_run 83 = .ok (.iadd, 1) := by decide +kernel
theorem dX3_run_84 : decode cX3_run 84 = .ok (.putfield 34, 3) := by decide +kernel
theorem dX3_run_87 : decode cX3_run 87 = .ok (.aload_n 0, 1) := by decide +kernel
theorem dX3_run_88 : decode cX3_run 88 = .ok (.iload 6, 2) := by decide +kernel
theorem dX3_run_90 : decode cX3_run 90 = .ok (.iload 5, 2) := by decide +kernel
theorem dX3_run_92 : decode cX3_run 92 = .ok (.invokestatic 30, 3) := by decide +kernel
theorem dX3_run_95 : decode cX3_run 95 = .ok (.iload_n 3, 1) := by decide +kernel
theorem dX3_run_96 : decode cX3_run 96 = .ok (.iload 4, 2) := by decide +kernel
theorem dX3_run_98 : decode cX3_run 98 = .ok (.iconst 1, 1) := by decide +kernel
theorem dX3_run_99 : decode cX3_run 99 = .ok (.iadd, 1) := by decide +kernel
theorem dX3_run_100 : decode cX3_run 100 = .ok (.invokevirtual 59, 3) := by decide +kernel
theorem dX3_run_103 : decode cX3_run 103 = .ok (.ireturn, 1) := by decide +kernel
theorem dX3_runBody_0 : decode cX3_runBody 0 = .ok (.iload_n 1, 1) := by decide +kernel
theorem dX3_runBody_1 : decode cX3_runBody 1 = .ok (.lookupswitch 299 #[(1, 115), (2, 122), (10, 148), (11, 163), (20, 170), (30, 182), (40, 193), (50, 205), (60, 228), (61, 240), (70, 252), (80, 264), (81, 287)], 115) := by decide +kernel
theorem dX3_runBody_116 : decode cX3_runBody 116 = .ok (.iload_n 3, 1) := by decide +kernel
theorem dX3_runBody_117 : decode cX3_runBody 117 = .ok (.aload_n 0, 1) := by decide +kernel
theorem dX3_runBody_118 : decode cX3_runBody 118 = .ok (.getfield 43, 3) := by decide +kernel
theorem dX3_runBody_121 : decode cX3_runBody 121 = .ok (.iadd, 1) := by decide +kernel
theorem dX3_runBody_122 : decode cX3_runBody 122 = .ok (.ireturn, 1) := by decide +kernel
theorem dX3_runBody_123 : decode cX3_runBody 123 = .ok (.aload_n 0, 1) := by decide +kernel
theorem dX3_runBody_124 : decode cX3_runBody 124 = .ok (.aload_n 0, 1) := by decide +kernel
theorem dX3_runBody_125 : decode cX3_runBody 125 = .ok (.getfield 49, 3) := by decide +kernel
theorem dX3_runBody_128 : decode cX3_runBody 128 = .ok (.iconst 1, 1) := by decide +kernel
theorem dX3_runBody_129 : decode cX3_runBody 129 = .ok (.iload_n 3, 1) := by decide +kernel
theorem dX3_runBody_130 : decode cX3_runBody 130 = .ok (.iload 4, 2) := by decide +kernel
theorem dX3_runBody_132 : decode cX3_runBody 132 = .ok (.invokevirtual 52, 3) := by decide +kernel
theorem dX3_runBody_135 : decode cX3_runBody 135 = .ok (.aload_n 0, 1) := by decide +kernel
theorem dX3_runBody_136 : decode cX3_runBody 136 = .ok (.aload_n 0, 1) := by decide +kernel
theorem dX3_runBody_137 : decode cX3_runBody 137 = .ok (.getfield 49, 3) := by decide +kernel
theorem dX3_runBody_140 : decode cX3_runBody 140 = .ok (.iconst 2, 1) := by decide +kernel
theorem dX3_runBody_141 : decode cX3_runBody 141 = .ok (.iconst 1, 1) := by decide +kernel
theorem dX3_runBody_142 : decode cX3_runBody 142 = .ok (.iload 4, 2) := by decide +kernel
theorem dX3_runBody_144 : decode cX3_runBody 144 = .ok (.invokevirtual 52, 3) := by decide +kernel
theorem dX3_runBody_147 : decode cX3_runBody 147 = .ok (.isub, 1) := by decide +kernel
theorem dX3_runBody_148 : decode cX3_runBody 148 = .ok (.ireturn, 1) := by decide +kernel
theorem dX3_runBody_149 : decode cX3_runBody 149 = .ok (.aload_n 0, 1) := by decide +kernel
theorem dX3_runBody_150 : decode cX3_runBody 150 = .ok (.aload_n 0, 1) := by decide +kernel
theorem dX3_runBody_151 : decode cX3_runBody 151 = .ok (.getfield 49, 3) := by decide +kernel
theorem dX3_runBody_154 : decode cX3_runBody 154 = .ok (.iconst 0, 1) := by decide +kernel
theorem dX3_runBody_155 : decode cX3_runBody 155 = .ok (.iload_n 3, 1) := by decide +kernel
theorem dX3_runBody_156 : decode cX3_runBody 156 = .ok (.iload 4, 2) := by decide +kernel
theorem dX3_runBody_158 : decode cX3_runBody 158 = .ok (.invokevirtual 52, 3) := by decide +kernel
theorem dX3_runBody_161 : decode cX3_runBody 161 = .ok (.iconst 2, 1) := by decide +kernel
theorem dX3_runBody_162 : decode cX3_runBody 162 = .ok (.imul, 1) := by decide +kernel
theorem dX3_runBody_163 : decode cX3_runBody 163 = .ok (.ireturn, 1) := by decide +kernel
theorem dX3_runBody_164 : decode cX3_runBody 164 = .ok (.iload_n 3, 1) := by decide +kernel
theorem dX3_runBody_165 : decode cX3_runBody 165 = .ok (.aload_n 0, 1) := by decide +kernel
theorem dX3_runBody_166 : decode cX3_runBody 166 = .ok (.getfield 43, 3) := by decide +kernel
theorem dX3_runBody_169 : decode cX3_runBody 169 = .ok (.ixor, 1) := by decide +kernel
theorem dX3_runBody_170 : decode cX3_runBody 170 = .ok (.ireturn, 1) := by decide +kernel
theorem dX3_runBody_171 : decode cX3_runBody 171 = .ok (.aload_n 0, 1) := by decide +kernel
theorem dX3_runBody_172 : decode cX3_runBody 172 = .ok (.iload_n 2, 1) := by decide +kernel
theorem dX3_runBody_173 : decode cX3_runBody 173 = .ok (.iconst 0, 1) := by decide +kernel
theorem dX3_runBody_174 : decode cX3_runBody 174 = .ok (.iload_n 3, 1) := by decide +kernel
theorem dX3_runBody_175 : decode cX3_runBody 175 = .ok (.iload 4, 2) := by decide +kernel
theorem dX3_runBody_177 : decode cX3_runBody 177 = .ok (.invokevirtual 52, 3) := by decide +kernel
theorem dX3_runBody_180 : decode cX3_runBody 180 = .ok (.iconst 3, 1) := by decide +kernel
theorem dX3_runBody_181 : decode cX3_runBody 181 = .ok (.iadd, 1) := by decide +kernel
theorem dX3_runBody_182 : decode cX3_runBody 182 = .ok (.ireturn, 1) := by decide +kernel
theorem dX3_runBody_183 : decode cX3_runBody 183 = .ok (.aload_n 0, 1) := by decide +kernel
theorem dX3_runBody_184 : decode cX3_runBody 184 = .ok (.iload_n 2, 1) := by decide +kernel
theorem dX3_runBody_185 : decode cX3_runBody 185 = .ok (.iconst 1, 1) := by decide +kernel
theorem dX3_runBody_186 : decode cX3_runBody 186 = .ok (.iload_n 3, 1) := by decide +kernel
theorem dX3_runBody_187 : decode cX3_runBody 187 = .ok (.iload 4, 2) := by decide +kernel
theorem dX3_runBody_189 : decode cX3_runBody 189 = .ok (.invokevirtual 52, 3) := by decide +kernel
theorem dX3_runBody_192 : decode cX3_runBody 192 = .ok (.ineg, 1) := by decide +kernel
theorem dX3_runBody_193 : decode cX3_runBody 193 = .ok (.ireturn, 1) := by decide +kernel
theorem dX3_runBody_194 : decode cX3_runBody 194 = .ok (.aload_n 0, 1) := by decide +kernel
theorem dX3_runBody_195 : decode cX3_runBody 195 = .ok (.iload_n 2, 1) := by decide +kernel
theorem dX3_runBody_196 : decode cX3_runBody 196 = .ok (.iconst 2, 1) := by decide +kernel
theorem dX3_runBody_197 : decode cX3_runBody 197 = .ok (.iload_n 3, 1) := by decide +kernel
theorem dX3_runBody_198 : decode cX3_runBody 198 = .ok (.iload 4, 2) := by decide +kernel
theorem dX3_runBody_200 : decode cX3_runBody 200 = .ok (.invokevirtual 52, 3) := by decide +kernel
theorem dX3_runBody_203 : decode cX3_runBody 203 = .ok (.iconst 3, 1) := by decide +kernel
theorem dX3_runBody_204 : decode cX3_runBody 204 = .ok (.imul, 1) := by decide +kernel
theorem dX3_runBody_205 : decode cX3_runBody 205 = .ok (.ireturn, 1) := by decide +kernel
theorem dX3_runBody_206 : decode cX3_runBody 206 = .ok (.aload_n 0, 1) := by decide +kernel
theorem dX3_runBody_207 : decode cX3_runBody 207 = .ok (.iload_n 2, 1) := by decide +kernel
theorem dX3_runBody_208 : decode cX3_runBody 208 = .ok (.iconst 2, 1) := by decide +kernel
theorem dX3_runBody_209 : decode cX3_runBody 209 = .ok (.iload_n 3, 1) := by decide +kernel
theorem dX3_runBody_210 : decode cX3_runBody 210 = .ok (.iload 4, 2) := by decide +kernel
theorem dX3_runBody_212 : decode cX3_runBody 212 = .ok (.invokevirtual 52, 3) := by decide +kernel
theorem dX3_runBody_215 : decode cX3_runBody 215 = .ok (.aload_n 0, 1) := by decide +kernel
theorem dX3_runBody_216 : decode cX3_runBody 216 = .ok (.aload_n 0, 1) := by decide +kernel
theorem dX3_runBody_217 : decode cX3_runBody 217 = .ok (.getfield 49, 3) := by decide +kernel
theorem dX3_runBody_220 : decode cX3_runBody 220 = .ok (.iconst 0, 1) := by decide +kernel
theorem dX3_runBody_221 : decode cX3_runBody 221 = .ok (.iconst 2, 1) := by decide +kernel
theorem dX3_runBody_222 : decode cX3_runBody 222 = .ok (.iload 4, 2) := by decide +kernel
theorem dX3_runBody_224 : decode cX3_runBody 224 = .ok (.invokevirtual 52, 3) := by decide +kernel
theorem dX3_runBody_227 : decode cX3_runBody 227 = .ok (.isub, 1) := by decide +kernel
theorem dX3_runBody_228 : decode cX3_runBody 228 = .ok (.ireturn, 1) := by decide +kernel
theorem dX3_runBody_229 : decode cX3_runBody 229 = .ok (.aload_n 0, 1) := by decide +kernel
theorem dX3_runBody_230 : decode cX3_runBody 230 = .ok (.iload_n 2, 1) := by decide +kernel
theorem dX3_runBody_231 : decode cX3_runBody 231 = .ok (.iconst 0, 1) := by decide +kernel
theorem dX3_runBody_232 : decode cX3_runBody 232 = .ok (.iload_n 3, 1) := by decide +kernel
theorem dX3_runBody_233 : decode cX3_runBody 233 = .ok (.iconst 1, 1) := by decide +kernel
theorem dX3_runBody_234 : decode cX3_runBody 234 = .ok (.iadd, 1) := by decide +kernel
theorem dX3_runBody_235 : decode cX3_runBody 235 = .ok (.iload 4, 2) := by decide +kernel
theorem dX3_runBody_237 : decode cX3_runBody 237 = .ok (.invokevirtual 52, 3) := by decide +kernel
theorem dX3_runBody_240 : decode cX3_runBody 240 = .ok (.ireturn, 1) := by decide +kernel
theorem dX3_runBody_241 : decode cX3_runBody 241 = .ok (.aload_n 0, 1) := by decide +kernel
theorem dX3_runBody_242 : decode cX3_runBody 242 = .ok (.iload_n 2, 1) := by decide +kernel
theorem dX3_runBody_243 : decode cX3_runBody 243 = .ok (.iconst 3, 1) := by decide +kernel
theorem dX3_runBody_244 : decode cX3_runBody 244 = .ok (.iload_n 3, 1) := by decide +kernel
theorem dX3_runBody_245 : decode cX3_runBody 245 = .ok (.iload 4, 2) := by decide +kernel
theorem dX3_runBody_247 : decode cX3_runBody 247 = .ok (.invokevirtual 52, 3) := by decide +kernel
theorem dX3_runBody_250 : decode cX3_runBody 250 = .ok (.iconst 5, 1) := by decide +kernel
theorem dX3_runBody_251 : decode cX3_runBody 251 = .ok (.ixor, 1) := by decide +kernel
theorem dX3_runBody_252 : decode cX3_runBody 252 = .ok (.ireturn, 1) := by decide +kernel
theorem dX3_runBody_253 : decode cX3_runBody 253 = .ok (.aload_n 0, 1) := by decide +kernel
theorem dX3_runBody_254 : decode cX3_runBody 254 = .ok (.iload_n 2, 1) := by decide +kernel
theorem dX3_runBody_255 : decode cX3_runBody 255 = .ok (.iconst 0, 1) := by decide +kernel
theorem dX3_runBody_256 : decode cX3_runBody 256 = .ok (.iload_n 3, 1) := by decide +kernel
theorem dX3_runBody_257 : decode cX3_runBody 257 = .ok (.iload 4, 2) := by decide +kernel
theorem dX3_runBody_259 : decode cX3_runBody 259 = .ok (.invokevirtual 52, 3) := by decide +kernel
theorem dX3_runBody_262 : decode cX3_runBody 262 = .ok (.iconst 2, 1) := by decide +kernel
theorem dX3_runBody_263 : decode cX3_runBody 263 = .ok (.imul, 1) := by decide +kernel
theorem dX3_runBody_264 : decode cX3_runBody 264 = .ok (.ireturn, 1) := by decide +kernel
theorem dX3_runBody_265 : decode cX3_runBody 265 = .ok (.aload_n 0, 1) := by decide +kernel
theorem dX3_runBody_266 : decode cX3_runBody 266 = .ok (.iload_n 2, 1) := by decide +kernel
theorem dX3_runBody_267 : decode cX3_runBody 267 = .ok (.iconst 1, 1) := by decide +kernel
theorem dX3_runBody_268 : decode cX3_runBody 268 = .ok (.iload_n 3, 1) := by decide +kernel
theorem dX3_runBody_269 : decode cX3_runBody 269 = .ok (.iload 4, 2) := by decide +kernel
theorem dX3_runBody_271 : decode cX3_runBody 271 = .ok (.invokevirtual 52, 3) := by decide +kernel
theorem dX3_runBody_274 : decode cX3_runBody 274 = .ok (.aload_n 0, 1) := by decide +kernel
theorem dX3_runBody_275 : decode cX3_runBody 275 = .ok (.aload_n 0, 1) := by decide +kernel
theorem dX3_runBody_276 : decode cX3_runBody 276 = .ok (.getfield 49, 3) := by decide +kernel
theorem dX3_runBody_279 : decode cX3_runBody 279 = .ok (.iconst 2, 1) := by decide +kernel
theorem dX3_runBody_280 : decode cX3_runBody 280 = .ok (.iconst 2, 1) := by decide +kernel
theorem dX3_runBody_281 : decode cX3_runBody 281 = .ok (.iload 4, 2) := by decide +kernel
theorem dX3_runBody_283 : decode cX3_runBody 283 = .ok (.invokevirtual 52, 3) := by decide +kernel
theorem dX3_runBody_286 : decode cX3_runBody 286 = .ok (.iadd, 1) := by decide +kernel
theorem dX3_runBody_287 : decode cX3_runBody 287 = .ok (.ireturn, 1) := by decide +kernel
theorem dX3_runBody_288 : decode cX3_runBody 288 = .ok (.aload_n 0, 1) := by decide +kernel
theorem dX3_runBody_289 : decode cX3_runBody 289 = .ok (.iload_n 2, 1) := by decide +kernel
theorem dX3_runBody_290 : decode cX3_runBody 290 = .ok (.iconst 3, 1) := by decide +kernel
theorem dX3_runBody_291 : decode cX3_runBody 291 = .ok (.iload_n 3, 1) := by decide +kernel
theorem dX3_runBody_292 : decode cX3_runBody 292 = .ok (.iload 4, 2) := by decide +kernel
theorem dX3_runBody_294 : decode cX3_runBody 294 = .ok (.invokevirtual 52, 3) := by decide +kernel
theorem dX3_runBody_297 : decode cX3_runBody 297 = .ok (.iconst 1, 1) := by decide +kernel
theorem dX3_runBody_298 : decode cX3_runBody 298 = .ok (.isub, 1) := by decide +kernel
theorem dX3_runBody_299 : decode cX3_runBody 299 = .ok (.ireturn, 1) := by decide +kernel
theorem dX3_runBody_300 : decode cX3_runBody 300 = .ok (.iconst 0, 1) := by decide +kernel
theorem dX3_runBody_301 : decode cX3_runBody 301 = .ok (.ireturn, 1) := by decide +kernel
theorem dX3_aboveOf_0 : decode cX3_aboveOf 0 = .ok (.iload_n 0, 1) := by decide +kernel
theorem dX3_aboveOf_1 : decode cX3_aboveOf 1 = .ok (.iconst 0, 1) := by decide +kernel
theorem dX3_aboveOf_2 : decode cX3_aboveOf 2 = .ok (.bipush 7, 2) := by decide +kernel
theorem dX3_aboveOf_4 : decode cX3_aboveOf 4 = .ok (.invokestatic 22, 3) := by decide +kernel
theorem dX3_aboveOf_7 : decode cX3_aboveOf 7 = .ok (.ifCond .eq 11, 3) := by decide +kernel
theorem dX3_aboveOf_10 : decode cX3_aboveOf 10 = .ok (.getstatic 62, 3) := by decide +kernel
theorem dX3_aboveOf_13 : decode cX3_aboveOf 13 = .ok (.iload_n 0, 1) := by decide +kernel
theorem dX3_aboveOf_14 : decode cX3_aboveOf 14 = .ok (.iaload, 1) := by decide +kernel
theorem dX3_aboveOf_15 : decode cX3_aboveOf 15 = .ok (.goto 4, 3) := by decide +kernel
theorem dX3_aboveOf_18 : decode cX3_aboveOf 18 = .ok (.iconst (-1), 1) := by decide +kernel
theorem dX3_aboveOf_19 : decode cX3_aboveOf 19 = .ok (.ireturn, 1) := by decide +kernel
theorem dX3_bodyOf_0 : decode cX3_bodyOf 0 = .ok (.iload_n 0, 1) := by decide +kernel
theorem dX3_bodyOf_1 : decode cX3_bodyOf 1 = .ok (.iconst 0, 1) := by decide +kernel
theorem dX3_bodyOf_2 : decode cX3_bodyOf 2 = .ok (.bipush 7, 2) := by decide +kernel
theorem dX3_bodyOf_4 : decode cX3_bodyOf 4 = .ok (.invokestatic 22, 3) := by decide +kernel
theorem dX3_bodyOf_7 : decode cX3_bodyOf 7 = .ok (.ifCond .ne 5, 3) := by decide +kernel
theorem dX3_bodyOf_10 : decode cX3_bodyOf 10 = .ok (.iconst 0, 1) := by decide +kernel
theorem dX3_bodyOf_11 : decode cX3_bodyOf 11 = .ok (.ireturn, 1) := by decide +kernel
theorem dX3_bodyOf_12 : decode cX3_bodyOf 12 = .ok (.iload_n 1, 1) := by decide +kernel
theorem dX3_bodyOf_13 : decode cX3_bodyOf 13 = .ok (.tableswitch 45 0 2 #[27, 33, 39], 27) := by decide +kernel
theorem dX3_bodyOf_40 : decode cX3_bodyOf 40 = .ok (.getstatic 65, 3) := by decide +kernel
theorem dX3_bodyOf_43 : decode cX3_bodyOf 43 = .ok (.iload_n 0, 1) := by decide +kernel
theorem dX3_bodyOf_44 : decode cX3_bodyOf 44 = .ok (.iaload, 1) := by decide +kernel
theorem dX3_bodyOf_45 : decode cX3_bodyOf 45 = .ok (.ireturn, 1) := by decide +kernel
theorem dX3_bodyOf_46 : decode cX3_bodyOf 46 = .ok (.getstatic 68, 3) := by decide +kernel
theorem dX3_bodyOf_49 : decode cX3_bodyOf 49 = .ok (.iload_n 0, 1) := by decide +kernel
theorem dX3_bodyOf_50 : decode cX3_bodyOf 50 = .ok (.iaload, 1) := by decide +kernel
theorem dX3_bodyOf_51 : decode cX3_bodyOf 51 = .ok (.ireturn, 1) := by decide +kernel
theorem dX3_bodyOf_52 : decode cX3_bodyOf 52 = .ok (.getstatic 71, 3) := by decide +kernel
theorem dX3_bodyOf_55 : decode cX3_bodyOf 55 = .ok (.iload_n 0, 1) := by decide +kernel
theorem dX3_bodyOf_56 : decode cX3_bodyOf 56 = .ok (.iaload, 1) := by decide +kernel
theorem dX3_bodyOf_57 : decode cX3_bodyOf 57 = .ok (.ireturn, 1) := by decide +kernel
theorem dX3_bodyOf_58 : decode cX3_bodyOf 58 = .ok (.getstatic 74, 3) := by decide +kernel
theorem dX3_bodyOf_61 : decode cX3_bodyOf 61 = .ok (.iload_n 0, 1) := by decide +kernel
theorem dX3_bodyOf_62 : decode cX3_bodyOf 62 = .ok (.iaload, 1) := by decide +kernel
theorem dX3_bodyOf_63 : decode cX3_bodyOf 63 = .ok (.ireturn, 1) := by decide +kernel
theorem dX4_init_0 : decode cX4_init 0 = .ok (.aload_n 0, 1) := by decide +kernel
theorem dX4_init_1 : decode cX4_init 1 = .ok (.invokespecial 3, 3) := by decide +kernel
theorem dX4_init_4 : decode cX4_init 4 = .ok (.aload_n 0, 1) := by decide +kernel
theorem dX4_init_5 : decode cX4_init 5 = .ok (.bipush 6, 2) := by decide +kernel
theorem dX4_init_7 : decode cX4_init 7 = .ok (.newarray .int, 2) := by decide +kernel
theorem dX4_init_9 : decode cX4_init 9 = .ok (.putfield 9, 3) := by decide +kernel
theorem dX4_init_12 : decode cX4_init 12 = .ok (.aload_n 0, 1) := by decide +kernel
theorem dX4_init_13 : decode cX4_init 13 = .ok (.bipush 6, 2) := by decide +kernel
theorem dX4_init_15 : decode cX4_init 15 = .ok (.newarray .int, 2) := by decide +kernel
theorem dX4_init_17 : decode cX4_init 17 = .ok (.putfield 15, 3) := by decide +kernel
theorem dX4_init_20 : decode cX4_init 20 = .ok (.aload_n 0, 1) := by decide +kernel
theorem dX4_init_21 : decode cX4_init 21 = .ok (.bipush 6, 2) := by decide +kernel
theorem dX4_init_23 : decode cX4_init 23 = .ok (.bipush 60, 2) := by decide +kernel
theorem dX4_init_25 : decode cX4_init 25 = .ok (.multianewarray 18 2, 4) := by decide +kernel
theorem dX4_init_29 : decode cX4_init 29 = .ok (.putfield 20, 3) := by decide +kernel
theorem dX4_init_32 : decode cX4_init 32 = .ok (.iconst 0, 1) := by decide +kernel
theorem dX4_init_33 : decode cX4_init 33 = .ok (.istore_n 1, 1) := by decide +kernel
theorem dX4_init_34 : decode cX4_init 34 = .ok (.iload_n 1, 1) := by decide +kernel
theorem dX4_init_35 : decode cX4_init 35 = .ok (.bipush 6, 2) := by decide +kernel
theorem dX4_init_37 : decode cX4_init 37 = .ok (.if_icmp .ge 16, 3) := by decide +kernel
theorem dX4_init_40 : decode cX4_init 40 = .ok (.aload_n 0, 1) := by decide +kernel
theorem dX4_init_41 : decode cX4_init 41 = .ok (.getfield 9, 3) := by decide +kernel
theorem dX4_init_44 : decode cX4_init 44 = .ok (.iload_n 1, 1) := by decide +kernel
theorem dX4_init_45 : decode cX4_init 45 = .ok (.iconst (-1), 1) := by decide +kernel
theorem dX4_init_46 : decode cX4_init 46 = .ok (.iastore, 1) := by decide +kernel
theorem dX4_init_47 : decode cX4_init 47 = .ok (.iinc 1 1, 3) := by decide +kernel
theorem dX4_init_50 : decode cX4_init 50 = .ok (.goto (-16), 3) := by decide +kernel
theorem dX4_init_53 : decode cX4_init 53 = .ok (.return_, 1) := by decide +kernel
theorem dX4_isShelf_0 : decode cX4_isShelf 0 = .ok (.iload_n 1, 1) := by decide +kernel
theorem dX4_isShelf_1 : decode cX4_isShelf 1 = .ok (.iconst 0, 1) := by decide +kernel
theorem dX4_isShelf_2 : decode cX4_isShelf 2 = .ok (.iconst 5, 1) := by decide +kernel
theorem dX4_isShelf_3 : decode cX4_isShelf 3 = .ok (.invokestatic 23, 3) := by decide +kernel
theorem dX4_isShelf_6 : decode cX4_isShelf 6 = .ok (.ireturn, 1) := by decide +kernel
theorem dX4_heldOn_0 : decode cX4_heldOn 0 = .ok (.aload_n 0, 1) := by decide +kernel
theorem dX4_heldOn_1 : decode cX4_heldOn 1 = .ok (.iload_n 1, 1) := by decide +kernel
theorem dX4_heldOn_2 : decode cX4_heldOn 2 = .ok (.invokevirtual 27, 3) := by decide +kernel
theorem dX4_heldOn_5 : decode cX4_heldOn 5 = .ok (.ifCond .eq 12, 3) := by decide +kernel
theorem dX4_heldOn_8 : decode cX4_heldOn 8 = .ok (.aload_n 0, 1) := by decide +kernel
theorem dX4_heldOn_9 : decode cX4_heldOn 9 = .ok (.getfield 9, 3) := by decide +kernel
theorem dX4_heldOn_12 : decode cX4_heldOn 12 = .ok (.iload_n 1, 1) := by decide +kernel
theorem dX4_heldOn_13 : decode cX4_heldOn 13 = .ok (.iaload, 1) := by decide +kernel
theorem dX4_heldOn_14 : decode cX4_heldOn 14 = .ok (.goto 4, 3) := by decide +kernel
theorem dX4_heldOn_17 : decode cX4_heldOn 17 = .ok (.iconst (-1), 1) := by decide +kernel
theorem dX4_heldOn_18 : decode cX4_heldOn 18 = .ok (.ireturn, 1) := by decide +kernel
theorem dX4_sizeOn_0 : decode cX4_sizeOn 0 = .ok (.aload_n 0, 1) := by decide +kernel
theorem dX4_sizeOn_1 : decode cX4_sizeOn 1 = .ok (.iload_n 1, 1) := by decide +kernel
theorem dX4_sizeOn_2 : decode cX4_sizeOn 2 = .ok (.invokevirtual 27, 3) := by decide +kernel
theorem dX4_sizeOn_5 : decode cX4_sizeOn 5 = .ok (.ifCond .eq 12, 3) := by decide +kernel
theorem dX4_sizeOn_8 : decode cX4_sizeOn 8 = .ok (.aload_n 0, 1) := by decide +kernel
theorem dX4_sizeOn_9 : decode cX4_sizeOn 9 = .ok (.getfield 15, 3) := by decide +kernel
theorem dX4_sizeOn_12 : decode cX4_sizeOn 12 = .ok (.iload_n 1, 1) := by decide +kernel
theorem dX4_sizeOn_13 : decode cX4_sizeOn 13 = .ok (.iaload, 1) := by decide +kernel
theorem dX4_sizeOn_14 : decode cX4_sizeOn 14 = .ok (.goto 4, 3) := by decide +kernel
theorem dX4_sizeOn_17 : decode cX4_sizeOn 17 = .ok (.iconst 0, 1) := by decide +kernel
theorem dX4_sizeOn_18 : decode cX4_sizeOn 18 = .ok (.ireturn, 1) := by decide +kernel
theorem dX4_hold_0 : decode cX4_hold 0 = .ok (.aload_n 0, 1) := by decide +kernel
theorem dX4_hold_1 : decode cX4_hold 1 = .ok (.iload_n 1, 1) := by decide +kernel
theorem dX4_hold_2 : decode cX4_hold 2 = .ok (.invokevirtual 27, 3) := by decide +kernel
theorem dX4_hold_5 : decode cX4_hold 5 = .ok (.ifCond .ne 4, 3) := by decide +kernel
theorem dX4_hold_8 : decode cX4_hold 8 = .ok (.return_, 1) := by decide +kernel
theorem dX4_hold_9 : decode cX4_hold 9 = .ok (.aload_n 0, 1) := by decide +kernel
theorem dX4_hold_10 : decode cX4_hold 10 = .ok (.getfield 9, 3) := by decide +kernel
theorem dX4_hold_13 : decode cX4_hold 13 = .ok (.iload_n 1, 1) := by decide +kernel
theorem dX4_hold_14 : decode cX4_hold 14 = .ok (.iload_n 2, 1) := by decide +kernel
theorem dX4_hold_15 : decode cX4_hold 15 = .ok (.iastore, 1) := by decide +kernel
theorem dX4_hold_16 : decode cX4_hold 16 = .ok (.aload_n 0, 1) := by decide +kernel
theorem dX4_hold_17 : decode cX4_hold 17 = .ok (.getfield 15, 3) := by decide +kernel
theorem dX4_hold_20 : decode cX4_hold 20 = .ok (.iload_n 1, 1) := by decide +kernel
theorem dX4_hold_21 : decode cX4_hold 21 = .ok (.iload_n 3, 1) := by decide +kernel
theorem dX4_hold_22 : decode cX4_hold 22 = .ok (.iastore, 1) := by decide +kernel
theorem dX4_hold_23 : decode cX4_hold 23 = .ok (.iconst 0, 1) := by decide +kernel
theorem dX4_hold_24 : decode cX4_hold 24 = .ok (.istore 4, 2) := by decide +kernel
theorem dX4_hold_26 : decode cX4_hold 26 = .ok (.iload 4, 2) := by decide +kernel
theorem dX4_hold_28 : decode cX4_hold 28 = .ok (.bipush 60, 2) := by decide +kernel
theorem dX4_hold_30 : decode cX4_hold 30 = .ok (.if_icmp .ge 19, 3) := by decide +kernel
theorem dX4_hold_33 : decode cX4_hold 33 = .ok (.aload_n 0, 1) := by decide +kernel
theorem dX4_hold_34 : decode cX4_hold 34 = .ok (.getfield 20, 3) := by decide +kernel
theorem dX4_hold_37 : decode cX4_hold 37 = .ok (.iload_n 1, 1) := by decide +kernel
theorem dX4_hold_38 : decode cX4_hold 38 = .ok (.aaload, 1) := by decide +kernel
theorem dX4_hold_39 : decode cX4_hold 39 = .ok (.iload 4, 2) := by decide +kernel
theorem dX4_hold_41 : decode cX4_hold 41 = .ok (.lconst 0, 1) := by decide +kernel
theorem dX4_hold_42 : decode cX4_hold 42 = .ok (.lastore, 1) := by decide +kernel
theorem dX4_hold_43 : decode cX4_hold 43 = .ok (.iinc 4 1, 3) := by decide +kernel
theorem dX4_hold_46 : decode cX4_hold 46 = .ok (.goto (-20), 3) := by decide +kernel
theorem dX4_hold_49 : decode cX4_hold 49 = .ok (.return_, 1) := by decide +kernel
theorem dX4_refusalOf_0 : decode cX4_refusalOf 0 = .ok (.aload_n 0, 1) := by decide +kernel
theorem dX4_refusalOf_1 : decode cX4_refusalOf 1 = .ok (.iload_n 1, 1) := by decide +kernel
theorem dX4_refusalOf_2 : decode cX4_refusalOf 2 = .ok (.invokevirtual 27, 3) := by decide +kernel
theorem dX4_refusalOf_5 : decode cX4_refusalOf 5 = .ok (.ifCond .ne 5, 3) := by decide +kernel
theorem dX4_refusalOf_8 : decode cX4_refusalOf 8 = .ok (.iconst (-1), 1) := by decide +kernel
theorem dX4_refusalOf_9 : decode cX4_refusalOf 9 = .ok (.ireturn, 1) := by decide +kernel
theorem dX4_refusalOf_10 : decode cX4_refusalOf 10 = .ok (.aload_n 0, 1) := by decide +kernel
theorem dX4_refusalOf_11 : decode cX4_refusalOf 11 = .ok (.getfield 9, 3) := by decide +kernel
theorem dX4_refusalOf_14 : decode cX4_refusalOf 14 = .ok (.iload_n 1, 1) := by decide +kernel
theorem dX4_refusalOf_15 : decode cX4_refusalOf 15 = .ok (.iaload, 1) := by decide +kernel
theorem dX4_refusalOf_16 : decode cX4_refusalOf 16 = .ok (.iconst (-1), 1) := by decide +kernel
theorem dX4_refusalOf_17 : decode cX4_refusalOf 17 = .ok (.if_icmp .ne 6, 3) := by decide +kernel
theorem dX4_refusalOf_20 : decode cX4_refusalOf 20 = .ok (.bipush (-11), 2) := by decide +kernel
theorem dX4_refusalOf_22 : decode cX4_refusalOf 22 = .ok (.ireturn, 1) := by decide +kernel
theorem dX4_refusalOf_23 : decode cX4_refusalOf 23 = .ok (.aload_n 0, 1) := by decide +kernel
theorem dX4_refusalOf_24 : decode cX4_refusalOf 24 = .ok (.getfield 9, 3) := by decide +kernel
theorem dX4_refusalOf_27 : decode cX4_refusalOf 27 = .ok (.iload_n 1, 1) := by decide +kernel
theorem dX4_refusalOf_28 : decode cX4_refusalOf 28 = .ok (.iaload, 1) := by decide +kernel
theorem dX4_refusalOf_29 : decode cX4_refusalOf 29 = .ok (.iconst 5, 1) := by decide +kernel
theorem dX4_refusalOf_30 : decode cX4_refusalOf 30 = .ok (.if_icmp .ne 6, 3) := by decide +kernel
theorem dX4_refusalOf_33 : decode cX4_refusalOf 33 = .ok (.bipush (-12), 2) := by decide +kernel
theorem dX4_refusalOf_35 : decode cX4_refusalOf 35 = .ok (.ireturn, 1) := by decide +kernel
theorem dX4_refusalOf_36 : decode cX4_refusalOf 36 = .ok (.aload_n 0, 1) := by decide +kernel
theorem dX4_refusalOf_37 : decode cX4_refusalOf 37 = .ok (.iload_n 1, 1) := by decide +kernel
theorem dX4_refusalOf_38 : decode cX4_refusalOf 38 = .ok (.iload_n 2, 1) := by decide +kernel
theorem dX4_refusalOf_39 : decode cX4_refusalOf 39 = .ok (.iconst 1, 1) := by decide +kernel
theorem dX4_refusalOf_40 : decode cX4_refusalOf 40 = .ok (.invokevirtual 31, 3) := by decide +kernel
theorem dX4_refusalOf_43 : decode cX4_refusalOf 43 = .ok (.ifCond .eq 7, 3) := by decide +kernel
theorem dX4_refusalOf_46 : decode cX4_refusalOf 46 = .ok (.iconst 0, 1) := by decide +kernel
theorem dX4_refusalOf_47 : decode cX4_refusalOf 47 = .ok (.goto 5, 3) := by decide +kernel
theorem dX4_refusalOf_50 : decode cX4_refusalOf 50 = .ok (.bipush (-13), 2) := by decide +kernel
theorem dX4_refusalOf_52 : decode cX4_refusalOf 52 = .ok (.ireturn, 1) := by decide +kernel
theorem dX4_refusalOfTwo_0 : decode cX4_refusalOfTwo 0 = .ok (.aload_n 0, 1) := by decide +kernel
theorem dX4_refusalOfTwo_1 : decode cX4_refusalOfTwo 1 = .ok (.iload_n 1, 1) := by decide +kernel
theorem dX4_refusalOfTwo_2 : decode cX4_refusalOfTwo 2 = .ok (.invokevirtual 27, 3) := by decide +kernel
theorem dX4_refusalOfTwo_5 : decode cX4_refusalOfTwo 5 = .ok (.ifCond .eq 11, 3) := by decide +kernel
theorem dX4_refusalOfTwo_8 : decode cX4_refusalOfTwo 8 = .ok (.aload_n 0, 1) := by decide +kernel
theorem dX4_refusalOfTwo_9 : decode cX4_refusalOfTwo 9 = .ok (.iload_n 2, 1) := by decide +kernel
theorem dX4_refusalOfTwo_10 : decode cX4_refusalOfTwo 10 = .ok (.invokevirtual 27, 3) := by decide +kernel
theorem dX4_refusalOfTwo_13 : decode cX4_refusalOfTwo 13 = .ok (.ifCond .ne 5, 3) := by decide +kernel
theorem dX4_refusalOfTwo_16 : decode cX4_refusalOfTwo 16 = .ok (.iconst (-1), 1) := by decide +kernel
theorem dX4_refusalOfTwo_17 : decode cX4_refusalOfTwo 17 = .ok (.ireturn, 1) := by decide +kernel
theorem dX4_refusalOfTwo_18 : decode cX4_refusalOfTwo 18 = .ok (.aload_n 0, 1) := by decide +kernel
theorem dX4_refusalOfTwo_19 : decode cX4_refusalOfTwo 19 = .ok (.getfield 9, 3) := by decide +kernel
theorem dX4_refusalOfTwo_22 : decode cX4_refusalOfTwo 22 = .ok (.iload_n 1, 1) := by decide +kernel
theorem dX4_refusalOfTwo_23 : decode cX4_refusalOfTwo 23 = .ok (.iaload, 1) := by decide +kernel
theorem dX4_refusalOfTwo_24 : decode cX4_refusalOfTwo 24 = .ok (.iconst (-1), 1) := by decide +kernel
theorem dX4_refusalOfTwo_25 : decode cX4_refusalOfTwo 25 = .ok (.if_icmp .eq 13, 3) := by decide +kernel
theorem dX4_refusalOfTwo_28 : decode cX4_refusalOfTwo 28 = .ok (.aload_n 0, 1) := by decide +kernel
theorem dX4_refusalOfTwo_29 : decode cX4_refusalOfTwo 29 = .ok (.getfield 9, 3) := by decide +kernel
theorem dX4_refusalOfTwo_32 : decode cX4_refusalOfTwo 32 = .ok (.iload_n 2, 1) := by decide +kernel
theorem dX4_refusalOfTwo_33 : decode cX4_refusalOfTwo 33 = .ok (.iaload, 1) := by decide +kernel
theorem dX4_refusalOfTwo_34 : decode cX4_refusalOfTwo 34 = .ok (.iconst (-1), 1) := by decide +kernel
theorem dX4_refusalOfTwo_35 : decode cX4_refusalOfTwo 35 = .ok (.if_icmp .ne 6, 3) := by decide +kernel
theorem dX4_refusalOfTwo_38 : decode cX4_refusalOfTwo 38 = .ok (.bipush (-11), 2) := by decide +kernel
theorem dX4_refusalOfTwo_40 : decode cX4_refusalOfTwo 40 = .ok (.ireturn, 1) := by decide +kernel
theorem dX4_refusalOfTwo_41 : decode cX4_refusalOfTwo 41 = .ok (.aload_n 0, 1) := by decide +kernel
theorem dX4_refusalOfTwo_42 : decode cX4_refusalOfTwo 42 = .ok (.getfield 9, 3) := by decide +kernel
theorem dX4_refusalOfTwo_45 : decode cX4_refusalOfTwo 45 = .ok (.iload_n 1, 1) := by decide +kernel
theorem dX4_refusalOfTwo_46 : decode cX4_refusalOfTwo 46 = .ok (.iaload, 1) := by decide +kernel
theorem dX4_refusalOfTwo_47 : decode cX4_refusalOfTwo 47 = .ok (.iconst 5, 1) := by decide +kernel
theorem dX4_refusalOfTwo_48 : decode cX4_refusalOfTwo 48 = .ok (.if_icmp .eq 18, 3) := by decide +kernel
theorem dX4_refusalOfTwo_51 : decode cX4_refusalOfTwo 51 = .ok (.aload_n 0, 1) := by decide +kernel
theorem dX4_refusalOfTwo_52 : decode cX4_refusalOfTwo 52 = .ok (.getfield 9, 3) := by decide +kernel
theorem dX4_refusalOfTwo_55 : decode cX4_refusalOfTwo 55 = .ok (.iload_n 1, 1) := by decide +kernel
theorem dX4_refusalOfTwo_56 : decode cX4_refusalOfTwo 56 = .ok (.iaload, 1) := by decide +kernel
theorem dX4_refusalOfTwo_57 : decode cX4_refusalOfTwo 57 = .ok (.aload_n 0, 1) := by decide +kernel
theorem dX4_refusalOfTwo_58 : decode cX4_refusalOfTwo 58 = .ok (.getfield 9, 3) := by decide +kernel
theorem dX4_refusalOfTwo_61 : decode cX4_refusalOfTwo 61 = .ok (.iload_n 2, 1) := by decide +kernel
theorem dX4_refusalOfTwo_62 : decode cX4_refusalOfTwo 62 = .ok (.iaload, 1) := by decide +kernel
theorem dX4_refusalOfTwo_63 : decode cX4_refusalOfTwo 63 = .ok (.if_icmp .eq 8, 3) := by decide +kernel
theorem dX4_refusalOfTwo_66 : decode cX4_refusalOfTwo 66 = .ok (.bipush (-12), 2) := by decide +kernel
theorem dX4_refusalOfTwo_68 : decode cX4_refusalOfTwo 68 = .ok (.goto 4, 3) := by decide +kernel
theorem dX4_refusalOfTwo_71 : decode cX4_refusalOfTwo 71 = .ok (.iconst 0, 1) := by decide +kernel
theorem dX4_refusalOfTwo_72 : decode cX4_refusalOfTwo 72 = .ok (.ireturn, 1) := by decide +kernel
theorem dX4_holdsPart_0 : decode cX4_holdsPart 0 = .ok (.aload_n 0, 1) := by decide +kernel
theorem dX4_holdsPart_1 : decode cX4_holdsPart 1 = .ok (.iload_n 1, 1) := by decide +kernel
theorem dX4_holdsPart_2 : decode cX4_holdsPart 2 = .ok (.invokevirtual 27, 3) := by decide +kernel
theorem dX4_holdsPart_5 : decode cX4_holdsPart 5 = .ok (.ifCond .eq 37, 3) := by decide +kernel
theorem dX4_holdsPart_8 : decode cX4_holdsPart 8 = .ok (.iload_n 3, 1) := by decide +kernel
theorem dX4_holdsPart_9 : decode cX4_holdsPart 9 = .ok (.iconst 0, 1) := by decide +kernel
theorem dX4_holdsPart_10 : decode cX4_holdsPart 10 = .ok (.aload_n 0, 1) := by decide +kernel
theorem dX4_holdsPart_11 : decode cX4_holdsPart 11 = .ok (.getfield 15, 3) := by decide +kernel
theorem dX4_holdsPart_14 : decode cX4_holdsPart 14 = .ok (.iload_n 1, 1) := by decide +kernel
theorem dX4_holdsPart_15 : decode cX4_holdsPart 15 = .ok (.iaload, 1) := by decide +kernel
theorem dX4_holdsPart_16 : decode cX4_holdsPart 16 = .ok (.invokestatic 23, 3) := by decide +kernel
theorem dX4_holdsPart_19 : decode cX4_holdsPart 19 = .ok (.ifCond .eq 23, 3) := by decide +kernel
theorem dX4_holdsPart_22 : decode cX4_holdsPart 22 = .ok (.iload_n 2, 1) := by decide +kernel
theorem dX4_holdsPart_23 : decode cX4_holdsPart 23 = .ok (.iconst 0, 1) := by decide +kernel
theorem dX4_holdsPart_24 : decode cX4_holdsPart 24 = .ok (.aload_n 0, 1) := by decide +kernel
theorem dX4_holdsPart_25 : decode cX4_holdsPart 25 = .ok (.getfield 15, 3) := by decide +kernel
theorem dX4_holdsPart_28 : decode cX4_holdsPart 28 = .ok (.iload_n 1, 1) := by decide +kernel
theorem dX4_holdsPart_29 : decode cX4_holdsPart 29 = .ok (.iaload, 1) := by decide +kernel
theorem dX4_holdsPart_30 : decode cX4_holdsPart 30 = .ok (.iload_n 3, 1) := by decide +kernel
theorem dX4_holdsPart_31 : decode cX4_holdsPart 31 = .ok (.isub, 1) := by decide +kernel
theorem dX4_holdsPart_32 : decode cX4_holdsPart 32 = .ok (.invokestatic 23, 3) := by decide +kernel
theorem dX4_holdsPart_35 : decode cX4_holdsPart 35 = .ok (.ifCond .eq 7, 3) := by decide +kernel
theorem dX4_holdsPart_38 : decode cX4_holdsPart 38 = .ok (.iconst 1, 1) := by decide +kernel
theorem dX4_holdsPart_39 : decode cX4_holdsPart 39 = .ok (.goto 4, 3) := by decide +kernel
theorem dX4_holdsPart_42 : decode cX4_holdsPart 42 = .ok (.iconst 0, 1) := by decide +kernel
theorem dX4_holdsPart_43 : decode cX4_holdsPart 43 = .ok (.ireturn, 1) := by decide +kernel
theorem dX4_read_0 : decode cX4_read 0 = .ok (.aload_n 0, 1) := by decide +kernel
theorem dX4_read_1 : decode cX4_read 1 = .ok (.iload_n 1, 1) := by decide +kernel
theorem dX4_read_2 : decode cX4_read 2 = .ok (.invokevirtual 27, 3) := by decide +kernel
theorem dX4_read_5 : decode cX4_read 5 = .ok (.ifCond .eq 24, 3) := by decide +kernel
theorem dX4_read_8 : decode cX4_read 8 = .ok (.iload_n 2, 1) := by decide +kernel
theorem dX4_read_9 : decode cX4_read 9 = .ok (.iconst 0, 1) := by decide +kernel
theorem dX4_read_10 : decode cX4_read 10 = .ok (.bipush 59, 2) := by decide +kernel
theorem dX4_read_12 : decode cX4_read 12 = .ok (.invokestatic 23, 3) := by decide +kernel
theorem dX4_read_15 : decode cX4_read 15 = .ok (.ifCond .eq 14, 3) := by decide +kernel
theorem dX4_read_18 : decode cX4_read 18 = .ok (.aload_n 0, 1) := by decide +kernel
theorem dX4_read_19 : decode cX4_read 19 = .ok (.getfield 20, 3) := by decide +kernel
theorem dX4_read_22 : decode cX4_read 22 = .ok (.iload_n 1, 1) := by decide +kernel
theorem dX4_read_23 : decode cX4_read 23 = .ok (.aaload, 1) := by decide +kernel
theorem dX4_read_24 : decode cX4_read 24 = .ok (.iload_n 2, 1) := by decide +kernel
theorem dX4_read_25 : decode cX4_read 25 = .ok (.laload, 1) := by decide +kernel
theorem dX4_read_26 : decode cX4_read 26 = .ok (.goto 4, 3) := by decide +kernel
theorem dX4_read_29 : decode cX4_read 29 = .ok (.lconst 0, 1) := by decide +kernel
theorem dX4_read_30 : decode cX4_read 30 = .ok (.lreturn, 1) := by decide +kernel
theorem dX4_write_0 : decode cX4_write 0 = .ok (.aload_n 0, 1) := by decide +kernel
theorem dX4_write_1 : decode cX4_write 1 = .ok (.iload_n 1, 1) := by decide +kernel
theorem dX4_write_2 : decode cX4_write 2 = .ok (.invokevirtual 27, 3) := by decide +kernel
theorem dX4_write_5 : decode cX4_write 5 = .ok (.ifCond .eq 31, 3) := by decide +kernel
theorem dX4_write_8 : decode cX4_write 8 = .ok (.iload_n 2, 1) := by decide +kernel
theorem dX4_write_9 : decode cX4_write 9 = .ok (.iconst 0, 1) := by decide +kernel
theorem dX4_write_10 : decode cX4_write 10 = .ok (.bipush 59, 2) := by decide +kernel
theorem dX4_write_12 : decode cX4_write 12 = .ok (.invokestatic 23, 3) := by decide +kernel
theorem dX4_write_15 : decode cX4_write 15 = .ok (.ifCond .eq 21, 3) := by decide +kernel
theorem dX4_write_18 : decode cX4_write 18 = .ok (.aload_n 0, 1) := by decide +kernel
theorem dX4_write_19 : decode cX4_write 19 = .ok (.getfield 20, 3) := by decide +kernel
theorem dX4_write_22 : decode cX4_write 22 = .ok (.iload_n 1, 1) := by decide +kernel
theorem dX4_write_23 : decode cX4_write 23 = .ok (.aaload, 1) := by decide +kernel
theorem dX4_write_24 : decode cX4_write 24 = .ok (.iload_n 2, 1) := by decide +kernel
theorem dX4_write_25 : decode cX4_write 25 = .ok (.aload_n 0, 1) := by decide +kernel
theorem dX4_write_26 : decode cX4_write 26 = .ok (.getfield 9, 3) := by decide +kernel
theorem dX4_write_29 : decode cX4_write 29 = .ok (.iload_n 1, 1) := by decide +kernel
theorem dX4_write_30 : decode cX4_write 30 = .ok (.iaload, 1) := by decide +kernel
theorem dX4_write_31 : decode cX4_write 31 = .ok (.lload_n 3, 1) := by decide +kernel
theorem dX4_write_32 : decode cX4_write 32 = .ok (.invokestatic 34, 3) := by decide +kernel
theorem dX4_write_35 : decode cX4_write 35 = .ok (.lastore, 1) := by decide +kernel
theorem dX4_write_36 : decode cX4_write 36 = .ok (.return_, 1) := by decide +kernel
theorem dX4_copy_0 : decode cX4_copy 0 = .ok (.aload_n 0, 1) := by decide +kernel
theorem dX4_copy_1 : decode cX4_copy 1 = .ok (.iload_n 1, 1) := by decide +kernel
theorem dX4_copy_2 : decode cX4_copy 2 = .ok (.iload_n 2, 1) := by decide +kernel
theorem dX4_copy_3 : decode cX4_copy 3 = .ok (.iload 5, 2) := by decide +kernel
theorem dX4_copy_5 : decode cX4_copy 5 = .ok (.invokevirtual 31, 3) := by decide +kernel
theorem dX4_copy_8 : decode cX4_copy 8 = .ok (.ifCond .eq 35, 3) := by decide +kernel
theorem dX4_copy_11 : decode cX4_copy 11 = .ok (.aload_n 0, 1) := by decide +kernel
theorem dX4_copy_12 : decode cX4_copy 12 = .ok (.iload_n 3, 1) := by decide +kernel
theorem dX4_copy_13 : decode cX4_copy 13 = .ok (.iload 4, 2) := by decide +kernel
theorem dX4_copy_15 : decode cX4_copy 15 = .ok (.iload 5, 2) := by decide +kernel
theorem dX4_copy_17 : decode cX4_copy 17 = .ok (.invokevirtual 31, 3) := by decide +kernel
theorem dX4_copy_20 : decode cX4_copy 20 = .ok (.ifCond .eq 23, 3) := by decide +kernel
theorem dX4_copy_23 : decode cX4_copy 23 = .ok (.aload_n 0, 1) := by decide +kernel
theorem dX4_copy_24 : decode cX4_copy 24 = .ok (.getfield 20, 3) := by decide +kernel
theorem dX4_copy_27 : decode cX4_copy 27 = .ok (.iload_n 1, 1) := by decide +kernel
theorem dX4_copy_28 : decode cX4_copy 28 = .ok (.aaload, 1) := by decide +kernel
theorem dX4_copy_29 : decode cX4_copy 29 = .ok (.iload_n 2, 1) := by decide +kernel
theorem dX4_copy_30 : decode cX4_copy 30 = .ok (.aload_n 0, 1) := by decide +kernel
theorem dX4_copy_31 : decode cX4_copy 31 = .ok (.getfield 20, 3) := by decide +kernel
theorem dX4_copy_34 : decode cX4_copy 34 = .ok (.iload_n 3, 1) := by decide +kernel
theorem dX4_copy_35 : decode cX4_copy 35 = .ok (.aaload, 1) := by decide +kernel
theorem dX4_copy_36 : decode cX4_copy 36 = .ok (.iload 4, 2) := by decide +kernel
theorem dX4_copy_38 : decode cX4_copy 38 = .ok (.iload 5, 2) := by decide +kernel
theorem dX4_copy_40 : decode cX4_copy 40 = .ok (.invokestatic 38, 3) := by decide +kernel
theorem dX4_copy_43 : decode cX4_copy 43 = .ok (.return_, 1) := by decide +kernel
theorem dX4_lowest_0 : decode cX4_lowest 0 = .ok (.iload_n 0, 1) := by decide +kernel
theorem dX4_lowest_1 : decode cX4_lowest 1 = .ok (.tableswitch 47 0 3 #[31, 36, 41, 45], 31) := by decide +kernel
theorem dX4_lowest_32 : decode cX4_lowest 32 = .ok (.lload_n 1, 1) := by decide +kernel
theorem dX4_lowest_33 : decode cX4_lowest 33 = .ok (.l2i, 1) := by decide +kernel
theorem dX4_lowest_34 : decode cX4_lowest 34 = .ok (.i2b, 1) := by decide +kernel
theorem dX4_lowest_35 : decode cX4_lowest 35 = .ok (.i2l, 1) := by decide +kernel
theorem dX4_lowest_36 : decode cX4_lowest 36 = .ok (.lreturn, 1) := by decide +kernel
theorem dX4_lowest_37 : decode cX4_lowest 37 = .ok (.lload_n 1, 1) := by decide +kernel
theorem dX4_lowest_38 : decode cX4_lowest 38 = .ok (.l2i, 1) := by decide +kernel
theorem dX4_lowest_39 : decode cX4_lowest 39 = .ok (.i2s, 1) := by decide +kernel
theorem dX4_lowest_40 : decode cX4_lowest 40 = .ok (.i2l, 1) := by decide +kernel
theorem dX4_lowest_41 : decode cX4_lowest 41 = .ok (.lreturn, 1) := by decide +kernel
theorem dX4_lowest_42 : decode cX4_lowest 42 = .ok (.lload_n 1, 1) := by decide +kernel
theorem dX4_lowest_43 : decode cX4_lowest 43 = .ok (.l2i, 1) := by decide +kernel
theorem dX4_lowest_44 : decode cX4_lowest 44 = .ok (.i2l, 1) := by decide +kernel
theorem dX4_lowest_45 : decode cX4_lowest 45 = .ok (.lreturn, 1) := by decide +kernel
theorem dX4_lowest_46 : decode cX4_lowest 46 = .ok (.lload_n 1, 1) := by decide +kernel
theorem dX4_lowest_47 : decode cX4_lowest 47 = .ok (.lreturn, 1) := by decide +kernel
theorem dX4_lowest_48 : decode cX4_lowest 48 = .ok (.lload_n 1, 1) := by decide +kernel
theorem dX4_lowest_49 : decode cX4_lowest 49 = .ok (.lconst 0, 1) := by decide +kernel
theorem dX4_lowest_50 : decode cX4_lowest 50 = .ok (.lcmp, 1) := by decide +kernel
theorem dX4_lowest_51 : decode cX4_lowest 51 = .ok (.ifCond .eq 7, 3) := by decide +kernel
theorem dX4_lowest_54 : decode cX4_lowest 54 = .ok (.lconst 1, 1) := by decide +kernel
theorem dX4_lowest_55 : decode cX4_lowest 55 = .ok (.goto 4, 3) := by decide +kernel
theorem dX4_lowest_58 : decode cX4_lowest 58 = .ok (.lconst 0, 1) := by decide +kernel
theorem dX4_lowest_59 : decode cX4_lowest 59 = .ok (.lreturn, 1) := by decide +kernel
end
section
theorem dX5_init_0 : decode cX5_init 0 = .ok (.aload_n 0, 1) := by decide +kernel
theorem dX5_init_1 : decode cX5_init 1 = .ok (.invokespecial 3, 3) := by decide +kernel
theorem dX5_init_4 : decode cX5_init 4 = .ok (.aload_n 0, 1) := by decide +kernel
theorem dX5_init_5 : decode cX5_init 5 = .ok (.bipush 9, 2) := by decide +kernel
theorem dX5_init_7 : decode cX5_init 7 = .ok (.bipush 6, 2) := by decide +kernel
theorem dX5_init_9 : decode cX5_init 9 = .ok (.multianewarray 9 2, 4) := by decide +kernel
theorem dX5_init_13 : decode cX5_init 13 = .ok (.putfield 11, 3) := by decide +kernel
theorem dX5_init_16 : decode cX5_init 16 = .ok (.return_, 1) := by decide +kernel
theorem dX5_hasThing_0 : decode cX5_hasThing 0 = .ok (.iload_n 1, 1) := by decide +kernel
theorem dX5_hasThing_1 : decode cX5_hasThing 1 = .ok (.iconst 0, 1) := by decide +kernel
theorem dX5_hasThing_2 : decode cX5_hasThing 2 = .ok (.aload_n 0, 1) := by decide +kernel
theorem dX5_hasThing_3 : decode cX5_hasThing 3 = .ok (.getfield 16, 3) := by decide +kernel
theorem dX5_hasThing_6 : decode cX5_hasThing 6 = .ok (.iconst 1, 1) := by decide +kernel
theorem dX5_hasThing_7 : decode cX5_hasThing 7 = .ok (.isub, 1) := by decide +kernel
theorem dX5_hasThing_8 : decode cX5_hasThing 8 = .ok (.invokestatic 20, 3) := by decide +kernel
theorem dX5_hasThing_11 : decode cX5_hasThing 11 = .ok (.ireturn, 1) := by decide +kernel
theorem dX5_hasSort_0 : decode cX5_hasSort 0 = .ok (.iload_n 1, 1) := by decide +kernel
theorem dX5_hasSort_1 : decode cX5_hasSort 1 = .ok (.iconst 0, 1) := by decide +kernel
theorem dX5_hasSort_2 : decode cX5_hasSort 2 = .ok (.aload_n 0, 1) := by decide +kernel
theorem dX5_hasSort_3 : decode cX5_hasSort 3 = .ok (.getfield 24, 3) := by decide +kernel
theorem dX5_hasSort_6 : decode cX5_hasSort 6 = .ok (.iconst 1, 1) := by decide +kernel
theorem dX5_hasSort_7 : decode cX5_hasSort 7 = .ok (.isub, 1) := by decide +kernel
theorem dX5_hasSort_8 : decode cX5_hasSort 8 = .ok (.invokestatic 20, 3) := by decide +kernel
theorem dX5_hasSort_11 : decode cX5_hasSort 11 = .ok (.ireturn, 1) := by decide +kernel
theorem dX5_at_0 : decode cX5_at 0 = .ok (.iload_n 1, 1) := by decide +kernel
theorem dX5_at_1 : decode cX5_at 1 = .ok (.iconst 0, 1) := by decide +kernel
theorem dX5_at_2 : decode cX5_at 2 = .ok (.bipush 8, 2) := by decide +kernel
theorem dX5_at_4 : decode cX5_at 4 = .ok (.invokestatic 20, 3) := by decide +kernel
theorem dX5_at_7 : decode cX5_at 7 = .ok (.ifCond .eq 12, 3) := by decide +kernel
theorem dX5_at_10 : decode cX5_at 10 = .ok (.iload_n 2, 1) := by decide +kernel
theorem dX5_at_11 : decode cX5_at 11 = .ok (.iconst 0, 1) := by decide +kernel
theorem dX5_at_12 : decode cX5_at 12 = .ok (.iconst 5, 1) := by decide +kernel
theorem dX5_at_13 : decode cX5_at 13 = .ok (.invokestatic 20, 3) := by decide +kernel
theorem dX5_at_16 : decode cX5_at 16 = .ok (.ifCond .ne 5, 3) := by decide +kernel
theorem dX5_at_19 : decode cX5_at 19 = .ok (.iconst 0, 1) := by decide +kernel
theorem dX5_at_20 : decode cX5_at 20 = .ok (.ireturn, 1) := by decide +kernel
theorem dX5_at_21 : decode cX5_at 21 = .ok (.aload_n 0, 1) := by decide +kernel
theorem dX5_at_22 : decode cX5_at 22 = .ok (.getfield 11, 3) := by decide +kernel
theorem dX5_at_25 : decode cX5_at 25 = .ok (.iload_n 1, 1) := by decide +kernel
theorem dX5_at_26 : decode cX5_at 26 = .ok (.aaload, 1) := by decide +kernel
theorem dX5_at_27 : decode cX5_at 27 = .ok (.iload_n 2, 1) := by decide +kernel
theorem dX5_at_28 : decode cX5_at 28 = .ok (.iaload, 1) := by decide +kernel
theorem dX5_at_29 : decode cX5_at 29 = .ok (.ireturn, 1) := by decide +kernel
theorem dX5_write_0 : decode cX5_write 0 = .ok (.iload_n 1, 1) := by decide +kernel
theorem dX5_write_1 : decode cX5_write 1 = .ok (.iconst 0, 1) := by decide +kernel
theorem dX5_write_2 : decode cX5_write 2 = .ok (.bipush 8, 2) := by decide +kernel
theorem dX5_write_4 : decode cX5_write 4 = .ok (.invokestatic 20, 3) := by decide +kernel
theorem dX5_write_7 : decode cX5_write 7 = .ok (.ifCond .eq 21, 3) := by decide +kernel
theorem dX5_write_10 : decode cX5_write 10 = .ok (.iload_n 2, 1) := by decide +kernel
theorem dX5_write_11 : decode cX5_write 11 = .ok (.iconst 0, 1) := by decide +kernel
theorem dX5_write_12 : decode cX5_write 12 = .ok (.iconst 5, 1) := by decide +kernel
theorem dX5_write_13 : decode cX5_write 13 = .ok (.invokestatic 20, 3) := by decide +kernel
theorem dX5_write_16 : decode cX5_write 16 = .ok (.ifCond .eq 12, 3) := by decide +kernel
theorem dX5_write_19 : decode cX5_write 19 = .ok (.aload_n 0, 1) := by decide +kernel
theorem dX5_write_20 : decode cX5_write 20 = .ok (.getfield 11, 3) := by decide +kernel
theorem dX5_write_23 : decode cX5_write 23 = .ok (.iload_n 1, 1) := by decide +kernel
theorem dX5_write_24 : decode cX5_write 24 = .ok (.aaload, 1) := by decide +kernel
theorem dX5_write_25 : decode cX5_write 25 = .ok (.iload_n 2, 1) := by decide +kernel
theorem dX5_write_26 : decode cX5_write 26 = .ok (.iload_n 3, 1) := by decide +kernel
theorem dX5_write_27 : decode cX5_write 27 = .ok (.iastore, 1) := by decide +kernel
theorem dX5_write_28 : decode cX5_write 28 = .ok (.return_, 1) := by decide +kernel
theorem dX5_addThing_0 : decode cX5_addThing 0 = .ok (.aload_n 0, 1) := by decide +kernel
theorem dX5_addThing_1 : decode cX5_addThing 1 = .ok (.getfield 16, 3) := by decide +kernel
theorem dX5_addThing_4 : decode cX5_addThing 4 = .ok (.bipush 6, 2) := by decide +kernel
theorem dX5_addThing_6 : decode cX5_addThing 6 = .ok (.if_icmp .lt 6, 3) := by decide +kernel
theorem dX5_addThing_9 : decode cX5_addThing 9 = .ok (.bipush (-3), 2) := by decide +kernel
theorem dX5_addThing_11 : decode cX5_addThing 11 = .ok (.ireturn, 1) := by decide +kernel
theorem dX5_addThing_12 : decode cX5_addThing 12 = .ok (.aload_n 0, 1) := by decide +kernel
theorem dX5_addThing_13 : decode cX5_addThing 13 = .ok (.iconst 0, 1) := by decide +kernel
theorem dX5_addThing_14 : decode cX5_addThing 14 = .ok (.aload_n 0, 1) := by decide +kernel
theorem dX5_addThing_15 : decode cX5_addThing 15 = .ok (.getfield 16, 3) := by decide +kernel
theorem dX5_addThing_18 : decode cX5_addThing 18 = .ok (.iload_n 1, 1) := by decide +kernel
theorem dX5_addThing_19 : decode cX5_addThing 19 = .ok (.invokevirtual 27, 3) := by decide +kernel
theorem dX5_addThing_22 : decode cX5_addThing 22 = .ok (.aload_n 0, 1) := by decide +kernel
theorem dX5_addThing_23 : decode cX5_addThing 23 = .ok (.iconst 1, 1) := by decide +kernel
theorem dX5_addThing_24 : decode cX5_addThing 24 = .ok (.aload_n 0, 1) := by decide +kernel
theorem dX5_addThing_25 : decode cX5_addThing 25 = .ok (.getfield 16, 3) := by decide +kernel
theorem dX5_addThing_28 : decode cX5_addThing 28 = .ok (.iload_n 2, 1) := by decide +kernel
theorem dX5_addThing_29 : decode cX5_addThing 29 = .ok (.invokevirtual 27, 3) := by decide +kernel
theorem dX5_addThing_32 : decode cX5_addThing 32 = .ok (.aload_n 0, 1) := by decide +kernel
theorem dX5_addThing_33 : decode cX5_addThing 33 = .ok (.iconst 2, 1) := by decide +kernel
theorem dX5_addThing_34 : decode cX5_addThing 34 = .ok (.aload_n 0, 1) := by decide +kernel
theorem dX5_addThing_35 : decode cX5_addThing 35 = .ok (.getfield 16, 3) := by decide +kernel
theorem dX5_addThing_38 : decode cX5_addThing 38 = .ok (.iload_n 3, 1) := by decide +kernel
theorem dX5_addThing_39 : decode cX5_addThing 39 = .ok (.invokevirtual 27, 3) := by decide +kernel
theorem dX5_addThing_42 : decode cX5_addThing 42 = .ok (.aload_n 0, 1) := by decide +kernel
theorem dX5_addThing_43 : decode cX5_addThing 43 = .ok (.iconst 3, 1) := by decide +kernel
theorem dX5_addThing_44 : decode cX5_addThing 44 = .ok (.aload_n 0, 1) := by decide +kernel
theorem dX5_addThing_45 : decode cX5_addThing 45 = .ok (.getfield 16, 3) := by decide +kernel
theorem dX5_addThing_48 : decode cX5_addThing 48 = .ok (.iload 4, 2) := by decide +kernel
theorem dX5_addThing_50 : decode cX5_addThing 50 = .ok (.invokevirtual 27, 3) := by decide +kernel
theorem dX5_addThing_53 : decode cX5_addThing 53 = .ok (.aload_n 0, 1) := by decide +kernel
theorem dX5_addThing_54 : decode cX5_addThing 54 = .ok (.dup, 1) := by decide +kernel
theorem dX5_addThing_55 : decode cX5_addThing 55 = .ok (.getfield 16, 3) := by decide +kernel
theorem dX5_addThing_58 : decode cX5_addThing 58 = .ok (.dup_x1, 1) := by decide +kernel
theorem dX5_addThing_59 : decode cX5_addThing 59 = .ok (.iconst 1, 1) := by decide +kernel
theorem dX5_addThing_60 : decode cX5_addThing 60 = .ok (.iadd, 1) := by decide +kernel
theorem dX5_addThing_61 : decode cX5_addThing 61 = .ok (.putfield 16, 3) := by decide +kernel
theorem dX5_addThing_64 : decode cX5_addThing 64 = .ok (.ireturn, 1) := by decide +kernel
theorem dX5_addSort_0 : decode cX5_addSort 0 = .ok (.aload_n 0, 1) := by decide +kernel
theorem dX5_addSort_1 : decode cX5_addSort 1 = .ok (.getfield 24, 3) := by decide +kernel
theorem dX5_addSort_4 : decode cX5_addSort 4 = .ok (.iconst 5, 1) := by decide +kernel
theorem dX5_addSort_5 : decode cX5_addSort 5 = .ok (.if_icmp .lt 6, 3) := by decide +kernel
theorem dX5_addSort_8 : decode cX5_addSort 8 = .ok (.bipush (-3), 2) := by decide +kernel
theorem dX5_addSort_10 : decode cX5_addSort 10 = .ok (.ireturn, 1) := by decide +kernel
theorem dX5_addSort_11 : decode cX5_addSort 11 = .ok (.aload_n 0, 1) := by decide +kernel
theorem dX5_addSort_12 : decode cX5_addSort 12 = .ok (.iconst 4, 1) := by decide +kernel
theorem dX5_addSort_13 : decode cX5_addSort 13 = .ok (.aload_n 0, 1) := by decide +kernel
theorem dX5_addSort_14 : decode cX5_addSort 14 = .ok (.getfield 24, 3) := by decide +kernel
theorem dX5_addSort_17 : decode cX5_addSort 17 = .ok (.iload_n 1, 1) := by decide +kernel
theorem dX5_addSort_18 : decode cX5_addSort 18 = .ok (.invokevirtual 27, 3) := by decide +kernel
theorem dX5_addSort_21 : decode cX5_addSort 21 = .ok (.aload_n 0, 1) := by decide +kernel
theorem dX5_addSort_22 : decode cX5_addSort 22 = .ok (.iconst 5, 1) := by decide +kernel
theorem dX5_addSort_23 : decode cX5_addSort 23 = .ok (.aload_n 0, 1) := by decide +kernel
theorem dX5_addSort_24 : decode cX5_addSort 24 = .ok (.getfield 24, 3) := by decide +kernel
theorem dX5_addSort_27 : decode cX5_addSort 27 = .ok (.iload_n 2, 1) := by decide +kernel
theorem dX5_addSort_28 : decode cX5_addSort 28 = .ok (.bipush 100, 2) := by decide +kernel
theorem dX5_addSort_30 : decode cX5_addSort 30 = .ok (.idiv, 1) := by decide +kernel
theorem dX5_addSort_31 : decode cX5_addSort 31 = .ok (.invokevirtual 27, 3) := by decide +kernel
theorem dX5_addSort_34 : decode cX5_addSort 34 = .ok (.aload_n 0, 1) := by decide +kernel
theorem dX5_addSort_35 : decode cX5_addSort 35 = .ok (.bipush 6, 2) := by decide +kernel
theorem dX5_addSort_37 : decode cX5_addSort 37 = .ok (.aload_n 0, 1) := by decide +kernel
theorem dX5_addSort_38 : decode cX5_addSort 38 = .ok (.getfield 24, 3) := by decide +kernel
theorem dX5_addSort_41 : decode cX5_addSort 41 = .ok (.iload_n 2, 1) := by decide +kernel
theorem dX5_addSort_42 : decode cX5_addSort 42 = .ok (.bipush 100, 2) := by decide +kernel
theorem dX5_addSort_44 : decode cX5_addSort 44 = .ok (.irem, 1) := by decide +kernel
theorem dX5_addSort_45 : decode cX5_addSort 45 = .ok (.invokevirtual 27, 3) := by decide +kernel
theorem dX5_addSort_48 : decode cX5_addSort 48 = .ok (.aload_n 0, 1) := by decide +kernel
theorem dX5_addSort_49 : decode cX5_addSort 49 = .ok (.bipush 7, 2) := by decide +kernel
theorem dX5_addSort_51 : decode cX5_addSort 51 = .ok (.aload_n 0, 1) := by decide +kernel
theorem dX5_addSort_52 : decode cX5_addSort 52 = .ok (.getfield 24, 3) := by decide +kernel
theorem dX5_addSort_55 : decode cX5_addSort 55 = .ok (.iload_n 3, 1) := by decide +kernel
theorem dX5_addSort_56 : decode cX5_addSort 56 = .ok (.bipush 10, 2) := by decide +kernel
theorem dX5_addSort_58 : decode cX5_addSort 58 = .ok (.idiv, 1) := by decide +kernel
theorem dX5_addSort_59 : decode cX5_addSort 59 = .ok (.invokevirtual 27, 3) := by decide +kernel
theorem dX5_addSort_62 : decode cX5_addSort 62 = .ok (.aload_n 0, 1) := by decide +kernel
theorem dX5_addSort_63 : decode cX5_addSort 63 = .ok (.bipush 8, 2) := by decide +kernel
theorem dX5_addSort_65 : decode cX5_addSort 65 = .ok (.aload_n 0, 1) := by decide +kernel
theorem dX5_addSort_66 : decode cX5_addSort 66 = .ok (.getfield 24, 3) := by decide +kernel
theorem dX5_addSort_69 : decode cX5_addSort 69 = .ok (.iload_n 3, 1) := by decide +kernel
theorem dX5_addSort_70 : decode cX5_addSort 70 = .ok (.bipush 10, 2) := by decide +kernel
theorem dX5_addSort_72 : decode cX5_addSort 72 = .ok (.irem, 1) := by decide +kernel
theorem dX5_addSort_73 : decode cX5_addSort 73 = .ok (.invokevirtual 27, 3) := by decide +kernel
theorem dX5_addSort_76 : decode cX5_addSort 76 = .ok (.aload_n 0, 1) := by decide +kernel
theorem dX5_addSort_77 : decode cX5_addSort 77 = .ok (.dup, 1) := by decide +kernel
theorem dX5_addSort_78 : decode cX5_addSort 78 = .ok (.getfield 24, 3) := by decide +kernel
theorem dX5_addSort_81 : decode cX5_addSort 81 = .ok (.dup_x1, 1) := by decide +kernel
theorem dX5_addSort_82 : decode cX5_addSort 82 = .ok (.iconst 1, 1) := by decide +kernel
theorem dX5_addSort_83 : decode cX5_addSort 83 = .ok (.iadd, 1) := by decide +kernel
theorem dX5_addSort_84 : decode cX5_addSort 84 = .ok (.putfield 24, 3) := by decide +kernel
theorem dX5_addSort_87 : decode cX5_addSort 87 = .ok (.ireturn, 1) := by decide +kernel
theorem dX5_pointsInAll_0 : decode cX5_pointsInAll 0 = .ok (.aload_n 0, 1) := by decide +kernel
theorem dX5_pointsInAll_1 : decode cX5_pointsInAll 1 = .ok (.bipush 6, 2) := by decide +kernel
theorem dX5_pointsInAll_3 : decode cX5_pointsInAll 3 = .ok (.iload_n 1, 1) := by decide +kernel
theorem dX5_pointsInAll_4 : decode cX5_pointsInAll 4 = .ok (.invokevirtual 31, 3) := by decide +kernel
theorem dX5_pointsInAll_7 : decode cX5_pointsInAll 7 = .ok (.bipush 10, 2) := by decide +kernel
theorem dX5_pointsInAll_9 : decode cX5_pointsInAll 9 = .ok (.aload_n 0, 1) := by decide +kernel
theorem dX5_pointsInAll_10 : decode cX5_pointsInAll 10 = .ok (.bipush 7, 2) := by decide +kernel
theorem dX5_pointsInAll_12 : decode cX5_pointsInAll 12 = .ok (.iload_n 1, 1) := by decide +kernel
theorem dX5_pointsInAll_13 : decode cX5_pointsInAll 13 = .ok (.invokevirtual 31, 3) := by decide +kernel
theorem dX5_pointsInAll_16 : decode cX5_pointsInAll 16 = .ok (.imul, 1) := by decide +kernel
theorem dX5_pointsInAll_17 : decode cX5_pointsInAll 17 = .ok (.iadd, 1) := by decide +kernel
theorem dX5_pointsInAll_18 : decode cX5_pointsInAll 18 = .ok (.ireturn, 1) := by decide +kernel
theorem dX5_allHeads_0 : decode cX5_allHeads 0 = .ok (.iconst 0, 1) := by decide +kernel
theorem dX5_allHeads_1 : decode cX5_allHeads 1 = .ok (.istore_n 1, 1) := by decide +kernel
theorem dX5_allHeads_2 : decode cX5_allHeads 2 = .ok (.iconst 0, 1) := by decide +kernel
theorem dX5_allHeads_3 : decode cX5_allHeads 3 = .ok (.istore_n 2, 1) := by decide +kernel
theorem dX5_allHeads_4 : decode cX5_allHeads 4 = .ok (.iload_n 2, 1) := by decide +kernel
theorem dX5_allHeads_5 : decode cX5_allHeads 5 = .ok (.aload_n 0, 1) := by decide +kernel
theorem dX5_allHeads_6 : decode cX5_allHeads 6 = .ok (.getfield 24, 3) := by decide +kernel
theorem dX5_allHeads_9 : decode cX5_allHeads 9 = .ok (.if_icmp .ge 18, 3) := by decide +kernel
theorem dX5_allHeads_12 : decode cX5_allHeads 12 = .ok (.iload_n 1, 1) := by decide +kernel
theorem dX5_allHeads_13 : decode cX5_allHeads 13 = .ok (.aload_n 0, 1) := by decide +kernel
theorem dX5_allHeads_14 : decode cX5_allHeads 14 = .ok (.iconst 4, 1) := by decide +kernel
theorem dX5_allHeads_15 : decode cX5_allHeads 15 = .ok (.iload_n 2, 1) := by decide +kernel
theorem dX5_allHeads_16 : decode cX5_allHeads 16 = .ok (.invokevirtual 31, 3) := by decide +kernel
theorem dX5_allHeads_19 : decode cX5_allHeads 19 = .ok (.iadd, 1) := by decide +kernel
theorem dX5_allHeads_20 : decode cX5_allHeads 20 = .ok (.istore_n 1, 1) := by decide +kernel
theorem dX5_allHeads_21 : decode cX5_allHeads 21 = .ok (.iinc 2 1, 3) := by decide +kernel
theorem dX5_allHeads_24 : decode cX5_allHeads 24 = .ok (.goto (-20), 3) := by decide +kernel
theorem dX5_allHeads_27 : decode cX5_allHeads 27 = .ok (.iload_n 1, 1) := by decide +kernel
theorem dX5_allHeads_28 : decode cX5_allHeads 28 = .ok (.ireturn, 1) := by decide +kernel
theorem dX5_digitOf_0 : decode cX5_digitOf 0 = .ok (.iload_n 1, 1) := by decide +kernel
theorem dX5_digitOf_1 : decode cX5_digitOf 1 = .ok (.istore_n 3, 1) := by decide +kernel
theorem dX5_digitOf_2 : decode cX5_digitOf 2 = .ok (.aload_n 0, 1) := by decide +kernel
theorem dX5_digitOf_3 : decode cX5_digitOf 3 = .ok (.getfield 16, 3) := by decide +kernel
theorem dX5_digitOf_6 : decode cX5_digitOf 6 = .ok (.iconst 1, 1) := by decide +kernel
theorem dX5_digitOf_7 : decode cX5_digitOf 7 = .ok (.isub, 1) := by decide +kernel
theorem dX5_digitOf_8 : decode cX5_digitOf 8 = .ok (.istore 4, 2) := by decide +kernel
theorem dX5_digitOf_10 : decode cX5_digitOf 10 = .ok (.iload 4, 2) := by decide +kernel
theorem dX5_digitOf_12 : decode cX5_digitOf 12 = .ok (.iload_n 2, 1) := by decide +kernel
theorem dX5_digitOf_13 : decode cX5_digitOf 13 = .ok (.if_icmp .le 14, 3) := by decide +kernel
theorem dX5_digitOf_16 : decode cX5_digitOf 16 = .ok (.iload_n 3, 1) := by decide +kernel
theorem dX5_digitOf_17 : decode cX5_digitOf 17 = .ok (.bipush 10, 2) := by decide +kernel
theorem dX5_digitOf_19 : decode cX5_digitOf 19 = .ok (.idiv, 1) := by decide +kernel
theorem dX5_digitOf_20 : decode cX5_digitOf 20 = .ok (.istore_n 3, 1) := by decide +kernel
theorem dX5_digitOf_21 : decode cX5_digitOf 21 = .ok (.iinc 4 (-1), 3) := by decide +kernel
theorem dX5_digitOf_24 : decode cX5_digitOf 24 = .ok (.goto (-14), 3) := by decide +kernel
theorem dX5_digitOf_27 : decode cX5_digitOf 27 = .ok (.iload_n 3, 1) := by decide +kernel
theorem dX5_digitOf_28 : decode cX5_digitOf 28 = .ok (.bipush 10, 2) := by decide +kernel
theorem dX5_digitOf_30 : decode cX5_digitOf 30 = .ok (.irem, 1) := by decide +kernel
theorem dX5_digitOf_31 : decode cX5_digitOf 31 = .ok (.ireturn, 1) := by decide +kernel
theorem dX5_isBasket_0 : decode cX5_isBasket 0 = .ok (.iload_n 1, 1) := by decide +kernel
theorem dX5_isBasket_1 : decode cX5_isBasket 1 = .ok (.istore_n 2, 1) := by decide +kernel
theorem dX5_isBasket_2 : decode cX5_isBasket 2 = .ok (.iconst 0, 1) := by decide +kernel
theorem dX5_isBasket_3 : decode cX5_isBasket 3 = .ok (.istore_n 3, 1) := by decide +kernel
theorem dX5_isBasket_4 : decode cX5_isBasket 4 = .ok (.iload_n 3, 1) := by decide +kernel
theorem dX5_isBasket_5 : decode cX5_isBasket 5 = .ok (.aload_n 0, 1) := by decide +kernel
theorem dX5_isBasket_6 : decode cX5_isBasket 6 = .ok (.getfield 16, 3) := by decide +kernel
theorem dX5_isBasket_9 : decode cX5_isBasket 9 = .ok (.if_icmp .ge 24, 3) := by decide +kernel
theorem dX5_isBasket_12 : decode cX5_isBasket 12 = .ok (.iload_n 2, 1) := by decide +kernel
theorem dX5_isBasket_13 : decode cX5_isBasket 13 = .ok (.bipush 10, 2) := by decide +kernel
theorem dX5_isBasket_15 : decode cX5_isBasket 15 = .ok (.irem, 1) := by decide +kernel
theorem dX5_isBasket_16 : decode cX5_isBasket 16 = .ok (.iconst 3, 1) := by decide +kernel
theorem dX5_isBasket_17 : decode cX5_isBasket 17 = .ok (.if_icmp .le 5, 3) := by decide +kernel
theorem dX5_isBasket_20 : decode cX5_isBasket 20 = .ok (.iconst 0, 1) := by decide +kernel
theorem dX5_isBasket_21 : decode cX5_isBasket 21 = .ok (.ireturn, 1) := by decide +kernel
theorem dX5_isBasket_22 : decode cX5_isBasket 22 = .ok (.iload_n 2, 1) := by decide +kernel
theorem dX5_isBasket_23 : decode cX5_isBasket 23 = .ok (.bipush 10, 2) := by decide +kernel
theorem dX5_isBasket_25 : decode cX5_isBasket 25 = .ok (.idiv, 1) := by decide +kernel
theorem dX5_isBasket_26 : decode cX5_isBasket 26 = .ok (.istore_n 2, 1) := by decide +kernel
theorem dX5_isBasket_27 : decode cX5_isBasket 27 = .ok (.iinc 3 1, 3) := by decide +kernel
theorem dX5_isBasket_30 : decode cX5_isBasket 30 = .ok (.goto (-26), 3) := by decide +kernel
theorem dX5_isBasket_33 : decode cX5_isBasket 33 = .ok (.iload_n 1, 1) := by decide +kernel
theorem dX5_isBasket_34 : decode cX5_isBasket 34 = .ok (.ifCond .lt 11, 3) := by decide +kernel
theorem dX5_isBasket_37 : decode cX5_isBasket 37 = .ok (.iload_n 2, 1) := by decide +kernel
theorem dX5_isBasket_38 : decode cX5_isBasket 38 = .ok (.ifCond .ne 7, 3) := by decide +kernel
theorem dX5_isBasket_41 : decode cX5_isBasket 41 = .ok (.iconst 1, 1) := by decide +kernel
theorem dX5_isBasket_42 : decode cX5_isBasket 42 = .ok (.goto 4, 3) := by decide +kernel
theorem dX5_isBasket_45 : decode cX5_isBasket 45 = .ok (.iconst 0, 1) := by decide +kernel
theorem dX5_isBasket_46 : decode cX5_isBasket 46 = .ok (.ireturn, 1) := by decide +kernel
theorem dX6_init_0 : decode cX6_init 0 = .ok (.aload_n 0, 1) := by decide +kernel
theorem dX6_init_1 : decode cX6_init 1 = .ok (.invokespecial 3, 3) := by decide +kernel
theorem dX6_init_4 : decode cX6_init 4 = .ok (.aload_n 0, 1) := by decide +kernel
theorem dX6_init_5 : decode cX6_init 5 = .ok (.bipush 120, 2) := by decide +kernel
theorem dX6_init_7 : decode cX6_init 7 = .ok (.newarray .int, 2) := by decide +kernel
theorem dX6_init_9 : decode cX6_init 9 = .ok (.putfield 9, 3) := by decide +kernel
theorem dX6_init_12 : decode cX6_init 12 = .ok (.aload_n 0, 1) := by decide +kernel
theorem dX6_init_13 : decode cX6_init 13 = .ok (.bipush 121, 2) := by decide +kernel
theorem dX6_init_15 : decode cX6_init 15 = .ok (.newarray .int, 2) := by decide +kernel
theorem dX6_init_17 : decode cX6_init 17 = .ok (.putfield 15, 3) := by decide +kernel
theorem dX6_init_20 : decode cX6_init 20 = .ok (.return_, 1) := by decide +kernel
theorem dX6_take_0 : decode cX6_take 0 = .ok (.aload_n 0, 1) := by decide +kernel
theorem dX6_take_1 : decode cX6_take 1 = .ok (.getfield 18, 3) := by decide +kernel
theorem dX6_take_4 : decode cX6_take 4 = .ok (.iload_n 1, 1) := by decide +kernel
theorem dX6_take_5 : decode cX6_take 5 = .ok (.iadd, 1) := by decide +kernel
theorem dX6_take_6 : decode cX6_take 6 = .ok (.bipush 120, 2) := by decide +kernel
theorem dX6_take_8 : decode cX6_take 8 = .ok (.if_icmp .le 6, 3) := by decide +kernel
theorem dX6_take_11 : decode cX6_take 11 = .ok (.bipush (-3), 2) := by decide +kernel
theorem dX6_take_13 : decode cX6_take 13 = .ok (.ireturn, 1) := by decide +kernel
theorem dX6_take_14 : decode cX6_take 14 = .ok (.iconst 0, 1) := by decide +kernel
theorem dX6_take_15 : decode cX6_take 15 = .ok (.istore_n 3, 1) := by decide +kernel
theorem dX6_take_16 : decode cX6_take 16 = .ok (.iload_n 3, 1) := by decide +kernel
theorem dX6_take_17 : decode cX6_take 17 = .ok (.iload_n 1, 1) := by decide +kernel
theorem dX6_take_18 : decode cX6_take 18 = .ok (.if_icmp .ge 47, 3) := by decide +kernel
theorem dX6_take_21 : decode cX6_take 21 = .ok (.aload_n 0, 1) := by decide +kernel
theorem dX6_take_22 : decode cX6_take 22 = .ok (.getfield 18, 3) := by decide +kernel
theorem dX6_take_25 : decode cX6_take 25 = .ok (.bipush 120, 2) := by decide +kernel
theorem dX6_take_27 : decode cX6_take 27 = .ok (.if_icmp .ge 38, 3) := by decide +kernel
theorem dX6_take_30 : decode cX6_take 30 = .ok (.aload_n 0, 1) := by decide +kernel
theorem dX6_take_31 : decode cX6_take 31 = .ok (.getfield 9, 3) := by decide +kernel
theorem dX6_take_34 : decode cX6_take 34 = .ok (.aload_n 0, 1) := by decide +kernel
theorem dX6_take_35 : decode cX6_take 35 = .ok (.getfield 18, 3) := by decide +kernel
theorem dX6_take_38 : decode cX6_take 38 = .ok (.iload_n 2, 1) := by decide +kernel
theorem dX6_take_39 : decode cX6_take 39 = .ok (.bipush 8, 2) := by decide +kernel
theorem dX6_take_41 : decode cX6_take 41 = .ok (.iload_n 3, 1) := by decide +kernel
theorem dX6_take_42 : decode cX6_take 42 = .ok (.imul, 1) := by decide +kernel
theorem dX6_take_43 : decode cX6_take 43 = .ok (.ishr, 1) := by decide +kernel
theorem dX6_take_44 : decode cX6_take 44 = .ok (.sipush 255, 3) := by decide +kernel
theorem dX6_take_47 : decode cX6_take 47 = .ok (.iand, 1) := by decide +kernel
theorem dX6_take_48 : decode cX6_take 48 = .ok (.iastore, 1) := by decide +kernel
theorem dX6_take_49 : decode cX6_take 49 = .ok (.aload_n 0, 1) := by decide +kernel
theorem dX6_take_50 : decode cX6_take 50 = .ok (.dup, 1) := by decide +kernel
theorem dX6_take_51 : decode cX6_take 51 = .ok (.getfield 18, 3) := by decide +kernel
theorem dX6_take_54 : decode cX6_take 54 = .ok (.iconst 1, 1) := by decide +kernel
theorem dX6_take_55 : decode cX6_take 55 = .ok (.iadd, 1) := by decide +kernel
theorem dX6_take_56 : decode cX6_take 56 = .ok (.putfield 18, 3) := by decide +kernel
theorem dX6_take_59 : decode cX6_take 59 = .ok (.iinc 3 1, 3) := by decide +kernel
theorem dX6_take_62 : decode cX6_take 62 = .ok (.goto (-46), 3) := by decide +kernel
theorem dX6_take_65 : decode cX6_take 65 = .ok (.aload_n 0, 1) := by decide +kernel
theorem dX6_take_66 : decode cX6_take 66 = .ok (.getfield 18, 3) := by decide +kernel
theorem dX6_take_69 : decode cX6_take 69 = .ok (.ireturn, 1) := by decide +kernel
theorem dX6_empty_0 : decode cX6_empty 0 = .ok (.aload_n 0, 1) := by decide +kernel
theorem dX6_empty_1 : decode cX6_empty 1 = .ok (.iconst 0, 1) := by decide +kernel
theorem dX6_empty_2 : decode cX6_empty 2 = .ok (.putfield 18, 3) := by decide +kernel
theorem dX6_empty_5 : decode cX6_empty 5 = .ok (.return_, 1) := by decide +kernel
theorem dX6_place_0 : decode cX6_place 0 = .ok (.aload_n 0, 1) := by decide +kernel
theorem dX6_place_1 : decode cX6_place 1 = .ok (.getfield 22, 3) := by decide +kernel
theorem dX6_place_4 : decode cX6_place 4 = .ok (.ireturn, 1) := by decide +kernel
theorem dX6_size_0 : decode cX6_size 0 = .ok (.aload_n 0, 1) := by decide +kernel
theorem dX6_size_1 : decode cX6_size 1 = .ok (.getfield 25, 3) := by decide +kernel
theorem dX6_size_4 : decode cX6_size 4 = .ok (.ireturn, 1) := by decide +kernel
theorem dX6_stepAt_0 : decode cX6_stepAt 0 = .ok (.iload_n 1, 1) := by decide +kernel
theorem dX6_stepAt_1 : decode cX6_stepAt 1 = .ok (.iconst 0, 1) := by decide +kernel
theorem dX6_stepAt_2 : decode cX6_stepAt 2 = .ok (.bipush 120, 2) := by decide +kernel
theorem dX6_stepAt_4 : decode cX6_stepAt 4 = .ok (.invokestatic 28, 3) := by decide +kernel
theorem dX6_stepAt_7 : decode cX6_stepAt 7 = .ok (.ifCond .eq 12, 3) := by decide +kernel
theorem dX6_stepAt_10 : decode cX6_stepAt 10 = .ok (.aload_n 0, 1) := by decide +kernel
theorem dX6_stepAt_11 : decode cX6_stepAt 11 = .ok (.getfield 15, 3) := by decide +kernel
theorem dX6_stepAt_14 : decode cX6_stepAt 14 = .ok (.iload_n 1, 1) := by decide +kernel
theorem dX6_stepAt_15 : decode cX6_stepAt 15 = .ok (.iaload, 1) := by decide +kernel
theorem dX6_stepAt_16 : decode cX6_stepAt 16 = .ok (.goto 4, 3) := by decide +kernel
theorem dX6_stepAt_19 : decode cX6_stepAt 19 = .ok (.iconst 0, 1) := by decide +kernel
theorem dX6_stepAt_20 : decode cX6_stepAt 20 = .ok (.ireturn, 1) := by decide +kernel
theorem dX6_reads_0 : decode cX6_reads 0 = .ok (.aload_n 0, 1) := by decide +kernel
theorem dX6_reads_1 : decode cX6_reads 1 = .ok (.iconst 0, 1) := by decide +kernel
theorem dX6_reads_2 : decode cX6_reads 2 = .ok (.putfield 22, 3) := by decide +kernel
theorem dX6_reads_5 : decode cX6_reads 5 = .ok (.aload_n 0, 1) := by decide +kernel
theorem dX6_reads_6 : decode cX6_reads 6 = .ok (.iconst 0, 1) := by decide +kernel
theorem dX6_reads_7 : decode cX6_reads 7 = .ok (.putfield 25, 3) := by decide +kernel
theorem dX6_reads_10 : decode cX6_reads 10 = .ok (.aload_n 0, 1) := by decide +kernel
theorem dX6_reads_11 : decode cX6_reads 11 = .ok (.invokevirtual 32, 3) := by decide +kernel
theorem dX6_reads_14 : decode cX6_reads 14 = .ok (.istore_n 1, 1) := by decide +kernel
theorem dX6_reads_15 : decode cX6_reads 15 = .ok (.iconst 0, 1) := by decide +kernel
theorem dX6_reads_16 : decode cX6_reads 16 = .ok (.istore_n 2, 1) := by decide +kernel
theorem dX6_reads_17 : decode cX6_reads 17 = .ok (.iload_n 1, 1) := by decide +kernel
theorem dX6_reads_18 : decode cX6_reads 18 = .ok (.ifCond .eq 39, 3) := by decide +kernel
theorem dX6_reads_21 : decode cX6_reads 21 = .ok (.iload_n 2, 1) := by decide +kernel
theorem dX6_reads_22 : decode cX6_reads 22 = .ok (.bipush 120, 2) := by decide +kernel
theorem dX6_reads_24 : decode cX6_reads 24 = .ok (.if_icmp .ge 33, 3) := by decide +kernel
theorem dX6_reads_27 : decode cX6_reads 27 = .ok (.aload_n 0, 1) := by decide +kernel
theorem dX6_reads_28 : decode cX6_reads 28 = .ok (.invokevirtual 36, 3) := by decide +kernel
theorem dX6_reads_31 : decode cX6_reads 31 = .ok (.bipush 59, 2) := by decide +kernel
theorem dX6_reads_33 : decode cX6_reads 33 = .ok (.if_icmp .ne 24, 3) := by decide +kernel
theorem dX6_reads_36 : decode cX6_reads 36 = .ok (.aload_n 0, 1) := by decide +kernel
theorem dX6_reads_37 : decode cX6_reads 37 = .ok (.dup, 1) := by decide +kernel
theorem dX6_reads_38 : decode cX6_reads 38 = .ok (.getfield 22, 3) := by decide +kernel
theorem dX6_reads_41 : decode cX6_reads 41 = .ok (.iconst 1, 1) := by decide +kernel
theorem dX6_reads_42 : decode cX6_reads 42 = .ok (.iadd, 1) := by decide +kernel
theorem dX6_reads_43 : decode cX6_reads 43 = .ok (.putfield 22, 3) := by decide +kernel
theorem dX6_reads_46 : decode cX6_reads 46 = .ok (.aload_n 0, 1) := by decide +kernel
theorem dX6_reads_47 : decode cX6_reads 47 = .ok (.invokevirtual 32, 3) := by decide +kernel
theorem dX6_reads_50 : decode cX6_reads 50 = .ok (.istore_n 1, 1) := by decide +kernel
theorem dX6_reads_51 : decode cX6_reads 51 = .ok (.iinc 2 1, 3) := by decide +kernel
theorem dX6_reads_54 : decode cX6_reads 54 = .ok (.goto (-37), 3) := by decide +kernel
theorem dX6_reads_57 : decode cX6_reads 57 = .ok (.iload_n 1, 1) := by decide +kernel
theorem dX6_reads_58 : decode cX6_reads 58 = .ok (.ifCond .eq 18, 3) := by decide +kernel
theorem dX6_reads_61 : decode cX6_reads 61 = .ok (.aload_n 0, 1) := by decide +kernel
theorem dX6_reads_62 : decode cX6_reads 62 = .ok (.getfield 22, 3) := by decide +kernel
theorem dX6_reads_65 : decode cX6_reads 65 = .ok (.aload_n 0, 1) := by decide +kernel
theorem dX6_reads_66 : decode cX6_reads 66 = .ok (.getfield 18, 3) := by decide +kernel
theorem dX6_reads_69 : decode cX6_reads 69 = .ok (.if_icmp .ne 7, 3) := by decide +kernel
theorem dX6_reads_72 : decode cX6_reads 72 = .ok (.iconst 1, 1) := by decide +kernel
theorem dX6_reads_73 : decode cX6_reads 73 = .ok (.goto 4, 3) := by decide +kernel
theorem dX6_reads_76 : decode cX6_reads 76 = .ok (.iconst 0, 1) := by decide +kernel
theorem dX6_reads_77 : decode cX6_reads 77 = .ok (.ireturn, 1) := by decide +kernel
theorem dX6_readLine_0 : decode cX6_readLine 0 = .ok (.aload_n 0, 1) := by decide +kernel
theorem dX6_readLine_1 : decode cX6_readLine 1 = .ok (.iconst 0, 1) := by decide +kernel
theorem dX6_readLine_2 : decode cX6_readLine 2 = .ok (.iconst 0, 1) := by decide +kernel
theorem dX6_readLine_3 : decode cX6_readLine 3 = .ok (.invokevirtual 40, 3) := by decide +kernel
theorem dX6_readLine_6 : decode cX6_readLine 6 = .ok (.istore_n 1, 1) := by decide +kernel
theorem dX6_readLine_7 : decode cX6_readLine 7 = .ok (.iload_n 1, 1) := by decide +kernel
theorem dX6_readLine_8 : decode cX6_readLine 8 = .ok (.ifCond .eq 35, 3) := by decide +kernel
theorem dX6_readLine_11 : decode cX6_readLine 11 = .ok (.aload_n 0, 1) := by decide +kernel
theorem dX6_readLine_12 : decode cX6_readLine 12 = .ok (.invokevirtual 36, 3) := by decide +kernel
theorem dX6_readLine_15 : decode cX6_readLine 15 = .ok (.bipush 63, 2) := by decide +kernel
theorem dX6_readLine_17 : decode cX6_readLine 17 = .ok (.if_icmp .ne 26, 3) := by decide +kernel
theorem dX6_readLine_20 : decode cX6_readLine 20 = .ok (.aload_n 0, 1) := by decide +kernel
theorem dX6_readLine_21 : decode cX6_readLine 21 = .ok (.dup, 1) := by decide +kernel
theorem dX6_readLine_22 : decode cX6_readLine 22 = .ok (.getfield 22, 3) := by decide +kernel
theorem dX6_readLine_25 : decode cX6_readLine 25 = .ok (.iconst 1, 1) := by decide +kernel
theorem dX6_readLine_26 : decode cX6_readLine 26 = .ok (.iadd, 1) := by decide +kernel
theorem dX6_readLine_27 : decode cX6_readLine 27 = .ok (.putfield 22, 3) := by decide +kernel
theorem dX6_readLine_30 : decode cX6_readLine 30 = .ok (.aload_n 0, 1) := by decide +kernel
theorem dX6_readLine_31 : decode cX6_readLine 31 = .ok (.bipush (-63), 2) := by decide +kernel
theorem dX6_readLine_33 : decode cX6_readLine 33 = .ok (.invokevirtual 44, 3) := by decide +kernel
theorem dX6_readLine_36 : decode cX6_readLine 36 = .ok (.aload_n 0, 1) := by decide +kernel
theorem dX6_readLine_37 : decode cX6_readLine 37 = .ok (.iconst 0, 1) := by decide +kernel
theorem dX6_readLine_38 : decode cX6_readLine 38 = .ok (.iconst 0, 1) := by decide +kernel
theorem dX6_readLine_39 : decode cX6_readLine 39 = .ok (.invokevirtual 40, 3) := by decide +kernel
theorem dX6_readLine_42 : decode cX6_readLine 42 = .ok (.istore_n 1, 1) := by decide +kernel
theorem dX6_readLine_43 : decode cX6_readLine 43 = .ok (.aload_n 0, 1) := by decide +kernel
theorem dX6_readLine_44 : decode cX6_readLine 44 = .ok (.bipush (-59), 2) := by decide +kernel
theorem dX6_readLine_46 : decode cX6_readLine 46 = .ok (.invokevirtual 44, 3) := by decide +kernel
theorem dX6_readLine_49 : decode cX6_readLine 49 = .ok (.iload_n 1, 1) := by decide +kernel
theorem dX6_readLine_50 : decode cX6_readLine 50 = .ok (.ireturn, 1) := by decide +kernel
theorem dX6_readLevel_0 : decode cX6_readLevel 0 = .ok (.iload_n 1, 1) := by decide +kernel
theorem dX6_readLevel_1 : decode cX6_readLevel 1 = .ok (.iconst 5, 1) := by decide +kernel
theorem dX6_readLevel_2 : decode cX6_readLevel 2 = .ok (.if_icmp .lt 9, 3) := by decide +kernel
theorem dX6_readLevel_5 : decode cX6_readLevel 5 = .ok (.aload_n 0, 1) := by decide +kernel
theorem dX6_readLevel_6 : decode cX6_readLevel 6 = .ok (.iload_n 2, 1) := by decide +kernel
theorem dX6_readLevel_7 : decode cX6_readLevel 7 = .ok (.invokevirtual 48, 3) := by decide +kernel
theorem dX6_readLevel_10 : decode cX6_readLevel 10 = .ok (.ireturn, 1) := by decide +kernel
theorem dX6_readLevel_11 : decode cX6_readLevel 11 = .ok (.aload_n 0, 1) := by decide +kernel
theorem dX6_readLevel_12 : decode cX6_readLevel 12 = .ok (.iload_n 1, 1) := by decide +kernel
theorem dX6_readLevel_13 : decode cX6_readLevel 13 = .ok (.iconst 1, 1) := by decide +kernel
theorem dX6_readLevel_14 : decode cX6_readLevel 14 = .ok (.iadd, 1) := by decide +kernel
theorem dX6_readLevel_15 : decode cX6_readLevel 15 = .ok (.iload_n 2, 1) := by decide +kernel
theorem dX6_readLevel_16 : decode cX6_readLevel 16 = .ok (.invokevirtual 40, 3) := by decide +kernel
theorem dX6_readLevel_19 : decode cX6_readLevel 19 = .ok (.istore_n 3, 1) := by decide +kernel
theorem dX6_readLevel_20 : decode cX6_readLevel 20 = .ok (.iload_n 1, 1) := by decide +kernel
theorem dX6_readLevel_21 : decode cX6_readLevel 21 = .ok (.iconst 2, 1) := by decide +kernel
theorem dX6_readLevel_22 : decode cX6_readLevel 22 = .ok (.if_icmp .ne 7, 3) := by decide +kernel
theorem dX6_readLevel_25 : decode cX6_readLevel 25 = .ok (.iconst 1, 1) := by decide +kernel
theorem dX6_readLevel_26 : decode cX6_readLevel 26 = .ok (.goto 5, 3) := by decide +kernel
theorem dX6_readLevel_29 : decode cX6_readLevel 29 = .ok (.bipush 120, 2) := by decide +kernel
theorem dX6_readLevel_31 : decode cX6_readLevel 31 = .ok (.istore 4, 2) := by decide +kernel
theorem dX6_readLevel_33 : decode cX6_readLevel 33 = .ok (.iconst 0, 1) := by decide +kernel
theorem dX6_readLevel_34 : decode cX6_readLevel 34 = .ok (.istore 5, 2) := by decide +kernel
theorem dX6_readLevel_36 : decode cX6_readLevel 36 = .ok (.iload_n 3, 1) := by decide +kernel
theorem dX6_readLevel_37 : decode cX6_readLevel 37 = .ok (.ifCond .eq 59, 3) := by decide +kernel
theorem dX6_readLevel_40 : decode cX6_readLevel 40 = .ok (.iload 5, 2) := by decide +kernel
theorem dX6_readLevel_42 : decode cX6_readLevel 42 = .ok (.iload 4, 2) := by decide +kernel
theorem dX6_readLevel_44 : decode cX6_readLevel 44 = .ok (.if_icmp .ge 52, 3) := by decide +kernel
theorem dX6_readLevel_47 : decode cX6_readLevel 47 = .ok (.aload_n 0, 1) := by decide +kernel
theorem dX6_readLevel_48 : decode cX6_readLevel 48 = .ok (.invokevirtual 36, 3) := by decide +kernel
theorem dX6_readLevel_51 : decode cX6_readLevel 51 = .ok (.invokestatic 52, 3) := by decide +kernel
theorem dX6_readLevel_54 : decode cX6_readLevel 54 = .ok (.iload_n 1, 1) := by decide +kernel
theorem dX6_readLevel_55 : decode cX6_readLevel 55 = .ok (.if_icmp .ne 41, 3) := by decide +kernel
theorem dX6_readLevel_58 : decode cX6_readLevel 58 = .ok (.aload_n 0, 1) := by decide +kernel
theorem dX6_readLevel_59 : decode cX6_readLevel 59 = .ok (.invokevirtual 36, 3) := by decide +kernel
theorem dX6_readLevel_62 : decode cX6_readLevel 62 = .ok (.istore 6, 2) := by decide +kernel
theorem dX6_readLevel_64 : decode cX6_readLevel 64 = .ok (.aload_n 0, 1) := by decide +kernel
theorem dX6_readLevel_65 : decode cX6_readLevel 65 = .ok (.dup, 1) := by decide +kernel
theorem dX6_readLevel_66 : decode cX6_readLevel 66 = .ok (.getfield 22, 3) := by decide +kernel
theorem dX6_readLevel_69 : decode cX6_readLevel 69 = .ok (.iconst 1, 1) := by decide +kernel
theorem dX6_readLevel_70 : decode cX6_readLevel 70 = .ok (.iadd, 1) := by decide +kernel
theorem dX6_readLevel_71 : decode cX6_readLevel 71 = .ok (.putfield 22, 3) := by decide +kernel
theorem dX6_readLevel_74 : decode cX6_readLevel 74 = .ok (.aload_n 0, 1) := by decide +kernel
theorem dX6_readLevel_75 : decode cX6_readLevel 75 = .ok (.iload_n 1, 1) := by decide +kernel
theorem dX6_readLevel_76 : decode cX6_readLevel 76 = .ok (.iconst 1, 1) := by decide +kernel
theorem dX6_readLevel_77 : decode cX6_readLevel 77 = .ok (.iadd, 1) := by decide +kernel
theorem dX6_readLevel_78 : decode cX6_readLevel 78 = .ok (.iload_n 2, 1) := by decide +kernel
theorem dX6_readLevel_79 : decode cX6_readLevel 79 = .ok (.invokevirtual 40, 3) := by decide +kernel
theorem dX6_readLevel_82 : decode cX6_readLevel 82 = .ok (.istore_n 3, 1) := by decide +kernel
theorem dX6_readLevel_83 : decode cX6_readLevel 83 = .ok (.aload_n 0, 1) := by decide +kernel
theorem dX6_readLevel_84 : decode cX6_readLevel 84 = .ok (.iload 6, 2) := by decide +kernel
theorem dX6_readLevel_86 : decode cX6_readLevel 86 = .ok (.ineg, 1) := by decide +kernel
theorem dX6_readLevel_87 : decode cX6_readLevel 87 = .ok (.invokevirtual 44, 3) := by decide +kernel
theorem dX6_readLevel_90 : decode cX6_readLevel 90 = .ok (.iinc 5 1, 3) := by decide +kernel
theorem dX6_readLevel_93 : decode cX6_readLevel 93 = .ok (.goto (-57), 3) := by decide +kernel
theorem dX6_readLevel_96 : decode cX6_readLevel 96 = .ok (.iload_n 3, 1) := by decide +kernel
theorem dX6_readLevel_97 : decode cX6_readLevel 97 = .ok (.ireturn, 1) := by decide +kernel
theorem dX6_readOne_0 : decode cX6_readOne 0 = .ok (.aload_n 0, 1) := by decide +kernel
theorem dX6_readOne_1 : decode cX6_readOne 1 = .ok (.invokevirtual 36, 3) := by decide +kernel
theorem dX6_readOne_4 : decode cX6_readOne 4 = .ok (.istore_n 2, 1) := by decide +kernel
theorem dX6_readOne_5 : decode cX6_readOne 5 = .ok (.iload_n 2, 1) := by decide +kernel
theorem dX6_readOne_6 : decode cX6_readOne 6 = .ok (.bipush 48, 2) := by decide +kernel
theorem dX6_readOne_8 : decode cX6_readOne 8 = .ok (.bipush 57, 2) := by decide +kernel
theorem dX6_readOne_10 : decode cX6_readOne 10 = .ok (.invokestatic 28, 3) := by decide +kernel
theorem dX6_readOne_13 : decode cX6_readOne 13 = .ok (.ifCond .eq 9, 3) := by decide +kernel
theorem dX6_readOne_16 : decode cX6_readOne 16 = .ok (.aload_n 0, 1) := by decide +kernel
theorem dX6_readOne_17 : decode cX6_readOne 17 = .ok (.invokevirtual 56, 3) := by decide +kernel
theorem dX6_readOne_20 : decode cX6_readOne 20 = .ok (.iconst 1, 1) := by decide +kernel
theorem dX6_readOne_21 : decode cX6_readOne 21 = .ok (.ireturn, 1) := by decide +kernel
theorem dX6_readOne_22 : decode cX6_readOne 22 = .ok (.iload_n 2, 1) := by decide +kernel
theorem dX6_readOne_23 : decode cX6_readOne 23 = .ok (.invokestatic 59, 3) := by decide +kernel
theorem dX6_readOne_26 : decode cX6_readOne 26 = .ok (.ifCond .eq 21, 3) := by decide +kernel
theorem dX6_readOne_29 : decode cX6_readOne 29 = .ok (.aload_n 0, 1) := by decide +kernel
theorem dX6_readOne_30 : decode cX6_readOne 30 = .ok (.dup, 1) := by decide +kernel
theorem dX6_readOne_31 : decode cX6_readOne 31 = .ok (.getfield 22, 3) := by decide +kernel
theorem dX6_readOne_34 : decode cX6_readOne 34 = .ok (.iconst 1, 1) := by decide +kernel
theorem dX6_readOne_35 : decode cX6_readOne 35 = .ok (.iadd, 1) := by decide +kernel
theorem dX6_readOne_36 : decode cX6_readOne 36 = .ok (.putfield 22, 3) := by decide +kernel
theorem dX6_readOne_39 : decode cX6_readOne 39 = .ok (.aload_n 0, 1) := by decide +kernel
theorem dX6_readOne_40 : decode cX6_readOne 40 = .ok (.iload_n 2, 1) := by decide +kernel
theorem dX6_readOne_41 : decode cX6_readOne 41 = .ok (.ineg, 1) := by decide +kernel
theorem dX6_readOne_42 : decode cX6_readOne 42 = .ok (.invokevirtual 44, 3) := by decide +kernel
theorem dX6_readOne_45 : decode cX6_readOne 45 = .ok (.iconst 1, 1) := by decide +kernel
theorem dX6_readOne_46 : decode cX6_readOne 46 = .ok (.ireturn, 1) := by decide +kernel
theorem dX6_readOne_47 : decode cX6_readOne 47 = .ok (.iload_n 2, 1) := by decide +kernel
theorem dX6_readOne_48 : decode cX6_readOne 48 = .ok (.bipush 33, 2) := by decide +kernel
theorem dX6_readOne_50 : decode cX6_readOne 50 = .ok (.if_icmp .eq 15, 3) := by decide +kernel
theorem dX6_readOne_53 : decode cX6_readOne 53 = .ok (.iload_n 2, 1) := by decide +kernel
theorem dX6_readOne_54 : decode cX6_readOne 54 = .ok (.bipush 45, 2) := by decide +kernel
theorem dX6_readOne_56 : decode cX6_readOne 56 = .ok (.if_icmp .eq 9, 3) := by decide +kernel
theorem dX6_readOne_59 : decode cX6_readOne 59 = .ok (.iload_n 2, 1) := by decide +kernel
theorem dX6_readOne_60 : decode cX6_readOne 60 = .ok (.bipush 40, 2) := by decide +kernel
theorem dX6_readOne_62 : decode cX6_readOne 62 = .ok (.if_icmp .ne 9, 3) := by decide +kernel
theorem dX6_readOne_65 : decode cX6_readOne 65 = .ok (.iload_n 1, 1) := by decide +kernel
theorem dX6_readOne_66 : decode cX6_readOne 66 = .ok (.bipush 6, 2) := by decide +kernel
theorem dX6_readOne_68 : decode cX6_readOne 68 = .ok (.if_icmp .lt 5, 3) := by decide +kernel
theorem dX6_readOne_71 : decode cX6_readOne 71 = .ok (.iconst 0, 1) := by decide +kernel
theorem dX6_readOne_72 : decode cX6_readOne 72 = .ok (.ireturn, 1) := by decide +kernel
theorem dX6_readOne_73 : decode cX6_readOne 73 = .ok (.aload_n 0, 1) := by decide +kernel
theorem dX6_readOne_74 : decode cX6_readOne 74 = .ok (.dup, 1) := by decide +kernel
theorem dX6_readOne_75 : decode cX6_readOne 75 = .ok (.getfield 22, 3) := by decide +kernel
theorem dX6_readOne_78 : decode cX6_readOne 78 = .ok (.iconst 1, 1) := by decide +kernel
theorem dX6_readOne_79 : decode cX6_readOne 79 = .ok (.iadd, 1) := by decide +kernel
theorem dX6_readOne_80 : decode cX6_readOne 80 = .ok (.putfield 22, 3) := by decide +kernel
theorem dX6_readOne_83 : decode cX6_readOne 83 = .ok (.iload_n 2, 1) := by decide +kernel
theorem dX6_readOne_84 : decode cX6_readOne 84 = .ok (.bipush 40, 2) := by decide +kernel
theorem dX6_readOne_86 : decode cX6_readOne 86 = .ok (.if_icmp .ne 13, 3) := by decide +kernel
theorem dX6_readOne_89 : decode cX6_readOne 89 = .ok (.aload_n 0, 1) := by decide +kernel
theorem dX6_readOne_90 : decode cX6_readOne 90 = .ok (.iload_n 1, 1) := by decide +kernel
theorem dX6_readOne_91 : decode cX6_readOne 91 = .ok (.iconst 1, 1) := by decide +kernel
theorem dX6_readOne_92 : decode cX6_readOne 92 = .ok (.iadd, 1) := by decide +kernel
theorem dX6_readOne_93 : decode cX6_readOne 93 = .ok (.invokevirtual 62, 3) := by decide +kernel
theorem dX6_readOne_96 : decode cX6_readOne 96 = .ok (.goto 11, 3) := by decide +kernel
theorem dX6_readOne_99 : decode cX6_readOne 99 = .ok (.aload_n 0, 1) := by decide +kernel
theorem dX6_readOne_100 : decode cX6_readOne 100 = .ok (.iload_n 2, 1) := by decide +kernel
theorem dX6_readOne_101 : decode cX6_readOne 101 = .ok (.iload_n 1, 1) := by decide +kernel
theorem dX6_readOne_102 : decode cX6_readOne 102 = .ok (.iconst 1, 1) := by decide +kernel
theorem dX6_readOne_103 : decode cX6_readOne 103 = .ok (.iadd, 1) := by decide +kernel
theorem dX6_readOne_104 : decode cX6_readOne 104 = .ok (.invokevirtual 65, 3) := by decide +kernel
theorem dX6_readOne_107 : decode cX6_readOne 107 = .ok (.ireturn, 1) := by decide +kernel
theorem dX6_readInside_0 : decode cX6_readInside 0 = .ok (.aload_n 0, 1) := by decide +kernel
theorem dX6_readInside_1 : decode cX6_readInside 1 = .ok (.iconst 0, 1) := by decide +kernel
theorem dX6_readInside_2 : decode cX6_readInside 2 = .ok (.iload_n 1, 1) := by decide +kernel
theorem dX6_readInside_3 : decode cX6_readInside 3 = .ok (.invokevirtual 40, 3) := by decide +kernel
theorem dX6_readInside_6 : decode cX6_readInside 6 = .ok (.ifCond .eq 12, 3) := by decide +kernel
theorem dX6_readInside_9 : decode cX6_readInside 9 = .ok (.aload_n 0, 1) := by decide +kernel
theorem dX6_readInside_10 : decode cX6_readInside 10 = .ok (.invokevirtual 36, 3) := by decide +kernel
theorem dX6_readInside_13 : decode cX6_readInside 13 = .ok (.bipush 41, 2) := by decide +kernel
theorem dX6_readInside_15 : decode cX6_readInside 15 = .ok (.if_icmp .eq 5, 3) := by decide +kernel
theorem dX6_readInside_18 : decode cX6_readInside 18 = .ok (.iconst 0, 1) := by decide +kernel
theorem dX6_readInside_19 : decode cX6_readInside 19 = .ok (.ireturn, 1) := by decide +kernel
theorem dX6_readInside_20 : decode cX6_readInside 20 = .ok (.aload_n 0, 1) := by decide +kernel
theorem dX6_readInside_21 : decode cX6_readInside 21 = .ok (.dup, 1) := by decide +kernel
theorem dX6_readInside_22 : decode cX6_readInside 22 = .ok (.getfield 22, 3) := by decide +kernel
theorem dX6_readInside_25 : decode cX6_readInside 25 = .ok (.iconst 1, 1) := by decide +kernel
theorem dX6_readInside_26 : decode cX6_readInside 26 = .ok (.iadd, 1) := by decide +kernel
theorem dX6_readInside_27 : decode cX6_readInside 27 = .ok (.putfield 22, 3) := by decide +kernel
theorem dX6_readInside_30 : decode cX6_readInside 30 = .ok (.iconst 1, 1) := by decide +kernel
theorem dX6_readInside_31 : decode cX6_readInside 31 = .ok (.ireturn, 1) := by decide +kernel
theorem dX6_readSigned_0 : decode cX6_readSigned 0 = .ok (.aload_n 0, 1) := by decide +kernel
theorem dX6_readSigned_1 : decode cX6_readSigned 1 = .ok (.iload_n 2, 1) := by decide +kernel
theorem dX6_readSigned_2 : decode cX6_readSigned 2 = .ok (.invokevirtual 48, 3) := by decide +kernel
theorem dX6_readSigned_5 : decode cX6_readSigned 5 = .ok (.istore_n 3, 1) := by decide +kernel
theorem dX6_readSigned_6 : decode cX6_readSigned 6 = .ok (.aload_n 0, 1) := by decide +kernel
theorem dX6_readSigned_7 : decode cX6_readSigned 7 = .ok (.iload_n 1, 1) := by decide +kernel
theorem dX6_readSigned_8 : decode cX6_readSigned 8 = .ok (.bipush 45, 2) := by decide +kernel
theorem dX6_readSigned_10 : decode cX6_readSigned 10 = .ok (.if_icmp .ne 8, 3) := by decide +kernel
theorem dX6_readSigned_13 : decode cX6_readSigned 13 = .ok (.bipush (-126), 2) := by decide +kernel
theorem dX6_readSigned_15 : decode cX6_readSigned 15 = .ok (.goto 5, 3) := by decide +kernel
theorem dX6_readSigned_18 : decode cX6_readSigned 18 = .ok (.iload_n 1, 1) := by decide +kernel
theorem dX6_readSigned_19 : decode cX6_readSigned 19 = .ok (.ineg, 1) := by decide +kernel
theorem dX6_readSigned_20 : decode cX6_readSigned 20 = .ok (.invokevirtual 44, 3) := by decide +kernel
theorem dX6_readSigned_23 : decode cX6_readSigned 23 = .ok (.iload_n 3, 1) := by decide +kernel
theorem dX6_readSigned_24 : decode cX6_readSigned 24 = .ok (.ireturn, 1) := by decide +kernel
theorem dX6_readNumber_0 : decode cX6_readNumber 0 = .ok (.iconst 0, 1) := by decide +kernel
theorem dX6_readNumber_1 : decode cX6_readNumber 1 = .ok (.istore_n 1, 1) := by decide +kernel
theorem dX6_readNumber_2 : decode cX6_readNumber 2 = .ok (.iconst 0, 1) := by decide +kernel
theorem dX6_readNumber_3 : decode cX6_readNumber 3 = .ok (.istore_n 2, 1) := by decide +kernel
theorem dX6_readNumber_4 : decode cX6_readNumber 4 = .ok (.iload_n 2, 1) := by decide +kernel
theorem dX6_readNumber_5 : decode cX6_readNumber 5 = .ok (.iconst 4, 1) := by decide +kernel
theorem dX6_readNumber_6 : decode cX6_readNumber 6 = .ok (.if_icmp .ge 46, 3) := by decide +kernel
theorem dX6_readNumber_9 : decode cX6_readNumber 9 = .ok (.aload_n 0, 1) := by decide +kernel
theorem dX6_readNumber_10 : decode cX6_readNumber 10 = .ok (.invokevirtual 36, 3) := by decide +kernel
theorem dX6_readNumber_13 : decode cX6_readNumber 13 = .ok (.bipush 48, 2) := by decide +kernel
theorem dX6_readNumber_15 : decode cX6_readNumber 15 = .ok (.bipush 57, 2) := by decide +kernel
theorem dX6_readNumber_17 : decode cX6_readNumber 17 = .ok (.invokestatic 28, 3) := by decide +kernel
theorem dX6_readNumber_20 : decode cX6_readNumber 20 = .ok (.ifCond .eq 32, 3) := by decide +kernel
theorem dX6_readNumber_23 : decode cX6_readNumber 23 = .ok (.iload_n 1, 1) := by decide +kernel
theorem dX6_readNumber_24 : decode cX6_readNumber 24 = .ok (.bipush 10, 2) := by decide +kernel
theorem dX6_readNumber_26 : decode cX6_readNumber 26 = .ok (.imul, 1) := by decide +kernel
theorem dX6_readNumber_27 : decode cX6_readNumber 27 = .ok (.aload_n 0, 1) := by decide +kernel
theorem dX6_readNumber_28 : decode cX6_readNumber 28 = .ok (.invokevirtual 36, 3) := by decide +kernel
theorem dX6_readNumber_31 : decode cX6_readNumber 31 = .ok (.iadd, 1) := by decide +kernel
theorem dX6_readNumber_32 : decode cX6_readNumber 32 = .ok (.bipush 48, 2) := by decide +kernel
theorem dX6_readNumber_34 : decode cX6_readNumber 34 = .ok (.isub, 1) := by decide +kernel
theorem dX6_readNumber_35 : decode cX6_readNumber 35 = .ok (.istore_n 1, 1) := by decide +kernel
theorem dX6_readNumber_36 : decode cX6_readNumber 36 = .ok (.aload_n 0, 1) := by decide +kernel
theorem dX6_readNumber_37 : decode cX6_readNumber 37 = .ok (.dup, 1) := by decide +kernel
theorem dX6_readNumber_38 : decode cX6_readNumber 38 = .ok (.getfield 22, 3) := by decide +kernel
theorem dX6_readNumber_41 : decode cX6_readNumber 41 = .ok (.iconst 1, 1) := by decide +kernel
theorem dX6_readNumber_42 : decode cX6_readNumber 42 = .ok (.iadd, 1) := by decide +kernel
theorem dX6_readNumber_43 : decode cX6_readNumber 43 = .ok (.putfield 22, 3) := by decide +kernel
theorem dX6_readNumber_46 : decode cX6_readNumber 46 = .ok (.iinc 2 1, 3) := by decide +kernel
theorem dX6_readNumber_49 : decode cX6_readNumber 49 = .ok (.goto (-45), 3) := by decide +kernel
theorem dX6_readNumber_52 : decode cX6_readNumber 52 = .ok (.aload_n 0, 1) := by decide +kernel
theorem dX6_readNumber_53 : decode cX6_readNumber 53 = .ok (.iload_n 1, 1) := by decide +kernel
theorem dX6_readNumber_54 : decode cX6_readNumber 54 = .ok (.invokevirtual 44, 3) := by decide +kernel
theorem dX6_readNumber_57 : decode cX6_readNumber 57 = .ok (.return_, 1) := by decide +kernel
theorem dX6_here_0 : decode cX6_here 0 = .ok (.aload_n 0, 1) := by decide +kernel
theorem dX6_here_1 : decode cX6_here 1 = .ok (.getfield 22, 3) := by decide +kernel
theorem dX6_here_4 : decode cX6_here 4 = .ok (.aload_n 0, 1) := by decide +kernel
theorem dX6_here_5 : decode cX6_here 5 = .ok (.getfield 18, 3) := by decide +kernel
theorem dX6_here_8 : decode cX6_here 8 = .ok (.if_icmp .ge 24, 3) := by decide +kernel
theorem dX6_here_11 : decode cX6_here 11 = .ok (.aload_n 0, 1) := by decide +kernel
theorem dX6_here_12 : decode cX6_here 12 = .ok (.getfield 22, 3) := by decide +kernel
theorem dX6_here_15 : decode cX6_here 15 = .ok (.bipush 120, 2) := by decide +kernel
theorem dX6_here_17 : decode cX6_here 17 = .ok (.if_icmp .ge 15, 3) := by decide +kernel
theorem dX6_here_20 : decode cX6_here 20 = .ok (.aload_n 0, 1) := by decide +kernel
theorem dX6_here_21 : decode cX6_here 21 = .ok (.getfield 9, 3) := by decide +kernel
theorem dX6_here_24 : decode cX6_here 24 = .ok (.aload_n 0, 1) := by decide +kernel
theorem dX6_here_25 : decode cX6_here 25 = .ok (.getfield 22, 3) := by decide +kernel
theorem dX6_here_28 : decode cX6_here 28 = .ok (.iaload, 1) := by decide +kernel
theorem dX6_here_29 : decode cX6_here 29 = .ok (.goto 4, 3) := by decide +kernel
theorem dX6_here_32 : decode cX6_here 32 = .ok (.iconst (-1), 1) := by decide +kernel
theorem dX6_here_33 : decode cX6_here 33 = .ok (.ireturn, 1) := by decide +kernel
theorem dX6_write_0 : decode cX6_write 0 = .ok (.aload_n 0, 1) := by decide +kernel
theorem dX6_write_1 : decode cX6_write 1 = .ok (.getfield 25, 3) := by decide +kernel
theorem dX6_write_4 : decode cX6_write 4 = .ok (.bipush 121, 2) := by decide +kernel
theorem dX6_write_6 : decode cX6_write 6 = .ok (.if_icmp .ge 23, 3) := by decide +kernel
theorem dX6_write_9 : decode cX6_write 9 = .ok (.aload_n 0, 1) := by decide +kernel
theorem dX6_write_10 : decode cX6_write 10 = .ok (.getfield 15, 3) := by decide +kernel
theorem dX6_write_13 : decode cX6_write 13 = .ok (.aload_n 0, 1) := by decide +kernel
theorem dX6_write_14 : decode cX6_write 14 = .ok (.getfield 25, 3) := by decide +kernel
theorem dX6_write_17 : decode cX6_write 17 = .ok (.iload_n 1, 1) := by decide +kernel
theorem dX6_write_18 : decode cX6_write 18 = .ok (.iastore, 1) := by decide +kernel
theorem dX6_write_19 : decode cX6_write 19 = .ok (.aload_n 0, 1) := by decide +kernel
theorem dX6_write_20 : decode cX6_write 20 = .ok (.dup, 1) := by decide +kernel
theorem dX6_write_21 : decode cX6_write 21 = .ok (.getfield 25, 3) := by decide +kernel
theorem dX6_write_24 : decode cX6_write 24 = .ok (.iconst 1, 1) := by decide +kernel
theorem dX6_write_25 : decode cX6_write 25 = .ok (.iadd, 1) := by decide +kernel
theorem dX6_write_26 : decode cX6_write 26 = .ok (.putfield 25, 3) := by decide +kernel
theorem dX6_write_29 : decode cX6_write 29 = .ok (.return_, 1) := by decide +kernel
theorem dX6_isName_0 : decode cX6_isName 0 = .ok (.iload_n 0, 1) := by decide +kernel
theorem dX6_isName_1 : decode cX6_isName 1 = .ok (.tableswitch 93 98 116 #[91, 91, 93, 93, 93, 93, 93, 93, 93, 91, 93, 93, 91, 93, 91, 93, 93, 91, 91], 91) := by decide +kernel
theorem dX6_isName_92 : decode cX6_isName 92 = .ok (.iconst 1, 1) := by decide +kernel
theorem dX6_isName_93 : decode cX6_isName 93 = .ok (.ireturn, 1) := by decide +kernel
theorem dX6_isName_94 : decode cX6_isName 94 = .ok (.iconst 0, 1) := by decide +kernel
theorem dX6_isName_95 : decode cX6_isName 95 = .ok (.ireturn, 1) := by decide +kernel
theorem dX6_levelOf_0 : decode cX6_levelOf 0 = .ok (.iload_n 0, 1) := by decide +kernel
theorem dX6_levelOf_1 : decode cX6_levelOf 1 = .ok (.lookupswitch 101 #[(37, 99), (38, 93), (42, 99), (43, 97), (45, 97), (47, 99), (60, 95), (61, 95), (62, 95), (124, 91)], 91) := by decide +kernel
theorem dX6_levelOf_92 : decode cX6_levelOf 92 = .ok (.iconst 0, 1) := by decide +kernel
theorem dX6_levelOf_93 : decode cX6_levelOf 93 = .ok (.ireturn, 1) := by decide +kernel
theorem dX6_levelOf_94 : decode cX6_levelOf 94 = .ok (.iconst 1, 1) := by decide +kernel
theorem dX6_levelOf_95 : decode cX6_levelOf 95 = .ok (.ireturn, 1) := by decide +kernel
theorem dX6_levelOf_96 : decode cX6_levelOf 96 = .ok (.iconst 2, 1) := by decide +kernel
theorem dX6_levelOf_97 : decode cX6_levelOf 97 = .ok (.ireturn, 1) := by decide +kernel
theorem dX6_levelOf_98 : decode cX6_levelOf 98 = .ok (.iconst 3, 1) := by decide +kernel
theorem dX6_levelOf_99 : decode cX6_levelOf 99 = .ok (.ireturn, 1) := by decide +kernel
theorem dX6_levelOf_100 : decode cX6_levelOf 100 = .ok (.iconst 4, 1) := by decide +kernel
theorem dX6_levelOf_101 : decode cX6_levelOf 101 = .ok (.ireturn, 1) := by decide +kernel
theorem dX6_levelOf_102 : decode cX6_levelOf 102 = .ok (.iconst (-1), 1) := by decide +kernel
theorem dX6_levelOf_103 : decode cX6_levelOf 103 = .ok (.ireturn, 1) := by decide +kernel
theorem dX7_init_0 : decode cX7_init 0 = .ok (.aload_n 0, 1) := by decide +kernel
theorem dX7_init_1 : decode cX7_init 1 = .ok (.invokespecial 3, 3) := by decide +kernel
theorem dX7_init_4 : decode cX7_init 4 = .ok (.aload_n 0, 1) := by decide +kernel
theorem dX7_init_5 : decode cX7_init 5 = .ok (.bipush 6, 2) := by decide +kernel
theorem dX7_init_7 : decode cX7_init 7 = .ok (.newarray .int, 2) := by decide +kernel
theorem dX7_init_9 : decode cX7_init 9 = .ok (.putfield 9, 3) := by decide +kernel
theorem dX7_init_12 : decode cX7_init 12 = .ok (.aload_n 0, 1) := by decide +kernel
theorem dX7_init_13 : decode cX7_init 13 = .ok (.bipush 6, 2) := by decide +kernel
theorem dX7_init_15 : decode cX7_init 15 = .ok (.newarray .int, 2) := by decide +kernel
theorem dX7_init_17 : decode cX7_init 17 = .ok (.putfield 15, 3) := by decide +kernel
theorem dX7_init_20 : decode cX7_init 20 = .ok (.aload_n 0, 1) := by decide +kernel
theorem dX7_init_21 : decode cX7_init 21 = .ok (.bipush 6, 2) := by decide +kernel
theorem dX7_init_23 : decode cX7_init 23 = .ok (.iconst 4, 1) := by decide +kernel
theorem dX7_init_24 : decode cX7_init 24 = .ok (.multianewarray 18 2, 4) := by decide +kernel
theorem dX7_init_28 : decode cX7_init 28 = .ok (.putfield 20, 3) := by decide +kernel
theorem dX7_init_31 : decode cX7_init 31 = .ok (.aload_n 0, 1) := by decide +kernel
theorem dX7_init_32 : decode cX7_init 32 = .ok (.bipush 7, 2) := by decide +kernel
theorem dX7_init_34 : decode cX7_init 34 = .ok (.newarray .int, 2) := by decide +kernel
theorem dX7_init_36 : decode cX7_init 36 = .ok (.putfield 23, 3) := by decide +kernel
theorem dX7_init_39 : decode cX7_init 39 = .ok (.aload_n 0, 1) := by decide +kernel
theorem dX7_init_40 : decode cX7_init 40 = .ok (.aload_n 1, 1) := by decide +kernel
theorem dX7_init_41 : decode cX7_init 41 = .ok (.putfield 26, 3) := by decide +kernel
theorem dX7_init_44 : decode cX7_init 44 = .ok (.aload_n 0, 1) := by decide +kernel
theorem dX7_init_45 : decode cX7_init 45 = .ok (.aload_n 2, 1) := by decide +kernel
theorem dX7_init_46 : decode cX7_init 46 = .ok (.putfield 30, 3) := by decide +kernel
theorem dX7_init_49 : decode cX7_init 49 = .ok (.return_, 1) := by decide +kernel
theorem dX7_recall_0 : decode cX7_recall 0 = .ok (.iconst 0, 1) := by decide +kernel
theorem dX7_recall_1 : decode cX7_recall 1 = .ok (.istore_n 1, 1) := by decide +kernel
theorem dX7_recall_2 : decode cX7_recall 2 = .ok (.iload_n 1, 1) := by decide +kernel
theorem dX7_recall_3 : decode cX7_recall 3 = .ok (.bipush 6, 2) := by decide +kernel
theorem dX7_recall_5 : decode cX7_recall 5 = .ok (.if_icmp .ge 39, 3) := by decide +kernel
theorem dX7_recall_8 : decode cX7_recall 8 = .ok (.aload_n 0, 1) := by decide +kernel
theorem dX7_recall_9 : decode cX7_recall 9 = .ok (.getfield 9, 3) := by decide +kernel
theorem dX7_recall_12 : decode cX7_recall 12 = .ok (.iload_n 1, 1) := by decide +kernel
theorem dX7_recall_13 : decode cX7_recall 13 = .ok (.aload_n 0, 1) := by decide +kernel
theorem dX7_recall_14 : decode cX7_recall 14 = .ok (.getfield 26, 3) := by decide +kernel
theorem dX7_recall_17 : decode cX7_recall 17 = .ok (.iconst 1, 1) := by decide +kernel
theorem dX7_recall_18 : decode cX7_recall 18 = .ok (.iload_n 1, 1) := by decide +kernel
theorem dX7_recall_19 : decode cX7_recall 19 = .ok (.invokevirtual 34, 3) := by decide +kernel
theorem dX7_recall_22 : decode cX7_recall 22 = .ok (.iastore, 1) := by decide +kernel
theorem dX7_recall_23 : decode cX7_recall 23 = .ok (.aload_n 0, 1) := by decide +kernel
theorem dX7_recall_24 : decode cX7_recall 24 = .ok (.getfield 15, 3) := by decide +kernel
theorem dX7_recall_27 : decode cX7_recall 27 = .ok (.iload_n 1, 1) := by decide +kernel
theorem dX7_recall_28 : decode cX7_recall 28 = .ok (.aload_n 0, 1) := by decide +kernel
theorem dX7_recall_29 : decode cX7_recall 29 = .ok (.getfield 26, 3) := by decide +kernel
theorem dX7_recall_32 : decode cX7_recall 32 = .ok (.iconst 2, 1) := by decide +kernel
theorem dX7_recall_33 : decode cX7_recall 33 = .ok (.iload_n 1, 1) := by decide +kernel
theorem dX7_recall_34 : decode cX7_recall 34 = .ok (.invokevirtual 34, 3) := by decide +kernel
theorem dX7_recall_37 : decode cX7_recall 37 = .ok (.iastore, 1) := by decide +kernel
theorem dX7_recall_38 : decode cX7_recall 38 = .ok (.iinc 1 1, 3) := by decide +kernel
theorem dX7_recall_41 : decode cX7_recall 41 = .ok (.goto (-39), 3) := by decide +kernel
theorem dX7_recall_44 : decode cX7_recall 44 = .ok (.return_, 1) := by decide +kernel
theorem dX7_coinOf_0 : decode cX7_coinOf 0 = .ok (.iload_n 1, 1) := by decide +kernel
theorem dX7_coinOf_1 : decode cX7_coinOf 1 = .ok (.iconst 0, 1) := by decide +kernel
theorem dX7_coinOf_2 : decode cX7_coinOf 2 = .ok (.iconst 5, 1) := by decide +kernel
theorem dX7_coinOf_3 : decode cX7_coinOf 3 = .ok (.invokestatic 40, 3) := by decide +kernel
theorem dX7_coinOf_6 : decode cX7_coinOf 6 = .ok (.ifCond .eq 12, 3) := by decide +kernel
theorem dX7_coinOf_9 : decode cX7_coinOf 9 = .ok (.aload_n 0, 1) := by decide +kernel
theorem dX7_coinOf_10 : decode cX7_coinOf 10 = .ok (.getfield 9, 3) := by decide +kernel
theorem dX7_coinOf_13 : decode cX7_coinOf 13 = .ok (.iload_n 1, 1) := by decide +kernel
theorem dX7_coinOf_14 : decode cX7_coinOf 14 = .ok (.iaload, 1) := by decide +kernel
theorem dX7_coinOf_15 : decode cX7_coinOf 15 = .ok (.goto 4, 3) := by decide +kernel
theorem dX7_coinOf_18 : decode cX7_coinOf 18 = .ok (.iconst 0, 1) := by decide +kernel
theorem dX7_coinOf_19 : decode cX7_coinOf 19 = .ok (.ireturn, 1) := by decide +kernel
theorem dX7_pointsOf_0 : decode cX7_pointsOf 0 = .ok (.iload_n 1, 1) := by decide +kernel
theorem dX7_pointsOf_1 : decode cX7_pointsOf 1 = .ok (.iconst 0, 1) := by decide +kernel
theorem dX7_pointsOf_2 : decode cX7_pointsOf 2 = .ok (.iconst 5, 1) := by decide +kernel
theorem dX7_pointsOf_3 : decode cX7_pointsOf 3 = .ok (.invokestatic 40, 3) := by decide +kernel
theorem dX7_pointsOf_6 : decode cX7_pointsOf 6 = .ok (.ifCond .eq 12, 3) := by decide +kernel
theorem dX7_pointsOf_9 : decode cX7_pointsOf 9 = .ok (.aload_n 0, 1) := by decide +kernel
theorem dX7_pointsOf_10 : decode cX7_pointsOf 10 = .ok (.getfield 15, 3) := by decide +kernel
theorem dX7_pointsOf_13 : decode cX7_pointsOf 13 = .ok (.iload_n 1, 1) := by decide +kernel
theorem dX7_pointsOf_14 : decode cX7_pointsOf 14 = .ok (.iaload, 1) := by decide +kernel
theorem dX7_pointsOf_15 : decode cX7_pointsOf 15 = .ok (.goto 4, 3) := by decide +kernel
theorem dX7_pointsOf_18 : decode cX7_pointsOf 18 = .ok (.iconst 0, 1) := by decide +kernel
theorem dX7_pointsOf_19 : decode cX7_pointsOf 19 = .ok (.ireturn, 1) := by decide +kernel
theorem dX7_think_0 : decode cX7_think 0 = .ok (.iload_n 1, 1) := by decide +kernel
theorem dX7_think_1 : decode cX7_think 1 = .ok (.iconst 0, 1) := by decide +kernel
theorem dX7_think_2 : decode cX7_think 2 = .ok (.iconst 5, 1) := by decide +kernel
theorem dX7_think_3 : decode cX7_think 3 = .ok (.invokestatic 40, 3) := by decide +kernel
theorem dX7_think_6 : decode cX7_think 6 = .ok (.ifCond .eq 17, 3) := by decide +kernel
theorem dX7_think_9 : decode cX7_think 9 = .ok (.aload_n 0, 1) := by decide +kernel
theorem dX7_think_10 : decode cX7_think 10 = .ok (.getfield 9, 3) := by decide +kernel
theorem dX7_think_13 : decode cX7_think 13 = .ok (.iload_n 1, 1) := by decide +kernel
theorem dX7_think_14 : decode cX7_think 14 = .ok (.iload_n 2, 1) := by decide +kernel
theorem dX7_think_15 : decode cX7_think 15 = .ok (.iastore, 1) := by decide +kernel
theorem dX7_think_16 : decode cX7_think 16 = .ok (.aload_n 0, 1) := by decide +kernel
theorem dX7_think_17 : decode cX7_think 17 = .ok (.getfield 15, 3) := by decide +kernel
theorem dX7_think_20 : decode cX7_think 20 = .ok (.iload_n 1, 1) := by decide +kernel
theorem dX7_think_21 : decode cX7_think 21 = .ok (.iload_n 3, 1) := by decide +kernel
theorem dX7_think_22 : decode cX7_think 22 = .ok (.iastore, 1) := by decide +kernel
theorem dX7_think_23 : decode cX7_think 23 = .ok (.return_, 1) := by decide +kernel
theorem dX7_worthOf_0 : decode cX7_worthOf 0 = .ok (.aload_n 0, 1) := by decide +kernel
theorem dX7_worthOf_1 : decode cX7_worthOf 1 = .ok (.getfield 30, 3) := by decide +kernel
theorem dX7_worthOf_4 : decode cX7_worthOf 4 = .ok (.bipush 115, 2) := by decide +kernel
theorem dX7_worthOf_6 : decode cX7_worthOf 6 = .ok (.iload_n 1, 1) := by decide +kernel
theorem dX7_worthOf_7 : decode cX7_worthOf 7 = .ok (.invokevirtual 44, 3) := by decide +kernel
theorem dX7_worthOf_10 : decode cX7_worthOf 10 = .ok (.aload_n 0, 1) := by decide +kernel
theorem dX7_worthOf_11 : decode cX7_worthOf 11 = .ok (.getfield 30, 3) := by decide +kernel
theorem dX7_worthOf_14 : decode cX7_worthOf 14 = .ok (.bipush 98, 2) := by decide +kernel
theorem dX7_worthOf_16 : decode cX7_worthOf 16 = .ok (.aload_n 0, 1) := by decide +kernel
theorem dX7_worthOf_17 : decode cX7_worthOf 17 = .ok (.getfield 26, 3) := by decide +kernel
theorem dX7_worthOf_20 : decode cX7_worthOf 20 = .ok (.bipush 7, 2) := by decide +kernel
theorem dX7_worthOf_22 : decode cX7_worthOf 22 = .ok (.iload_n 1, 1) := by decide +kernel
theorem dX7_worthOf_23 : decode cX7_worthOf 23 = .ok (.invokevirtual 34, 3) := by decide +kernel
theorem dX7_worthOf_26 : decode cX7_worthOf 26 = .ok (.invokevirtual 44, 3) := by decide +kernel
theorem dX7_worthOf_29 : decode cX7_worthOf 29 = .ok (.aload_n 0, 1) := by decide +kernel
theorem dX7_worthOf_30 : decode cX7_worthOf 30 = .ok (.getfield 30, 3) := by decide +kernel
theorem dX7_worthOf_33 : decode cX7_worthOf 33 = .ok (.bipush 110, 2) := by decide +kernel
theorem dX7_worthOf_35 : decode cX7_worthOf 35 = .ok (.aload_n 0, 1) := by decide +kernel
theorem dX7_worthOf_36 : decode cX7_worthOf 36 = .ok (.getfield 26, 3) := by decide +kernel
theorem dX7_worthOf_39 : decode cX7_worthOf 39 = .ok (.getfield 50, 3) := by decide +kernel
theorem dX7_worthOf_42 : decode cX7_worthOf 42 = .ok (.invokevirtual 44, 3) := by decide +kernel
theorem dX7_worthOf_45 : decode cX7_worthOf 45 = .ok (.aload_n 0, 1) := by decide +kernel
theorem dX7_worthOf_46 : decode cX7_worthOf 46 = .ok (.getfield 30, 3) := by decide +kernel
theorem dX7_worthOf_49 : decode cX7_worthOf 49 = .ok (.bipush 116, 2) := by decide +kernel
theorem dX7_worthOf_51 : decode cX7_worthOf 51 = .ok (.iload_n 2, 1) := by decide +kernel
theorem dX7_worthOf_52 : decode cX7_worthOf 52 = .ok (.invokevirtual 44, 3) := by decide +kernel
theorem dX7_worthOf_55 : decode cX7_worthOf 55 = .ok (.aload_n 0, 1) := by decide +kernel
theorem dX7_worthOf_56 : decode cX7_worthOf 56 = .ok (.getfield 30, 3) := by decide +kernel
theorem dX7_worthOf_59 : decode cX7_worthOf 59 = .ok (.bipush 107, 2) := by decide +kernel
theorem dX7_worthOf_61 : decode cX7_worthOf 61 = .ok (.iload_n 3, 1) := by decide +kernel
theorem dX7_worthOf_62 : decode cX7_worthOf 62 = .ok (.invokevirtual 44, 3) := by decide +kernel
theorem dX7_worthOf_65 : decode cX7_worthOf 65 = .ok (.aload_n 0, 1) := by decide +kernel
theorem dX7_worthOf_66 : decode cX7_worthOf 66 = .ok (.getfield 30, 3) := by decide +kernel
theorem dX7_worthOf_69 : decode cX7_worthOf 69 = .ok (.bipush 99, 2) := by decide +kernel
theorem dX7_worthOf_71 : decode cX7_worthOf 71 = .ok (.aload_n 0, 1) := by decide +kernel
theorem dX7_worthOf_72 : decode cX7_worthOf 72 = .ok (.iload_n 2, 1) := by decide +kernel
theorem dX7_worthOf_73 : decode cX7_worthOf 73 = .ok (.invokevirtual 54, 3) := by decide +kernel
theorem dX7_worthOf_76 : decode cX7_worthOf 76 = .ok (.invokevirtual 44, 3) := by decide +kernel
theorem dX7_worthOf_79 : decode cX7_worthOf 79 = .ok (.aload_n 0, 1) := by decide +kernel
theorem dX7_worthOf_80 : decode cX7_worthOf 80 = .ok (.getfield 30, 3) := by decide +kernel
theorem dX7_worthOf_83 : decode cX7_worthOf 83 = .ok (.bipush 112, 2) := by decide +kernel
theorem dX7_worthOf_85 : decode cX7_worthOf 85 = .ok (.aload_n 0, 1) := by decide +kernel
theorem dX7_worthOf_86 : decode cX7_worthOf 86 = .ok (.iload_n 2, 1) := by decide +kernel
theorem dX7_worthOf_87 : decode cX7_worthOf 87 = .ok (.invokevirtual 58, 3) := by decide +kernel
theorem dX7_worthOf_90 : decode cX7_worthOf 90 = .ok (.invokevirtual 44, 3) := by decide +kernel
theorem dX7_worthOf_93 : decode cX7_worthOf 93 = .ok (.iconst 0, 1) := by decide +kernel
theorem dX7_worthOf_94 : decode cX7_worthOf 94 = .ok (.sipush 999, 3) := by decide +kernel
theorem dX7_worthOf_97 : decode cX7_worthOf 97 = .ok (.aload_n 0, 1) := by decide +kernel
theorem dX7_worthOf_98 : decode cX7_worthOf 98 = .ok (.getfield 30, 3) := by decide +kernel
theorem dX7_worthOf_101 : decode cX7_worthOf 101 = .ok (.aload_n 0, 1) := by decide +kernel
theorem dX7_worthOf_102 : decode cX7_worthOf 102 = .ok (.getfield 26, 3) := by decide +kernel
theorem dX7_worthOf_105 : decode cX7_worthOf 105 = .ok (.bipush 8, 2) := by decide +kernel
theorem dX7_worthOf_107 : decode cX7_worthOf 107 = .ok (.iload_n 1, 1) := by decide +kernel
theorem dX7_worthOf_108 : decode cX7_worthOf 108 = .ok (.invokevirtual 34, 3) := by decide +kernel
theorem dX7_worthOf_111 : decode cX7_worthOf 111 = .ok (.invokevirtual 61, 3) := by decide +kernel
theorem dX7_worthOf_114 : decode cX7_worthOf 114 = .ok (.invokestatic 64, 3) := by decide +kernel
theorem dX7_worthOf_117 : decode cX7_worthOf 117 = .ok (.invokestatic 69, 3) := by decide +kernel
theorem dX7_worthOf_120 : decode cX7_worthOf 120 = .ok (.ireturn, 1) := by decide +kernel
theorem dX7_worthOfFirst_0 : decode cX7_worthOfFirst 0 = .ok (.iload_n 1, 1) := by decide +kernel
theorem dX7_worthOfFirst_1 : decode cX7_worthOfFirst 1 = .ok (.iconst 0, 1) := by decide +kernel
theorem dX7_worthOfFirst_2 : decode cX7_worthOfFirst 2 = .ok (.iconst 5, 1) := by decide +kernel
theorem dX7_worthOfFirst_3 : decode cX7_worthOfFirst 3 = .ok (.invokestatic 40, 3) := by decide +kernel
theorem dX7_worthOfFirst_6 : decode cX7_worthOfFirst 6 = .ok (.ifCond .eq 23, 3) := by decide +kernel
theorem dX7_worthOfFirst_9 : decode cX7_worthOfFirst 9 = .ok (.iload_n 2, 1) := by decide +kernel
theorem dX7_worthOfFirst_10 : decode cX7_worthOfFirst 10 = .ok (.iconst 0, 1) := by decide +kernel
theorem dX7_worthOfFirst_11 : decode cX7_worthOfFirst 11 = .ok (.iconst 3, 1) := by decide +kernel
theorem dX7_worthOfFirst_12 : decode cX7_worthOfFirst 12 = .ok (.invokestatic 40, 3) := by decide +kernel
theorem dX7_worthOfFirst_15 : decode cX7_worthOfFirst 15 = .ok (.ifCond .eq 14, 3) := by decide +kernel
theorem dX7_worthOfFirst_18 : decode cX7_worthOfFirst 18 = .ok (.aload_n 0, 1) := by decide +kernel
theorem dX7_worthOfFirst_19 : decode cX7_worthOfFirst 19 = .ok (.getfield 20, 3) := by decide +kernel
theorem dX7_worthOfFirst_22 : decode cX7_worthOfFirst 22 = .ok (.iload_n 1, 1) := by decide +kernel
theorem dX7_worthOfFirst_23 : decode cX7_worthOfFirst 23 = .ok (.aaload, 1) := by decide +kernel
theorem dX7_worthOfFirst_24 : decode cX7_worthOfFirst 24 = .ok (.iload_n 2, 1) := by decide +kernel
theorem dX7_worthOfFirst_25 : decode cX7_worthOfFirst 25 = .ok (.iaload, 1) := by decide +kernel
theorem dX7_worthOfFirst_26 : decode cX7_worthOfFirst 26 = .ok (.goto 4, 3) := by decide +kernel
theorem dX7_worthOfFirst_29 : decode cX7_worthOfFirst 29 = .ok (.iconst 0, 1) := by decide +kernel
theorem dX7_worthOfFirst_30 : decode cX7_worthOfFirst 30 = .ok (.ireturn, 1) := by decide +kernel
theorem dX7_weigh_0 : decode cX7_weigh 0 = .ok (.aload_n 0, 1) := by decide +kernel
theorem dX7_weigh_1 : decode cX7_weigh 1 = .ok (.getfield 23, 3) := by decide +kernel
theorem dX7_weigh_4 : decode cX7_weigh 4 = .ok (.aload_n 0, 1) := by decide +kernel
theorem dX7_weigh_5 : decode cX7_weigh 5 = .ok (.getfield 26, 3) := by decide +kernel
theorem dX7_weigh_8 : decode cX7_weigh 8 = .ok (.getfield 50, 3) := by decide +kernel
theorem dX7_weigh_11 : decode cX7_weigh 11 = .ok (.iconst 0, 1) := by decide +kernel
theorem dX7_weigh_12 : decode cX7_weigh 12 = .ok (.iastore, 1) := by decide +kernel
theorem dX7_weigh_13 : decode cX7_weigh 13 = .ok (.aload_n 0, 1) := by decide +kernel
theorem dX7_weigh_14 : decode cX7_weigh 14 = .ok (.getfield 26, 3) := by decide +kernel
theorem dX7_weigh_17 : decode cX7_weigh 17 = .ok (.getfield 50, 3) := by decide +kernel
theorem dX7_weigh_20 : decode cX7_weigh 20 = .ok (.iconst 1, 1) := by decide +kernel
theorem dX7_weigh_21 : decode cX7_weigh 21 = .ok (.isub, 1) := by decide +kernel
theorem dX7_weigh_22 : decode cX7_weigh 22 = .ok (.istore_n 2, 1) := by decide +kernel
theorem dX7_weigh_23 : decode cX7_weigh 23 = .ok (.iload_n 2, 1) := by decide +kernel
theorem dX7_weigh_24 : decode cX7_weigh 24 = .ok (.ifCond .lt 71, 3) := by decide +kernel
theorem dX7_weigh_27 : decode cX7_weigh 27 = .ok (.iconst 1, 1) := by decide +kernel
theorem dX7_weigh_28 : decode cX7_weigh 28 = .ok (.istore_n 3, 1) := by decide +kernel
theorem dX7_weigh_29 : decode cX7_weigh 29 = .ok (.iload_n 3, 1) := by decide +kernel
theorem dX7_weigh_30 : decode cX7_weigh 30 = .ok (.iconst 3, 1) := by decide +kernel
theorem dX7_weigh_31 : decode cX7_weigh 31 = .ok (.if_icmp .gt 35, 3) := by decide +kernel
theorem dX7_weigh_34 : decode cX7_weigh 34 = .ok (.aload_n 0, 1) := by decide +kernel
theorem dX7_weigh_35 : decode cX7_weigh 35 = .ok (.getfield 20, 3) := by decide +kernel
theorem dX7_weigh_38 : decode cX7_weigh 38 = .ok (.iload_n 2, 1) := by decide +kernel
theorem dX7_weigh_39 : decode cX7_weigh 39 = .ok (.aaload, 1) := by decide +kernel
theorem dX7_weigh_40 : decode cX7_weigh 40 = .ok (.iload_n 3, 1) := by decide +kernel
theorem dX7_weigh_41 : decode cX7_weigh 41 = .ok (.aload_n 0, 1) := by decide +kernel
theorem dX7_weigh_42 : decode cX7_weigh 42 = .ok (.getfield 20, 3) := by decide +kernel
theorem dX7_weigh_45 : decode cX7_weigh 45 = .ok (.iload_n 2, 1) := by decide +kernel
theorem dX7_weigh_46 : decode cX7_weigh 46 = .ok (.aaload, 1) := by decide +kernel
theorem dX7_weigh_47 : decode cX7_weigh 47 = .ok (.iload_n 3, 1) := by decide +kernel
theorem dX7_weigh_48 : decode cX7_weigh 48 = .ok (.iconst 1, 1) := by decide +kernel
theorem dX7_weigh_49 : decode cX7_weigh 49 = .ok (.isub, 1) := by decide +kernel
theorem dX7_weigh_50 : decode cX7_weigh 50 = .ok (.iaload, 1) := by decide +kernel
theorem dX7_weigh_51 : decode cX7_weigh 51 = .ok (.aload_n 0, 1) := by decide +kernel
theorem dX7_weigh_52 : decode cX7_weigh 52 = .ok (.iload_n 1, 1) := by decide +kernel
theorem dX7_weigh_53 : decode cX7_weigh 53 = .ok (.iload_n 2, 1) := by decide +kernel
theorem dX7_weigh_54 : decode cX7_weigh 54 = .ok (.iload_n 3, 1) := by decide +kernel
theorem dX7_weigh_55 : decode cX7_weigh 55 = .ok (.invokevirtual 72, 3) := by decide +kernel
theorem dX7_weigh_58 : decode cX7_weigh 58 = .ok (.iadd, 1) := by decide +kernel
theorem dX7_weigh_59 : decode cX7_weigh 59 = .ok (.iastore, 1) := by decide +kernel
theorem dX7_weigh_60 : decode cX7_weigh 60 = .ok (.iinc 3 1, 3) := by decide +kernel
theorem dX7_weigh_63 : decode cX7_weigh 63 = .ok (.goto (-34), 3) := by decide +kernel
theorem dX7_weigh_66 : decode cX7_weigh 66 = .ok (.aload_n 0, 1) := by decide +kernel
theorem dX7_weigh_67 : decode cX7_weigh 67 = .ok (.getfield 23, 3) := by decide +kernel
theorem dX7_weigh_70 : decode cX7_weigh 70 = .ok (.iload_n 2, 1) := by decide +kernel
theorem dX7_weigh_71 : decode cX7_weigh 71 = .ok (.aload_n 0, 1) := by decide +kernel
theorem dX7_weigh_72 : decode cX7_weigh 72 = .ok (.getfield 23, 3) := by decide +kernel
theorem dX7_weigh_75 : decode cX7_weigh 75 = .ok (.iload_n 2, 1) := by decide +kernel
theorem dX7_weigh_76 : decode cX7_weigh 76 = .ok (.iconst 1, 1) := by decide +kernel
theorem dX7_weigh_77 : decode cX7_weigh 77 = .ok (.iadd, 1) := by decide +kernel
theorem dX7_weigh_78 : decode cX7_weigh 78 = .ok (.iaload, 1) := by decide +kernel
theorem dX7_weigh_79 : decode cX7_weigh 79 = .ok (.aload_n 0, 1) := by decide +kernel
theorem dX7_weigh_80 : decode cX7_weigh 80 = .ok (.getfield 20, 3) := by decide +kernel
theorem dX7_weigh_83 : decode cX7_weigh 83 = .ok (.iload_n 2, 1) := by decide +kernel
theorem dX7_weigh_84 : decode cX7_weigh 84 = .ok (.aaload, 1) := by decide +kernel
theorem dX7_weigh_85 : decode cX7_weigh 85 = .ok (.iconst 3, 1) := by decide +kernel
theorem dX7_weigh_86 : decode cX7_weigh 86 = .ok (.iaload, 1) := by decide +kernel
theorem dX7_weigh_87 : decode cX7_weigh 87 = .ok (.iadd, 1) := by decide +kernel
theorem dX7_weigh_88 : decode cX7_weigh 88 = .ok (.iastore, 1) := by decide +kernel
theorem dX7_weigh_89 : decode cX7_weigh 89 = .ok (.iinc 2 (-1), 3) := by decide +kernel
theorem dX7_weigh_92 : decode cX7_weigh 92 = .ok (.goto (-69), 3) := by decide +kernel
theorem dX7_weigh_95 : decode cX7_weigh 95 = .ok (.return_, 1) := by decide +kernel
theorem dX7_choose_0 : decode cX7_choose 0 = .ok (.aload_n 0, 1) := by decide +kernel
theorem dX7_choose_1 : decode cX7_choose 1 = .ok (.aload_n 0, 1) := by decide +kernel
theorem dX7_choose_2 : decode cX7_choose 2 = .ok (.getfield 26, 3) := by decide +kernel
theorem dX7_choose_5 : decode cX7_choose 5 = .ok (.iconst 5, 1) := by decide +kernel
theorem dX7_choose_6 : decode cX7_choose 6 = .ok (.iload_n 1, 1) := by decide +kernel
theorem dX7_choose_7 : decode cX7_choose 7 = .ok (.invokevirtual 34, 3) := by decide +kernel
theorem dX7_choose_10 : decode cX7_choose 10 = .ok (.aload_n 0, 1) := by decide +kernel
theorem dX7_choose_11 : decode cX7_choose 11 = .ok (.getfield 26, 3) := by decide +kernel
theorem dX7_choose_14 : decode cX7_choose 14 = .ok (.iload_n 1, 1) := by decide +kernel
theorem dX7_choose_15 : decode cX7_choose 15 = .ok (.invokevirtual 76, 3) := by decide +kernel
theorem dX7_choose_18 : decode cX7_choose 18 = .ok (.bipush 100, 2) := by decide +kernel
theorem dX7_choose_20 : decode cX7_choose 20 = .ok (.invokevirtual 79, 3) := by decide +kernel
theorem dX7_choose_23 : decode cX7_choose 23 = .ok (.return_, 1) := by decide +kernel
theorem dX7_search_0 : decode cX7_search 0 = .ok (.aload_n 0, 1) := by decide +kernel
theorem dX7_search_1 : decode cX7_search 1 = .ok (.iload_n 1, 1) := by decide +kernel
theorem dX7_search_2 : decode cX7_search 2 = .ok (.putfield 83, 3) := by decide +kernel
theorem dX7_search_5 : decode cX7_search 5 = .ok (.aload_n 0, 1) := by decide +kernel
theorem dX7_search_6 : decode cX7_search 6 = .ok (.iload_n 2, 1) := by decide +kernel
theorem dX7_search_7 : decode cX7_search 7 = .ok (.putfield 86, 3) := by decide +kernel
theorem dX7_search_10 : decode cX7_search 10 = .ok (.aload_n 0, 1) := by decide +kernel
theorem dX7_search_11 : decode cX7_search 11 = .ok (.iload_n 3, 1) := by decide +kernel
theorem dX7_search_12 : decode cX7_search 12 = .ok (.putfield 89, 3) := by decide +kernel
theorem dX7_search_15 : decode cX7_search 15 = .ok (.aload_n 0, 1) := by decide +kernel
theorem dX7_search_16 : decode cX7_search 16 = .ok (.iconst (-1), 1) := by decide +kernel
theorem dX7_search_17 : decode cX7_search 17 = .ok (.putfield 92, 3) := by decide +kernel
theorem dX7_search_20 : decode cX7_search 20 = .ok (.aload_n 0, 1) := by decide +kernel
theorem dX7_search_21 : decode cX7_search 21 = .ok (.iconst 0, 1) := by decide +kernel
theorem dX7_search_22 : decode cX7_search 22 = .ok (.putfield 95, 3) := by decide +kernel
theorem dX7_search_25 : decode cX7_search 25 = .ok (.aload_n 0, 1) := by decide +kernel
theorem dX7_search_26 : decode cX7_search 26 = .ok (.iconst 0, 1) := by decide +kernel
theorem dX7_search_27 : decode cX7_search 27 = .ok (.putfield 98, 3) := by decide +kernel
theorem dX7_search_30 : decode cX7_search 30 = .ok (.aload_n 0, 1) := by decide +kernel
theorem dX7_search_31 : decode cX7_search 31 = .ok (.iconst 0, 1) := by decide +kernel
theorem dX7_search_32 : decode cX7_search 32 = .ok (.putfield 101, 3) := by decide +kernel
theorem dX7_search_35 : decode cX7_search 35 = .ok (.aload_n 0, 1) := by decide +kernel
theorem dX7_search_36 : decode cX7_search 36 = .ok (.iconst 0, 1) := by decide +kernel
theorem dX7_search_37 : decode cX7_search 37 = .ok (.iconst 0, 1) := by decide +kernel
theorem dX7_search_38 : decode cX7_search 38 = .ok (.iconst 0, 1) := by decide +kernel
theorem dX7_search_39 : decode cX7_search 39 = .ok (.iconst 0, 1) := by decide +kernel
theorem dX7_search_40 : decode cX7_search 40 = .ok (.iconst 0, 1) := by decide +kernel
theorem dX7_search_41 : decode cX7_search 41 = .ok (.invokestatic 104, 3) := by decide +kernel
theorem dX7_search_44 : decode cX7_search 44 = .ok (.return_, 1) := by decide +kernel
theorem dX7_descend_0 : decode cX7_descend 0 = .ok (.iload_n 1, 1) := by decide +kernel
theorem dX7_descend_1 : decode cX7_descend 1 = .ok (.aload_n 0, 1) := by decide +kernel
theorem dX7_descend_2 : decode cX7_descend 2 = .ok (.getfield 26, 3) := by decide +kernel
theorem dX7_descend_5 : decode cX7_descend 5 = .ok (.getfield 50, 3) := by decide +kernel
theorem dX7_descend_8 : decode cX7_descend 8 = .ok (.if_icmp .ge 9, 3) := by decide +kernel
theorem dX7_descend_11 : decode cX7_descend 11 = .ok (.iload_n 1, 1) := by decide +kernel
theorem dX7_descend_12 : decode cX7_descend 12 = .ok (.bipush 6, 2) := by decide +kernel
theorem dX7_descend_14 : decode cX7_descend 14 = .ok (.if_icmp .lt 14, 3) := by decide +kernel
theorem dX7_descend_17 : decode cX7_descend 17 = .ok (.aload_n 0, 1) := by decide +kernel
theorem dX7_descend_18 : decode cX7_descend 18 = .ok (.iload_n 2, 1) := by decide +kernel
theorem dX7_descend_19 : decode cX7_descend 19 = .ok (.iload_n 3, 1) := by decide +kernel
theorem dX7_descend_20 : decode cX7_descend 20 = .ok (.iload 4, 2) := by decide +kernel
theorem dX7_descend_22 : decode cX7_descend 22 = .ok (.iload 5, 2) := by decide +kernel
theorem dX7_descend_24 : decode cX7_descend 24 = .ok (.invokevirtual 108, 3) := by decide +kernel
theorem dX7_descend_27 : decode cX7_descend 27 = .ok (.return_, 1) := by decide +kernel
theorem dX7_descend_28 : decode cX7_descend 28 = .ok (.iload_n 2, 1) := by decide +kernel
theorem dX7_descend_29 : decode cX7_descend 29 = .ok (.aload_n 0, 1) := by decide +kernel
theorem dX7_descend_30 : decode cX7_descend 30 = .ok (.getfield 23, 3) := by decide +kernel
theorem dX7_descend_33 : decode cX7_descend 33 = .ok (.iload_n 1, 1) := by decide +kernel
theorem dX7_descend_34 : decode cX7_descend 34 = .ok (.iaload, 1) := by decide +kernel
theorem dX7_descend_35 : decode cX7_descend 35 = .ok (.iadd, 1) := by decide +kernel
theorem dX7_descend_36 : decode cX7_descend 36 = .ok (.aload_n 0, 1) := by decide +kernel
theorem dX7_descend_37 : decode cX7_descend 37 = .ok (.getfield 92, 3) := by decide +kernel
theorem dX7_descend_40 : decode cX7_descend 40 = .ok (.if_icmp .ge 4, 3) := by decide +kernel
theorem dX7_descend_43 : decode cX7_descend 43 = .ok (.return_, 1) := by decide +kernel
theorem dX7_descend_44 : decode cX7_descend 44 = .ok (.iconst 3, 1) := by decide +kernel
theorem dX7_descend_45 : decode cX7_descend 45 = .ok (.istore 6, 2) := by decide +kernel
theorem dX7_descend_47 : decode cX7_descend 47 = .ok (.iload 6, 2) := by decide +kernel
theorem dX7_descend_49 : decode cX7_descend 49 = .ok (.ifCond .lt 77, 3) := by decide +kernel
theorem dX7_descend_52 : decode cX7_descend 52 = .ok (.iload_n 3, 1) := by decide +kernel
theorem dX7_descend_53 : decode cX7_descend 53 = .ok (.iload 6, 2) := by decide +kernel
theorem dX7_descend_55 : decode cX7_descend 55 = .ok (.aload_n 0, 1) := by decide +kernel
theorem dX7_descend_56 : decode cX7_descend 56 = .ok (.getfield 9, 3) := by decide +kernel
theorem dX7_descend_59 : decode cX7_descend 59 = .ok (.iload_n 1, 1) := by decide +kernel
theorem dX7_descend_60 : decode cX7_descend 60 = .ok (.iaload, 1) := by decide +kernel
theorem dX7_descend_61 : decode cX7_descend 61 = .ok (.imul, 1) := by decide +kernel
theorem dX7_descend_62 : decode cX7_descend 62 = .ok (.iadd, 1) := by decide +kernel
theorem dX7_descend_63 : decode cX7_descend 63 = .ok (.istore 7, 2) := by decide +kernel
theorem dX7_descend_65 : decode cX7_descend 65 = .ok (.iload 4, 2) := by decide +kernel
theorem dX7_descend_67 : decode cX7_descend 67 = .ok (.iload 6, 2) := by decide +kernel
theorem dX7_descend_69 : decode cX7_descend 69 = .ok (.aload_n 0, 1) := by decide +kernel
theorem dX7_descend_70 : decode cX7_descend 70 = .ok (.getfield 15, 3) := by decide +kernel
theorem dX7_descend_73 : decode cX7_descend 73 = .ok (.iload_n 1, 1) := by decide +kernel
theorem dX7_descend_74 : decode cX7_descend 74 = .ok (.iaload, 1) := by decide +kernel
theorem dX7_descend_75 : decode cX7_descend 75 = .ok (.imul, 1) := by decide +kernel
theorem dX7_descend_76 : decode cX7_descend 76 = .ok (.iadd, 1) := by decide +kernel
theorem dX7_descend_77 : decode cX7_descend 77 = .ok (.istore 8, 2) := by decide +kernel
theorem dX7_descend_79 : decode cX7_descend 79 = .ok (.aload_n 0, 1) := by decide +kernel
theorem dX7_descend_80 : decode cX7_descend 80 = .ok (.iload 7, 2) := by decide +kernel
theorem dX7_descend_82 : decode cX7_descend 82 = .ok (.iload 8, 2) := by decide +kernel
theorem dX7_descend_84 : decode cX7_descend 84 = .ok (.invokevirtual 112, 3) := by decide +kernel
theorem dX7_descend_87 : decode cX7_descend 87 = .ok (.ifCond .eq 33, 3) := by decide +kernel
theorem dX7_descend_90 : decode cX7_descend 90 = .ok (.aload_n 0, 1) := by decide +kernel
theorem dX7_descend_91 : decode cX7_descend 91 = .ok (.iload_n 1, 1) := by decide +kernel
theorem dX7_descend_92 : decode cX7_descend 92 = .ok (.iconst 1, 1) := by decide +kernel
theorem dX7_descend_93 : decode cX7_descend 93 = .ok (.iadd, 1) := by decide +kernel
theorem dX7_descend_94 : decode cX7_descend 94 = .ok (.iload_n 2, 1) := by decide +kernel
theorem dX7_descend_95 : decode cX7_descend 95 = .ok (.aload_n 0, 1) := by decide +kernel
theorem dX7_descend_96 : decode cX7_descend 96 = .ok (.getfield 20, 3) := by decide +kernel
theorem dX7_descend_99 : decode cX7_descend 99 = .ok (.iload_n 1, 1) := by decide +kernel
theorem dX7_descend_100 : decode cX7_descend 100 = .ok (.aaload, 1) := by decide +kernel
theorem dX7_descend_101 : decode cX7_descend 101 = .ok (.iload 6, 2) := by decide +kernel
theorem dX7_descend_103 : decode cX7_descend 103 = .ok (.iaload, 1) := by decide +kernel
theorem dX7_descend_104 : decode cX7_descend 104 = .ok (.iadd, 1) := by decide +kernel
theorem dX7_descend_105 : decode cX7_descend 105 = .ok (.iload 7, 2) := by decide +kernel
theorem dX7_descend_107 : decode cX7_descend 107 = .ok (.iload 8, 2) := by decide +kernel
theorem dX7_descend_109 : decode cX7_descend 109 = .ok (.iload 5, 2) := by decide +kernel
theorem dX7_descend_111 : decode cX7_descend 111 = .ok (.bipush 10, 2) := by decide +kernel
theorem dX7_descend_113 : decode cX7_descend 113 = .ok (.imul, 1) := by decide +kernel
theorem dX7_descend_114 : decode cX7_descend 114 = .ok (.iload 6, 2) := by decide +kernel
theorem dX7_descend_116 : decode cX7_descend 116 = .ok (.iadd, 1) := by decide +kernel
theorem dX7_descend_117 : decode cX7_descend 117 = .ok (.invokestatic 104, 3) := by decide +kernel
theorem dX7_descend_120 : decode cX7_descend 120 = .ok (.iinc 6 (-1), 3) := by decide +kernel
theorem dX7_descend_123 : decode cX7_descend 123 = .ok (.goto (-76), 3) := by decide +kernel
theorem dX7_descend_126 : decode cX7_descend 126 = .ok (.return_, 1) := by decide +kernel
theorem dX7_isPayable_0 : decode cX7_isPayable 0 = .ok (.iload_n 2, 1) := by decide +kernel
theorem dX7_isPayable_1 : decode cX7_isPayable 1 = .ok (.aload_n 0, 1) := by decide +kernel
theorem dX7_isPayable_2 : decode cX7_isPayable 2 = .ok (.getfield 86, 3) := by decide +kernel
theorem dX7_isPayable_5 : decode cX7_isPayable 5 = .ok (.if_icmp .le 12, 3) := by decide +kernel
theorem dX7_isPayable_8 : decode cX7_isPayable 8 = .ok (.iload_n 2, 1) := by decide +kernel
theorem dX7_isPayable_9 : decode cX7_isPayable 9 = .ok (.aload_n 0, 1) := by decide +kernel
theorem dX7_isPayable_10 : decode cX7_isPayable 10 = .ok (.getfield 86, 3) := by decide +kernel
theorem dX7_isPayable_13 : decode cX7_isPayable 13 = .ok (.isub, 1) := by decide +kernel
theorem dX7_isPayable_14 : decode cX7_isPayable 14 = .ok (.goto 4, 3) := by decide +kernel
theorem dX7_isPayable_17 : decode cX7_isPayable 17 = .ok (.iconst 0, 1) := by decide +kernel
theorem dX7_isPayable_18 : decode cX7_isPayable 18 = .ok (.istore_n 3, 1) := by decide +kernel
theorem dX7_isPayable_19 : decode cX7_isPayable 19 = .ok (.iload_n 1, 1) := by decide +kernel
theorem dX7_isPayable_20 : decode cX7_isPayable 20 = .ok (.aload_n 0, 1) := by decide +kernel
theorem dX7_isPayable_21 : decode cX7_isPayable 21 = .ok (.getfield 89, 3) := by decide +kernel
theorem dX7_isPayable_24 : decode cX7_isPayable 24 = .ok (.iload_n 3, 1) := by decide +kernel
theorem dX7_isPayable_25 : decode cX7_isPayable 25 = .ok (.imul, 1) := by decide +kernel
theorem dX7_isPayable_26 : decode cX7_isPayable 26 = .ok (.iadd, 1) := by decide +kernel
theorem dX7_isPayable_27 : decode cX7_isPayable 27 = .ok (.aload_n 0, 1) := by decide +kernel
theorem dX7_isPayable_28 : decode cX7_isPayable 28 = .ok (.getfield 83, 3) := by decide +kernel
theorem dX7_isPayable_31 : decode cX7_isPayable 31 = .ok (.if_icmp .gt 7, 3) := by decide +kernel
theorem dX7_isPayable_34 : decode cX7_isPayable 34 = .ok (.iconst 1, 1) := by decide +kernel
theorem dX7_isPayable_35 : decode cX7_isPayable 35 = .ok (.goto 4, 3) := by decide +kernel
theorem dX7_isPayable_38 : decode cX7_isPayable 38 = .ok (.iconst 0, 1) := by decide +kernel
theorem dX7_isPayable_39 : decode cX7_isPayable 39 = .ok (.ireturn, 1) := by decide +kernel
theorem dX7_compare_0 : decode cX7_compare 0 = .ok (.iload_n 1, 1) := by decide +kernel
theorem dX7_compare_1 : decode cX7_compare 1 = .ok (.aload_n 0, 1) := by decide +kernel
theorem dX7_compare_2 : decode cX7_compare 2 = .ok (.getfield 92, 3) := by decide +kernel
theorem dX7_compare_5 : decode cX7_compare 5 = .ok (.if_icmp .le 7, 3) := by decide +kernel
theorem dX7_compare_8 : decode cX7_compare 8 = .ok (.iconst 1, 1) := by decide +kernel
theorem dX7_compare_9 : decode cX7_compare 9 = .ok (.goto 4, 3) := by decide +kernel
theorem dX7_compare_12 : decode cX7_compare 12 = .ok (.iconst 0, 1) := by decide +kernel
theorem dX7_compare_13 : decode cX7_compare 13 = .ok (.istore 5, 2) := by decide +kernel
theorem dX7_compare_15 : decode cX7_compare 15 = .ok (.iload_n 1, 1) := by decide +kernel
theorem dX7_compare_16 : decode cX7_compare 16 = .ok (.aload_n 0, 1) := by decide +kernel
theorem dX7_compare_17 : decode cX7_compare 17 = .ok (.getfield 92, 3) := by decide +kernel
theorem dX7_compare_20 : decode cX7_compare 20 = .ok (.if_icmp .ne 34, 3) := by decide +kernel
theorem dX7_compare_23 : decode cX7_compare 23 = .ok (.iload_n 2, 1) := by decide +kernel
theorem dX7_compare_24 : decode cX7_compare 24 = .ok (.aload_n 0, 1) := by decide +kernel
theorem dX7_compare_25 : decode cX7_compare 25 = .ok (.getfield 95, 3) := by decide +kernel
theorem dX7_compare_28 : decode cX7_compare 28 = .ok (.if_icmp .lt 19, 3) := by decide +kernel
theorem dX7_compare_31 : decode cX7_compare 31 = .ok (.iload_n 2, 1) := by decide +kernel
theorem dX7_compare_32 : decode cX7_compare 32 = .ok (.aload_n 0, 1) := by decide +kernel
theorem dX7_compare_33 : decode cX7_compare 33 = .ok (.getfield 95, 3) := by decide +kernel
theorem dX7_compare_36 : decode cX7_compare 36 = .ok (.if_icmp .ne 15, 3) := by decide +kernel
theorem dX7_compare_39 : decode cX7_compare 39 = .ok (.iload_n 3, 1) := by decide +kernel
theorem dX7_compare_40 : decode cX7_compare 40 = .ok (.aload_n 0, 1) := by decide +kernel
theorem dX7_compare_41 : decode cX7_compare 41 = .ok (.getfield 98, 3) := by decide +kernel
theorem dX7_compare_44 : decode cX7_compare 44 = .ok (.if_icmp .gt 7, 3) := by decide +kernel
theorem dX7_compare_47 : decode cX7_compare 47 = .ok (.iconst 1, 1) := by decide +kernel
theorem dX7_compare_48 : decode cX7_compare 48 = .ok (.goto 4, 3) := by decide +kernel
theorem dX7_compare_51 : decode cX7_compare 51 = .ok (.iconst 0, 1) := by decide +kernel
theorem dX7_compare_52 : decode cX7_compare 52 = .ok (.istore 5, 2) := by decide +kernel
theorem dX7_compare_54 : decode cX7_compare 54 = .ok (.iload 5, 2) := by decide +kernel
theorem dX7_compare_56 : decode cX7_compare 56 = .ok (.ifCond .eq 24, 3) := by decide +kernel
theorem dX7_compare_59 : decode cX7_compare 59 = .ok (.aload_n 0, 1) := by decide +kernel
theorem dX7_compare_60 : decode cX7_compare 60 = .ok (.iload_n 1, 1) := by decide +kernel
theorem dX7_compare_61 : decode cX7_compare 61 = .ok (.putfield 92, 3) := by decide +kernel
theorem dX7_compare_64 : decode cX7_compare 64 = .ok (.aload_n 0, 1) := by decide +kernel
theorem dX7_compare_65 : decode cX7_compare 65 = .ok (.iload_n 2, 1) := by decide +kernel
theorem dX7_compare_66 : decode cX7_compare 66 = .ok (.putfield 95, 3) := by decide +kernel
theorem dX7_compare_69 : decode cX7_compare 69 = .ok (.aload_n 0, 1) := by decide +kernel
theorem dX7_compare_70 : decode cX7_compare 70 = .ok (.iload_n 3, 1) := by decide +kernel
theorem dX7_compare_71 : decode cX7_compare 71 = .ok (.putfield 98, 3) := by decide +kernel
theorem dX7_compare_74 : decode cX7_compare 74 = .ok (.aload_n 0, 1) := by decide +kernel
theorem dX7_compare_75 : decode cX7_compare 75 = .ok (.iload 4, 2) := by decide +kernel
theorem dX7_compare_77 : decode cX7_compare 77 = .ok (.putfield 101, 3) := by decide +kernel
theorem dX7_compare_80 : decode cX7_compare 80 = .ok (.return_, 1) := by decide +kernel
theorem dX8_init_0 : decode cX8_init 0 = .ok (.aload_n 0, 1) := by decide +kernel
theorem dX8_init_1 : decode cX8_init 1 = .ok (.invokespecial 3, 3) := by decide +kernel
theorem dX8_init_4 : decode cX8_init 4 = .ok (.aload_n 0, 1) := by decide +kernel
theorem dX8_init_5 : decode cX8_init 5 = .ok (.iconst 4, 1) := by decide +kernel
theorem dX8_init_6 : decode cX8_init 6 = .ok (.bipush 121, 2) := by decide +kernel
theorem dX8_init_8 : decode cX8_init 8 = .ok (.multianewarray 9 2, 4) := by decide +kernel
theorem dX8_init_12 : decode cX8_init 12 = .ok (.putfield 11, 3) := by decide +kernel
theorem dX8_init_15 : decode cX8_init 15 = .ok (.aload_n 0, 1) := by decide +kernel
theorem dX8_init_16 : decode cX8_init 16 = .ok (.iconst 4, 1) := by decide +kernel
theorem dX8_init_17 : decode cX8_init 17 = .ok (.newarray .int, 2) := by decide +kernel
theorem dX8_init_19 : decode cX8_init 19 = .ok (.putfield 16, 3) := by decide +kernel
theorem dX8_init_22 : decode cX8_init 22 = .ok (.aload_n 0, 1) := by decide +kernel
theorem dX8_init_23 : decode cX8_init 23 = .ok (.sipush 128, 3) := by decide +kernel
theorem dX8_init_26 : decode cX8_init 26 = .ok (.newarray .int, 2) := by decide +kernel
theorem dX8_init_28 : decode cX8_init 28 = .ok (.putfield 20, 3) := by decide +kernel
theorem dX8_init_31 : decode cX8_init 31 = .ok (.aload_n 0, 1) := by decide +kernel
theorem dX8_init_32 : decode cX8_init 32 = .ok (.bipush 121, 2) := by decide +kernel
theorem dX8_init_34 : decode cX8_init 34 = .ok (.newarray .int, 2) := by decide +kernel
theorem dX8_init_36 : decode cX8_init 36 = .ok (.putfield 23, 3) := by decide +kernel
theorem dX8_init_39 : decode cX8_init 39 = .ok (.return_, 1) := by decide +kernel
theorem dX8_known_0 : decode cX8_known 0 = .ok (.aload_n 0, 1) := by decide +kernel
theorem dX8_known_1 : decode cX8_known 1 = .ok (.getfield 26, 3) := by decide +kernel
theorem dX8_known_4 : decode cX8_known 4 = .ok (.ireturn, 1) := by decide +kernel
theorem dX8_learn_0 : decode cX8_learn 0 = .ok (.aload_n 0, 1) := by decide +kernel
theorem dX8_learn_1 : decode cX8_learn 1 = .ok (.getfield 26, 3) := by decide +kernel
theorem dX8_learn_4 : decode cX8_learn 4 = .ok (.iconst 4, 1) := by decide +kernel
theorem dX8_learn_5 : decode cX8_learn 5 = .ok (.if_icmp .lt 6, 3) := by decide +kernel
theorem dX8_learn_8 : decode cX8_learn 8 = .ok (.bipush (-3), 2) := by decide +kernel
theorem dX8_learn_10 : decode cX8_learn 10 = .ok (.ireturn, 1) := by decide +kernel
theorem dX8_learn_11 : decode cX8_learn 11 = .ok (.aload_n 1, 1) := by decide +kernel
theorem dX8_learn_12 : decode cX8_learn 12 = .ok (.invokevirtual 30, 3) := by decide +kernel
theorem dX8_learn_15 : decode cX8_learn 15 = .ok (.bipush 121, 2) := by decide +kernel
theorem dX8_learn_17 : decode cX8_learn 17 = .ok (.invokestatic 36, 3) := by decide +kernel
theorem dX8_learn_20 : decode cX8_learn 20 = .ok (.istore_n 2, 1) := by decide +kernel
theorem dX8_learn_21 : decode cX8_learn 21 = .ok (.iconst 0, 1) := by decide +kernel
theorem dX8_learn_22 : decode cX8_learn 22 = .ok (.istore_n 3, 1) := by decide +kernel
theorem dX8_learn_23 : decode cX8_learn 23 = .ok (.iload_n 3, 1) := by decide +kernel
theorem dX8_learn_24 : decode cX8_learn 24 = .ok (.iload_n 2, 1) := by decide +kernel
theorem dX8_learn_25 : decode cX8_learn 25 = .ok (.if_icmp .ge 25, 3) := by decide +kernel
theorem dX8_learn_28 : decode cX8_learn 28 = .ok (.aload_n 0, 1) := by decide +kernel
theorem dX8_learn_29 : decode cX8_learn 29 = .ok (.getfield 11, 3) := by decide +kernel
theorem dX8_learn_32 : decode cX8_learn 32 = .ok (.aload_n 0, 1) := by decide +kernel
theorem dX8_learn_33 : decode cX8_learn 33 = .ok (.getfield 26, 3) := by decide +kernel
theorem dX8_learn_36 : decode cX8_learn 36 = .ok (.aaload, 1) := by decide +kernel
theorem dX8_learn_37 : decode cX8_learn 37 = .ok (.iload_n 3, 1) := by decide +kernel
theorem dX8_learn_38 : decode cX8_learn 38 = .ok (.aload_n 1, 1) := by decide +kernel
theorem dX8_learn_39 : decode cX8_learn 39 = .ok (.iload_n 3, 1) := by decide +kernel
theorem dX8_learn_40 : decode cX8_learn 40 = .ok (.invokevirtual 42, 3) := by decide +kernel
theorem dX8_learn_43 : decode cX8_learn 43 = .ok (.iastore, 1) := by decide +kernel
theorem dX8_learn_44 : decode cX8_learn 44 = .ok (.iinc 3 1, 3) := by decide +kernel
theorem dX8_learn_47 : decode cX8_learn 47 = .ok (.goto (-24), 3) := by decide +kernel
theorem dX8_learn_50 : decode cX8_learn 50 = .ok (.aload_n 0, 1) := by decide +kernel
theorem dX8_learn_51 : decode cX8_learn 51 = .ok (.getfield 16, 3) := by decide +kernel
theorem dX8_learn_54 : decode cX8_learn 54 = .ok (.aload_n 0, 1) := by decide +kernel
theorem dX8_learn_55 : decode cX8_learn 55 = .ok (.getfield 26, 3) := by decide +kernel
theorem dX8_learn_58 : decode cX8_learn 58 = .ok (.iload_n 2, 1) := by decide +kernel
theorem dX8_learn_59 : decode cX8_learn 59 = .ok (.iastore, 1) := by decide +kernel
theorem dX8_learn_60 : decode cX8_learn 60 = .ok (.aload_n 0, 1) := by decide +kernel
theorem dX8_learn_61 : decode cX8_learn 61 = .ok (.dup, 1) := by decide +kernel
theorem dX8_learn_62 : decode cX8_learn 62 = .ok (.getfield 26, 3) := by decide +kernel
theorem dX8_learn_65 : decode cX8_learn 65 = .ok (.dup_x1, 1) := by decide +kernel
theorem dX8_learn_66 : decode cX8_learn 66 = .ok (.iconst 1, 1) := by decide +kernel
theorem dX8_learn_67 : decode cX8_learn 67 = .ok (.iadd, 1) := by decide +kernel
theorem dX8_learn_68 : decode cX8_learn 68 = .ok (.putfield 26, 3) := by decide +kernel
theorem dX8_learn_71 : decode cX8_learn 71 = .ok (.ireturn, 1) := by decide +kernel
theorem dX8_name_0 : decode cX8_name 0 = .ok (.iload_n 1, 1) := by decide +kernel
theorem dX8_name_1 : decode cX8_name 1 = .ok (.sipush 128, 3) := by decide +kernel
theorem dX8_name_4 : decode cX8_name 4 = .ok (.if_icmp .ge 10, 3) := by decide +kernel
theorem dX8_name_7 : decode cX8_name 7 = .ok (.aload_n 0, 1) := by decide +kernel
theorem dX8_name_8 : decode cX8_name 8 = .ok (.getfield 20, 3) := by decide +kernel
theorem dX8_name_11 : decode cX8_name 11 = .ok (.iload_n 1, 1) := by decide +kernel
theorem dX8_name_12 : decode cX8_name 12 = .ok (.iload_n 2, 1) := by decide +kernel
theorem dX8_name_13 : decode cX8_name 13 = .ok (.iastore, 1) := by decide +kernel
theorem dX8_name_14 : decode cX8_name 14 = .ok (.return_, 1) := by decide +kernel
theorem dX8_workOut_0 : decode cX8_workOut 0 = .ok (.iload_n 1, 1) := by decide +kernel
theorem dX8_workOut_1 : decode cX8_workOut 1 = .ok (.iconst 0, 1) := by decide +kernel
theorem dX8_workOut_2 : decode cX8_workOut 2 = .ok (.aload_n 0, 1) := by decide +kernel
theorem dX8_workOut_3 : decode cX8_workOut 3 = .ok (.getfield 26, 3) := by decide +kernel
theorem dX8_workOut_6 : decode cX8_workOut 6 = .ok (.iconst 1, 1) := by decide +kernel
theorem dX8_workOut_7 : decode cX8_workOut 7 = .ok (.isub, 1) := by decide +kernel
theorem dX8_workOut_8 : decode cX8_workOut 8 = .ok (.invokestatic 46, 3) := by decide +kernel
theorem dX8_workOut_11 : decode cX8_workOut 11 = .ok (.ifCond .ne 5, 3) := by decide +kernel
theorem dX8_workOut_14 : decode cX8_workOut 14 = .ok (.iconst 0, 1) := by decide +kernel
theorem dX8_workOut_15 : decode cX8_workOut 15 = .ok (.ireturn, 1) := by decide +kernel
theorem dX8_workOut_16 : decode cX8_workOut 16 = .ok (.aload_n 0, 1) := by decide +kernel
theorem dX8_workOut_17 : decode cX8_workOut 17 = .ok (.iconst 0, 1) := by decide +kernel
theorem dX8_workOut_18 : decode cX8_workOut 18 = .ok (.putfield 50, 3) := by decide +kernel
theorem dX8_workOut_21 : decode cX8_workOut 21 = .ok (.iconst 0, 1) := by decide +kernel
theorem dX8_workOut_22 : decode cX8_workOut 22 = .ok (.istore_n 2, 1) := by decide +kernel
theorem dX8_workOut_23 : decode cX8_workOut 23 = .ok (.iconst 0, 1) := by decide +kernel
theorem dX8_workOut_24 : decode cX8_workOut 24 = .ok (.istore_n 3, 1) := by decide +kernel
theorem dX8_workOut_25 : decode cX8_workOut 25 = .ok (.iload_n 3, 1) := by decide +kernel
theorem dX8_workOut_26 : decode cX8_workOut 26 = .ok (.aload_n 0, 1) := by decide +kernel
theorem dX8_workOut_27 : decode cX8_workOut 27 = .ok (.getfield 16, 3) := by decide +kernel
theorem dX8_workOut_30 : decode cX8_workOut 30 = .ok (.iload_n 1, 1) := by decide +kernel
theorem dX8_workOut_31 : decode cX8_workOut 31 = .ok (.iaload, 1) := by decide +kernel
theorem dX8_workOut_32 : decode cX8_workOut 32 = .ok (.if_icmp .ge 73, 3) := by decide +kernel
theorem dX8_workOut_35 : decode cX8_workOut 35 = .ok (.aload_n 0, 1) := by decide +kernel
theorem dX8_workOut_36 : decode cX8_workOut 36 = .ok (.getfield 11, 3) := by decide +kernel
theorem dX8_workOut_39 : decode cX8_workOut 39 = .ok (.iload_n 1, 1) := by decide +kernel
theorem dX8_workOut_40 : decode cX8_workOut 40 = .ok (.aaload, 1) := by decide +kernel
theorem dX8_workOut_41 : decode cX8_workOut 41 = .ok (.iload_n 3, 1) := by decide +kernel
theorem dX8_workOut_42 : decode cX8_workOut 42 = .ok (.iaload, 1) := by decide +kernel
theorem dX8_workOut_43 : decode cX8_workOut 43 = .ok (.istore 4, 2) := by decide +kernel
theorem dX8_workOut_45 : decode cX8_workOut 45 = .ok (.iload 4, 2) := by decide +kernel
theorem dX8_workOut_47 : decode cX8_workOut 47 = .ok (.bipush (-59), 2) := by decide +kernel
theorem dX8_workOut_49 : decode cX8_workOut 49 = .ok (.if_icmp .ne 17, 3) := by decide +kernel
theorem dX8_workOut_52 : decode cX8_workOut 52 = .ok (.iload_n 2, 1) := by decide +kernel
theorem dX8_workOut_53 : decode cX8_workOut 53 = .ok (.ifCond .ne 8, 3) := by decide +kernel
theorem dX8_workOut_56 : decode cX8_workOut 56 = .ok (.aload_n 0, 1) := by decide +kernel
theorem dX8_workOut_57 : decode cX8_workOut 57 = .ok (.invokevirtual 53, 3) := by decide +kernel
theorem dX8_workOut_60 : decode cX8_workOut 60 = .ok (.ireturn, 1) := by decide +kernel
theorem dX8_workOut_61 : decode cX8_workOut 61 = .ok (.iconst 0, 1) := by decide +kernel
theorem dX8_workOut_62 : decode cX8_workOut 62 = .ok (.istore_n 2, 1) := by decide +kernel
theorem dX8_workOut_63 : decode cX8_workOut 63 = .ok (.goto 36, 3) := by decide +kernel
theorem dX8_workOut_66 : decode cX8_workOut 66 = .ok (.iload 4, 2) := by decide +kernel
theorem dX8_workOut_68 : decode cX8_workOut 68 = .ok (.bipush (-63), 2) := by decide +kernel
theorem dX8_workOut_70 : decode cX8_workOut 70 = .ok (.if_icmp .ne 19, 3) := by decide +kernel
theorem dX8_workOut_73 : decode cX8_workOut 73 = .ok (.aload_n 0, 1) := by decide +kernel
theorem dX8_workOut_74 : decode cX8_workOut 74 = .ok (.invokevirtual 53, 3) := by decide +kernel
theorem dX8_workOut_77 : decode cX8_workOut 77 = .ok (.ifCond .ne 7, 3) := by decide +kernel
theorem dX8_workOut_80 : decode cX8_workOut 80 = .ok (.iconst 1, 1) := by decide +kernel
theorem dX8_workOut_81 : decode cX8_workOut 81 = .ok (.goto 4, 3) := by decide +kernel
theorem dX8_workOut_84 : decode cX8_workOut 84 = .ok (.iconst 0, 1) := by decide +kernel
theorem dX8_workOut_85 : decode cX8_workOut 85 = .ok (.istore_n 2, 1) := by decide +kernel
theorem dX8_workOut_86 : decode cX8_workOut 86 = .ok (.goto 13, 3) := by decide +kernel
theorem dX8_workOut_89 : decode cX8_workOut 89 = .ok (.iload_n 2, 1) := by decide +kernel
theorem dX8_workOut_90 : decode cX8_workOut 90 = .ok (.ifCond .ne 9, 3) := by decide +kernel
theorem dX8_workOut_93 : decode cX8_workOut 93 = .ok (.aload_n 0, 1) := by decide +kernel
theorem dX8_workOut_94 : decode cX8_workOut 94 = .ok (.iload 4, 2) := by decide +kernel
theorem dX8_workOut_96 : decode cX8_workOut 96 = .ok (.invokevirtual 56, 3) := by decide +kernel
theorem dX8_workOut_99 : decode cX8_workOut 99 = .ok (.iinc 3 1, 3) := by decide +kernel
theorem dX8_workOut_102 : decode cX8_workOut 102 = .ok (.goto (-77), 3) := by decide +kernel
theorem dX8_workOut_105 : decode cX8_workOut 105 = .ok (.iconst 0, 1) := by decide +kernel
theorem dX8_workOut_106 : decode cX8_workOut 106 = .ok (.ireturn, 1) := by decide +kernel
theorem dX8_doStep_0 : decode cX8_doStep 0 = .ok (.iload_n 1, 1) := by decide +kernel
theorem dX8_doStep_1 : decode cX8_doStep 1 = .ok (.ifCond .lt 11, 3) := by decide +kernel
theorem dX8_doStep_4 : decode cX8_doStep 4 = .ok (.aload_n 0, 1) := by decide +kernel
theorem dX8_doStep_5 : decode cX8_doStep 5 = .ok (.iload_n 1, 1) := by decide +kernel
theorem dX8_doStep_6 : decode cX8_doStep 6 = .ok (.invokevirtual 60, 3) := by decide +kernel
theorem dX8_doStep_9 : decode cX8_doStep 9 = .ok (.goto 87, 3) := by decide +kernel
theorem dX8_doStep_12 : decode cX8_doStep 12 = .ok (.iload_n 1, 1) := by decide +kernel
theorem dX8_doStep_13 : decode cX8_doStep 13 = .ok (.ineg, 1) := by decide +kernel
theorem dX8_doStep_14 : decode cX8_doStep 14 = .ok (.invokestatic 63, 3) := by decide +kernel
theorem dX8_doStep_17 : decode cX8_doStep 17 = .ok (.ifCond .eq 17, 3) := by decide +kernel
theorem dX8_doStep_20 : decode cX8_doStep 20 = .ok (.aload_n 0, 1) := by decide +kernel
theorem dX8_doStep_21 : decode cX8_doStep 21 = .ok (.aload_n 0, 1) := by decide +kernel
theorem dX8_doStep_22 : decode cX8_doStep 22 = .ok (.getfield 20, 3) := by decide +kernel
theorem dX8_doStep_25 : decode cX8_doStep 25 = .ok (.iload_n 1, 1) := by decide +kernel
theorem dX8_doStep_26 : decode cX8_doStep 26 = .ok (.ineg, 1) := by decide +kernel
theorem dX8_doStep_27 : decode cX8_doStep 27 = .ok (.iaload, 1) := by decide +kernel
theorem dX8_doStep_28 : decode cX8_doStep 28 = .ok (.invokevirtual 60, 3) := by decide +kernel
theorem dX8_doStep_31 : decode cX8_doStep 31 = .ok (.goto 65, 3) := by decide +kernel
theorem dX8_doStep_34 : decode cX8_doStep 34 = .ok (.iload_n 1, 1) := by decide +kernel
theorem dX8_doStep_35 : decode cX8_doStep 35 = .ok (.bipush (-33), 2) := by decide +kernel
theorem dX8_doStep_37 : decode cX8_doStep 37 = .ok (.if_icmp .ne 22, 3) := by decide +kernel
theorem dX8_doStep_40 : decode cX8_doStep 40 = .ok (.aload_n 0, 1) := by decide +kernel
theorem dX8_doStep_41 : decode cX8_doStep 41 = .ok (.aload_n 0, 1) := by decide +kernel
theorem dX8_doStep_42 : decode cX8_doStep 42 = .ok (.invokevirtual 53, 3) := by decide +kernel
theorem dX8_doStep_45 : decode cX8_doStep 45 = .ok (.ifCond .ne 7, 3) := by decide +kernel
theorem dX8_doStep_48 : decode cX8_doStep 48 = .ok (.iconst 1, 1) := by decide +kernel
theorem dX8_doStep_49 : decode cX8_doStep 49 = .ok (.goto 4, 3) := by decide +kernel
theorem dX8_doStep_52 : decode cX8_doStep 52 = .ok (.iconst 0, 1) := by decide +kernel
theorem dX8_doStep_53 : decode cX8_doStep 53 = .ok (.invokevirtual 60, 3) := by decide +kernel
theorem dX8_doStep_56 : decode cX8_doStep 56 = .ok (.goto 40, 3) := by decide +kernel
theorem dX8_doStep_59 : decode cX8_doStep 59 = .ok (.iload_n 1, 1) := by decide +kernel
theorem dX8_doStep_60 : decode cX8_doStep 60 = .ok (.bipush (-126), 2) := by decide +kernel
theorem dX8_doStep_62 : decode cX8_doStep 62 = .ok (.if_icmp .ne 15, 3) := by decide +kernel
theorem dX8_doStep_65 : decode cX8_doStep 65 = .ok (.aload_n 0, 1) := by decide +kernel
theorem dX8_doStep_66 : decode cX8_doStep 66 = .ok (.aload_n 0, 1) := by decide +kernel
theorem dX8_doStep_67 : decode cX8_doStep 67 = .ok (.invokevirtual 53, 3) := by decide +kernel
theorem dX8_doStep_70 : decode cX8_doStep 70 = .ok (.ineg, 1) := by decide +kernel
theorem dX8_doStep_71 : decode cX8_doStep 71 = .ok (.invokevirtual 60, 3) := by decide +kernel
theorem dX8_doStep_74 : decode cX8_doStep 74 = .ok (.goto 22, 3) := by decide +kernel
theorem dX8_doStep_77 : decode cX8_doStep 77 = .ok (.aload_n 0, 1) := by decide +kernel
theorem dX8_doStep_78 : decode cX8_doStep 78 = .ok (.invokevirtual 53, 3) := by decide +kernel
theorem dX8_doStep_81 : decode cX8_doStep 81 = .ok (.istore_n 2, 1) := by decide +kernel
theorem dX8_doStep_82 : decode cX8_doStep 82 = .ok (.aload_n 0, 1) := by decide +kernel
theorem dX8_doStep_83 : decode cX8_doStep 83 = .ok (.iload_n 1, 1) := by decide +kernel
theorem dX8_doStep_84 : decode cX8_doStep 84 = .ok (.ineg, 1) := by decide +kernel
theorem dX8_doStep_85 : decode cX8_doStep 85 = .ok (.aload_n 0, 1) := by decide +kernel
theorem dX8_doStep_86 : decode cX8_doStep 86 = .ok (.invokevirtual 53, 3) := by decide +kernel
theorem dX8_doStep_89 : decode cX8_doStep 89 = .ok (.iload_n 2, 1) := by decide +kernel
theorem dX8_doStep_90 : decode cX8_doStep 90 = .ok (.invokestatic 67, 3) := by decide +kernel
theorem dX8_doStep_93 : decode cX8_doStep 93 = .ok (.invokevirtual 60, 3) := by decide +kernel
theorem dX8_doStep_96 : decode cX8_doStep 96 = .ok (.return_, 1) := by decide +kernel
theorem dX8_joined_0 : decode cX8_joined 0 = .ok (.iload_n 0, 1) := by decide +kernel
theorem dX8_joined_1 : decode cX8_joined 1 = .ok (.lookupswitch 188 #[(37, 176), (38, 105), (42, 160), (43, 152), (45, 156), (47, 164), (60, 119), (61, 130), (62, 141), (124, 91)], 91) := by decide +kernel
theorem dX8_joined_92 : decode cX8_joined 92 = .ok (.iload_n 1, 1) := by decide +kernel
theorem dX8_joined_93 : decode cX8_joined 93 = .ok (.ifCond .ne 7, 3) := by decide +kernel
theorem dX8_joined_96 : decode cX8_joined 96 = .ok (.iload_n 2, 1) := by decide +kernel
theorem dX8_joined_97 : decode cX8_joined 97 = .ok (.ifCond .eq 7, 3) := by decide +kernel
theorem dX8_joined_100 : decode cX8_joined 100 = .ok (.iconst 1, 1) := by decide +kernel
theorem dX8_joined_101 : decode cX8_joined 101 = .ok (.goto 4, 3) := by decide +kernel
theorem dX8_joined_104 : decode cX8_joined 104 = .ok (.iconst 0, 1) := by decide +kernel
theorem dX8_joined_105 : decode cX8_joined 105 = .ok (.ireturn, 1) := by decide +kernel
theorem dX8_joined_106 : decode cX8_joined 106 = .ok (.iload_n 1, 1) := by decide +kernel
theorem dX8_joined_107 : decode cX8_joined 107 = .ok (.ifCond .eq 11, 3) := by decide +kernel
theorem dX8_joined_110 : decode cX8_joined 110 = .ok (.iload_n 2, 1) := by decide +kernel
theorem dX8_joined_111 : decode cX8_joined 111 = .ok (.ifCond .eq 7, 3) := by decide +kernel
theorem dX8_joined_114 : decode cX8_joined 114 = .ok (.iconst 1, 1) := by decide +kernel
theorem dX8_joined_115 : decode cX8_joined 115 = .ok (.goto 4, 3) := by decide +kernel
theorem dX8_joined_118 : decode cX8_joined 118 = .ok (.iconst 0, 1) := by decide +kernel
theorem dX8_joined_119 : decode cX8_joined 119 = .ok (.ireturn, 1) := by decide +kernel
theorem dX8_joined_120 : decode cX8_joined 120 = .ok (.iload_n 1, 1) := by decide +kernel
theorem dX8_joined_121 : decode cX8_joined 121 = .ok (.iload_n 2, 1) := by decide +kernel
theorem dX8_joined_122 : decode cX8_joined 122 = .ok (.if_icmp .ge 7, 3) := by decide +kernel
theorem dX8_joined_125 : decode cX8_joined 125 = .ok (.iconst 1, 1) := by decide +kernel
theorem dX8_joined_126 : decode cX8_joined 126 = .ok (.goto 4, 3) := by decide +kernel
theorem dX8_joined_129 : decode cX8_joined 129 = .ok (.iconst 0, 1) := by decide +kernel
theorem dX8_joined_130 : decode cX8_joined 130 = .ok (.ireturn, 1) := by decide +kernel
theorem dX8_joined_131 : decode cX8_joined 131 = .ok (.iload_n 1, 1) := by decide +kernel
theorem dX8_joined_132 : decode cX8_joined 132 = .ok (.iload_n 2, 1) := by decide +kernel
theorem dX8_joined_133 : decode cX8_joined 133 = .ok (.if_icmp .ne 7, 3) := by decide +kernel
theorem dX8_joined_136 : decode cX8_joined 136 = .ok (.iconst 1, 1) := by decide +kernel
theorem dX8_joined_137 : decode cX8_joined 137 = .ok (.goto 4, 3) := by decide +kernel
theorem dX8_joined_140 : decode cX8_joined 140 = .ok (.iconst 0, 1) := by decide +kernel
theorem dX8_joined_141 : decode cX8_joined 141 = .ok (.ireturn, 1) := by decide +kernel
theorem dX8_joined_142 : decode cX8_joined 142 = .ok (.iload_n 1, 1) := by decide +kernel
theorem dX8_joined_143 : decode cX8_joined 143 = .ok (.iload_n 2, 1) := by decide +kernel
theorem dX8_joined_144 : decode cX8_joined 144 = .ok (.if_icmp .le 7, 3) := by decide +kernel
theorem dX8_joined_147 : decode cX8_joined 147 = .ok (.iconst 1, 1) := by decide +kernel
theorem dX8_joined_148 : decode cX8_joined 148 = .ok (.goto 4, 3) := by decide +kernel
theorem dX8_joined_151 : decode cX8_joined 151 = .ok (.iconst 0, 1) := by decide +kernel
theorem dX8_joined_152 : decode cX8_joined 152 = .ok (.ireturn, 1) := by decide +kernel
theorem dX8_joined_153 : decode cX8_joined 153 = .ok (.iload_n 1, 1) := by decide +kernel
theorem dX8_joined_154 : decode cX8_joined 154 = .ok (.iload_n 2, 1) := by decide +kernel
theorem dX8_joined_155 : decode cX8_joined 155 = .ok (.iadd, 1) := by decide +kernel
theorem dX8_joined_156 : decode cX8_joined 156 = .ok (.ireturn, 1) := by decide +kernel
theorem dX8_joined_157 : decode cX8_joined 157 = .ok (.iload_n 1, 1) := by decide +kernel
theorem dX8_joined_158 : decode cX8_joined 158 = .ok (.iload_n 2, 1) := by decide +kernel
theorem dX8_joined_159 : decode cX8_joined 159 = .ok (.isub, 1) := by decide +kernel
theorem dX8_joined_160 : decode cX8_joined 160 = .ok (.ireturn, 1) := by decide +kernel
theorem dX8_joined_161 : decode cX8_joined 161 = .ok (.iload_n 1, 1) := by decide +kernel
theorem dX8_joined_162 : decode cX8_joined 162 = .ok (.iload_n 2, 1) := by decide +kernel
theorem dX8_joined_163 : decode cX8_joined 163 = .ok (.imul, 1) := by decide +kernel
theorem dX8_joined_164 : decode cX8_joined 164 = .ok (.ireturn, 1) := by decide +kernel
theorem dX8_joined_165 : decode cX8_joined 165 = .ok (.iload_n 2, 1) := by decide +kernel
theorem dX8_joined_166 : decode cX8_joined 166 = .ok (.ifCond .ne 7, 3) := by decide +kernel
theorem dX8_joined_169 : decode cX8_joined 169 = .ok (.iconst 0, 1) := by decide +kernel
theorem dX8_joined_170 : decode cX8_joined 170 = .ok (.goto 6, 3) := by decide +kernel
theorem dX8_joined_173 : decode cX8_joined 173 = .ok (.iload_n 1, 1) := by decide +kernel
theorem dX8_joined_174 : decode cX8_joined 174 = .ok (.iload_n 2, 1) := by decide +kernel
theorem dX8_joined_175 : decode cX8_joined 175 = .ok (.idiv, 1) := by decide +kernel
theorem dX8_joined_176 : decode cX8_joined 176 = .ok (.ireturn, 1) := by decide +kernel
theorem dX8_joined_177 : decode cX8_joined 177 = .ok (.iload_n 2, 1) := by decide +kernel
theorem dX8_joined_178 : decode cX8_joined 178 = .ok (.ifCond .ne 7, 3) := by decide +kernel
theorem dX8_joined_181 : decode cX8_joined 181 = .ok (.iconst 0, 1) := by decide +kernel
theorem dX8_joined_182 : decode cX8_joined 182 = .ok (.goto 6, 3) := by decide +kernel
theorem dX8_joined_185 : decode cX8_joined 185 = .ok (.iload_n 1, 1) := by decide +kernel
theorem dX8_joined_186 : decode cX8_joined 186 = .ok (.iload_n 2, 1) := by decide +kernel
theorem dX8_joined_187 : decode cX8_joined 187 = .ok (.irem, 1) := by decide +kernel
theorem dX8_joined_188 : decode cX8_joined 188 = .ok (.ireturn, 1) := by decide +kernel
theorem dX8_joined_189 : decode cX8_joined 189 = .ok (.iconst 0, 1) := by decide +kernel
theorem dX8_joined_190 : decode cX8_joined 190 = .ok (.ireturn, 1) := by decide +kernel
theorem dX8_push_0 : decode cX8_push 0 = .ok (.aload_n 0, 1) := by decide +kernel
theorem dX8_push_1 : decode cX8_push 1 = .ok (.getfield 50, 3) := by decide +kernel
theorem dX8_push_4 : decode cX8_push 4 = .ok (.bipush 121, 2) := by decide +kernel
theorem dX8_push_6 : decode cX8_push 6 = .ok (.if_icmp .ge 23, 3) := by decide +kernel
theorem dX8_push_9 : decode cX8_push 9 = .ok (.aload_n 0, 1) := by decide +kernel
theorem dX8_push_10 : decode cX8_push 10 = .ok (.getfield 23, 3) := by decide +kernel
theorem dX8_push_13 : decode cX8_push 13 = .ok (.aload_n 0, 1) := by decide +kernel
theorem dX8_push_14 : decode cX8_push 14 = .ok (.getfield 50, 3) := by decide +kernel
theorem dX8_push_17 : decode cX8_push 17 = .ok (.iload_n 1, 1) := by decide +kernel
theorem dX8_push_18 : decode cX8_push 18 = .ok (.iastore, 1) := by decide +kernel
theorem dX8_push_19 : decode cX8_push 19 = .ok (.aload_n 0, 1) := by decide +kernel
theorem dX8_push_20 : decode cX8_push 20 = .ok (.dup, 1) := by decide +kernel
theorem dX8_push_21 : decode cX8_push 21 = .ok (.getfield 50, 3) := by decide +kernel
theorem dX8_push_24 : decode cX8_push 24 = .ok (.iconst 1, 1) := by decide +kernel
theorem dX8_push_25 : decode cX8_push 25 = .ok (.iadd, 1) := by decide +kernel
theorem dX8_push_26 : decode cX8_push 26 = .ok (.putfield 50, 3) := by decide +kernel
theorem dX8_push_29 : decode cX8_push 29 = .ok (.return_, 1) := by decide +kernel
theorem dX8_pop_0 : decode cX8_pop 0 = .ok (.aload_n 0, 1) := by decide +kernel
theorem dX8_pop_1 : decode cX8_pop 1 = .ok (.getfield 50, 3) := by decide +kernel
theorem dX8_pop_4 : decode cX8_pop 4 = .ok (.ifCond .gt 5, 3) := by decide +kernel
theorem dX8_pop_7 : decode cX8_pop 7 = .ok (.iconst 0, 1) := by decide +kernel
theorem dX8_pop_8 : decode cX8_pop 8 = .ok (.ireturn, 1) := by decide +kernel
theorem dX8_pop_9 : decode cX8_pop 9 = .ok (.aload_n 0, 1) := by decide +kernel
theorem dX8_pop_10 : decode cX8_pop 10 = .ok (.dup, 1) := by decide +kernel
theorem dX8_pop_11 : decode cX8_pop 11 = .ok (.getfield 50, 3) := by decide +kernel
theorem dX8_pop_14 : decode cX8_pop 14 = .ok (.iconst 1, 1) := by decide +kernel
theorem dX8_pop_15 : decode cX8_pop 15 = .ok (.isub, 1) := by decide +kernel
theorem dX8_pop_16 : decode cX8_pop 16 = .ok (.putfield 50, 3) := by decide +kernel
theorem dX8_pop_19 : decode cX8_pop 19 = .ok (.aload_n 0, 1) := by decide +kernel
theorem dX8_pop_20 : decode cX8_pop 20 = .ok (.getfield 23, 3) := by decide +kernel
theorem dX8_pop_23 : decode cX8_pop 23 = .ok (.aload_n 0, 1) := by decide +kernel
theorem dX8_pop_24 : decode cX8_pop 24 = .ok (.getfield 50, 3) := by decide +kernel
theorem dX8_pop_27 : decode cX8_pop 27 = .ok (.iaload, 1) := by decide +kernel
theorem dX8_pop_28 : decode cX8_pop 28 = .ok (.ireturn, 1) := by decide +kernel
theorem dX9_init_0 : decode cX9_init 0 = .ok (.aload_n 0, 1) := by decide +kernel
theorem dX9_init_1 : decode cX9_init 1 = .ok (.invokespecial 3, 3) := by decide +kernel
theorem dX9_init_4 : decode cX9_init 4 = .ok (.aload_n 0, 1) := by decide +kernel
theorem dX9_init_5 : decode cX9_init 5 = .ok (.new 9, 3) := by decide +kernel
theorem dX9_init_8 : decode cX9_init 8 = .ok (.dup, 1) := by decide +kernel
theorem dX9_init_9 : decode cX9_init 9 = .ok (.invokespecial 11, 3) := by decide +kernel
theorem dX9_init_12 : decode cX9_init 12 = .ok (.putfield 12, 3) := by decide +kernel
theorem dX9_init_15 : decode cX9_init 15 = .ok (.aload_n 0, 1) := by decide +kernel
theorem dX9_init_16 : decode cX9_init 16 = .ok (.new 16, 3) := by decide +kernel
theorem dX9_init_19 : decode cX9_init 19 = .ok (.dup, 1) := by decide +kernel
theorem dX9_init_20 : decode cX9_init 20 = .ok (.aload_n 0, 1) := by decide +kernel
theorem dX9_init_21 : decode cX9_init 21 = .ok (.getfield 12, 3) := by decide +kernel
theorem dX9_init_24 : decode cX9_init 24 = .ok (.invokespecial 18, 3) := by decide +kernel
theorem dX9_init_27 : decode cX9_init 27 = .ok (.putfield 21, 3) := by decide +kernel
theorem dX9_init_30 : decode cX9_init 30 = .ok (.aload_n 0, 1) := by decide +kernel
theorem dX9_init_31 : decode cX9_init 31 = .ok (.new 25, 3) := by decide +kernel
theorem dX9_init_34 : decode cX9_init 34 = .ok (.dup, 1) := by decide +kernel
theorem dX9_init_35 : decode cX9_init 35 = .ok (.invokespecial 27, 3) := by decide +kernel
theorem dX9_init_38 : decode cX9_init 38 = .ok (.putfield 28, 3) := by decide +kernel
theorem dX9_init_41 : decode cX9_init 41 = .ok (.aload_n 0, 1) := by decide +kernel
theorem dX9_init_42 : decode cX9_init 42 = .ok (.new 32, 3) := by decide +kernel
theorem dX9_init_45 : decode cX9_init 45 = .ok (.dup, 1) := by decide +kernel
theorem dX9_init_46 : decode cX9_init 46 = .ok (.invokespecial 34, 3) := by decide +kernel
theorem dX9_init_49 : decode cX9_init 49 = .ok (.putfield 35, 3) := by decide +kernel
theorem dX9_init_52 : decode cX9_init 52 = .ok (.aload_n 0, 1) := by decide +kernel
theorem dX9_init_53 : decode cX9_init 53 = .ok (.new 39, 3) := by decide +kernel
theorem dX9_init_56 : decode cX9_init 56 = .ok (.dup, 1) := by decide +kernel
theorem dX9_init_57 : decode cX9_init 57 = .ok (.aload_n 0, 1) := by decide +kernel
theorem dX9_init_58 : decode cX9_init 58 = .ok (.getfield 12, 3) := by decide +kernel
theorem dX9_init_61 : decode cX9_init 61 = .ok (.aload_n 0, 1) := by decide +kernel
theorem dX9_init_62 : decode cX9_init 62 = .ok (.getfield 35, 3) := by decide +kernel
theorem dX9_init_65 : decode cX9_init 65 = .ok (.invokespecial 41, 3) := by decide +kernel
theorem dX9_init_68 : decode cX9_init 68 = .ok (.putfield 44, 3) := by decide +kernel
theorem dX9_init_71 : decode cX9_init 71 = .ok (.aload_n 0, 1) := by decide +kernel
theorem dX9_init_72 : decode cX9_init 72 = .ok (.new 48, 3) := by decide +kernel
theorem dX9_init_75 : decode cX9_init 75 = .ok (.dup, 1) := by decide +kernel
theorem dX9_init_76 : decode cX9_init 76 = .ok (.aload_n 0, 1) := by decide +kernel
theorem dX9_init_77 : decode cX9_init 77 = .ok (.getfield 12, 3) := by decide +kernel
theorem dX9_init_80 : decode cX9_init 80 = .ok (.aload_n 0, 1) := by decide +kernel
theorem dX9_init_81 : decode cX9_init 81 = .ok (.getfield 44, 3) := by decide +kernel
theorem dX9_init_84 : decode cX9_init 84 = .ok (.invokespecial 50, 3) := by decide +kernel
theorem dX9_init_87 : decode cX9_init 87 = .ok (.putfield 53, 3) := by decide +kernel
theorem dX9_init_90 : decode cX9_init 90 = .ok (.aload_n 0, 1) := by decide +kernel
theorem dX9_init_91 : decode cX9_init 91 = .ok (.new 57, 3) := by decide +kernel
theorem dX9_init_94 : decode cX9_init 94 = .ok (.dup, 1) := by decide +kernel
theorem dX9_init_95 : decode cX9_init 95 = .ok (.aload_n 0, 1) := by decide +kernel
theorem dX9_init_96 : decode cX9_init 96 = .ok (.getfield 12, 3) := by decide +kernel
theorem dX9_init_99 : decode cX9_init 99 = .ok (.aload_n 0, 1) := by decide +kernel
theorem dX9_init_100 : decode cX9_init 100 = .ok (.getfield 44, 3) := by decide +kernel
theorem dX9_init_103 : decode cX9_init 103 = .ok (.invokespecial 59, 3) := by decide +kernel
theorem dX9_init_106 : decode cX9_init 106 = .ok (.putfield 60, 3) := by decide +kernel
theorem dX9_init_109 : decode cX9_init 109 = .ok (.aload_n 0, 1) := by decide +kernel
theorem dX9_init_110 : decode cX9_init 110 = .ok (.new 64, 3) := by decide +kernel
theorem dX9_init_113 : decode cX9_init 113 = .ok (.dup, 1) := by decide +kernel
theorem dX9_init_114 : decode cX9_init 114 = .ok (.invokespecial 66, 3) := by decide +kernel
theorem dX9_init_117 : decode cX9_init 117 = .ok (.putfield 67, 3) := by decide +kernel
theorem dX9_init_120 : decode cX9_init 120 = .ok (.aload_n 0, 1) := by decide +kernel
theorem dX9_init_121 : decode cX9_init 121 = .ok (.new 71, 3) := by decide +kernel
theorem dX9_init_124 : decode cX9_init 124 = .ok (.dup, 1) := by decide +kernel
theorem dX9_init_125 : decode cX9_init 125 = .ok (.invokespecial 73, 3) := by decide +kernel
theorem dX9_init_128 : decode cX9_init 128 = .ok (.putfield 74, 3) := by decide +kernel
theorem dX9_init_131 : decode cX9_init 131 = .ok (.return_, 1) := by decide +kernel
theorem dX9_thing_0 : decode cX9_thing 0 = .ok (.iload_n 1, 1) := by decide +kernel
theorem dX9_thing_1 : decode cX9_thing 1 = .ok (.iconst 0, 1) := by decide +kernel
theorem dX9_thing_2 : decode cX9_thing 2 = .ok (.sipush 999, 3) := by decide +kernel
theorem dX9_thing_5 : decode cX9_thing 5 = .ok (.invokestatic 78, 3) := by decide +kernel
theorem dX9_thing_8 : decode cX9_thing 8 = .ok (.ifCond .eq 24, 3) := by decide +kernel
theorem dX9_thing_11 : decode cX9_thing 11 = .ok (.iload_n 2, 1) := by decide +kernel
theorem dX9_thing_12 : decode cX9_thing 12 = .ok (.iconst 0, 1) := by decide +kernel
theorem dX9_thing_13 : decode cX9_thing 13 = .ok (.sipush 9999, 3) := by decide +kernel
theorem dX9_thing_16 : decode cX9_thing 16 = .ok (.invokestatic 78, 3) := by decide +kernel
theorem dX9_thing_19 : decode cX9_thing 19 = .ok (.ifCond .eq 13, 3) := by decide +kernel
theorem dX9_thing_22 : decode cX9_thing 22 = .ok (.iload_n 3, 1) := by decide +kernel
theorem dX9_thing_23 : decode cX9_thing 23 = .ok (.iconst 0, 1) := by decide +kernel
theorem dX9_thing_24 : decode cX9_thing 24 = .ok (.bipush 99, 2) := by decide +kernel
theorem dX9_thing_26 : decode cX9_thing 26 = .ok (.invokestatic 78, 3) := by decide +kernel
theorem dX9_thing_29 : decode cX9_thing 29 = .ok (.ifCond .ne 5, 3) := by decide +kernel
theorem dX9_thing_32 : decode cX9_thing 32 = .ok (.iconst (-1), 1) := by decide +kernel
theorem dX9_thing_33 : decode cX9_thing 33 = .ok (.ireturn, 1) := by decide +kernel
theorem dX9_thing_34 : decode cX9_thing 34 = .ok (.aload_n 0, 1) := by decide +kernel
theorem dX9_thing_35 : decode cX9_thing 35 = .ok (.getfield 12, 3) := by decide +kernel
theorem dX9_thing_38 : decode cX9_thing 38 = .ok (.iload_n 1, 1) := by decide +kernel
theorem dX9_thing_39 : decode cX9_thing 39 = .ok (.iload_n 2, 1) := by decide +kernel
theorem dX9_thing_40 : decode cX9_thing 40 = .ok (.bipush 100, 2) := by decide +kernel
theorem dX9_thing_42 : decode cX9_thing 42 = .ok (.idiv, 1) := by decide +kernel
theorem dX9_thing_43 : decode cX9_thing 43 = .ok (.iload_n 2, 1) := by decide +kernel
theorem dX9_thing_44 : decode cX9_thing 44 = .ok (.bipush 100, 2) := by decide +kernel
theorem dX9_thing_46 : decode cX9_thing 46 = .ok (.irem, 1) := by decide +kernel
theorem dX9_thing_47 : decode cX9_thing 47 = .ok (.iload_n 3, 1) := by decide +kernel
theorem dX9_thing_48 : decode cX9_thing 48 = .ok (.invokevirtual 82, 3) := by decide +kernel
theorem dX9_thing_51 : decode cX9_thing 51 = .ok (.ireturn, 1) := by decide +kernel
theorem dX9_things_0 : decode cX9_things 0 = .ok (.aload_n 0, 1) := by decide +kernel
theorem dX9_things_1 : decode cX9_things 1 = .ok (.getfield 74, 3) := by decide +kernel
theorem dX9_things_4 : decode cX9_things 4 = .ok (.iload_n 1, 1) := by decide +kernel
theorem dX9_things_5 : decode cX9_things 5 = .ok (.invokevirtual 86, 3) := by decide +kernel
theorem dX9_things_8 : decode cX9_things 8 = .ok (.ifCond .eq 13, 3) := by decide +kernel
theorem dX9_things_11 : decode cX9_things 11 = .ok (.iload_n 3, 1) := by decide +kernel
theorem dX9_things_12 : decode cX9_things 12 = .ok (.iconst 1, 1) := by decide +kernel
theorem dX9_things_13 : decode cX9_things 13 = .ok (.bipush 6, 2) := by decide +kernel
theorem dX9_things_15 : decode cX9_things 15 = .ok (.invokestatic 78, 3) := by decide +kernel
theorem dX9_things_18 : decode cX9_things 18 = .ok (.ifCond .ne 5, 3) := by decide +kernel
theorem dX9_things_21 : decode cX9_things 21 = .ok (.iconst (-1), 1) := by decide +kernel
theorem dX9_things_22 : decode cX9_things 22 = .ok (.ireturn, 1) := by decide +kernel
theorem dX9_things_23 : decode cX9_things 23 = .ok (.aload_n 0, 1) := by decide +kernel
theorem dX9_things_24 : decode cX9_things 24 = .ok (.getfield 74, 3) := by decide +kernel
theorem dX9_things_27 : decode cX9_things 27 = .ok (.iload_n 1, 1) := by decide +kernel
theorem dX9_things_28 : decode cX9_things 28 = .ok (.invokevirtual 90, 3) := by decide +kernel
theorem dX9_things_31 : decode cX9_things 31 = .ok (.istore 4, 2) := by decide +kernel
theorem dX9_things_33 : decode cX9_things 33 = .ok (.iload 4, 2) := by decide +kernel
theorem dX9_things_35 : decode cX9_things 35 = .ok (.iconst (-1), 1) := by decide +kernel
theorem dX9_things_36 : decode cX9_things 36 = .ok (.if_icmp .ne 5, 3) := by decide +kernel
theorem dX9_things_39 : decode cX9_things 39 = .ok (.iconst 0, 1) := by decide +kernel
theorem dX9_things_40 : decode cX9_things 40 = .ok (.ireturn, 1) := by decide +kernel
theorem dX9_things_41 : decode cX9_things 41 = .ok (.iload 4, 2) := by decide +kernel
theorem dX9_things_43 : decode cX9_things 43 = .ok (.iconst 1, 1) := by decide +kernel
theorem dX9_things_44 : decode cX9_things 44 = .ok (.if_icmp .eq 6, 3) := by decide +kernel
theorem dX9_things_47 : decode cX9_things 47 = .ok (.bipush (-12), 2) := by decide +kernel
theorem dX9_things_49 : decode cX9_things 49 = .ok (.ireturn, 1) := by decide +kernel
theorem dX9_things_50 : decode cX9_things 50 = .ok (.iconst 0, 1) := by decide +kernel
theorem dX9_things_51 : decode cX9_things 51 = .ok (.istore 5, 2) := by decide +kernel
theorem dX9_things_53 : decode cX9_things 53 = .ok (.iload 5, 2) := by decide +kernel
theorem dX9_things_55 : decode cX9_things 55 = .ok (.iload_n 3, 1) := by decide +kernel
theorem dX9_things_56 : decode cX9_things 56 = .ok (.if_icmp .ge 23, 3) := by decide +kernel
theorem dX9_things_59 : decode cX9_things 59 = .ok (.aload_n 0, 1) := by decide +kernel
theorem dX9_things_60 : decode cX9_things 60 = .ok (.iload_n 1, 1) := by decide +kernel
theorem dX9_things_61 : decode cX9_things 61 = .ok (.iload_n 2, 1) := by decide +kernel
theorem dX9_things_62 : decode cX9_things 62 = .ok (.iconst 4, 1) := by decide +kernel
theorem dX9_things_63 : decode cX9_things 63 = .ok (.iload 5, 2) := by decide +kernel
theorem dX9_things_65 : decode cX9_things 65 = .ok (.imul, 1) := by decide +kernel
theorem dX9_things_66 : decode cX9_things 66 = .ok (.iadd, 1) := by decide +kernel
theorem dX9_things_67 : decode cX9_things 67 = .ok (.invokevirtual 94, 3) := by decide +kernel
theorem dX9_things_70 : decode cX9_things 70 = .ok (.ifCond .eq 9, 3) := by decide +kernel
theorem dX9_things_73 : decode cX9_things 73 = .ok (.iinc 5 1, 3) := by decide +kernel
theorem dX9_things_76 : decode cX9_things 76 = .ok (.goto (-23), 3) := by decide +kernel
theorem dX9_things_79 : decode cX9_things 79 = .ok (.iload 5, 2) := by decide +kernel
theorem dX9_things_81 : decode cX9_things 81 = .ok (.ireturn, 1) := by decide +kernel
theorem dX9_mend_0 : decode cX9_mend 0 = .ok (.aload_n 0, 1) := by decide +kernel
theorem dX9_mend_1 : decode cX9_mend 1 = .ok (.getfield 12, 3) := by decide +kernel
theorem dX9_mend_4 : decode cX9_mend 4 = .ok (.iload_n 1, 1) := by decide +kernel
theorem dX9_mend_5 : decode cX9_mend 5 = .ok (.invokevirtual 98, 3) := by decide +kernel
theorem dX9_mend_8 : decode cX9_mend 8 = .ok (.ifCond .eq 32, 3) := by decide +kernel
theorem dX9_mend_11 : decode cX9_mend 11 = .ok (.iload_n 2, 1) := by decide +kernel
theorem dX9_mend_12 : decode cX9_mend 12 = .ok (.iconst 0, 1) := by decide +kernel
theorem dX9_mend_13 : decode cX9_mend 13 = .ok (.iconst 2, 1) := by decide +kernel
theorem dX9_mend_14 : decode cX9_mend 14 = .ok (.invokestatic 78, 3) := by decide +kernel
theorem dX9_mend_17 : decode cX9_mend 17 = .ok (.ifCond .eq 23, 3) := by decide +kernel
theorem dX9_mend_20 : decode cX9_mend 20 = .ok (.iload_n 3, 1) := by decide +kernel
theorem dX9_mend_21 : decode cX9_mend 21 = .ok (.iconst 0, 1) := by decide +kernel
theorem dX9_mend_22 : decode cX9_mend 22 = .ok (.iload_n 2, 1) := by decide +kernel
theorem dX9_mend_23 : decode cX9_mend 23 = .ok (.ifCond .ne 9, 3) := by decide +kernel
theorem dX9_mend_26 : decode cX9_mend 26 = .ok (.sipush 999, 3) := by decide +kernel
theorem dX9_mend_29 : decode cX9_mend 29 = .ok (.goto 5, 3) := by decide +kernel
theorem dX9_mend_32 : decode cX9_mend 32 = .ok (.bipush 99, 2) := by decide +kernel
theorem dX9_mend_34 : decode cX9_mend 34 = .ok (.invokestatic 78, 3) := by decide +kernel
theorem dX9_mend_37 : decode cX9_mend 37 = .ok (.ifCond .ne 5, 3) := by decide +kernel
theorem dX9_mend_40 : decode cX9_mend 40 = .ok (.iconst (-1), 1) := by decide +kernel
theorem dX9_mend_41 : decode cX9_mend 41 = .ok (.ireturn, 1) := by decide +kernel
theorem dX9_mend_42 : decode cX9_mend 42 = .ok (.aload_n 0, 1) := by decide +kernel
theorem dX9_mend_43 : decode cX9_mend 43 = .ok (.getfield 21, 3) := by decide +kernel
theorem dX9_mend_46 : decode cX9_mend 46 = .ok (.iconst 0, 1) := by decide +kernel
theorem dX9_mend_47 : decode cX9_mend 47 = .ok (.iload_n 2, 1) := by decide +kernel
theorem dX9_mend_48 : decode cX9_mend 48 = .ok (.iadd, 1) := by decide +kernel
theorem dX9_mend_49 : decode cX9_mend 49 = .ok (.iload_n 1, 1) := by decide +kernel
theorem dX9_mend_50 : decode cX9_mend 50 = .ok (.iload_n 3, 1) := by decide +kernel
theorem dX9_mend_51 : decode cX9_mend 51 = .ok (.invokevirtual 101, 3) := by decide +kernel
theorem dX9_mend_54 : decode cX9_mend 54 = .ok (.ireturn, 1) := by decide +kernel
theorem dX9_sort_0 : decode cX9_sort 0 = .ok (.iload_n 1, 1) := by decide +kernel
theorem dX9_sort_1 : decode cX9_sort 1 = .ok (.iconst 1, 1) := by decide +kernel
theorem dX9_sort_2 : decode cX9_sort 2 = .ok (.bipush 99, 2) := by decide +kernel
theorem dX9_sort_4 : decode cX9_sort 4 = .ok (.invokestatic 78, 3) := by decide +kernel
theorem dX9_sort_7 : decode cX9_sort 7 = .ok (.ifCond .eq 24, 3) := by decide +kernel
theorem dX9_sort_10 : decode cX9_sort 10 = .ok (.iload_n 2, 1) := by decide +kernel
theorem dX9_sort_11 : decode cX9_sort 11 = .ok (.iconst 0, 1) := by decide +kernel
theorem dX9_sort_12 : decode cX9_sort 12 = .ok (.sipush 9999, 3) := by decide +kernel
theorem dX9_sort_15 : decode cX9_sort 15 = .ok (.invokestatic 78, 3) := by decide +kernel
theorem dX9_sort_18 : decode cX9_sort 18 = .ok (.ifCond .eq 13, 3) := by decide +kernel
theorem dX9_sort_21 : decode cX9_sort 21 = .ok (.iload_n 3, 1) := by decide +kernel
theorem dX9_sort_22 : decode cX9_sort 22 = .ok (.iconst 0, 1) := by decide +kernel
theorem dX9_sort_23 : decode cX9_sort 23 = .ok (.bipush 39, 2) := by decide +kernel
theorem dX9_sort_25 : decode cX9_sort 25 = .ok (.invokestatic 78, 3) := by decide +kernel
theorem dX9_sort_28 : decode cX9_sort 28 = .ok (.ifCond .ne 5, 3) := by decide +kernel
theorem dX9_sort_31 : decode cX9_sort 31 = .ok (.iconst (-1), 1) := by decide +kernel
theorem dX9_sort_32 : decode cX9_sort 32 = .ok (.ireturn, 1) := by decide +kernel
theorem dX9_sort_33 : decode cX9_sort 33 = .ok (.iload_n 3, 1) := by decide +kernel
theorem dX9_sort_34 : decode cX9_sort 34 = .ok (.bipush 10, 2) := by decide +kernel
theorem dX9_sort_36 : decode cX9_sort 36 = .ok (.irem, 1) := by decide +kernel
theorem dX9_sort_37 : decode cX9_sort 37 = .ok (.aload_n 0, 1) := by decide +kernel
theorem dX9_sort_38 : decode cX9_sort 38 = .ok (.getfield 35, 3) := by decide +kernel
theorem dX9_sort_41 : decode cX9_sort 41 = .ok (.invokevirtual 105, 3) := by decide +kernel
theorem dX9_sort_44 : decode cX9_sort 44 = .ok (.if_icmp .lt 5, 3) := by decide +kernel
theorem dX9_sort_47 : decode cX9_sort 47 = .ok (.iconst (-1), 1) := by decide +kernel
theorem dX9_sort_48 : decode cX9_sort 48 = .ok (.ireturn, 1) := by decide +kernel
theorem dX9_sort_49 : decode cX9_sort 49 = .ok (.aload_n 0, 1) := by decide +kernel
theorem dX9_sort_50 : decode cX9_sort 50 = .ok (.getfield 12, 3) := by decide +kernel
theorem dX9_sort_53 : decode cX9_sort 53 = .ok (.iload_n 1, 1) := by decide +kernel
theorem dX9_sort_54 : decode cX9_sort 54 = .ok (.iload_n 2, 1) := by decide +kernel
theorem dX9_sort_55 : decode cX9_sort 55 = .ok (.iload_n 3, 1) := by decide +kernel
theorem dX9_sort_56 : decode cX9_sort 56 = .ok (.invokevirtual 109, 3) := by decide +kernel
theorem dX9_sort_59 : decode cX9_sort 59 = .ok (.ireturn, 1) := by decide +kernel
theorem dX9_purse_0 : decode cX9_purse 0 = .ok (.aload_n 0, 1) := by decide +kernel
theorem dX9_purse_1 : decode cX9_purse 1 = .ok (.getfield 12, 3) := by decide +kernel
theorem dX9_purse_4 : decode cX9_purse 4 = .ok (.iload_n 1, 1) := by decide +kernel
theorem dX9_purse_5 : decode cX9_purse 5 = .ok (.invokevirtual 112, 3) := by decide +kernel
theorem dX9_purse_8 : decode cX9_purse 8 = .ok (.ifCond .eq 22, 3) := by decide +kernel
theorem dX9_purse_11 : decode cX9_purse 11 = .ok (.iload_n 2, 1) := by decide +kernel
theorem dX9_purse_12 : decode cX9_purse 12 = .ok (.iconst 0, 1) := by decide +kernel
theorem dX9_purse_13 : decode cX9_purse 13 = .ok (.iconst 1, 1) := by decide +kernel
theorem dX9_purse_14 : decode cX9_purse 14 = .ok (.invokestatic 78, 3) := by decide +kernel
theorem dX9_purse_17 : decode cX9_purse 17 = .ok (.ifCond .eq 13, 3) := by decide +kernel
theorem dX9_purse_20 : decode cX9_purse 20 = .ok (.iload_n 3, 1) := by decide +kernel
theorem dX9_purse_21 : decode cX9_purse 21 = .ok (.iconst 0, 1) := by decide +kernel
theorem dX9_purse_22 : decode cX9_purse 22 = .ok (.bipush 99, 2) := by decide +kernel
theorem dX9_purse_24 : decode cX9_purse 24 = .ok (.invokestatic 78, 3) := by decide +kernel
theorem dX9_purse_27 : decode cX9_purse 27 = .ok (.ifCond .ne 5, 3) := by decide +kernel
theorem dX9_purse_30 : decode cX9_purse 30 = .ok (.iconst (-1), 1) := by decide +kernel
theorem dX9_purse_31 : decode cX9_purse 31 = .ok (.ireturn, 1) := by decide +kernel
theorem dX9_purse_32 : decode cX9_purse 32 = .ok (.aload_n 0, 1) := by decide +kernel
theorem dX9_purse_33 : decode cX9_purse 33 = .ok (.getfield 21, 3) := by decide +kernel
theorem dX9_purse_36 : decode cX9_purse 36 = .ok (.iconst 5, 1) := by decide +kernel
theorem dX9_purse_37 : decode cX9_purse 37 = .ok (.iload_n 2, 1) := by decide +kernel
theorem dX9_purse_38 : decode cX9_purse 38 = .ok (.iadd, 1) := by decide +kernel
theorem dX9_purse_39 : decode cX9_purse 39 = .ok (.iload_n 1, 1) := by decide +kernel
theorem dX9_purse_40 : decode cX9_purse 40 = .ok (.iload_n 3, 1) := by decide +kernel
theorem dX9_purse_41 : decode cX9_purse 41 = .ok (.invokevirtual 101, 3) := by decide +kernel
theorem dX9_purse_44 : decode cX9_purse 44 = .ok (.ireturn, 1) := by decide +kernel
theorem dX9_of_0 : decode cX9_of 0 = .ok (.iload_n 2, 1) := by decide +kernel
theorem dX9_of_1 : decode cX9_of 1 = .ok (.iconst 0, 1) := by decide +kernel
theorem dX9_of_2 : decode cX9_of 2 = .ok (.iconst 3, 1) := by decide +kernel
theorem dX9_of_3 : decode cX9_of 3 = .ok (.invokestatic 78, 3) := by decide +kernel
theorem dX9_of_6 : decode cX9_of 6 = .ok (.ifCond .eq 30, 3) := by decide +kernel
theorem dX9_of_9 : decode cX9_of 9 = .ok (.aload_n 0, 1) := by decide +kernel
theorem dX9_of_10 : decode cX9_of 10 = .ok (.getfield 12, 3) := by decide +kernel
theorem dX9_of_13 : decode cX9_of 13 = .ok (.iload_n 1, 1) := by decide +kernel
theorem dX9_of_14 : decode cX9_of 14 = .ok (.invokevirtual 98, 3) := by decide +kernel
theorem dX9_of_17 : decode cX9_of 17 = .ok (.ifCond .eq 17, 3) := by decide +kernel
theorem dX9_of_20 : decode cX9_of 20 = .ok (.aload_n 0, 1) := by decide +kernel
theorem dX9_of_21 : decode cX9_of 21 = .ok (.getfield 12, 3) := by decide +kernel
theorem dX9_of_24 : decode cX9_of 24 = .ok (.iconst 0, 1) := by decide +kernel
theorem dX9_of_25 : decode cX9_of 25 = .ok (.iload_n 2, 1) := by decide +kernel
theorem dX9_of_26 : decode cX9_of 26 = .ok (.iadd, 1) := by decide +kernel
theorem dX9_of_27 : decode cX9_of 27 = .ok (.iload_n 1, 1) := by decide +kernel
theorem dX9_of_28 : decode cX9_of 28 = .ok (.invokevirtual 115, 3) := by decide +kernel
theorem dX9_of_31 : decode cX9_of 31 = .ok (.goto 4, 3) := by decide +kernel
theorem dX9_of_34 : decode cX9_of 34 = .ok (.iconst (-1), 1) := by decide +kernel
theorem dX9_of_35 : decode cX9_of 35 = .ok (.ireturn, 1) := by decide +kernel
theorem dX9_of_36 : decode cX9_of 36 = .ok (.iload_n 2, 1) := by decide +kernel
theorem dX9_of_37 : decode cX9_of 37 = .ok (.bipush 10, 2) := by decide +kernel
theorem dX9_of_39 : decode cX9_of 39 = .ok (.bipush 14, 2) := by decide +kernel
theorem dX9_of_41 : decode cX9_of 41 = .ok (.invokestatic 78, 3) := by decide +kernel
theorem dX9_of_44 : decode cX9_of 44 = .ok (.ifCond .eq 14, 3) := by decide +kernel
theorem dX9_of_47 : decode cX9_of 47 = .ok (.aload_n 0, 1) := by decide +kernel
theorem dX9_of_48 : decode cX9_of 48 = .ok (.getfield 12, 3) := by decide +kernel
theorem dX9_of_51 : decode cX9_of 51 = .ok (.iload_n 1, 1) := by decide +kernel
theorem dX9_of_52 : decode cX9_of 52 = .ok (.invokevirtual 112, 3) := by decide +kernel
theorem dX9_of_55 : decode cX9_of 55 = .ok (.ifCond .ne 5, 3) := by decide +kernel
theorem dX9_of_58 : decode cX9_of 58 = .ok (.iconst (-1), 1) := by decide +kernel
theorem dX9_of_59 : decode cX9_of 59 = .ok (.ireturn, 1) := by decide +kernel
theorem dX9_of_60 : decode cX9_of 60 = .ok (.iload_n 2, 1) := by decide +kernel
theorem dX9_of_61 : decode cX9_of 61 = .ok (.bipush 12, 2) := by decide +kernel
theorem dX9_of_63 : decode cX9_of 63 = .ok (.if_icmp .ne 14, 3) := by decide +kernel
theorem dX9_of_66 : decode cX9_of 66 = .ok (.aload_n 0, 1) := by decide +kernel
theorem dX9_of_67 : decode cX9_of 67 = .ok (.getfield 12, 3) := by decide +kernel
theorem dX9_of_70 : decode cX9_of 70 = .ok (.iload_n 1, 1) := by decide +kernel
theorem dX9_of_71 : decode cX9_of 71 = .ok (.invokevirtual 119, 3) := by decide +kernel
theorem dX9_of_74 : decode cX9_of 74 = .ok (.goto 17, 3) := by decide +kernel
theorem dX9_of_77 : decode cX9_of 77 = .ok (.aload_n 0, 1) := by decide +kernel
theorem dX9_of_78 : decode cX9_of 78 = .ok (.getfield 12, 3) := by decide +kernel
theorem dX9_of_81 : decode cX9_of 81 = .ok (.iconst 4, 1) := by decide +kernel
theorem dX9_of_82 : decode cX9_of 82 = .ok (.iload_n 2, 1) := by decide +kernel
theorem dX9_of_83 : decode cX9_of 83 = .ok (.iadd, 1) := by decide +kernel
theorem dX9_of_84 : decode cX9_of 84 = .ok (.bipush 10, 2) := by decide +kernel
theorem dX9_of_86 : decode cX9_of 86 = .ok (.isub, 1) := by decide +kernel
theorem dX9_of_87 : decode cX9_of 87 = .ok (.iload_n 1, 1) := by decide +kernel
theorem dX9_of_88 : decode cX9_of 88 = .ok (.invokevirtual 115, 3) := by decide +kernel
theorem dX9_of_91 : decode cX9_of 91 = .ok (.ireturn, 1) := by decide +kernel
theorem dX9_feed_0 : decode cX9_feed 0 = .ok (.iload_n 1, 1) := by decide +kernel
theorem dX9_feed_1 : decode cX9_feed 1 = .ok (.iconst 1, 1) := by decide +kernel
theorem dX9_feed_2 : decode cX9_feed 2 = .ok (.iconst 4, 1) := by decide +kernel
theorem dX9_feed_3 : decode cX9_feed 3 = .ok (.invokestatic 78, 3) := by decide +kernel
theorem dX9_feed_6 : decode cX9_feed 6 = .ok (.ifCond .ne 5, 3) := by decide +kernel
theorem dX9_feed_9 : decode cX9_feed 9 = .ok (.iconst (-1), 1) := by decide +kernel
theorem dX9_feed_10 : decode cX9_feed 10 = .ok (.ireturn, 1) := by decide +kernel
theorem dX9_feed_11 : decode cX9_feed 11 = .ok (.aload_n 0, 1) := by decide +kernel
theorem dX9_feed_12 : decode cX9_feed 12 = .ok (.getfield 28, 3) := by decide +kernel
theorem dX9_feed_15 : decode cX9_feed 15 = .ok (.iload_n 1, 1) := by decide +kernel
theorem dX9_feed_16 : decode cX9_feed 16 = .ok (.iload_n 2, 1) := by decide +kernel
theorem dX9_feed_17 : decode cX9_feed 17 = .ok (.invokevirtual 122, 3) := by decide +kernel
theorem dX9_feed_20 : decode cX9_feed 20 = .ok (.ireturn, 1) := by decide +kernel
theorem dX9_want_0 : decode cX9_want 0 = .ok (.aload_n 0, 1) := by decide +kernel
theorem dX9_want_1 : decode cX9_want 1 = .ok (.getfield 35, 3) := by decide +kernel
theorem dX9_want_4 : decode cX9_want 4 = .ok (.invokevirtual 105, 3) := by decide +kernel
theorem dX9_want_7 : decode cX9_want 7 = .ok (.iconst 4, 1) := by decide +kernel
theorem dX9_want_8 : decode cX9_want 8 = .ok (.if_icmp .lt 6, 3) := by decide +kernel
theorem dX9_want_11 : decode cX9_want 11 = .ok (.bipush (-3), 2) := by decide +kernel
theorem dX9_want_13 : decode cX9_want 13 = .ok (.ireturn, 1) := by decide +kernel
theorem dX9_want_14 : decode cX9_want 14 = .ok (.aload_n 0, 1) := by decide +kernel
theorem dX9_want_15 : decode cX9_want 15 = .ok (.getfield 28, 3) := by decide +kernel
theorem dX9_want_18 : decode cX9_want 18 = .ok (.invokevirtual 125, 3) := by decide +kernel
theorem dX9_want_21 : decode cX9_want 21 = .ok (.istore_n 1, 1) := by decide +kernel
theorem dX9_want_22 : decode cX9_want 22 = .ok (.iload_n 1, 1) := by decide +kernel
theorem dX9_want_23 : decode cX9_want 23 = .ok (.ifCond .eq 17, 3) := by decide +kernel
theorem dX9_want_26 : decode cX9_want 26 = .ok (.aload_n 0, 1) := by decide +kernel
theorem dX9_want_27 : decode cX9_want 27 = .ok (.getfield 35, 3) := by decide +kernel
theorem dX9_want_30 : decode cX9_want 30 = .ok (.aload_n 0, 1) := by decide +kernel
theorem dX9_want_31 : decode cX9_want 31 = .ok (.getfield 28, 3) := by decide +kernel
theorem dX9_want_34 : decode cX9_want 34 = .ok (.invokevirtual 129, 3) := by decide +kernel
theorem dX9_want_37 : decode cX9_want 37 = .ok (.goto 13, 3) := by decide +kernel
theorem dX9_want_40 : decode cX9_want 40 = .ok (.bipush (-100), 2) := by decide +kernel
theorem dX9_want_42 : decode cX9_want 42 = .ok (.aload_n 0, 1) := by decide +kernel
theorem dX9_want_43 : decode cX9_want 43 = .ok (.getfield 28, 3) := by decide +kernel
theorem dX9_want_46 : decode cX9_want 46 = .ok (.invokevirtual 133, 3) := by decide +kernel
theorem dX9_want_49 : decode cX9_want 49 = .ok (.isub, 1) := by decide +kernel
theorem dX9_want_50 : decode cX9_want 50 = .ok (.istore_n 2, 1) := by decide +kernel
theorem dX9_want_51 : decode cX9_want 51 = .ok (.aload_n 0, 1) := by decide +kernel
theorem dX9_want_52 : decode cX9_want 52 = .ok (.getfield 28, 3) := by decide +kernel
theorem dX9_want_55 : decode cX9_want 55 = .ok (.invokevirtual 136, 3) := by decide +kernel
theorem dX9_want_58 : decode cX9_want 58 = .ok (.iload_n 2, 1) := by decide +kernel
theorem dX9_want_59 : decode cX9_want 59 = .ok (.ireturn, 1) := by decide +kernel
theorem dX9_worth_0 : decode cX9_worth 0 = .ok (.aload_n 0, 1) := by decide +kernel
theorem dX9_worth_1 : decode cX9_worth 1 = .ok (.getfield 12, 3) := by decide +kernel
theorem dX9_worth_4 : decode cX9_worth 4 = .ok (.iload_n 1, 1) := by decide +kernel
theorem dX9_worth_5 : decode cX9_worth 5 = .ok (.invokevirtual 112, 3) := by decide +kernel
theorem dX9_worth_8 : decode cX9_worth 8 = .ok (.ifCond .eq 33, 3) := by decide +kernel
theorem dX9_worth_11 : decode cX9_worth 11 = .ok (.iload_n 2, 1) := by decide +kernel
theorem dX9_worth_12 : decode cX9_worth 12 = .ok (.ifCond .lt 29, 3) := by decide +kernel
theorem dX9_worth_15 : decode cX9_worth 15 = .ok (.aload_n 0, 1) := by decide +kernel
theorem dX9_worth_16 : decode cX9_worth 16 = .ok (.getfield 12, 3) := by decide +kernel
theorem dX9_worth_19 : decode cX9_worth 19 = .ok (.iload_n 2, 1) := by decide +kernel
theorem dX9_worth_20 : decode cX9_worth 20 = .ok (.bipush 10, 2) := by decide +kernel
theorem dX9_worth_22 : decode cX9_worth 22 = .ok (.idiv, 1) := by decide +kernel
theorem dX9_worth_23 : decode cX9_worth 23 = .ok (.invokevirtual 98, 3) := by decide +kernel
theorem dX9_worth_26 : decode cX9_worth 26 = .ok (.ifCond .eq 15, 3) := by decide +kernel
theorem dX9_worth_29 : decode cX9_worth 29 = .ok (.iload_n 2, 1) := by decide +kernel
theorem dX9_worth_30 : decode cX9_worth 30 = .ok (.bipush 10, 2) := by decide +kernel
theorem dX9_worth_32 : decode cX9_worth 32 = .ok (.irem, 1) := by decide +kernel
theorem dX9_worth_33 : decode cX9_worth 33 = .ok (.iconst 1, 1) := by decide +kernel
theorem dX9_worth_34 : decode cX9_worth 34 = .ok (.iconst 3, 1) := by decide +kernel
theorem dX9_worth_35 : decode cX9_worth 35 = .ok (.invokestatic 78, 3) := by decide +kernel
theorem dX9_worth_38 : decode cX9_worth 38 = .ok (.ifCond .ne 5, 3) := by decide +kernel
theorem dX9_worth_41 : decode cX9_worth 41 = .ok (.iconst (-1), 1) := by decide +kernel
theorem dX9_worth_42 : decode cX9_worth 42 = .ok (.ireturn, 1) := by decide +kernel
theorem dX9_worth_43 : decode cX9_worth 43 = .ok (.aload_n 0, 1) := by decide +kernel
theorem dX9_worth_44 : decode cX9_worth 44 = .ok (.getfield 44, 3) := by decide +kernel
theorem dX9_worth_47 : decode cX9_worth 47 = .ok (.invokevirtual 139, 3) := by decide +kernel
theorem dX9_worth_50 : decode cX9_worth 50 = .ok (.aload_n 0, 1) := by decide +kernel
theorem dX9_worth_51 : decode cX9_worth 51 = .ok (.getfield 44, 3) := by decide +kernel
theorem dX9_worth_54 : decode cX9_worth 54 = .ok (.iload_n 1, 1) := by decide +kernel
theorem dX9_worth_55 : decode cX9_worth 55 = .ok (.iload_n 2, 1) := by decide +kernel
theorem dX9_worth_56 : decode cX9_worth 56 = .ok (.bipush 10, 2) := by decide +kernel
theorem dX9_worth_58 : decode cX9_worth 58 = .ok (.idiv, 1) := by decide +kernel
theorem dX9_worth_59 : decode cX9_worth 59 = .ok (.iload_n 2, 1) := by decide +kernel
theorem dX9_worth_60 : decode cX9_worth 60 = .ok (.bipush 10, 2) := by decide +kernel
theorem dX9_worth_62 : decode cX9_worth 62 = .ok (.irem, 1) := by decide +kernel
theorem dX9_worth_63 : decode cX9_worth 63 = .ok (.invokevirtual 142, 3) := by decide +kernel
theorem dX9_worth_66 : decode cX9_worth 66 = .ok (.ireturn, 1) := by decide +kernel
theorem dX9_basket_0 : decode cX9_basket 0 = .ok (.aload_n 0, 1) := by decide +kernel
theorem dX9_basket_1 : decode cX9_basket 1 = .ok (.getfield 12, 3) := by decide +kernel
theorem dX9_basket_4 : decode cX9_basket 4 = .ok (.iload_n 1, 1) := by decide +kernel
theorem dX9_basket_5 : decode cX9_basket 5 = .ok (.invokevirtual 112, 3) := by decide +kernel
theorem dX9_basket_8 : decode cX9_basket 8 = .ok (.ifCond .eq 12, 3) := by decide +kernel
theorem dX9_basket_11 : decode cX9_basket 11 = .ok (.iload_n 2, 1) := by decide +kernel
theorem dX9_basket_12 : decode cX9_basket 12 = .ok (.iconst 0, 1) := by decide +kernel
theorem dX9_basket_13 : decode cX9_basket 13 = .ok (.iconst 3, 1) := by decide +kernel
theorem dX9_basket_14 : decode cX9_basket 14 = .ok (.invokestatic 78, 3) := by decide +kernel
theorem dX9_basket_17 : decode cX9_basket 17 = .ok (.ifCond .ne 5, 3) := by decide +kernel
theorem dX9_basket_20 : decode cX9_basket 20 = .ok (.iconst (-1), 1) := by decide +kernel
theorem dX9_basket_21 : decode cX9_basket 21 = .ok (.ireturn, 1) := by decide +kernel
theorem dX9_basket_22 : decode cX9_basket 22 = .ok (.aload_n 0, 1) := by decide +kernel
theorem dX9_basket_23 : decode cX9_basket 23 = .ok (.getfield 44, 3) := by decide +kernel
theorem dX9_basket_26 : decode cX9_basket 26 = .ok (.invokevirtual 139, 3) := by decide +kernel
theorem dX9_basket_29 : decode cX9_basket 29 = .ok (.aload_n 0, 1) := by decide +kernel
theorem dX9_basket_30 : decode cX9_basket 30 = .ok (.getfield 44, 3) := by decide +kernel
theorem dX9_basket_33 : decode cX9_basket 33 = .ok (.iload_n 1, 1) := by decide +kernel
theorem dX9_basket_34 : decode cX9_basket 34 = .ok (.invokevirtual 145, 3) := by decide +kernel
theorem dX9_basket_37 : decode cX9_basket 37 = .ok (.aload_n 0, 1) := by decide +kernel
theorem dX9_basket_38 : decode cX9_basket 38 = .ok (.getfield 44, 3) := by decide +kernel
theorem dX9_basket_41 : decode cX9_basket 41 = .ok (.iload_n 1, 1) := by decide +kernel
theorem dX9_basket_42 : decode cX9_basket 42 = .ok (.invokevirtual 149, 3) := by decide +kernel
theorem dX9_basket_45 : decode cX9_basket 45 = .ok (.iload_n 2, 1) := by decide +kernel
theorem dX9_basket_46 : decode cX9_basket 46 = .ok (.tableswitch 50 0 2 #[26, 34, 42], 26) := by decide +kernel
theorem dX9_basket_72 : decode cX9_basket 72 = .ok (.aload_n 0, 1) := by decide +kernel
theorem dX9_basket_73 : decode cX9_basket 73 = .ok (.getfield 44, 3) := by decide +kernel
theorem dX9_basket_76 : decode cX9_basket 76 = .ok (.getfield 152, 3) := by decide +kernel
theorem dX9_basket_79 : decode cX9_basket 79 = .ok (.ireturn, 1) := by decide +kernel
theorem dX9_basket_80 : decode cX9_basket 80 = .ok (.aload_n 0, 1) := by decide +kernel
theorem dX9_basket_81 : decode cX9_basket 81 = .ok (.getfield 44, 3) := by decide +kernel
theorem dX9_basket_84 : decode cX9_basket 84 = .ok (.getfield 156, 3) := by decide +kernel
theorem dX9_basket_87 : decode cX9_basket 87 = .ok (.ireturn, 1) := by decide +kernel
theorem dX9_basket_88 : decode cX9_basket 88 = .ok (.aload_n 0, 1) := by decide +kernel
theorem dX9_basket_89 : decode cX9_basket 89 = .ok (.getfield 44, 3) := by decide +kernel
theorem dX9_basket_92 : decode cX9_basket 92 = .ok (.getfield 159, 3) := by decide +kernel
theorem dX9_basket_95 : decode cX9_basket 95 = .ok (.ireturn, 1) := by decide +kernel
theorem dX9_basket_96 : decode cX9_basket 96 = .ok (.aload_n 0, 1) := by decide +kernel
theorem dX9_basket_97 : decode cX9_basket 97 = .ok (.getfield 44, 3) := by decide +kernel
theorem dX9_basket_100 : decode cX9_basket 100 = .ok (.getfield 162, 3) := by decide +kernel
theorem dX9_basket_103 : decode cX9_basket 103 = .ok (.ireturn, 1) := by decide +kernel
theorem dX9_wanted_0 : decode cX9_wanted 0 = .ok (.iload_n 1, 1) := by decide +kernel
theorem dX9_wanted_1 : decode cX9_wanted 1 = .ok (.iconst (-1), 1) := by decide +kernel
theorem dX9_wanted_2 : decode cX9_wanted 2 = .ok (.if_icmp .ne 12, 3) := by decide +kernel
theorem dX9_wanted_5 : decode cX9_wanted 5 = .ok (.iload_n 2, 1) := by decide +kernel
theorem dX9_wanted_6 : decode cX9_wanted 6 = .ok (.iconst 1, 1) := by decide +kernel
theorem dX9_wanted_7 : decode cX9_wanted 7 = .ok (.if_icmp .ne 7, 3) := by decide +kernel
theorem dX9_wanted_10 : decode cX9_wanted 10 = .ok (.iconst 1, 1) := by decide +kernel
theorem dX9_wanted_11 : decode cX9_wanted 11 = .ok (.goto 4, 3) := by decide +kernel
theorem dX9_wanted_14 : decode cX9_wanted 14 = .ok (.iconst 0, 1) := by decide +kernel
theorem dX9_wanted_15 : decode cX9_wanted 15 = .ok (.istore_n 3, 1) := by decide +kernel
theorem dX9_wanted_16 : decode cX9_wanted 16 = .ok (.iload_n 3, 1) := by decide +kernel
theorem dX9_wanted_17 : decode cX9_wanted 17 = .ok (.ifCond .ne 26, 3) := by decide +kernel
theorem dX9_wanted_20 : decode cX9_wanted 20 = .ok (.aload_n 0, 1) := by decide +kernel
theorem dX9_wanted_21 : decode cX9_wanted 21 = .ok (.getfield 12, 3) := by decide +kernel
theorem dX9_wanted_24 : decode cX9_wanted 24 = .ok (.iload_n 1, 1) := by decide +kernel
theorem dX9_wanted_25 : decode cX9_wanted 25 = .ok (.invokevirtual 98, 3) := by decide +kernel
theorem dX9_wanted_28 : decode cX9_wanted 28 = .ok (.ifCond .eq 12, 3) := by decide +kernel
theorem dX9_wanted_31 : decode cX9_wanted 31 = .ok (.iload_n 2, 1) := by decide +kernel
theorem dX9_wanted_32 : decode cX9_wanted 32 = .ok (.iconst 0, 1) := by decide +kernel
theorem dX9_wanted_33 : decode cX9_wanted 33 = .ok (.iconst 1, 1) := by decide +kernel
theorem dX9_wanted_34 : decode cX9_wanted 34 = .ok (.invokestatic 78, 3) := by decide +kernel
theorem dX9_wanted_37 : decode cX9_wanted 37 = .ok (.ifCond .ne 6, 3) := by decide +kernel
theorem dX9_wanted_40 : decode cX9_wanted 40 = .ok (.ldc 165, 2) := by decide +kernel
theorem dX9_wanted_42 : decode cX9_wanted 42 = .ok (.ireturn, 1) := by decide +kernel
theorem dX9_wanted_43 : decode cX9_wanted 43 = .ok (.aload_n 0, 1) := by decide +kernel
theorem dX9_wanted_44 : decode cX9_wanted 44 = .ok (.getfield 44, 3) := by decide +kernel
theorem dX9_wanted_47 : decode cX9_wanted 47 = .ok (.invokevirtual 139, 3) := by decide +kernel
theorem dX9_wanted_50 : decode cX9_wanted 50 = .ok (.aload_n 0, 1) := by decide +kernel
theorem dX9_wanted_51 : decode cX9_wanted 51 = .ok (.getfield 53, 3) := by decide +kernel
theorem dX9_wanted_54 : decode cX9_wanted 54 = .ok (.invokevirtual 166, 3) := by decide +kernel
theorem dX9_wanted_57 : decode cX9_wanted 57 = .ok (.iload_n 3, 1) := by decide +kernel
theorem dX9_wanted_58 : decode cX9_wanted 58 = .ok (.ifCond .eq 11, 3) := by decide +kernel
theorem dX9_wanted_61 : decode cX9_wanted 61 = .ok (.aload_n 0, 1) := by decide +kernel
theorem dX9_wanted_62 : decode cX9_wanted 62 = .ok (.getfield 53, 3) := by decide +kernel
theorem dX9_wanted_65 : decode cX9_wanted 65 = .ok (.invokevirtual 169, 3) := by decide +kernel
theorem dX9_wanted_68 : decode cX9_wanted 68 = .ok (.ireturn, 1) := by decide +kernel
theorem dX9_wanted_69 : decode cX9_wanted 69 = .ok (.iload_n 2, 1) := by decide +kernel
theorem dX9_wanted_70 : decode cX9_wanted 70 = .ok (.ifCond .ne 14, 3) := by decide +kernel
theorem dX9_wanted_73 : decode cX9_wanted 73 = .ok (.aload_n 0, 1) := by decide +kernel
theorem dX9_wanted_74 : decode cX9_wanted 74 = .ok (.getfield 53, 3) := by decide +kernel
theorem dX9_wanted_77 : decode cX9_wanted 77 = .ok (.iload_n 1, 1) := by decide +kernel
theorem dX9_wanted_78 : decode cX9_wanted 78 = .ok (.invokevirtual 172, 3) := by decide +kernel
theorem dX9_wanted_81 : decode cX9_wanted 81 = .ok (.goto 11, 3) := by decide +kernel
theorem dX9_wanted_84 : decode cX9_wanted 84 = .ok (.aload_n 0, 1) := by decide +kernel
theorem dX9_wanted_85 : decode cX9_wanted 85 = .ok (.getfield 53, 3) := by decide +kernel
theorem dX9_wanted_88 : decode cX9_wanted 88 = .ok (.iload_n 1, 1) := by decide +kernel
theorem dX9_wanted_89 : decode cX9_wanted 89 = .ok (.invokevirtual 175, 3) := by decide +kernel
theorem dX9_wanted_92 : decode cX9_wanted 92 = .ok (.ireturn, 1) := by decide +kernel
theorem dX9_led_0 : decode cX9_led 0 = .ok (.aload_n 0, 1) := by decide +kernel
theorem dX9_led_1 : decode cX9_led 1 = .ok (.getfield 12, 3) := by decide +kernel
theorem dX9_led_4 : decode cX9_led 4 = .ok (.iload_n 1, 1) := by decide +kernel
theorem dX9_led_5 : decode cX9_led 5 = .ok (.invokevirtual 98, 3) := by decide +kernel
theorem dX9_led_8 : decode cX9_led 8 = .ok (.ifCond .eq 14, 3) := by decide +kernel
theorem dX9_led_11 : decode cX9_led 11 = .ok (.aload_n 0, 1) := by decide +kernel
theorem dX9_led_12 : decode cX9_led 12 = .ok (.getfield 12, 3) := by decide +kernel
theorem dX9_led_15 : decode cX9_led 15 = .ok (.iload_n 2, 1) := by decide +kernel
theorem dX9_led_16 : decode cX9_led 16 = .ok (.invokevirtual 112, 3) := by decide +kernel
theorem dX9_led_19 : decode cX9_led 19 = .ok (.ifCond .ne 5, 3) := by decide +kernel
theorem dX9_led_22 : decode cX9_led 22 = .ok (.iconst (-1), 1) := by decide +kernel
theorem dX9_led_23 : decode cX9_led 23 = .ok (.ireturn, 1) := by decide +kernel
theorem dX9_led_24 : decode cX9_led 24 = .ok (.aload_n 0, 1) := by decide +kernel
theorem dX9_led_25 : decode cX9_led 25 = .ok (.getfield 44, 3) := by decide +kernel
theorem dX9_led_28 : decode cX9_led 28 = .ok (.invokevirtual 139, 3) := by decide +kernel
theorem dX9_led_31 : decode cX9_led 31 = .ok (.aload_n 0, 1) := by decide +kernel
theorem dX9_led_32 : decode cX9_led 32 = .ok (.getfield 44, 3) := by decide +kernel
theorem dX9_led_35 : decode cX9_led 35 = .ok (.iload_n 2, 1) := by decide +kernel
theorem dX9_led_36 : decode cX9_led 36 = .ok (.invokevirtual 145, 3) := by decide +kernel
theorem dX9_led_39 : decode cX9_led 39 = .ok (.aload_n 0, 1) := by decide +kernel
theorem dX9_led_40 : decode cX9_led 40 = .ok (.getfield 44, 3) := by decide +kernel
theorem dX9_led_43 : decode cX9_led 43 = .ok (.iload_n 2, 1) := by decide +kernel
theorem dX9_led_44 : decode cX9_led 44 = .ok (.invokevirtual 149, 3) := by decide +kernel
theorem dX9_led_47 : decode cX9_led 47 = .ok (.aload_n 0, 1) := by decide +kernel
theorem dX9_led_48 : decode cX9_led 48 = .ok (.getfield 12, 3) := by decide +kernel
theorem dX9_led_51 : decode cX9_led 51 = .ok (.iconst 4, 1) := by decide +kernel
theorem dX9_led_52 : decode cX9_led 52 = .ok (.iload_n 2, 1) := by decide +kernel
theorem dX9_led_53 : decode cX9_led 53 = .ok (.invokevirtual 115, 3) := by decide +kernel
theorem dX9_led_56 : decode cX9_led 56 = .ok (.aload_n 0, 1) := by decide +kernel
theorem dX9_led_57 : decode cX9_led 57 = .ok (.getfield 12, 3) := by decide +kernel
theorem dX9_led_60 : decode cX9_led 60 = .ok (.aload_n 0, 1) := by decide +kernel
theorem dX9_led_61 : decode cX9_led 61 = .ok (.getfield 44, 3) := by decide +kernel
theorem dX9_led_64 : decode cX9_led 64 = .ok (.getfield 152, 3) := by decide +kernel
theorem dX9_led_67 : decode cX9_led 67 = .ok (.iload_n 1, 1) := by decide +kernel
theorem dX9_led_68 : decode cX9_led 68 = .ok (.invokevirtual 178, 3) := by decide +kernel
theorem dX9_led_71 : decode cX9_led 71 = .ok (.imul, 1) := by decide +kernel
theorem dX9_led_72 : decode cX9_led 72 = .ok (.ireturn, 1) := by decide +kernel
theorem dX9_found_0 : decode cX9_found 0 = .ok (.iload_n 1, 1) := by decide +kernel
theorem dX9_found_1 : decode cX9_found 1 = .ok (.iconst 1, 1) := by decide +kernel
theorem dX9_found_2 : decode cX9_found 2 = .ok (.bipush 60, 2) := by decide +kernel
theorem dX9_found_4 : decode cX9_found 4 = .ok (.invokestatic 78, 3) := by decide +kernel
theorem dX9_found_7 : decode cX9_found 7 = .ok (.ifCond .eq 21, 3) := by decide +kernel
theorem dX9_found_10 : decode cX9_found 10 = .ok (.iload_n 2, 1) := by decide +kernel
theorem dX9_found_11 : decode cX9_found 11 = .ok (.bipush (-4), 2) := by decide +kernel
theorem dX9_found_13 : decode cX9_found 13 = .ok (.aload_n 0, 1) := by decide +kernel
theorem dX9_found_14 : decode cX9_found 14 = .ok (.getfield 12, 3) := by decide +kernel
theorem dX9_found_17 : decode cX9_found 17 = .ok (.getfield 181, 3) := by decide +kernel
theorem dX9_found_20 : decode cX9_found 20 = .ok (.iconst 1, 1) := by decide +kernel
theorem dX9_found_21 : decode cX9_found 21 = .ok (.isub, 1) := by decide +kernel
theorem dX9_found_22 : decode cX9_found 22 = .ok (.invokestatic 78, 3) := by decide +kernel
theorem dX9_found_25 : decode cX9_found 25 = .ok (.ifCond .ne 5, 3) := by decide +kernel
theorem dX9_found_28 : decode cX9_found 28 = .ok (.iconst (-1), 1) := by decide +kernel
theorem dX9_found_29 : decode cX9_found 29 = .ok (.ireturn, 1) := by decide +kernel
theorem dX9_found_30 : decode cX9_found 30 = .ok (.aload_n 0, 1) := by decide +kernel
theorem dX9_found_31 : decode cX9_found 31 = .ok (.getfield 53, 3) := by decide +kernel
theorem dX9_found_34 : decode cX9_found 34 = .ok (.iload_n 1, 1) := by decide +kernel
theorem dX9_found_35 : decode cX9_found 35 = .ok (.invokevirtual 184, 3) := by decide +kernel
theorem dX9_found_38 : decode cX9_found 38 = .ok (.iload_n 2, 1) := by decide +kernel
theorem dX9_found_39 : decode cX9_found 39 = .ok (.tableswitch 61 (-4) (-1) #[53, 45, 37, 29], 29) := by decide +kernel
theorem dX9_found_68 : decode cX9_found 68 = .ok (.aload_n 0, 1) := by decide +kernel
theorem dX9_found_69 : decode cX9_found 69 = .ok (.getfield 53, 3) := by decide +kernel
theorem dX9_found_72 : decode cX9_found 72 = .ok (.getfield 187, 3) := by decide +kernel
theorem dX9_found_75 : decode cX9_found 75 = .ok (.ireturn, 1) := by decide +kernel
theorem dX9_found_76 : decode cX9_found 76 = .ok (.aload_n 0, 1) := by decide +kernel
theorem dX9_found_77 : decode cX9_found 77 = .ok (.getfield 53, 3) := by decide +kernel
theorem dX9_found_80 : decode cX9_found 80 = .ok (.invokevirtual 169, 3) := by decide +kernel
theorem dX9_found_83 : decode cX9_found 83 = .ok (.ireturn, 1) := by decide +kernel
theorem dX9_found_84 : decode cX9_found 84 = .ok (.aload_n 0, 1) := by decide +kernel
theorem dX9_found_85 : decode cX9_found 85 = .ok (.getfield 53, 3) := by decide +kernel
theorem dX9_found_88 : decode cX9_found 88 = .ok (.getfield 190, 3) := by decide +kernel
theorem dX9_found_91 : decode cX9_found 91 = .ok (.ireturn, 1) := by decide +kernel
theorem dX9_found_92 : decode cX9_found 92 = .ok (.aload_n 0, 1) := by decide +kernel
theorem dX9_found_93 : decode cX9_found 93 = .ok (.getfield 53, 3) := by decide +kernel
theorem dX9_found_96 : decode cX9_found 96 = .ok (.getfield 193, 3) := by decide +kernel
theorem dX9_found_99 : decode cX9_found 99 = .ok (.ireturn, 1) := by decide +kernel
theorem dX9_found_100 : decode cX9_found 100 = .ok (.aload_n 0, 1) := by decide +kernel
theorem dX9_found_101 : decode cX9_found 101 = .ok (.getfield 44, 3) := by decide +kernel
theorem dX9_found_104 : decode cX9_found 104 = .ok (.iload_n 2, 1) := by decide +kernel
theorem dX9_found_105 : decode cX9_found 105 = .ok (.invokevirtual 196, 3) := by decide +kernel
theorem dX9_found_108 : decode cX9_found 108 = .ok (.ireturn, 1) := by decide +kernel
theorem dX9_set_0 : decode cX9_set 0 = .ok (.iload_n 1, 1) := by decide +kernel
theorem dX9_set_1 : decode cX9_set 1 = .ok (.iconst 1, 1) := by decide +kernel
theorem dX9_set_2 : decode cX9_set 2 = .ok (.bipush 60, 2) := by decide +kernel
theorem dX9_set_4 : decode cX9_set 4 = .ok (.invokestatic 78, 3) := by decide +kernel
theorem dX9_set_7 : decode cX9_set 7 = .ok (.ifCond .ne 5, 3) := by decide +kernel
theorem dX9_set_10 : decode cX9_set 10 = .ok (.iconst (-1), 1) := by decide +kernel
theorem dX9_set_11 : decode cX9_set 11 = .ok (.ireturn, 1) := by decide +kernel
theorem dX9_set_12 : decode cX9_set 12 = .ok (.aload_n 0, 1) := by decide +kernel
theorem dX9_set_13 : decode cX9_set 13 = .ok (.getfield 53, 3) := by decide +kernel
theorem dX9_set_16 : decode cX9_set 16 = .ok (.iload_n 1, 1) := by decide +kernel
theorem dX9_set_17 : decode cX9_set 17 = .ok (.invokevirtual 184, 3) := by decide +kernel
theorem dX9_set_20 : decode cX9_set 20 = .ok (.iconst 0, 1) := by decide +kernel
theorem dX9_set_21 : decode cX9_set 21 = .ok (.istore_n 2, 1) := by decide +kernel
theorem dX9_set_22 : decode cX9_set 22 = .ok (.iload_n 2, 1) := by decide +kernel
theorem dX9_set_23 : decode cX9_set 23 = .ok (.aload_n 0, 1) := by decide +kernel
theorem dX9_set_24 : decode cX9_set 24 = .ok (.getfield 12, 3) := by decide +kernel
theorem dX9_set_27 : decode cX9_set 27 = .ok (.getfield 181, 3) := by decide +kernel
theorem dX9_set_30 : decode cX9_set 30 = .ok (.if_icmp .ge 27, 3) := by decide +kernel
theorem dX9_set_33 : decode cX9_set 33 = .ok (.aload_n 0, 1) := by decide +kernel
theorem dX9_set_34 : decode cX9_set 34 = .ok (.getfield 21, 3) := by decide +kernel
theorem dX9_set_37 : decode cX9_set 37 = .ok (.iconst 2, 1) := by decide +kernel
theorem dX9_set_38 : decode cX9_set 38 = .ok (.iload_n 2, 1) := by decide +kernel
theorem dX9_set_39 : decode cX9_set 39 = .ok (.aload_n 0, 1) := by decide +kernel
theorem dX9_set_40 : decode cX9_set 40 = .ok (.getfield 53, 3) := by decide +kernel
theorem dX9_set_43 : decode cX9_set 43 = .ok (.iload_n 2, 1) := by decide +kernel
theorem dX9_set_44 : decode cX9_set 44 = .ok (.invokevirtual 199, 3) := by decide +kernel
theorem dX9_set_47 : decode cX9_set 47 = .ok (.invokevirtual 101, 3) := by decide +kernel
theorem dX9_set_50 : decode cX9_set 50 = .ok (.pop, 1) := by decide +kernel
theorem dX9_set_51 : decode cX9_set 51 = .ok (.iinc 2 1, 3) := by decide +kernel
theorem dX9_set_54 : decode cX9_set 54 = .ok (.goto (-32), 3) := by decide +kernel
theorem dX9_set_57 : decode cX9_set 57 = .ok (.aload_n 0, 1) := by decide +kernel
theorem dX9_set_58 : decode cX9_set 58 = .ok (.getfield 53, 3) := by decide +kernel
theorem dX9_set_61 : decode cX9_set 61 = .ok (.getfield 190, 3) := by decide +kernel
theorem dX9_set_64 : decode cX9_set 64 = .ok (.ireturn, 1) := by decide +kernel
theorem dX9_tell_0 : decode cX9_tell 0 = .ok (.aload_n 0, 1) := by decide +kernel
theorem dX9_tell_1 : decode cX9_tell 1 = .ok (.getfield 12, 3) := by decide +kernel
theorem dX9_tell_4 : decode cX9_tell 4 = .ok (.iload_n 1, 1) := by decide +kernel
theorem dX9_tell_5 : decode cX9_tell 5 = .ok (.invokevirtual 112, 3) := by decide +kernel
theorem dX9_tell_8 : decode cX9_tell 8 = .ok (.ifCond .eq 14, 3) := by decide +kernel
theorem dX9_tell_11 : decode cX9_tell 11 = .ok (.aload_n 0, 1) := by decide +kernel
theorem dX9_tell_12 : decode cX9_tell 12 = .ok (.getfield 12, 3) := by decide +kernel
theorem dX9_tell_15 : decode cX9_tell 15 = .ok (.iload_n 2, 1) := by decide +kernel
theorem dX9_tell_16 : decode cX9_tell 16 = .ok (.invokevirtual 202, 3) := by decide +kernel
theorem dX9_tell_19 : decode cX9_tell 19 = .ok (.ifCond .ne 5, 3) := by decide +kernel
theorem dX9_tell_22 : decode cX9_tell 22 = .ok (.iconst (-1), 1) := by decide +kernel
theorem dX9_tell_23 : decode cX9_tell 23 = .ok (.ireturn, 1) := by decide +kernel
theorem dX9_tell_24 : decode cX9_tell 24 = .ok (.aload_n 0, 1) := by decide +kernel
theorem dX9_tell_25 : decode cX9_tell 25 = .ok (.getfield 53, 3) := by decide +kernel
theorem dX9_tell_28 : decode cX9_tell 28 = .ok (.iload_n 1, 1) := by decide +kernel
theorem dX9_tell_29 : decode cX9_tell 29 = .ok (.iload_n 2, 1) := by decide +kernel
theorem dX9_tell_30 : decode cX9_tell 30 = .ok (.invokevirtual 205, 3) := by decide +kernel
theorem dX9_tell_33 : decode cX9_tell 33 = .ok (.ireturn, 1) := by decide +kernel
theorem dX9_judge_0 : decode cX9_judge 0 = .ok (.aload_n 0, 1) := by decide +kernel
theorem dX9_judge_1 : decode cX9_judge 1 = .ok (.getfield 53, 3) := by decide +kernel
theorem dX9_judge_4 : decode cX9_judge 4 = .ok (.invokevirtual 208, 3) := by decide +kernel
theorem dX9_judge_7 : decode cX9_judge 7 = .ok (.ireturn, 1) := by decide +kernel
theorem dX9_changed_0 : decode cX9_changed 0 = .ok (.aload_n 0, 1) := by decide +kernel
theorem dX9_changed_1 : decode cX9_changed 1 = .ok (.getfield 12, 3) := by decide +kernel
theorem dX9_changed_4 : decode cX9_changed 4 = .ok (.iload_n 1, 1) := by decide +kernel
theorem dX9_changed_5 : decode cX9_changed 5 = .ok (.invokevirtual 112, 3) := by decide +kernel
theorem dX9_changed_8 : decode cX9_changed 8 = .ok (.ifCond .eq 22, 3) := by decide +kernel
theorem dX9_changed_11 : decode cX9_changed 11 = .ok (.iload_n 2, 1) := by decide +kernel
theorem dX9_changed_12 : decode cX9_changed 12 = .ok (.iconst 1, 1) := by decide +kernel
theorem dX9_changed_13 : decode cX9_changed 13 = .ok (.bipush 99, 2) := by decide +kernel
theorem dX9_changed_15 : decode cX9_changed 15 = .ok (.invokestatic 78, 3) := by decide +kernel
theorem dX9_changed_18 : decode cX9_changed 18 = .ok (.ifCond .eq 12, 3) := by decide +kernel
theorem dX9_changed_21 : decode cX9_changed 21 = .ok (.iload_n 3, 1) := by decide +kernel
theorem dX9_changed_22 : decode cX9_changed 22 = .ok (.iconst 0, 1) := by decide +kernel
theorem dX9_changed_23 : decode cX9_changed 23 = .ok (.iconst 1, 1) := by decide +kernel
theorem dX9_changed_24 : decode cX9_changed 24 = .ok (.invokestatic 78, 3) := by decide +kernel
theorem dX9_changed_27 : decode cX9_changed 27 = .ok (.ifCond .ne 5, 3) := by decide +kernel
theorem dX9_changed_30 : decode cX9_changed 30 = .ok (.iconst (-1), 1) := by decide +kernel
theorem dX9_changed_31 : decode cX9_changed 31 = .ok (.ireturn, 1) := by decide +kernel
theorem dX9_changed_32 : decode cX9_changed 32 = .ok (.aload_n 0, 1) := by decide +kernel
theorem dX9_changed_33 : decode cX9_changed 33 = .ok (.getfield 60, 3) := by decide +kernel
theorem dX9_changed_36 : decode cX9_changed 36 = .ok (.iload_n 1, 1) := by decide +kernel
theorem dX9_changed_37 : decode cX9_changed 37 = .ok (.iload_n 2, 1) := by decide +kernel
theorem dX9_changed_38 : decode cX9_changed 38 = .ok (.invokevirtual 211, 3) := by decide +kernel
theorem dX9_changed_41 : decode cX9_changed 41 = .ok (.aload_n 0, 1) := by decide +kernel
theorem dX9_changed_42 : decode cX9_changed 42 = .ok (.getfield 44, 3) := by decide +kernel
theorem dX9_changed_45 : decode cX9_changed 45 = .ok (.getfield 156, 3) := by decide +kernel
theorem dX9_changed_48 : decode cX9_changed 48 = .ok (.istore 4, 2) := by decide +kernel
theorem dX9_changed_50 : decode cX9_changed 50 = .ok (.iload_n 3, 1) := by decide +kernel
theorem dX9_changed_51 : decode cX9_changed 51 = .ok (.ifCond .ne 6, 3) := by decide +kernel
theorem dX9_changed_54 : decode cX9_changed 54 = .ok (.iload 4, 2) := by decide +kernel
theorem dX9_changed_56 : decode cX9_changed 56 = .ok (.ireturn, 1) := by decide +kernel
theorem dX9_changed_57 : decode cX9_changed 57 = .ok (.iload 4, 2) := by decide +kernel
theorem dX9_changed_59 : decode cX9_changed 59 = .ok (.aload_n 0, 1) := by decide +kernel
theorem dX9_changed_60 : decode cX9_changed 60 = .ok (.getfield 60, 3) := by decide +kernel
theorem dX9_changed_63 : decode cX9_changed 63 = .ok (.iload_n 1, 1) := by decide +kernel
theorem dX9_changed_64 : decode cX9_changed 64 = .ok (.invokevirtual 215, 3) := by decide +kernel
theorem dX9_changed_67 : decode cX9_changed 67 = .ok (.isub, 1) := by decide +kernel
theorem dX9_changed_68 : decode cX9_changed 68 = .ok (.ireturn, 1) := by decide +kernel
theorem dX9_free_0 : decode cX9_free 0 = .ok (.aload_n 0, 1) := by decide +kernel
theorem dX9_free_1 : decode cX9_free 1 = .ok (.getfield 60, 3) := by decide +kernel
theorem dX9_free_4 : decode cX9_free 4 = .ok (.invokevirtual 218, 3) := by decide +kernel
theorem dX9_free_7 : decode cX9_free 7 = .ok (.istore_n 1, 1) := by decide +kernel
theorem dX9_free_8 : decode cX9_free 8 = .ok (.iconst 1, 1) := by decide +kernel
theorem dX9_free_9 : decode cX9_free 9 = .ok (.istore_n 2, 1) := by decide +kernel
theorem dX9_free_10 : decode cX9_free 10 = .ok (.iload_n 2, 1) := by decide +kernel
theorem dX9_free_11 : decode cX9_free 11 = .ok (.bipush 99, 2) := by decide +kernel
theorem dX9_free_13 : decode cX9_free 13 = .ok (.if_icmp .gt 23, 3) := by decide +kernel
theorem dX9_free_16 : decode cX9_free 16 = .ok (.aload_n 0, 1) := by decide +kernel
theorem dX9_free_17 : decode cX9_free 17 = .ok (.getfield 60, 3) := by decide +kernel
theorem dX9_free_20 : decode cX9_free 20 = .ok (.iload_n 2, 1) := by decide +kernel
theorem dX9_free_21 : decode cX9_free 21 = .ok (.invokevirtual 221, 3) := by decide +kernel
theorem dX9_free_24 : decode cX9_free 24 = .ok (.iload_n 1, 1) := by decide +kernel
theorem dX9_free_25 : decode cX9_free 25 = .ok (.if_icmp .gt 5, 3) := by decide +kernel
theorem dX9_free_28 : decode cX9_free 28 = .ok (.iload_n 2, 1) := by decide +kernel
theorem dX9_free_29 : decode cX9_free 29 = .ok (.ireturn, 1) := by decide +kernel
theorem dX9_free_30 : decode cX9_free 30 = .ok (.iinc 2 1, 3) := by decide +kernel
theorem dX9_free_33 : decode cX9_free 33 = .ok (.goto (-23), 3) := by decide +kernel
theorem dX9_free_36 : decode cX9_free 36 = .ok (.bipush (-2), 2) := by decide +kernel
theorem dX9_free_38 : decode cX9_free 38 = .ok (.ireturn, 1) := by decide +kernel
theorem dX9_black_0 : decode cX9_black 0 = .ok (.aload_n 0, 1) := by decide +kernel
theorem dX9_black_1 : decode cX9_black 1 = .ok (.getfield 12, 3) := by decide +kernel
theorem dX9_black_4 : decode cX9_black 4 = .ok (.iload_n 1, 1) := by decide +kernel
theorem dX9_black_5 : decode cX9_black 5 = .ok (.invokevirtual 112, 3) := by decide +kernel
theorem dX9_black_8 : decode cX9_black 8 = .ok (.ifCond .eq 25, 3) := by decide +kernel
theorem dX9_black_11 : decode cX9_black 11 = .ok (.iload_n 2, 1) := by decide +kernel
theorem dX9_black_12 : decode cX9_black 12 = .ok (.bipush 100, 2) := by decide +kernel
theorem dX9_black_14 : decode cX9_black 14 = .ok (.sipush 9999, 3) := by decide +kernel
theorem dX9_black_17 : decode cX9_black 17 = .ok (.invokestatic 78, 3) := by decide +kernel
theorem dX9_black_20 : decode cX9_black 20 = .ok (.ifCond .eq 13, 3) := by decide +kernel
theorem dX9_black_23 : decode cX9_black 23 = .ok (.iload_n 3, 1) := by decide +kernel
theorem dX9_black_24 : decode cX9_black 24 = .ok (.iconst 0, 1) := by decide +kernel
theorem dX9_black_25 : decode cX9_black 25 = .ok (.bipush 100, 2) := by decide +kernel
theorem dX9_black_27 : decode cX9_black 27 = .ok (.invokestatic 78, 3) := by decide +kernel
theorem dX9_black_30 : decode cX9_black 30 = .ok (.ifCond .ne 5, 3) := by decide +kernel
theorem dX9_black_33 : decode cX9_black 33 = .ok (.iconst (-1), 1) := by decide +kernel
theorem dX9_black_34 : decode cX9_black 34 = .ok (.ireturn, 1) := by decide +kernel
theorem dX9_black_35 : decode cX9_black 35 = .ok (.aload_n 0, 1) := by decide +kernel
theorem dX9_black_36 : decode cX9_black 36 = .ok (.getfield 60, 3) := by decide +kernel
theorem dX9_black_39 : decode cX9_black 39 = .ok (.iload_n 1, 1) := by decide +kernel
theorem dX9_black_40 : decode cX9_black 40 = .ok (.iload_n 2, 1) := by decide +kernel
theorem dX9_black_41 : decode cX9_black 41 = .ok (.bipush 100, 2) := by decide +kernel
theorem dX9_black_43 : decode cX9_black 43 = .ok (.idiv, 1) := by decide +kernel
theorem dX9_black_44 : decode cX9_black 44 = .ok (.iload_n 2, 1) := by decide +kernel
theorem dX9_black_45 : decode cX9_black 45 = .ok (.bipush 100, 2) := by decide +kernel
theorem dX9_black_47 : decode cX9_black 47 = .ok (.irem, 1) := by decide +kernel
theorem dX9_black_48 : decode cX9_black 48 = .ok (.iload_n 3, 1) := by decide +kernel
theorem dX9_black_49 : decode cX9_black 49 = .ok (.invokevirtual 224, 3) := by decide +kernel
theorem dX9_black_52 : decode cX9_black 52 = .ok (.ireturn, 1) := by decide +kernel
theorem dX9_beside_0 : decode cX9_beside 0 = .ok (.aload_n 0, 1) := by decide +kernel
theorem dX9_beside_1 : decode cX9_beside 1 = .ok (.getfield 12, 3) := by decide +kernel
theorem dX9_beside_4 : decode cX9_beside 4 = .ok (.iload_n 1, 1) := by decide +kernel
theorem dX9_beside_5 : decode cX9_beside 5 = .ok (.invokevirtual 112, 3) := by decide +kernel
theorem dX9_beside_8 : decode cX9_beside 8 = .ok (.ifCond .eq 10, 3) := by decide +kernel
theorem dX9_beside_11 : decode cX9_beside 11 = .ok (.iload_n 2, 1) := by decide +kernel
theorem dX9_beside_12 : decode cX9_beside 12 = .ok (.invokestatic 227, 3) := by decide +kernel
theorem dX9_beside_15 : decode cX9_beside 15 = .ok (.ifCond .ne 5, 3) := by decide +kernel
theorem dX9_beside_18 : decode cX9_beside 18 = .ok (.iconst (-1), 1) := by decide +kernel
theorem dX9_beside_19 : decode cX9_beside 19 = .ok (.ireturn, 1) := by decide +kernel
theorem dX9_beside_20 : decode cX9_beside 20 = .ok (.aload_n 0, 1) := by decide +kernel
theorem dX9_beside_21 : decode cX9_beside 21 = .ok (.getfield 60, 3) := by decide +kernel
theorem dX9_beside_24 : decode cX9_beside 24 = .ok (.iload_n 1, 1) := by decide +kernel
theorem dX9_beside_25 : decode cX9_beside 25 = .ok (.iload_n 2, 1) := by decide +kernel
theorem dX9_beside_26 : decode cX9_beside 26 = .ok (.invokevirtual 230, 3) := by decide +kernel
theorem dX9_beside_29 : decode cX9_beside 29 = .ok (.ireturn, 1) := by decide +kernel
theorem dX9_loses_0 : decode cX9_loses 0 = .ok (.iload_n 1, 1) := by decide +kernel
theorem dX9_loses_1 : decode cX9_loses 1 = .ok (.invokestatic 227, 3) := by decide +kernel
theorem dX9_loses_4 : decode cX9_loses 4 = .ok (.ifCond .eq 14, 3) := by decide +kernel
theorem dX9_loses_7 : decode cX9_loses 7 = .ok (.aload_n 0, 1) := by decide +kernel
theorem dX9_loses_8 : decode cX9_loses 8 = .ok (.getfield 60, 3) := by decide +kernel
theorem dX9_loses_11 : decode cX9_loses 11 = .ok (.iload_n 1, 1) := by decide +kernel
theorem dX9_loses_12 : decode cX9_loses 12 = .ok (.invokevirtual 233, 3) := by decide +kernel
theorem dX9_loses_15 : decode cX9_loses 15 = .ok (.goto 4, 3) := by decide +kernel
theorem dX9_loses_18 : decode cX9_loses 18 = .ok (.iconst (-1), 1) := by decide +kernel
theorem dX9_loses_19 : decode cX9_loses 19 = .ok (.ireturn, 1) := by decide +kernel
theorem dX9_fewest_0 : decode cX9_fewest 0 = .ok (.iconst 0, 1) := by decide +kernel
theorem dX9_fewest_1 : decode cX9_fewest 1 = .ok (.istore_n 1, 1) := by decide +kernel
theorem dX9_fewest_2 : decode cX9_fewest 2 = .ok (.iload_n 1, 1) := by decide +kernel
theorem dX9_fewest_3 : decode cX9_fewest 3 = .ok (.aload_n 0, 1) := by decide +kernel
theorem dX9_fewest_4 : decode cX9_fewest 4 = .ok (.getfield 12, 3) := by decide +kernel
theorem dX9_fewest_7 : decode cX9_fewest 7 = .ok (.getfield 181, 3) := by decide +kernel
theorem dX9_fewest_10 : decode cX9_fewest 10 = .ok (.if_icmp .gt 51, 3) := by decide +kernel
theorem dX9_fewest_13 : decode cX9_fewest 13 = .ok (.iconst 0, 1) := by decide +kernel
theorem dX9_fewest_14 : decode cX9_fewest 14 = .ok (.istore_n 2, 1) := by decide +kernel
theorem dX9_fewest_15 : decode cX9_fewest 15 = .ok (.iload_n 2, 1) := by decide +kernel
theorem dX9_fewest_16 : decode cX9_fewest 16 = .ok (.iconst 1, 1) := by decide +kernel
theorem dX9_fewest_17 : decode cX9_fewest 17 = .ok (.aload_n 0, 1) := by decide +kernel
theorem dX9_fewest_18 : decode cX9_fewest 18 = .ok (.getfield 12, 3) := by decide +kernel
theorem dX9_fewest_21 : decode cX9_fewest 21 = .ok (.getfield 181, 3) := by decide +kernel
theorem dX9_fewest_24 : decode cX9_fewest 24 = .ok (.ishl, 1) := by decide +kernel
theorem dX9_fewest_25 : decode cX9_fewest 25 = .ok (.if_icmp .ge 30, 3) := by decide +kernel
theorem dX9_fewest_28 : decode cX9_fewest 28 = .ok (.iload_n 2, 1) := by decide +kernel
theorem dX9_fewest_29 : decode cX9_fewest 29 = .ok (.invokestatic 236, 3) := by decide +kernel
theorem dX9_fewest_32 : decode cX9_fewest 32 = .ok (.iload_n 1, 1) := by decide +kernel
theorem dX9_fewest_33 : decode cX9_fewest 33 = .ok (.if_icmp .ne 16, 3) := by decide +kernel
theorem dX9_fewest_36 : decode cX9_fewest 36 = .ok (.aload_n 0, 1) := by decide +kernel
theorem dX9_fewest_37 : decode cX9_fewest 37 = .ok (.getfield 53, 3) := by decide +kernel
theorem dX9_fewest_40 : decode cX9_fewest 40 = .ok (.iload_n 2, 1) := by decide +kernel
theorem dX9_fewest_41 : decode cX9_fewest 41 = .ok (.invokevirtual 241, 3) := by decide +kernel
theorem dX9_fewest_44 : decode cX9_fewest 44 = .ok (.ifCond .eq 5, 3) := by decide +kernel
theorem dX9_fewest_47 : decode cX9_fewest 47 = .ok (.iload_n 2, 1) := by decide +kernel
theorem dX9_fewest_48 : decode cX9_fewest 48 = .ok (.ireturn, 1) := by decide +kernel
theorem dX9_fewest_49 : decode cX9_fewest 49 = .ok (.iinc 2 1, 3) := by decide +kernel
theorem dX9_fewest_52 : decode cX9_fewest 52 = .ok (.goto (-37), 3) := by decide +kernel
theorem dX9_fewest_55 : decode cX9_fewest 55 = .ok (.iinc 1 1, 3) := by decide +kernel
theorem dX9_fewest_58 : decode cX9_fewest 58 = .ok (.goto (-56), 3) := by decide +kernel
theorem dX9_fewest_61 : decode cX9_fewest 61 = .ok (.bipush (-2), 2) := by decide +kernel
theorem dX9_fewest_63 : decode cX9_fewest 63 = .ok (.ireturn, 1) := by decide +kernel
theorem dX9_least_0 : decode cX9_least 0 = .ok (.aload_n 0, 1) := by decide +kernel
theorem dX9_least_1 : decode cX9_least 1 = .ok (.getfield 12, 3) := by decide +kernel
theorem dX9_least_4 : decode cX9_least 4 = .ok (.iload_n 1, 1) := by decide +kernel
theorem dX9_least_5 : decode cX9_least 5 = .ok (.invokevirtual 98, 3) := by decide +kernel
theorem dX9_least_8 : decode cX9_least 8 = .ok (.ifCond .eq 14, 3) := by decide +kernel
theorem dX9_least_11 : decode cX9_least 11 = .ok (.aload_n 0, 1) := by decide +kernel
theorem dX9_least_12 : decode cX9_least 12 = .ok (.getfield 53, 3) := by decide +kernel
theorem dX9_least_15 : decode cX9_least 15 = .ok (.iload_n 1, 1) := by decide +kernel
theorem dX9_least_16 : decode cX9_least 16 = .ok (.invokevirtual 244, 3) := by decide +kernel
theorem dX9_least_19 : decode cX9_least 19 = .ok (.goto 4, 3) := by decide +kernel
theorem dX9_least_22 : decode cX9_least 22 = .ok (.iconst (-1), 1) := by decide +kernel
theorem dX9_least_23 : decode cX9_least 23 = .ok (.ireturn, 1) := by decide +kernel
theorem dX9_months_0 : decode cX9_months 0 = .ok (.aload_n 0, 1) := by decide +kernel
theorem dX9_months_1 : decode cX9_months 1 = .ok (.getfield 12, 3) := by decide +kernel
theorem dX9_months_4 : decode cX9_months 4 = .ok (.iload_n 1, 1) := by decide +kernel
theorem dX9_months_5 : decode cX9_months 5 = .ok (.invokevirtual 112, 3) := by decide +kernel
theorem dX9_months_8 : decode cX9_months 8 = .ok (.ifCond .eq 33, 3) := by decide +kernel
theorem dX9_months_11 : decode cX9_months 11 = .ok (.iload_n 2, 1) := by decide +kernel
theorem dX9_months_12 : decode cX9_months 12 = .ok (.iconst 1, 1) := by decide +kernel
theorem dX9_months_13 : decode cX9_months 13 = .ok (.bipush 12, 2) := by decide +kernel
theorem dX9_months_15 : decode cX9_months 15 = .ok (.invokestatic 78, 3) := by decide +kernel
theorem dX9_months_18 : decode cX9_months 18 = .ok (.ifCond .eq 23, 3) := by decide +kernel
theorem dX9_months_21 : decode cX9_months 21 = .ok (.iload_n 3, 1) := by decide +kernel
theorem dX9_months_22 : decode cX9_months 22 = .ok (.iconst 0, 1) := by decide +kernel
theorem dX9_months_23 : decode cX9_months 23 = .ok (.bipush 99, 2) := by decide +kernel
theorem dX9_months_25 : decode cX9_months 25 = .ok (.invokestatic 78, 3) := by decide +kernel
theorem dX9_months_28 : decode cX9_months 28 = .ok (.ifCond .eq 13, 3) := by decide +kernel
theorem dX9_months_31 : decode cX9_months 31 = .ok (.iload 4, 2) := by decide +kernel
theorem dX9_months_33 : decode cX9_months 33 = .ok (.iconst 0, 1) := by decide +kernel
theorem dX9_months_34 : decode cX9_months 34 = .ok (.iconst 1, 1) := by decide +kernel
theorem dX9_months_35 : decode cX9_months 35 = .ok (.invokestatic 78, 3) := by decide +kernel
theorem dX9_months_38 : decode cX9_months 38 = .ok (.ifCond .ne 5, 3) := by decide +kernel
theorem dX9_months_41 : decode cX9_months 41 = .ok (.iconst (-1), 1) := by decide +kernel
theorem dX9_months_42 : decode cX9_months 42 = .ok (.ireturn, 1) := by decide +kernel
theorem dX9_months_43 : decode cX9_months 43 = .ok (.aload_n 0, 1) := by decide +kernel
theorem dX9_months_44 : decode cX9_months 44 = .ok (.getfield 60, 3) := by decide +kernel
theorem dX9_months_47 : decode cX9_months 47 = .ok (.iload_n 1, 1) := by decide +kernel
theorem dX9_months_48 : decode cX9_months 48 = .ok (.iload_n 2, 1) := by decide +kernel
theorem dX9_months_49 : decode cX9_months 49 = .ok (.iload_n 3, 1) := by decide +kernel
theorem dX9_months_50 : decode cX9_months 50 = .ok (.invokevirtual 247, 3) := by decide +kernel
theorem dX9_months_53 : decode cX9_months 53 = .ok (.iload 4, 2) := by decide +kernel
theorem dX9_months_55 : decode cX9_months 55 = .ok (.ifCond .ne 13, 3) := by decide +kernel
theorem dX9_months_58 : decode cX9_months 58 = .ok (.aload_n 0, 1) := by decide +kernel
theorem dX9_months_59 : decode cX9_months 59 = .ok (.getfield 60, 3) := by decide +kernel
theorem dX9_months_62 : decode cX9_months 62 = .ok (.getfield 251, 3) := by decide +kernel
theorem dX9_months_65 : decode cX9_months 65 = .ok (.goto 10, 3) := by decide +kernel
theorem dX9_months_68 : decode cX9_months 68 = .ok (.aload_n 0, 1) := by decide +kernel
theorem dX9_months_69 : decode cX9_months 69 = .ok (.getfield 60, 3) := by decide +kernel
theorem dX9_months_72 : decode cX9_months 72 = .ok (.getfield 254, 3) := by decide +kernel
theorem dX9_months_75 : decode cX9_months 75 = .ok (.ireturn, 1) := by decide +kernel
theorem dX9_foresight_0 : decode cX9_foresight 0 = .ok (.aload_n 0, 1) := by decide +kernel
theorem dX9_foresight_1 : decode cX9_foresight 1 = .ok (.getfield 12, 3) := by decide +kernel
theorem dX9_foresight_4 : decode cX9_foresight 4 = .ok (.iload_n 1, 1) := by decide +kernel
theorem dX9_foresight_5 : decode cX9_foresight 5 = .ok (.invokevirtual 112, 3) := by decide +kernel
theorem dX9_foresight_8 : decode cX9_foresight 8 = .ok (.ifCond .eq 14, 3) := by decide +kernel
theorem dX9_foresight_11 : decode cX9_foresight 11 = .ok (.aload_n 0, 1) := by decide +kernel
theorem dX9_foresight_12 : decode cX9_foresight 12 = .ok (.getfield 60, 3) := by decide +kernel
theorem dX9_foresight_15 : decode cX9_foresight 15 = .ok (.iload_n 1, 1) := by decide +kernel
theorem dX9_foresight_16 : decode cX9_foresight 16 = .ok (.invokevirtual 257, 3) := by decide +kernel
theorem dX9_foresight_19 : decode cX9_foresight 19 = .ok (.goto 4, 3) := by decide +kernel
theorem dX9_foresight_22 : decode cX9_foresight 22 = .ok (.iconst (-1), 1) := by decide +kernel
theorem dX9_foresight_23 : decode cX9_foresight 23 = .ok (.ireturn, 1) := by decide +kernel
theorem dX9_cheap_0 : decode cX9_cheap 0 = .ok (.iload_n 1, 1) := by decide +kernel
theorem dX9_cheap_1 : decode cX9_cheap 1 = .ok (.iconst 0, 1) := by decide +kernel
theorem dX9_cheap_2 : decode cX9_cheap 2 = .ok (.bipush 99, 2) := by decide +kernel
theorem dX9_cheap_4 : decode cX9_cheap 4 = .ok (.invokestatic 78, 3) := by decide +kernel
theorem dX9_cheap_7 : decode cX9_cheap 7 = .ok (.ifCond .eq 14, 3) := by decide +kernel
theorem dX9_cheap_10 : decode cX9_cheap 10 = .ok (.aload_n 0, 1) := by decide +kernel
theorem dX9_cheap_11 : decode cX9_cheap 11 = .ok (.getfield 53, 3) := by decide +kernel
theorem dX9_cheap_14 : decode cX9_cheap 14 = .ok (.iload_n 1, 1) := by decide +kernel
theorem dX9_cheap_15 : decode cX9_cheap 15 = .ok (.invokevirtual 260, 3) := by decide +kernel
theorem dX9_cheap_18 : decode cX9_cheap 18 = .ok (.goto 4, 3) := by decide +kernel
theorem dX9_cheap_21 : decode cX9_cheap 21 = .ok (.iconst (-1), 1) := by decide +kernel
theorem dX9_cheap_22 : decode cX9_cheap 22 = .ok (.ireturn, 1) := by decide +kernel
theorem dX9_wrong_0 : decode cX9_wrong 0 = .ok (.iload_n 1, 1) := by decide +kernel
theorem dX9_wrong_1 : decode cX9_wrong 1 = .ok (.iconst 0, 1) := by decide +kernel
theorem dX9_wrong_2 : decode cX9_wrong 2 = .ok (.iconst 2, 1) := by decide +kernel
theorem dX9_wrong_3 : decode cX9_wrong 3 = .ok (.invokestatic 78, 3) := by decide +kernel
theorem dX9_wrong_6 : decode cX9_wrong 6 = .ok (.ifCond .ne 6, 3) := by decide +kernel
theorem dX9_wrong_9 : decode cX9_wrong 9 = .ok (.ldc 165, 2) := by decide +kernel
theorem dX9_wrong_11 : decode cX9_wrong 11 = .ok (.ireturn, 1) := by decide +kernel
theorem dX9_wrong_12 : decode cX9_wrong 12 = .ok (.aload_n 0, 1) := by decide +kernel
theorem dX9_wrong_13 : decode cX9_wrong 13 = .ok (.getfield 53, 3) := by decide +kernel
theorem dX9_wrong_16 : decode cX9_wrong 16 = .ok (.invokevirtual 263, 3) := by decide +kernel
theorem dX9_wrong_19 : decode cX9_wrong 19 = .ok (.istore_n 2, 1) := by decide +kernel
theorem dX9_wrong_20 : decode cX9_wrong 20 = .ok (.iload_n 1, 1) := by decide +kernel
theorem dX9_wrong_21 : decode cX9_wrong 21 = .ok (.ifCond .eq 9, 3) := by decide +kernel
theorem dX9_wrong_24 : decode cX9_wrong 24 = .ok (.iload_n 2, 1) := by decide +kernel
theorem dX9_wrong_25 : decode cX9_wrong 25 = .ok (.bipush (-2), 2) := by decide +kernel
theorem dX9_wrong_27 : decode cX9_wrong 27 = .ok (.if_icmp .ne 5, 3) := by decide +kernel
theorem dX9_wrong_30 : decode cX9_wrong 30 = .ok (.iload_n 2, 1) := by decide +kernel
theorem dX9_wrong_31 : decode cX9_wrong 31 = .ok (.ireturn, 1) := by decide +kernel
theorem dX9_wrong_32 : decode cX9_wrong 32 = .ok (.iload_n 1, 1) := by decide +kernel
theorem dX9_wrong_33 : decode cX9_wrong 33 = .ok (.iconst 1, 1) := by decide +kernel
theorem dX9_wrong_34 : decode cX9_wrong 34 = .ok (.if_icmp .ne 14, 3) := by decide +kernel
theorem dX9_wrong_37 : decode cX9_wrong 37 = .ok (.aload_n 0, 1) := by decide +kernel
theorem dX9_wrong_38 : decode cX9_wrong 38 = .ok (.getfield 53, 3) := by decide +kernel
theorem dX9_wrong_41 : decode cX9_wrong 41 = .ok (.iload_n 2, 1) := by decide +kernel
theorem dX9_wrong_42 : decode cX9_wrong 42 = .ok (.invokevirtual 266, 3) := by decide +kernel
theorem dX9_wrong_45 : decode cX9_wrong 45 = .ok (.goto 15, 3) := by decide +kernel
theorem dX9_wrong_48 : decode cX9_wrong 48 = .ok (.iconst 0, 1) := by decide +kernel
theorem dX9_wrong_49 : decode cX9_wrong 49 = .ok (.aload_n 0, 1) := by decide +kernel
theorem dX9_wrong_50 : decode cX9_wrong 50 = .ok (.getfield 53, 3) := by decide +kernel
theorem dX9_wrong_53 : decode cX9_wrong 53 = .ok (.iload_n 2, 1) := by decide +kernel
theorem dX9_wrong_54 : decode cX9_wrong 54 = .ok (.invokevirtual 175, 3) := by decide +kernel
theorem dX9_wrong_57 : decode cX9_wrong 57 = .ok (.invokestatic 269, 3) := by decide +kernel
theorem dX9_wrong_60 : decode cX9_wrong 60 = .ok (.ireturn, 1) := by decide +kernel
theorem dX9_undo_0 : decode cX9_undo 0 = .ok (.aload_n 0, 1) := by decide +kernel
theorem dX9_undo_1 : decode cX9_undo 1 = .ok (.getfield 21, 3) := by decide +kernel
theorem dX9_undo_4 : decode cX9_undo 4 = .ok (.invokevirtual 272, 3) := by decide +kernel
theorem dX9_undo_7 : decode cX9_undo 7 = .ok (.ireturn, 1) := by decide +kernel
theorem dX9_redo_0 : decode cX9_redo 0 = .ok (.aload_n 0, 1) := by decide +kernel
theorem dX9_redo_1 : decode cX9_redo 1 = .ok (.getfield 21, 3) := by decide +kernel
theorem dX9_redo_4 : decode cX9_redo 4 = .ok (.invokevirtual 275, 3) := by decide +kernel
theorem dX9_redo_7 : decode cX9_redo 7 = .ok (.ireturn, 1) := by decide +kernel
theorem dX9_body_0 : decode cX9_body 0 = .ok (.iload_n 1, 1) := by decide +kernel
theorem dX9_body_1 : decode cX9_body 1 = .ok (.iconst 0, 1) := by decide +kernel
theorem dX9_body_2 : decode cX9_body 2 = .ok (.bipush 7, 2) := by decide +kernel
theorem dX9_body_4 : decode cX9_body 4 = .ok (.invokestatic 78, 3) := by decide +kernel
theorem dX9_body_7 : decode cX9_body 7 = .ok (.ifCond .eq 14, 3) := by decide +kernel
theorem dX9_body_10 : decode cX9_body 10 = .ok (.aload_n 0, 1) := by decide +kernel
theorem dX9_body_11 : decode cX9_body 11 = .ok (.getfield 67, 3) := by decide +kernel
theorem dX9_body_14 : decode cX9_body 14 = .ok (.iload_n 1, 1) := by decide +kernel
theorem dX9_body_15 : decode cX9_body 15 = .ok (.invokevirtual 278, 3) := by decide +kernel
theorem dX9_body_18 : decode cX9_body 18 = .ok (.goto 4, 3) := by decide +kernel
theorem dX9_body_21 : decode cX9_body 21 = .ok (.iconst (-1), 1) := by decide +kernel
theorem dX9_body_22 : decode cX9_body 22 = .ok (.ireturn, 1) := by decide +kernel
theorem dX9_act_0 : decode cX9_act 0 = .ok (.aload_n 0, 1) := by decide +kernel
theorem dX9_act_1 : decode cX9_act 1 = .ok (.getfield 67, 3) := by decide +kernel
theorem dX9_act_4 : decode cX9_act 4 = .ok (.invokevirtual 281, 3) := by decide +kernel
theorem dX9_act_7 : decode cX9_act 7 = .ok (.aload_n 0, 1) := by decide +kernel
theorem dX9_act_8 : decode cX9_act 8 = .ok (.getfield 67, 3) := by decide +kernel
theorem dX9_act_11 : decode cX9_act 11 = .ok (.iload_n 1, 1) := by decide +kernel
theorem dX9_act_12 : decode cX9_act 12 = .ok (.invokevirtual 284, 3) := by decide +kernel
theorem dX9_act_15 : decode cX9_act 15 = .ok (.ifCond .eq 12, 3) := by decide +kernel
theorem dX9_act_18 : decode cX9_act 18 = .ok (.iload_n 2, 1) := by decide +kernel
theorem dX9_act_19 : decode cX9_act 19 = .ok (.iconst 0, 1) := by decide +kernel
theorem dX9_act_20 : decode cX9_act 20 = .ok (.iconst 3, 1) := by decide +kernel
theorem dX9_act_21 : decode cX9_act 21 = .ok (.invokestatic 78, 3) := by decide +kernel
theorem dX9_act_24 : decode cX9_act 24 = .ok (.ifCond .ne 5, 3) := by decide +kernel
theorem dX9_act_27 : decode cX9_act 27 = .ok (.iconst 0, 1) := by decide +kernel
theorem dX9_act_28 : decode cX9_act 28 = .ok (.ireturn, 1) := by decide +kernel
theorem dX9_act_29 : decode cX9_act 29 = .ok (.aload_n 0, 1) := by decide +kernel
theorem dX9_act_30 : decode cX9_act 30 = .ok (.getfield 67, 3) := by decide +kernel
theorem dX9_act_33 : decode cX9_act 33 = .ok (.iload_n 1, 1) := by decide +kernel
theorem dX9_act_34 : decode cX9_act 34 = .ok (.iload_n 2, 1) := by decide +kernel
theorem dX9_act_35 : decode cX9_act 35 = .ok (.iload_n 3, 1) := by decide +kernel
theorem dX9_act_36 : decode cX9_act 36 = .ok (.invokevirtual 287, 3) := by decide +kernel
theorem dX9_act_39 : decode cX9_act 39 = .ok (.ireturn, 1) := by decide +kernel
theorem dX9_trace_0 : decode cX9_trace 0 = .ok (.aload_n 0, 1) := by decide +kernel
theorem dX9_trace_1 : decode cX9_trace 1 = .ok (.getfield 67, 3) := by decide +kernel
theorem dX9_trace_4 : decode cX9_trace 4 = .ok (.iload_n 1, 1) := by decide +kernel
theorem dX9_trace_5 : decode cX9_trace 5 = .ok (.invokevirtual 290, 3) := by decide +kernel
theorem dX9_trace_8 : decode cX9_trace 8 = .ok (.ireturn, 1) := by decide +kernel
theorem dX9_keep_0 : decode cX9_keep 0 = .ok (.aload_n 0, 1) := by decide +kernel
theorem dX9_keep_1 : decode cX9_keep 1 = .ok (.getfield 74, 3) := by decide +kernel
theorem dX9_keep_4 : decode cX9_keep 4 = .ok (.iload_n 1, 1) := by decide +kernel
theorem dX9_keep_5 : decode cX9_keep 5 = .ok (.invokevirtual 86, 3) := by decide +kernel
theorem dX9_keep_8 : decode cX9_keep 8 = .ok (.ifCond .eq 19, 3) := by decide +kernel
theorem dX9_keep_11 : decode cX9_keep 11 = .ok (.iload_n 2, 1) := by decide +kernel
theorem dX9_keep_12 : decode cX9_keep 12 = .ok (.iconst (-1), 1) := by decide +kernel
theorem dX9_keep_13 : decode cX9_keep 13 = .ok (.if_icmp .eq 16, 3) := by decide +kernel
theorem dX9_keep_16 : decode cX9_keep 16 = .ok (.aload_n 0, 1) := by decide +kernel
theorem dX9_keep_17 : decode cX9_keep 17 = .ok (.getfield 67, 3) := by decide +kernel
theorem dX9_keep_20 : decode cX9_keep 20 = .ok (.iload_n 2, 1) := by decide +kernel
theorem dX9_keep_21 : decode cX9_keep 21 = .ok (.invokevirtual 284, 3) := by decide +kernel
theorem dX9_keep_24 : decode cX9_keep 24 = .ok (.ifCond .ne 5, 3) := by decide +kernel
theorem dX9_keep_27 : decode cX9_keep 27 = .ok (.iconst (-1), 1) := by decide +kernel
theorem dX9_keep_28 : decode cX9_keep 28 = .ok (.ireturn, 1) := by decide +kernel
theorem dX9_keep_29 : decode cX9_keep 29 = .ok (.aload_n 0, 1) := by decide +kernel
theorem dX9_keep_30 : decode cX9_keep 30 = .ok (.getfield 74, 3) := by decide +kernel
theorem dX9_keep_33 : decode cX9_keep 33 = .ok (.iload_n 1, 1) := by decide +kernel
theorem dX9_keep_34 : decode cX9_keep 34 = .ok (.iload_n 2, 1) := by decide +kernel
theorem dX9_keep_35 : decode cX9_keep 35 = .ok (.iconst (-1), 1) := by decide +kernel
theorem dX9_keep_36 : decode cX9_keep 36 = .ok (.if_icmp .ne 7, 3) := by decide +kernel
theorem dX9_keep_39 : decode cX9_keep 39 = .ok (.iconst (-1), 1) := by decide +kernel
theorem dX9_keep_40 : decode cX9_keep 40 = .ok (.goto 4, 3) := by decide +kernel
theorem dX9_keep_43 : decode cX9_keep 43 = .ok (.iconst 5, 1) := by decide +kernel
theorem dX9_keep_44 : decode cX9_keep 44 = .ok (.iload_n 2, 1) := by decide +kernel
theorem dX9_keep_45 : decode cX9_keep 45 = .ok (.invokevirtual 293, 3) := by decide +kernel
theorem dX9_keep_48 : decode cX9_keep 48 = .ok (.iconst 1, 1) := by decide +kernel
theorem dX9_keep_49 : decode cX9_keep 49 = .ok (.ireturn, 1) := by decide +kernel
theorem dX9_row_0 : decode cX9_row 0 = .ok (.aload_n 0, 1) := by decide +kernel
theorem dX9_row_1 : decode cX9_row 1 = .ok (.getfield 74, 3) := by decide +kernel
theorem dX9_row_4 : decode cX9_row 4 = .ok (.iload_n 1, 1) := by decide +kernel
theorem dX9_row_5 : decode cX9_row 5 = .ok (.invokevirtual 86, 3) := by decide +kernel
theorem dX9_row_8 : decode cX9_row 8 = .ok (.ifCond .eq 18, 3) := by decide +kernel
theorem dX9_row_11 : decode cX9_row 11 = .ok (.iload_n 2, 1) := by decide +kernel
theorem dX9_row_12 : decode cX9_row 12 = .ok (.iconst 0, 1) := by decide +kernel
theorem dX9_row_13 : decode cX9_row 13 = .ok (.iconst 4, 1) := by decide +kernel
theorem dX9_row_14 : decode cX9_row 14 = .ok (.invokestatic 78, 3) := by decide +kernel
theorem dX9_row_17 : decode cX9_row 17 = .ok (.ifCond .eq 9, 3) := by decide +kernel
theorem dX9_row_20 : decode cX9_row 20 = .ok (.iload_n 3, 1) := by decide +kernel
theorem dX9_row_21 : decode cX9_row 21 = .ok (.bipush 60, 2) := by decide +kernel
theorem dX9_row_23 : decode cX9_row 23 = .ok (.if_icmp .le 5, 3) := by decide +kernel
theorem dX9_row_26 : decode cX9_row 26 = .ok (.iconst (-1), 1) := by decide +kernel
theorem dX9_row_27 : decode cX9_row 27 = .ok (.ireturn, 1) := by decide +kernel
theorem dX9_row_28 : decode cX9_row 28 = .ok (.iload_n 3, 1) := by decide +kernel
theorem dX9_row_29 : decode cX9_row 29 = .ok (.ifCond .ge 6, 3) := by decide +kernel
theorem dX9_row_32 : decode cX9_row 32 = .ok (.bipush (-14), 2) := by decide +kernel
theorem dX9_row_34 : decode cX9_row 34 = .ok (.ireturn, 1) := by decide +kernel
theorem dX9_row_35 : decode cX9_row 35 = .ok (.aload_n 0, 1) := by decide +kernel
theorem dX9_row_36 : decode cX9_row 36 = .ok (.getfield 74, 3) := by decide +kernel
theorem dX9_row_39 : decode cX9_row 39 = .ok (.iload_n 1, 1) := by decide +kernel
theorem dX9_row_40 : decode cX9_row 40 = .ok (.iload_n 2, 1) := by decide +kernel
theorem dX9_row_41 : decode cX9_row 41 = .ok (.iload_n 3, 1) := by decide +kernel
theorem dX9_row_42 : decode cX9_row 42 = .ok (.invokevirtual 293, 3) := by decide +kernel
theorem dX9_row_45 : decode cX9_row 45 = .ok (.iconst 1, 1) := by decide +kernel
theorem dX9_row_46 : decode cX9_row 46 = .ok (.ireturn, 1) := by decide +kernel
theorem dX9_put_0 : decode cX9_put 0 = .ok (.aload_n 0, 1) := by decide +kernel
theorem dX9_put_1 : decode cX9_put 1 = .ok (.getfield 74, 3) := by decide +kernel
theorem dX9_put_4 : decode cX9_put 4 = .ok (.iload_n 1, 1) := by decide +kernel
theorem dX9_put_5 : decode cX9_put 5 = .ok (.iload_n 2, 1) := by decide +kernel
theorem dX9_put_6 : decode cX9_put 6 = .ok (.invokevirtual 296, 3) := by decide +kernel
theorem dX9_put_9 : decode cX9_put 9 = .ok (.istore 5, 2) := by decide +kernel
theorem dX9_put_11 : decode cX9_put 11 = .ok (.iload 5, 2) := by decide +kernel
theorem dX9_put_13 : decode cX9_put 13 = .ok (.ifCond .eq 6, 3) := by decide +kernel
theorem dX9_put_16 : decode cX9_put 16 = .ok (.iload 5, 2) := by decide +kernel
theorem dX9_put_18 : decode cX9_put 18 = .ok (.ireturn, 1) := by decide +kernel
theorem dX9_put_19 : decode cX9_put 19 = .ok (.aload_n 0, 1) := by decide +kernel
theorem dX9_put_20 : decode cX9_put 20 = .ok (.getfield 74, 3) := by decide +kernel
theorem dX9_put_23 : decode cX9_put 23 = .ok (.iload_n 1, 1) := by decide +kernel
theorem dX9_put_24 : decode cX9_put 24 = .ok (.iload_n 2, 1) := by decide +kernel
theorem dX9_put_25 : decode cX9_put 25 = .ok (.lload_n 3, 1) := by decide +kernel
theorem dX9_put_26 : decode cX9_put 26 = .ok (.invokevirtual 299, 3) := by decide +kernel
theorem dX9_put_29 : decode cX9_put 29 = .ok (.iconst 1, 1) := by decide +kernel
theorem dX9_put_30 : decode cX9_put 30 = .ok (.ireturn, 1) := by decide +kernel
theorem dX9_element_0 : decode cX9_element 0 = .ok (.aload_n 0, 1) := by decide +kernel
theorem dX9_element_1 : decode cX9_element 1 = .ok (.getfield 74, 3) := by decide +kernel
theorem dX9_element_4 : decode cX9_element 4 = .ok (.iload_n 1, 1) := by decide +kernel
theorem dX9_element_5 : decode cX9_element 5 = .ok (.iload_n 2, 1) := by decide +kernel
theorem dX9_element_6 : decode cX9_element 6 = .ok (.invokevirtual 296, 3) := by decide +kernel
theorem dX9_element_9 : decode cX9_element 9 = .ok (.ifCond .ne 15, 3) := by decide +kernel
theorem dX9_element_12 : decode cX9_element 12 = .ok (.aload_n 0, 1) := by decide +kernel
theorem dX9_element_13 : decode cX9_element 13 = .ok (.getfield 74, 3) := by decide +kernel
theorem dX9_element_16 : decode cX9_element 16 = .ok (.iload_n 1, 1) := by decide +kernel
theorem dX9_element_17 : decode cX9_element 17 = .ok (.iload_n 2, 1) := by decide +kernel
theorem dX9_element_18 : decode cX9_element 18 = .ok (.invokevirtual 303, 3) := by decide +kernel
theorem dX9_element_21 : decode cX9_element 21 = .ok (.goto 6, 3) := by decide +kernel
theorem dX9_element_24 : decode cX9_element 24 = .ok (.ldc2_w 309, 3) := by decide +kernel
theorem dX9_element_27 : decode cX9_element 27 = .ok (.lreturn, 1) := by decide +kernel
theorem dX9_shift_0 : decode cX9_shift 0 = .ok (.aload_n 0, 1) := by decide +kernel
theorem dX9_shift_1 : decode cX9_shift 1 = .ok (.getfield 74, 3) := by decide +kernel
theorem dX9_shift_4 : decode cX9_shift 4 = .ok (.iload_n 1, 1) := by decide +kernel
theorem dX9_shift_5 : decode cX9_shift 5 = .ok (.iload_n 3, 1) := by decide +kernel
theorem dX9_shift_6 : decode cX9_shift 6 = .ok (.invokevirtual 311, 3) := by decide +kernel
theorem dX9_shift_9 : decode cX9_shift 9 = .ok (.istore 6, 2) := by decide +kernel
theorem dX9_shift_11 : decode cX9_shift 11 = .ok (.iload 6, 2) := by decide +kernel
theorem dX9_shift_13 : decode cX9_shift 13 = .ok (.ifCond .eq 6, 3) := by decide +kernel
theorem dX9_shift_16 : decode cX9_shift 16 = .ok (.iload 6, 2) := by decide +kernel
theorem dX9_shift_18 : decode cX9_shift 18 = .ok (.ireturn, 1) := by decide +kernel
theorem dX9_shift_19 : decode cX9_shift 19 = .ok (.aload_n 0, 1) := by decide +kernel
theorem dX9_shift_20 : decode cX9_shift 20 = .ok (.getfield 74, 3) := by decide +kernel
theorem dX9_shift_23 : decode cX9_shift 23 = .ok (.iload_n 1, 1) := by decide +kernel
theorem dX9_shift_24 : decode cX9_shift 24 = .ok (.iload_n 2, 1) := by decide +kernel
theorem dX9_shift_25 : decode cX9_shift 25 = .ok (.iload 5, 2) := by decide +kernel
theorem dX9_shift_27 : decode cX9_shift 27 = .ok (.invokevirtual 314, 3) := by decide +kernel
theorem dX9_shift_30 : decode cX9_shift 30 = .ok (.ifCond .eq 18, 3) := by decide +kernel
theorem dX9_shift_33 : decode cX9_shift 33 = .ok (.aload_n 0, 1) := by decide +kernel
theorem dX9_shift_34 : decode cX9_shift 34 = .ok (.getfield 74, 3) := by decide +kernel
theorem dX9_shift_37 : decode cX9_shift 37 = .ok (.iload_n 3, 1) := by decide +kernel
theorem dX9_shift_38 : decode cX9_shift 38 = .ok (.iload 4, 2) := by decide +kernel
theorem dX9_shift_40 : decode cX9_shift 40 = .ok (.iload 5, 2) := by decide +kernel
theorem dX9_shift_42 : decode cX9_shift 42 = .ok (.invokevirtual 314, 3) := by decide +kernel
theorem dX9_shift_45 : decode cX9_shift 45 = .ok (.ifCond .ne 6, 3) := by decide +kernel
theorem dX9_shift_48 : decode cX9_shift 48 = .ok (.bipush (-13), 2) := by decide +kernel
theorem dX9_shift_50 : decode cX9_shift 50 = .ok (.ireturn, 1) := by decide +kernel
theorem dX9_shift_51 : decode cX9_shift 51 = .ok (.aload_n 0, 1) := by decide +kernel
theorem dX9_shift_52 : decode cX9_shift 52 = .ok (.getfield 74, 3) := by decide +kernel
theorem dX9_shift_55 : decode cX9_shift 55 = .ok (.iload_n 1, 1) := by decide +kernel
theorem dX9_shift_56 : decode cX9_shift 56 = .ok (.iload_n 2, 1) := by decide +kernel
theorem dX9_shift_57 : decode cX9_shift 57 = .ok (.iload_n 3, 1) := by decide +kernel
theorem dX9_shift_58 : decode cX9_shift 58 = .ok (.iload 4, 2) := by decide +kernel
theorem dX9_shift_60 : decode cX9_shift 60 = .ok (.iload 5, 2) := by decide +kernel
theorem dX9_shift_62 : decode cX9_shift 62 = .ok (.invokevirtual 317, 3) := by decide +kernel
theorem dX9_shift_65 : decode cX9_shift 65 = .ok (.iload 5, 2) := by decide +kernel
theorem dX9_shift_67 : decode cX9_shift 67 = .ok (.ireturn, 1) := by decide +kernel
theorem dX9_taken_0 : decode cX9_taken 0 = .ok (.aload_n 0, 1) := by decide +kernel
theorem dX9_taken_1 : decode cX9_taken 1 = .ok (.getfield 74, 3) := by decide +kernel
theorem dX9_taken_4 : decode cX9_taken 4 = .ok (.iload_n 1, 1) := by decide +kernel
theorem dX9_taken_5 : decode cX9_taken 5 = .ok (.invokevirtual 86, 3) := by decide +kernel
theorem dX9_taken_8 : decode cX9_taken 8 = .ok (.ifCond .eq 13, 3) := by decide +kernel
theorem dX9_taken_11 : decode cX9_taken 11 = .ok (.iload_n 2, 1) := by decide +kernel
theorem dX9_taken_12 : decode cX9_taken 12 = .ok (.iconst 0, 1) := by decide +kernel
theorem dX9_taken_13 : decode cX9_taken 13 = .ok (.bipush 7, 2) := by decide +kernel
theorem dX9_taken_15 : decode cX9_taken 15 = .ok (.invokestatic 78, 3) := by decide +kernel
theorem dX9_taken_18 : decode cX9_taken 18 = .ok (.ifCond .ne 5, 3) := by decide +kernel
theorem dX9_taken_21 : decode cX9_taken 21 = .ok (.iconst (-1), 1) := by decide +kernel
theorem dX9_taken_22 : decode cX9_taken 22 = .ok (.ireturn, 1) := by decide +kernel
theorem dX9_taken_23 : decode cX9_taken 23 = .ok (.aload_n 0, 1) := by decide +kernel
theorem dX9_taken_24 : decode cX9_taken 24 = .ok (.getfield 74, 3) := by decide +kernel
theorem dX9_taken_27 : decode cX9_taken 27 = .ok (.iload_n 1, 1) := by decide +kernel
theorem dX9_taken_28 : decode cX9_taken 28 = .ok (.invokevirtual 90, 3) := by decide +kernel
theorem dX9_taken_31 : decode cX9_taken 31 = .ok (.istore_n 3, 1) := by decide +kernel
theorem dX9_taken_32 : decode cX9_taken 32 = .ok (.iload_n 3, 1) := by decide +kernel
theorem dX9_taken_33 : decode cX9_taken 33 = .ok (.iconst (-1), 1) := by decide +kernel
theorem dX9_taken_34 : decode cX9_taken 34 = .ok (.if_icmp .ne 6, 3) := by decide +kernel
theorem dX9_taken_37 : decode cX9_taken 37 = .ok (.bipush (-11), 2) := by decide +kernel
theorem dX9_taken_39 : decode cX9_taken 39 = .ok (.ireturn, 1) := by decide +kernel
theorem dX9_taken_40 : decode cX9_taken 40 = .ok (.iload_n 3, 1) := by decide +kernel
theorem dX9_taken_41 : decode cX9_taken 41 = .ok (.iconst 5, 1) := by decide +kernel
theorem dX9_taken_42 : decode cX9_taken 42 = .ok (.if_icmp .ne 21, 3) := by decide +kernel
theorem dX9_taken_45 : decode cX9_taken 45 = .ok (.aload_n 0, 1) := by decide +kernel
theorem dX9_taken_46 : decode cX9_taken 46 = .ok (.getfield 67, 3) := by decide +kernel
theorem dX9_taken_49 : decode cX9_taken 49 = .ok (.aload_n 0, 1) := by decide +kernel
theorem dX9_taken_50 : decode cX9_taken 50 = .ok (.getfield 74, 3) := by decide +kernel
theorem dX9_taken_53 : decode cX9_taken 53 = .ok (.iload_n 1, 1) := by decide +kernel
theorem dX9_taken_54 : decode cX9_taken 54 = .ok (.invokevirtual 321, 3) := by decide +kernel
theorem dX9_taken_57 : decode cX9_taken 57 = .ok (.invokevirtual 324, 3) := by decide +kernel
theorem dX9_taken_60 : decode cX9_taken 60 = .ok (.goto 4, 3) := by decide +kernel
theorem dX9_taken_63 : decode cX9_taken 63 = .ok (.iconst (-1), 1) := by decide +kernel
theorem dX9_taken_64 : decode cX9_taken 64 = .ok (.istore 4, 2) := by decide +kernel
theorem dX9_taken_66 : decode cX9_taken 66 = .ok (.aload_n 0, 1) := by decide +kernel
theorem dX9_taken_67 : decode cX9_taken 67 = .ok (.getfield 67, 3) := by decide +kernel
theorem dX9_taken_70 : decode cX9_taken 70 = .ok (.iload 4, 2) := by decide +kernel
theorem dX9_taken_72 : decode cX9_taken 72 = .ok (.iload_n 2, 1) := by decide +kernel
theorem dX9_taken_73 : decode cX9_taken 73 = .ok (.invokevirtual 327, 3) := by decide +kernel
theorem dX9_taken_76 : decode cX9_taken 76 = .ok (.ifCond .eq 8, 3) := by decide +kernel
theorem dX9_taken_79 : decode cX9_taken 79 = .ok (.iload 4, 2) := by decide +kernel
theorem dX9_taken_81 : decode cX9_taken 81 = .ok (.goto 5, 3) := by decide +kernel
theorem dX9_taken_84 : decode cX9_taken 84 = .ok (.bipush (-12), 2) := by decide +kernel
theorem dX9_taken_86 : decode cX9_taken 86 = .ok (.ireturn, 1) := by decide +kernel
theorem dX9_count_0 : decode cX9_count 0 = .ok (.iload_n 1, 1) := by decide +kernel
theorem dX9_count_1 : decode cX9_count 1 = .ok (.tableswitch 99 0 6 #[43, 51, 59, 67, 75, 83, 91], 43) := by decide +kernel
theorem dX9_count_44 : decode cX9_count 44 = .ok (.aload_n 0, 1) := by decide +kernel
theorem dX9_count_45 : decode cX9_count 45 = .ok (.getfield 12, 3) := by decide +kernel
theorem dX9_count_48 : decode cX9_count 48 = .ok (.getfield 181, 3) := by decide +kernel
theorem dX9_count_51 : decode cX9_count 51 = .ok (.ireturn, 1) := by decide +kernel
theorem dX9_count_52 : decode cX9_count 52 = .ok (.aload_n 0, 1) := by decide +kernel
theorem dX9_count_53 : decode cX9_count 53 = .ok (.getfield 12, 3) := by decide +kernel
theorem dX9_count_56 : decode cX9_count 56 = .ok (.getfield 330, 3) := by decide +kernel
theorem dX9_count_59 : decode cX9_count 59 = .ok (.ireturn, 1) := by decide +kernel
theorem dX9_count_60 : decode cX9_count 60 = .ok (.aload_n 0, 1) := by decide +kernel
theorem dX9_count_61 : decode cX9_count 61 = .ok (.getfield 35, 3) := by decide +kernel
theorem dX9_count_64 : decode cX9_count 64 = .ok (.invokevirtual 105, 3) := by decide +kernel
theorem dX9_count_67 : decode cX9_count 67 = .ok (.ireturn, 1) := by decide +kernel
theorem dX9_count_68 : decode cX9_count 68 = .ok (.aload_n 0, 1) := by decide +kernel
theorem dX9_count_69 : decode cX9_count 69 = .ok (.getfield 28, 3) := by decide +kernel
theorem dX9_count_72 : decode cX9_count 72 = .ok (.getfield 333, 3) := by decide +kernel
theorem dX9_count_75 : decode cX9_count 75 = .ok (.ireturn, 1) := by decide +kernel
theorem dX9_count_76 : decode cX9_count 76 = .ok (.aload_n 0, 1) := by decide +kernel
theorem dX9_count_77 : decode cX9_count 77 = .ok (.getfield 21, 3) := by decide +kernel
theorem dX9_count_80 : decode cX9_count 80 = .ok (.getfield 336, 3) := by decide +kernel
theorem dX9_count_83 : decode cX9_count 83 = .ok (.ireturn, 1) := by decide +kernel
theorem dX9_count_84 : decode cX9_count 84 = .ok (.aload_n 0, 1) := by decide +kernel
theorem dX9_count_85 : decode cX9_count 85 = .ok (.getfield 67, 3) := by decide +kernel
theorem dX9_count_88 : decode cX9_count 88 = .ok (.getfield 339, 3) := by decide +kernel
theorem dX9_count_91 : decode cX9_count 91 = .ok (.ireturn, 1) := by decide +kernel
theorem dX9_count_92 : decode cX9_count 92 = .ok (.aload_n 0, 1) := by decide +kernel
theorem dX9_count_93 : decode cX9_count 93 = .ok (.getfield 67, 3) := by decide +kernel
theorem dX9_count_96 : decode cX9_count 96 = .ok (.getfield 342, 3) := by decide +kernel
theorem dX9_count_99 : decode cX9_count 99 = .ok (.ireturn, 1) := by decide +kernel
theorem dX9_count_100 : decode cX9_count 100 = .ok (.iconst (-1), 1) := by decide +kernel
theorem dX9_count_101 : decode cX9_count 101 = .ok (.ireturn, 1) := by decide +kernel
theorem dX9_comesFrom_0 : decode cX9_comesFrom 0 = .ok (.aload_n 0, 1) := by decide +kernel
theorem dX9_comesFrom_1 : decode cX9_comesFrom 1 = .ok (.getfield 74, 3) := by decide +kernel
theorem dX9_comesFrom_4 : decode cX9_comesFrom 4 = .ok (.iload_n 1, 1) := by decide +kernel
theorem dX9_comesFrom_5 : decode cX9_comesFrom 5 = .ok (.iload_n 2, 1) := by decide +kernel
theorem dX9_comesFrom_6 : decode cX9_comesFrom 6 = .ok (.iconst 4, 1) := by decide +kernel
theorem dX9_comesFrom_7 : decode cX9_comesFrom 7 = .ok (.invokevirtual 314, 3) := by decide +kernel
theorem dX9_comesFrom_10 : decode cX9_comesFrom 10 = .ok (.ifCond .ne 5, 3) := by decide +kernel
theorem dX9_comesFrom_13 : decode cX9_comesFrom 13 = .ok (.iconst 0, 1) := by decide +kernel
theorem dX9_comesFrom_14 : decode cX9_comesFrom 14 = .ok (.ireturn, 1) := by decide +kernel
theorem dX9_comesFrom_15 : decode cX9_comesFrom 15 = .ok (.aload_n 0, 1) := by decide +kernel
theorem dX9_comesFrom_16 : decode cX9_comesFrom 16 = .ok (.getfield 74, 3) := by decide +kernel
theorem dX9_comesFrom_19 : decode cX9_comesFrom 19 = .ok (.iload_n 1, 1) := by decide +kernel
theorem dX9_comesFrom_20 : decode cX9_comesFrom 20 = .ok (.iload_n 2, 1) := by decide +kernel
theorem dX9_comesFrom_21 : decode cX9_comesFrom 21 = .ok (.invokevirtual 303, 3) := by decide +kernel
theorem dX9_comesFrom_24 : decode cX9_comesFrom 24 = .ok (.l2i, 1) := by decide +kernel
theorem dX9_comesFrom_25 : decode cX9_comesFrom 25 = .ok (.istore_n 3, 1) := by decide +kernel
theorem dX9_comesFrom_26 : decode cX9_comesFrom 26 = .ok (.aload_n 0, 1) := by decide +kernel
theorem dX9_comesFrom_27 : decode cX9_comesFrom 27 = .ok (.getfield 74, 3) := by decide +kernel
theorem dX9_comesFrom_30 : decode cX9_comesFrom 30 = .ok (.iload_n 1, 1) := by decide +kernel
theorem dX9_comesFrom_31 : decode cX9_comesFrom 31 = .ok (.iload_n 2, 1) := by decide +kernel
theorem dX9_comesFrom_32 : decode cX9_comesFrom 32 = .ok (.iconst 1, 1) := by decide +kernel
theorem dX9_comesFrom_33 : decode cX9_comesFrom 33 = .ok (.iadd, 1) := by decide +kernel
theorem dX9_comesFrom_34 : decode cX9_comesFrom 34 = .ok (.invokevirtual 303, 3) := by decide +kernel
theorem dX9_comesFrom_37 : decode cX9_comesFrom 37 = .ok (.l2i, 1) := by decide +kernel
theorem dX9_comesFrom_38 : decode cX9_comesFrom 38 = .ok (.istore 4, 2) := by decide +kernel
theorem dX9_comesFrom_40 : decode cX9_comesFrom 40 = .ok (.aload_n 0, 1) := by decide +kernel
theorem dX9_comesFrom_41 : decode cX9_comesFrom 41 = .ok (.getfield 74, 3) := by decide +kernel
theorem dX9_comesFrom_44 : decode cX9_comesFrom 44 = .ok (.iload_n 1, 1) := by decide +kernel
theorem dX9_comesFrom_45 : decode cX9_comesFrom 45 = .ok (.iload_n 2, 1) := by decide +kernel
theorem dX9_comesFrom_46 : decode cX9_comesFrom 46 = .ok (.iconst 2, 1) := by decide +kernel
theorem dX9_comesFrom_47 : decode cX9_comesFrom 47 = .ok (.iadd, 1) := by decide +kernel
theorem dX9_comesFrom_48 : decode cX9_comesFrom 48 = .ok (.invokevirtual 303, 3) := by decide +kernel
theorem dX9_comesFrom_51 : decode cX9_comesFrom 51 = .ok (.l2i, 1) := by decide +kernel
theorem dX9_comesFrom_52 : decode cX9_comesFrom 52 = .ok (.istore 5, 2) := by decide +kernel
theorem dX9_comesFrom_54 : decode cX9_comesFrom 54 = .ok (.aload_n 0, 1) := by decide +kernel
theorem dX9_comesFrom_55 : decode cX9_comesFrom 55 = .ok (.getfield 74, 3) := by decide +kernel
theorem dX9_comesFrom_58 : decode cX9_comesFrom 58 = .ok (.iload_n 1, 1) := by decide +kernel
theorem dX9_comesFrom_59 : decode cX9_comesFrom 59 = .ok (.iload_n 2, 1) := by decide +kernel
theorem dX9_comesFrom_60 : decode cX9_comesFrom 60 = .ok (.iconst 3, 1) := by decide +kernel
theorem dX9_comesFrom_61 : decode cX9_comesFrom 61 = .ok (.iadd, 1) := by decide +kernel
theorem dX9_comesFrom_62 : decode cX9_comesFrom 62 = .ok (.invokevirtual 303, 3) := by decide +kernel
theorem dX9_comesFrom_65 : decode cX9_comesFrom 65 = .ok (.l2i, 1) := by decide +kernel
theorem dX9_comesFrom_66 : decode cX9_comesFrom 66 = .ok (.istore 6, 2) := by decide +kernel
theorem dX9_comesFrom_68 : decode cX9_comesFrom 68 = .ok (.iload_n 3, 1) := by decide +kernel
theorem dX9_comesFrom_69 : decode cX9_comesFrom 69 = .ok (.iconst 0, 1) := by decide +kernel
theorem dX9_comesFrom_70 : decode cX9_comesFrom 70 = .ok (.sipush 999, 3) := by decide +kernel
theorem dX9_comesFrom_73 : decode cX9_comesFrom 73 = .ok (.invokestatic 78, 3) := by decide +kernel
theorem dX9_comesFrom_76 : decode cX9_comesFrom 76 = .ok (.ifCond .eq 40, 3) := by decide +kernel
theorem dX9_comesFrom_79 : decode cX9_comesFrom 79 = .ok (.iload 4, 2) := by decide +kernel
theorem dX9_comesFrom_81 : decode cX9_comesFrom 81 = .ok (.iconst 0, 1) := by decide +kernel
theorem dX9_comesFrom_82 : decode cX9_comesFrom 82 = .ok (.bipush 99, 2) := by decide +kernel
theorem dX9_comesFrom_84 : decode cX9_comesFrom 84 = .ok (.invokestatic 78, 3) := by decide +kernel
theorem dX9_comesFrom_87 : decode cX9_comesFrom 87 = .ok (.ifCond .eq 29, 3) := by decide +kernel
theorem dX9_comesFrom_90 : decode cX9_comesFrom 90 = .ok (.iload 5, 2) := by decide +kernel
theorem dX9_comesFrom_92 : decode cX9_comesFrom 92 = .ok (.iconst 0, 1) := by decide +kernel
theorem dX9_comesFrom_93 : decode cX9_comesFrom 93 = .ok (.bipush 99, 2) := by decide +kernel
theorem dX9_comesFrom_95 : decode cX9_comesFrom 95 = .ok (.invokestatic 78, 3) := by decide +kernel
theorem dX9_comesFrom_98 : decode cX9_comesFrom 98 = .ok (.ifCond .eq 18, 3) := by decide +kernel
theorem dX9_comesFrom_101 : decode cX9_comesFrom 101 = .ok (.iload 6, 2) := by decide +kernel
theorem dX9_comesFrom_103 : decode cX9_comesFrom 103 = .ok (.iconst 0, 1) := by decide +kernel
theorem dX9_comesFrom_104 : decode cX9_comesFrom 104 = .ok (.bipush 99, 2) := by decide +kernel
theorem dX9_comesFrom_106 : decode cX9_comesFrom 106 = .ok (.invokestatic 78, 3) := by decide +kernel
theorem dX9_comesFrom_109 : decode cX9_comesFrom 109 = .ok (.ifCond .eq 7, 3) := by decide +kernel
theorem dX9_comesFrom_112 : decode cX9_comesFrom 112 = .ok (.iconst 1, 1) := by decide +kernel
theorem dX9_comesFrom_113 : decode cX9_comesFrom 113 = .ok (.goto 4, 3) := by decide +kernel
theorem dX9_comesFrom_116 : decode cX9_comesFrom 116 = .ok (.iconst 0, 1) := by decide +kernel
theorem dX9_comesFrom_117 : decode cX9_comesFrom 117 = .ok (.istore 7, 2) := by decide +kernel
theorem dX9_comesFrom_119 : decode cX9_comesFrom 119 = .ok (.iload 7, 2) := by decide +kernel
theorem dX9_comesFrom_121 : decode cX9_comesFrom 121 = .ok (.ifCond .eq 26, 3) := by decide +kernel
theorem dX9_comesFrom_124 : decode cX9_comesFrom 124 = .ok (.aload_n 0, 1) := by decide +kernel
theorem dX9_comesFrom_125 : decode cX9_comesFrom 125 = .ok (.getfield 12, 3) := by decide +kernel
theorem dX9_comesFrom_128 : decode cX9_comesFrom 128 = .ok (.iload_n 3, 1) := by decide +kernel
theorem dX9_comesFrom_129 : decode cX9_comesFrom 129 = .ok (.iload 4, 2) := by decide +kernel
theorem dX9_comesFrom_131 : decode cX9_comesFrom 131 = .ok (.iload 5, 2) := by decide +kernel
theorem dX9_comesFrom_133 : decode cX9_comesFrom 133 = .ok (.iload 6, 2) := by decide +kernel
theorem dX9_comesFrom_135 : decode cX9_comesFrom 135 = .ok (.invokevirtual 82, 3) := by decide +kernel
theorem dX9_comesFrom_138 : decode cX9_comesFrom 138 = .ok (.bipush (-3), 2) := by decide +kernel
theorem dX9_comesFrom_140 : decode cX9_comesFrom 140 = .ok (.if_icmp .eq 7, 3) := by decide +kernel
theorem dX9_comesFrom_143 : decode cX9_comesFrom 143 = .ok (.iconst 1, 1) := by decide +kernel
theorem dX9_comesFrom_144 : decode cX9_comesFrom 144 = .ok (.goto 4, 3) := by decide +kernel
theorem dX9_comesFrom_147 : decode cX9_comesFrom 147 = .ok (.iconst 0, 1) := by decide +kernel
theorem dX9_comesFrom_148 : decode cX9_comesFrom 148 = .ok (.ireturn, 1) := by decide +kernel
theorem dX9_isShare_0 : decode cX9_isShare 0 = .ok (.iload_n 0, 1) := by decide +kernel
theorem dX9_isShare_1 : decode cX9_isShare 1 = .ok (.ifCond .eq 15, 3) := by decide +kernel
theorem dX9_isShare_4 : decode cX9_isShare 4 = .ok (.iload_n 0, 1) := by decide +kernel
theorem dX9_isShare_5 : decode cX9_isShare 5 = .ok (.bipush 100, 2) := by decide +kernel
theorem dX9_isShare_7 : decode cX9_isShare 7 = .ok (.sipush 900, 3) := by decide +kernel
theorem dX9_isShare_10 : decode cX9_isShare 10 = .ok (.invokestatic 78, 3) := by decide +kernel
theorem dX9_isShare_13 : decode cX9_isShare 13 = .ok (.ifCond .eq 7, 3) := by decide +kernel
theorem dX9_isShare_16 : decode cX9_isShare 16 = .ok (.iconst 1, 1) := by decide +kernel
theorem dX9_isShare_17 : decode cX9_isShare 17 = .ok (.goto 4, 3) := by decide +kernel
theorem dX9_isShare_20 : decode cX9_isShare 20 = .ok (.iconst 0, 1) := by decide +kernel
theorem dX9_isShare_21 : decode cX9_isShare 21 = .ok (.ireturn, 1) := by decide +kernel
theorem dX9_isWithin_0 : decode cX9_isWithin 0 = .ok (.iload_n 0, 1) := by decide +kernel
theorem dX9_isWithin_1 : decode cX9_isWithin 1 = .ok (.iload_n 1, 1) := by decide +kernel
theorem dX9_isWithin_2 : decode cX9_isWithin 2 = .ok (.if_icmp .lt 12, 3) := by decide +kernel
theorem dX9_isWithin_5 : decode cX9_isWithin 5 = .ok (.iload_n 0, 1) := by decide +kernel
theorem dX9_isWithin_6 : decode cX9_isWithin 6 = .ok (.iload_n 2, 1) := by decide +kernel
theorem dX9_isWithin_7 : decode cX9_isWithin 7 = .ok (.if_icmp .gt 7, 3) := by decide +kernel
theorem dX9_isWithin_10 : decode cX9_isWithin 10 = .ok (.iconst 1, 1) := by decide +kernel
theorem dX9_isWithin_11 : decode cX9_isWithin 11 = .ok (.goto 4, 3) := by decide +kernel
theorem dX9_isWithin_14 : decode cX9_isWithin 14 = .ok (.iconst 0, 1) := by decide +kernel
theorem dX9_isWithin_15 : decode cX9_isWithin 15 = .ok (.ireturn, 1) := by decide +kernel
end
section
theorem dX10_within_0 : decode cX10_within 0 = .ok (.lload_n 0, 1) := by decide +kernel
theorem dX10_within_1 : decode cX10_within 1 = .ok (.lload_n 2, 1) := by decide +kernel
theorem dX10_within_2 : decode cX10_within 2 = .ok (.lcmp, 1) := by decide +kernel
theorem dX10_within_3 : decode cX10_within 3 = .ok (.ifCond .lt 14, 3) := by decide +kernel
theorem dX10_within_6 : decode cX10_within 6 = .ok (.lload_n 0, 1) := by decide +kernel
theorem dX10_within_7 : decode cX10_within 7 = .ok (.lload 4, 2) := by decide +kernel
theorem dX10_within_9 : decode cX10_within 9 = .ok (.lcmp, 1) := by decide +kernel
theorem dX10_within_10 : decode cX10_within 10 = .ok (.ifCond .gt 7, 3) := by decide +kernel
theorem dX10_within_13 : decode cX10_within 13 = .ok (.iconst 1, 1) := by decide +kernel
theorem dX10_within_14 : decode cX10_within 14 = .ok (.goto 4, 3) := by decide +kernel
theorem dX10_within_17 : decode cX10_within 17 = .ok (.iconst 0, 1) := by decide +kernel
theorem dX10_within_18 : decode cX10_within 18 = .ok (.ireturn, 1) := by decide +kernel
theorem dX10_size_0 : decode cX10_size 0 = .ok (.iload_n 0, 1) := by decide +kernel
theorem dX10_size_1 : decode cX10_size 1 = .ok (.ifCond .ge 8, 3) := by decide +kernel
theorem dX10_size_4 : decode cX10_size 4 = .ok (.iload_n 0, 1) := by decide +kernel
theorem dX10_size_5 : decode cX10_size 5 = .ok (.ineg, 1) := by decide +kernel
theorem dX10_size_6 : decode cX10_size 6 = .ok (.goto 4, 3) := by decide +kernel
theorem dX10_size_9 : decode cX10_size 9 = .ok (.iload_n 0, 1) := by decide +kernel
theorem dX10_size_10 : decode cX10_size 10 = .ok (.ireturn, 1) := by decide +kernel
theorem dX10_init_0 : decode cX10_init 0 = .ok (.aload_n 0, 1) := by decide +kernel
theorem dX10_init_1 : decode cX10_init 1 = .ok (.invokespecial 3, 3) := by decide +kernel
theorem dX10_init_4 : decode cX10_init 4 = .ok (.aload_n 0, 1) := by decide +kernel
theorem dX10_init_5 : decode cX10_init 5 = .ok (.bipush 28, 2) := by decide +kernel
theorem dX10_init_7 : decode cX10_init 7 = .ok (.newarray .int, 2) := by decide +kernel
theorem dX10_init_9 : decode cX10_init 9 = .ok (.putfield 9, 3) := by decide +kernel
theorem dX10_init_12 : decode cX10_init 12 = .ok (.aload_n 0, 1) := by decide +kernel
theorem dX10_init_13 : decode cX10_init 13 = .ok (.bipush 40, 2) := by decide +kernel
theorem dX10_init_15 : decode cX10_init 15 = .ok (.newarray .int, 2) := by decide +kernel
theorem dX10_init_17 : decode cX10_init 17 = .ok (.putfield 13, 3) := by decide +kernel
theorem dX10_init_20 : decode cX10_init 20 = .ok (.aload_n 0, 1) := by decide +kernel
theorem dX10_init_21 : decode cX10_init 21 = .ok (.bipush 40, 2) := by decide +kernel
theorem dX10_init_23 : decode cX10_init 23 = .ok (.newarray .int, 2) := by decide +kernel
theorem dX10_init_25 : decode cX10_init 25 = .ok (.putfield 16, 3) := by decide +kernel
theorem dX10_init_28 : decode cX10_init 28 = .ok (.aload_n 0, 1) := by decide +kernel
theorem dX10_init_29 : decode cX10_init 29 = .ok (.bipush 40, 2) := by decide +kernel
theorem dX10_init_31 : decode cX10_init 31 = .ok (.newarray .int, 2) := by decide +kernel
theorem dX10_init_33 : decode cX10_init 33 = .ok (.putfield 19, 3) := by decide +kernel
theorem dX10_init_36 : decode cX10_init 36 = .ok (.aload_n 0, 1) := by decide +kernel
theorem dX10_init_37 : decode cX10_init 37 = .ok (.bipush 6, 2) := by decide +kernel
theorem dX10_init_39 : decode cX10_init 39 = .ok (.newarray .int, 2) := by decide +kernel
theorem dX10_init_41 : decode cX10_init 41 = .ok (.putfield 22, 3) := by decide +kernel
theorem dX10_init_44 : decode cX10_init 44 = .ok (.aload_n 0, 1) := by decide +kernel
theorem dX10_init_45 : decode cX10_init 45 = .ok (.iconst 5, 1) := by decide +kernel
theorem dX10_init_46 : decode cX10_init 46 = .ok (.newarray .int, 2) := by decide +kernel
theorem dX10_init_48 : decode cX10_init 48 = .ok (.putfield 25, 3) := by decide +kernel
theorem dX10_init_51 : decode cX10_init 51 = .ok (.aload_n 0, 1) := by decide +kernel
theorem dX10_init_52 : decode cX10_init 52 = .ok (.iconst 5, 1) := by decide +kernel
theorem dX10_init_53 : decode cX10_init 53 = .ok (.newarray .int, 2) := by decide +kernel
theorem dX10_init_55 : decode cX10_init 55 = .ok (.putfield 28, 3) := by decide +kernel
theorem dX10_init_58 : decode cX10_init 58 = .ok (.aload_n 0, 1) := by decide +kernel
theorem dX10_init_59 : decode cX10_init 59 = .ok (.iconst 5, 1) := by decide +kernel
theorem dX10_init_60 : decode cX10_init 60 = .ok (.newarray .int, 2) := by decide +kernel
theorem dX10_init_62 : decode cX10_init 62 = .ok (.putfield 31, 3) := by decide +kernel
theorem dX10_init_65 : decode cX10_init 65 = .ok (.aload_n 0, 1) := by decide +kernel
theorem dX10_init_66 : decode cX10_init 66 = .ok (.iconst 5, 1) := by decide +kernel
theorem dX10_init_67 : decode cX10_init 67 = .ok (.newarray .int, 2) := by decide +kernel
theorem dX10_init_69 : decode cX10_init 69 = .ok (.putfield 34, 3) := by decide +kernel
theorem dX10_init_72 : decode cX10_init 72 = .ok (.aload_n 0, 1) := by decide +kernel
theorem dX10_init_73 : decode cX10_init 73 = .ok (.bipush 120, 2) := by decide +kernel
theorem dX10_init_75 : decode cX10_init 75 = .ok (.newarray .int, 2) := by decide +kernel
theorem dX10_init_77 : decode cX10_init 77 = .ok (.putfield 37, 3) := by decide +kernel
theorem dX10_init_80 : decode cX10_init 80 = .ok (.aload_n 0, 1) := by decide +kernel
theorem dX10_init_81 : decode cX10_init 81 = .ok (.sipush 480, 3) := by decide +kernel
theorem dX10_init_84 : decode cX10_init 84 = .ok (.newarray .int, 2) := by decide +kernel
theorem dX10_init_86 : decode cX10_init 86 = .ok (.putfield 40, 3) := by decide +kernel
theorem dX10_init_89 : decode cX10_init 89 = .ok (.aload_n 0, 1) := by decide +kernel
theorem dX10_init_90 : decode cX10_init 90 = .ok (.iconst 4, 1) := by decide +kernel
theorem dX10_init_91 : decode cX10_init 91 = .ok (.newarray .int, 2) := by decide +kernel
theorem dX10_init_93 : decode cX10_init 93 = .ok (.putfield 43, 3) := by decide +kernel
theorem dX10_init_96 : decode cX10_init 96 = .ok (.aload_n 0, 1) := by decide +kernel
theorem dX10_init_97 : decode cX10_init 97 = .ok (.bipush 7, 2) := by decide +kernel
theorem dX10_init_99 : decode cX10_init 99 = .ok (.newarray .int, 2) := by decide +kernel
theorem dX10_init_101 : decode cX10_init 101 = .ok (.putfield 46, 3) := by decide +kernel
theorem dX10_init_104 : decode cX10_init 104 = .ok (.aload_n 0, 1) := by decide +kernel
theorem dX10_init_105 : decode cX10_init 105 = .ok (.bipush 24, 2) := by decide +kernel
theorem dX10_init_107 : decode cX10_init 107 = .ok (.newarray .int, 2) := by decide +kernel
theorem dX10_init_109 : decode cX10_init 109 = .ok (.putfield 49, 3) := by decide +kernel
theorem dX10_init_112 : decode cX10_init 112 = .ok (.aload_n 0, 1) := by decide +kernel
theorem dX10_init_113 : decode cX10_init 113 = .ok (.bipush 6, 2) := by decide +kernel
theorem dX10_init_115 : decode cX10_init 115 = .ok (.newarray .int, 2) := by decide +kernel
theorem dX10_init_117 : decode cX10_init 117 = .ok (.putfield 52, 3) := by decide +kernel
theorem dX10_init_120 : decode cX10_init 120 = .ok (.aload_n 0, 1) := by decide +kernel
theorem dX10_init_121 : decode cX10_init 121 = .ok (.bipush 100, 2) := by decide +kernel
theorem dX10_init_123 : decode cX10_init 123 = .ok (.putfield 55, 3) := by decide +kernel
theorem dX10_init_126 : decode cX10_init 126 = .ok (.aload_n 0, 1) := by decide +kernel
theorem dX10_init_127 : decode cX10_init 127 = .ok (.bipush 6, 2) := by decide +kernel
theorem dX10_init_129 : decode cX10_init 129 = .ok (.newarray .int, 2) := by decide +kernel
theorem dX10_init_131 : decode cX10_init 131 = .ok (.putfield 59, 3) := by decide +kernel
theorem dX10_init_134 : decode cX10_init 134 = .ok (.aload_n 0, 1) := by decide +kernel
theorem dX10_init_135 : decode cX10_init 135 = .ok (.bipush 30, 2) := by decide +kernel
theorem dX10_init_137 : decode cX10_init 137 = .ok (.newarray .int, 2) := by decide +kernel
theorem dX10_init_139 : decode cX10_init 139 = .ok (.putfield 62, 3) := by decide +kernel
theorem dX10_init_142 : decode cX10_init 142 = .ok (.aload_n 0, 1) := by decide +kernel
theorem dX10_init_143 : decode cX10_init 143 = .ok (.bipush 6, 2) := by decide +kernel
theorem dX10_init_145 : decode cX10_init 145 = .ok (.newarray .int, 2) := by decide +kernel
theorem dX10_init_147 : decode cX10_init 147 = .ok (.putfield 65, 3) := by decide +kernel
theorem dX10_init_150 : decode cX10_init 150 = .ok (.aload_n 0, 1) := by decide +kernel
theorem dX10_init_151 : decode cX10_init 151 = .ok (.bipush 6, 2) := by decide +kernel
theorem dX10_init_153 : decode cX10_init 153 = .ok (.newarray .int, 2) := by decide +kernel
theorem dX10_init_155 : decode cX10_init 155 = .ok (.putfield 68, 3) := by decide +kernel
theorem dX10_init_158 : decode cX10_init 158 = .ok (.aload_n 0, 1) := by decide +kernel
theorem dX10_init_159 : decode cX10_init 159 = .ok (.bipush 6, 2) := by decide +kernel
theorem dX10_init_161 : decode cX10_init 161 = .ok (.newarray .int, 2) := by decide +kernel
theorem dX10_init_163 : decode cX10_init 163 = .ok (.putfield 71, 3) := by decide +kernel
theorem dX10_init_166 : decode cX10_init 166 = .ok (.aload_n 0, 1) := by decide +kernel
theorem dX10_init_167 : decode cX10_init 167 = .ok (.sipush 1783, 3) := by decide +kernel
theorem dX10_init_170 : decode cX10_init 170 = .ok (.newarray .int, 2) := by decide +kernel
theorem dX10_init_172 : decode cX10_init 172 = .ok (.putfield 74, 3) := by decide +kernel
theorem dX10_init_175 : decode cX10_init 175 = .ok (.aload_n 0, 1) := by decide +kernel
theorem dX10_init_176 : decode cX10_init 176 = .ok (.bipush 50, 2) := by decide +kernel
theorem dX10_init_178 : decode cX10_init 178 = .ok (.newarray .int, 2) := by decide +kernel
theorem dX10_init_180 : decode cX10_init 180 = .ok (.putfield 77, 3) := by decide +kernel
theorem dX10_init_183 : decode cX10_init 183 = .ok (.aload_n 0, 1) := by decide +kernel
theorem dX10_init_184 : decode cX10_init 184 = .ok (.bipush 24, 2) := by decide +kernel
theorem dX10_init_186 : decode cX10_init 186 = .ok (.newarray .int, 2) := by decide +kernel
theorem dX10_init_188 : decode cX10_init 188 = .ok (.putfield 80, 3) := by decide +kernel
theorem dX10_init_191 : decode cX10_init 191 = .ok (.aload_n 0, 1) := by decide +kernel
theorem dX10_init_192 : decode cX10_init 192 = .ok (.bipush 6, 2) := by decide +kernel
theorem dX10_init_194 : decode cX10_init 194 = .ok (.newarray .int, 2) := by decide +kernel
theorem dX10_init_196 : decode cX10_init 196 = .ok (.putfield 83, 3) := by decide +kernel
theorem dX10_init_199 : decode cX10_init 199 = .ok (.aload_n 0, 1) := by decide +kernel
theorem dX10_init_200 : decode cX10_init 200 = .ok (.bipush 6, 2) := by decide +kernel
theorem dX10_init_202 : decode cX10_init 202 = .ok (.newarray .int, 2) := by decide +kernel
theorem dX10_init_204 : decode cX10_init 204 = .ok (.putfield 86, 3) := by decide +kernel
theorem dX10_init_207 : decode cX10_init 207 = .ok (.aload_n 0, 1) := by decide +kernel
theorem dX10_init_208 : decode cX10_init 208 = .ok (.sipush 360, 3) := by decide +kernel
theorem dX10_init_211 : decode cX10_init 211 = .ok (.newarray .long, 2) := by decide +kernel
theorem dX10_init_213 : decode cX10_init 213 = .ok (.putfield 89, 3) := by decide +kernel
theorem dX10_init_216 : decode cX10_init 216 = .ok (.aload_n 0, 1) := by decide +kernel
theorem dX10_init_217 : decode cX10_init 217 = .ok (.bipush 60, 2) := by decide +kernel
theorem dX10_init_219 : decode cX10_init 219 = .ok (.newarray .long, 2) := by decide +kernel
theorem dX10_init_221 : decode cX10_init 221 = .ok (.putfield 93, 3) := by decide +kernel
theorem dX10_init_224 : decode cX10_init 224 = .ok (.iconst 0, 1) := by decide +kernel
theorem dX10_init_225 : decode cX10_init 225 = .ok (.istore_n 1, 1) := by decide +kernel
theorem dX10_init_226 : decode cX10_init 226 = .ok (.iload_n 1, 1) := by decide +kernel
theorem dX10_init_227 : decode cX10_init 227 = .ok (.bipush 6, 2) := by decide +kernel
theorem dX10_init_229 : decode cX10_init 229 = .ok (.if_icmp .ge 16, 3) := by decide +kernel
theorem dX10_init_232 : decode cX10_init 232 = .ok (.aload_n 0, 1) := by decide +kernel
theorem dX10_init_233 : decode cX10_init 233 = .ok (.getfield 83, 3) := by decide +kernel
theorem dX10_init_236 : decode cX10_init 236 = .ok (.iload_n 1, 1) := by decide +kernel
theorem dX10_init_237 : decode cX10_init 237 = .ok (.iconst (-1), 1) := by decide +kernel
theorem dX10_init_238 : decode cX10_init 238 = .ok (.iastore, 1) := by decide +kernel
theorem dX10_init_239 : decode cX10_init 239 = .ok (.iinc 1 1, 3) := by decide +kernel
theorem dX10_init_242 : decode cX10_init 242 = .ok (.goto (-16), 3) := by decide +kernel
theorem dX10_init_245 : decode cX10_init 245 = .ok (.return_, 1) := by decide +kernel
theorem dX10_becomes_0 : decode cX10_becomes 0 = .ok (.aload_n 0, 1) := by decide +kernel
theorem dX10_becomes_1 : decode cX10_becomes 1 = .ok (.getfield 9, 3) := by decide +kernel
theorem dX10_becomes_4 : decode cX10_becomes 4 = .ok (.iload_n 1, 1) := by decide +kernel
theorem dX10_becomes_5 : decode cX10_becomes 5 = .ok (.iaload, 1) := by decide +kernel
theorem dX10_becomes_6 : decode cX10_becomes 6 = .ok (.istore_n 3, 1) := by decide +kernel
theorem dX10_becomes_7 : decode cX10_becomes 7 = .ok (.iload_n 3, 1) := by decide +kernel
theorem dX10_becomes_8 : decode cX10_becomes 8 = .ok (.iload_n 2, 1) := by decide +kernel
theorem dX10_becomes_9 : decode cX10_becomes 9 = .ok (.if_icmp .ne 5, 3) := by decide +kernel
theorem dX10_becomes_12 : decode cX10_becomes 12 = .ok (.iload_n 3, 1) := by decide +kernel
theorem dX10_becomes_13 : decode cX10_becomes 13 = .ok (.ireturn, 1) := by decide +kernel
theorem dX10_becomes_14 : decode cX10_becomes 14 = .ok (.aload_n 0, 1) := by decide +kernel
theorem dX10_becomes_15 : decode cX10_becomes 15 = .ok (.getfield 96, 3) := by decide +kernel
theorem dX10_becomes_18 : decode cX10_becomes 18 = .ok (.bipush 40, 2) := by decide +kernel
theorem dX10_becomes_20 : decode cX10_becomes 20 = .ok (.if_icmp .ne 77, 3) := by decide +kernel
theorem dX10_becomes_23 : decode cX10_becomes 23 = .ok (.iconst 1, 1) := by decide +kernel
theorem dX10_becomes_24 : decode cX10_becomes 24 = .ok (.istore 4, 2) := by decide +kernel
theorem dX10_becomes_26 : decode cX10_becomes 26 = .ok (.iload 4, 2) := by decide +kernel
theorem dX10_becomes_28 : decode cX10_becomes 28 = .ok (.bipush 40, 2) := by decide +kernel
theorem dX10_becomes_30 : decode cX10_becomes 30 = .ok (.if_icmp .ge 57, 3) := by decide +kernel
theorem dX10_becomes_33 : decode cX10_becomes 33 = .ok (.aload_n 0, 1) := by decide +kernel
theorem dX10_becomes_34 : decode cX10_becomes 34 = .ok (.getfield 13, 3) := by decide +kernel
theorem dX10_becomes_37 : decode cX10_becomes 37 = .ok (.iload 4, 2) := by decide +kernel
theorem dX10_becomes_39 : decode cX10_becomes 39 = .ok (.iconst 1, 1) := by decide +kernel
theorem dX10_becomes_40 : decode cX10_becomes 40 = .ok (.isub, 1) := by decide +kernel
theorem dX10_becomes_41 : decode cX10_becomes 41 = .ok (.aload_n 0, 1) := by decide +kernel
theorem dX10_becomes_42 : decode cX10_becomes 42 = .ok (.getfield 13, 3) := by decide +kernel
theorem dX10_becomes_45 : decode cX10_becomes 45 = .ok (.iload 4, 2) := by decide +kernel
theorem dX10_becomes_47 : decode cX10_becomes 47 = .ok (.iaload, 1) := by decide +kernel
theorem dX10_becomes_48 : decode cX10_becomes 48 = .ok (.iastore, 1) := by decide +kernel
theorem dX10_becomes_49 : decode cX10_becomes 49 = .ok (.aload_n 0, 1) := by decide +kernel
theorem dX10_becomes_50 : decode cX10_becomes 50 = .ok (.getfield 16, 3) := by decide +kernel
theorem dX10_becomes_53 : decode cX10_becomes 53 = .ok (.iload 4, 2) := by decide +kernel
theorem dX10_becomes_55 : decode cX10_becomes 55 = .ok (.iconst 1, 1) := by decide +kernel
theorem dX10_becomes_56 : decode cX10_becomes 56 = .ok (.isub, 1) := by decide +kernel
theorem dX10_becomes_57 : decode cX10_becomes 57 = .ok (.aload_n 0, 1) := by decide +kernel
theorem dX10_becomes_58 : decode cX10_becomes 58 = .ok (.getfield 16, 3) := by decide +kernel
theorem dX10_becomes_61 : decode cX10_becomes 61 = .ok (.iload 4, 2) := by decide +kernel
theorem dX10_becomes_63 : decode cX10_becomes 63 = .ok (.iaload, 1) := by decide +kernel
theorem dX10_becomes_64 : decode cX10_becomes 64 = .ok (.iastore, 1) := by decide +kernel
theorem dX10_becomes_65 : decode cX10_becomes 65 = .ok (.aload_n 0, 1) := by decide +kernel
theorem dX10_becomes_66 : decode cX10_becomes 66 = .ok (.getfield 19, 3) := by decide +kernel
theorem dX10_becomes_69 : decode cX10_becomes 69 = .ok (.iload 4, 2) := by decide +kernel
theorem dX10_becomes_71 : decode cX10_becomes 71 = .ok (.iconst 1, 1) := by decide +kernel
theorem dX10_becomes_72 : decode cX10_becomes 72 = .ok (.isub, 1) := by decide +kernel
theorem dX10_becomes_73 : decode cX10_becomes 73 = .ok (.aload_n 0, 1) := by decide +kernel
theorem dX10_becomes_74 : decode cX10_becomes 74 = .ok (.getfield 19, 3) := by decide +kernel
theorem dX10_becomes_77 : decode cX10_becomes 77 = .ok (.iload 4, 2) := by decide +kernel
theorem dX10_becomes_79 : decode cX10_becomes 79 = .ok (.iaload, 1) := by decide +kernel
theorem dX10_becomes_80 : decode cX10_becomes 80 = .ok (.iastore, 1) := by decide +kernel
theorem dX10_becomes_81 : decode cX10_becomes 81 = .ok (.iinc 4 1, 3) := by decide +kernel
theorem dX10_becomes_84 : decode cX10_becomes 84 = .ok (.goto (-58), 3) := by decide +kernel
theorem dX10_becomes_87 : decode cX10_becomes 87 = .ok (.aload_n 0, 1) := by decide +kernel
theorem dX10_becomes_88 : decode cX10_becomes 88 = .ok (.dup, 1) := by decide +kernel
theorem dX10_becomes_89 : decode cX10_becomes 89 = .ok (.getfield 96, 3) := by decide +kernel
theorem dX10_becomes_92 : decode cX10_becomes 92 = .ok (.iconst 1, 1) := by decide +kernel
theorem dX10_becomes_93 : decode cX10_becomes 93 = .ok (.isub, 1) := by decide +kernel
theorem dX10_becomes_94 : decode cX10_becomes 94 = .ok (.putfield 96, 3) := by decide +kernel
theorem dX10_becomes_97 : decode cX10_becomes 97 = .ok (.aload_n 0, 1) := by decide +kernel
theorem dX10_becomes_98 : decode cX10_becomes 98 = .ok (.getfield 13, 3) := by decide +kernel
theorem dX10_becomes_101 : decode cX10_becomes 101 = .ok (.aload_n 0, 1) := by decide +kernel
theorem dX10_becomes_102 : decode cX10_becomes 102 = .ok (.getfield 96, 3) := by decide +kernel
theorem dX10_becomes_105 : decode cX10_becomes 105 = .ok (.iload_n 1, 1) := by decide +kernel
theorem dX10_becomes_106 : decode cX10_becomes 106 = .ok (.iastore, 1) := by decide +kernel
theorem dX10_becomes_107 : decode cX10_becomes 107 = .ok (.aload_n 0, 1) := by decide +kernel
theorem dX10_becomes_108 : decode cX10_becomes 108 = .ok (.getfield 16, 3) := by decide +kernel
theorem dX10_becomes_111 : decode cX10_becomes 111 = .ok (.aload_n 0, 1) := by decide +kernel
theorem dX10_becomes_112 : decode cX10_becomes 112 = .ok (.getfield 96, 3) := by decide +kernel
theorem dX10_becomes_115 : decode cX10_becomes 115 = .ok (.iload_n 3, 1) := by decide +kernel
theorem dX10_becomes_116 : decode cX10_becomes 116 = .ok (.iastore, 1) := by decide +kernel
theorem dX10_becomes_117 : decode cX10_becomes 117 = .ok (.aload_n 0, 1) := by decide +kernel
theorem dX10_becomes_118 : decode cX10_becomes 118 = .ok (.getfield 19, 3) := by decide +kernel
theorem dX10_becomes_121 : decode cX10_becomes 121 = .ok (.aload_n 0, 1) := by decide +kernel
theorem dX10_becomes_122 : decode cX10_becomes 122 = .ok (.getfield 96, 3) := by decide +kernel
theorem dX10_becomes_125 : decode cX10_becomes 125 = .ok (.iload_n 2, 1) := by decide +kernel
theorem dX10_becomes_126 : decode cX10_becomes 126 = .ok (.iastore, 1) := by decide +kernel
theorem dX10_becomes_127 : decode cX10_becomes 127 = .ok (.aload_n 0, 1) := by decide +kernel
theorem dX10_becomes_128 : decode cX10_becomes 128 = .ok (.dup, 1) := by decide +kernel
theorem dX10_becomes_129 : decode cX10_becomes 129 = .ok (.getfield 96, 3) := by decide +kernel
theorem dX10_becomes_132 : decode cX10_becomes 132 = .ok (.iconst 1, 1) := by decide +kernel
theorem dX10_becomes_133 : decode cX10_becomes 133 = .ok (.iadd, 1) := by decide +kernel
theorem dX10_becomes_134 : decode cX10_becomes 134 = .ok (.putfield 96, 3) := by decide +kernel
theorem dX10_becomes_137 : decode cX10_becomes 137 = .ok (.aload_n 0, 1) := by decide +kernel
theorem dX10_becomes_138 : decode cX10_becomes 138 = .ok (.aload_n 0, 1) := by decide +kernel
theorem dX10_becomes_139 : decode cX10_becomes 139 = .ok (.getfield 96, 3) := by decide +kernel
theorem dX10_becomes_142 : decode cX10_becomes 142 = .ok (.putfield 99, 3) := by decide +kernel
theorem dX10_becomes_145 : decode cX10_becomes 145 = .ok (.aload_n 0, 1) := by decide +kernel
theorem dX10_becomes_146 : decode cX10_becomes 146 = .ok (.getfield 9, 3) := by decide +kernel
theorem dX10_becomes_149 : decode cX10_becomes 149 = .ok (.iload_n 1, 1) := by decide +kernel
theorem dX10_becomes_150 : decode cX10_becomes 150 = .ok (.iload_n 2, 1) := by decide +kernel
theorem dX10_becomes_151 : decode cX10_becomes 151 = .ok (.iastore, 1) := by decide +kernel
theorem dX10_becomes_152 : decode cX10_becomes 152 = .ok (.iload_n 3, 1) := by decide +kernel
theorem dX10_becomes_153 : decode cX10_becomes 153 = .ok (.ireturn, 1) := by decide +kernel
theorem dX10_undo_0 : decode cX10_undo 0 = .ok (.aload_n 0, 1) := by decide +kernel
theorem dX10_undo_1 : decode cX10_undo 1 = .ok (.getfield 96, 3) := by decide +kernel
theorem dX10_undo_4 : decode cX10_undo 4 = .ok (.ifCond .ne 6, 3) := by decide +kernel
theorem dX10_undo_7 : decode cX10_undo 7 = .ok (.bipush (-5), 2) := by decide +kernel
theorem dX10_undo_9 : decode cX10_undo 9 = .ok (.ireturn, 1) := by decide +kernel
theorem dX10_undo_10 : decode cX10_undo 10 = .ok (.aload_n 0, 1) := by decide +kernel
theorem dX10_undo_11 : decode cX10_undo 11 = .ok (.dup, 1) := by decide +kernel
theorem dX10_undo_12 : decode cX10_undo 12 = .ok (.getfield 96, 3) := by decide +kernel
theorem dX10_undo_15 : decode cX10_undo 15 = .ok (.iconst 1, 1) := by decide +kernel
theorem dX10_undo_16 : decode cX10_undo 16 = .ok (.isub, 1) := by decide +kernel
theorem dX10_undo_17 : decode cX10_undo 17 = .ok (.putfield 96, 3) := by decide +kernel
theorem dX10_undo_20 : decode cX10_undo 20 = .ok (.aload_n 0, 1) := by decide +kernel
theorem dX10_undo_21 : decode cX10_undo 21 = .ok (.getfield 9, 3) := by decide +kernel
theorem dX10_undo_24 : decode cX10_undo 24 = .ok (.aload_n 0, 1) := by decide +kernel
theorem dX10_undo_25 : decode cX10_undo 25 = .ok (.getfield 13, 3) := by decide +kernel
theorem dX10_undo_28 : decode cX10_undo 28 = .ok (.aload_n 0, 1) := by decide +kernel
theorem dX10_undo_29 : decode cX10_undo 29 = .ok (.getfield 96, 3) := by decide +kernel
theorem dX10_undo_32 : decode cX10_undo 32 = .ok (.iaload, 1) := by decide +kernel
theorem dX10_undo_33 : decode cX10_undo 33 = .ok (.aload_n 0, 1) := by decide +kernel
theorem dX10_undo_34 : decode cX10_undo 34 = .ok (.getfield 16, 3) := by decide +kernel
theorem dX10_undo_37 : decode cX10_undo 37 = .ok (.aload_n 0, 1) := by decide +kernel
theorem dX10_undo_38 : decode cX10_undo 38 = .ok (.getfield 96, 3) := by decide +kernel
theorem dX10_undo_41 : decode cX10_undo 41 = .ok (.iaload, 1) := by decide +kernel
theorem dX10_undo_42 : decode cX10_undo 42 = .ok (.iastore, 1) := by decide +kernel
theorem dX10_undo_43 : decode cX10_undo 43 = .ok (.aload_n 0, 1) := by decide +kernel
theorem dX10_undo_44 : decode cX10_undo 44 = .ok (.getfield 96, 3) := by decide +kernel
theorem dX10_undo_47 : decode cX10_undo 47 = .ok (.ireturn, 1) := by decide +kernel
theorem dX10_redo_0 : decode cX10_redo 0 = .ok (.aload_n 0, 1) := by decide +kernel
theorem dX10_redo_1 : decode cX10_redo 1 = .ok (.getfield 96, 3) := by decide +kernel
theorem dX10_redo_4 : decode cX10_redo 4 = .ok (.aload_n 0, 1) := by decide +kernel
theorem dX10_redo_5 : decode cX10_redo 5 = .ok (.getfield 99, 3) := by decide +kernel
theorem dX10_redo_8 : decode cX10_redo 8 = .ok (.if_icmp .ne 6, 3) := by decide +kernel
theorem dX10_redo_11 : decode cX10_redo 11 = .ok (.bipush (-5), 2) := by decide +kernel
theorem dX10_redo_13 : decode cX10_redo 13 = .ok (.ireturn, 1) := by decide +kernel
theorem dX10_redo_14 : decode cX10_redo 14 = .ok (.aload_n 0, 1) := by decide +kernel
theorem dX10_redo_15 : decode cX10_redo 15 = .ok (.getfield 9, 3) := by decide +kernel
theorem dX10_redo_18 : decode cX10_redo 18 = .ok (.aload_n 0, 1) := by decide +kernel
theorem dX10_redo_19 : decode cX10_redo 19 = .ok (.getfield 13, 3) := by decide +kernel
theorem dX10_redo_22 : decode cX10_redo 22 = .ok (.aload_n 0, 1) := by decide +kernel
theorem dX10_redo_23 : decode cX10_redo 23 = .ok (.getfield 96, 3) := by decide +kernel
theorem dX10_redo_26 : decode cX10_redo 26 = .ok (.iaload, 1) := by decide +kernel
theorem dX10_redo_27 : decode cX10_redo 27 = .ok (.aload_n 0, 1) := by decide +kernel
theorem dX10_redo_28 : decode cX10_redo 28 = .ok (.getfield 19, 3) := by decide +kernel
theorem dX10_redo_31 : decode cX10_redo 31 = .ok (.aload_n 0, 1) := by decide +kernel
theorem dX10_redo_32 : decode cX10_redo 32 = .ok (.getfield 96, 3) := by decide +kernel
theorem dX10_redo_35 : decode cX10_redo 35 = .ok (.iaload, 1) := by decide +kernel
theorem dX10_redo_36 : decode cX10_redo 36 = .ok (.iastore, 1) := by decide +kernel
theorem dX10_redo_37 : decode cX10_redo 37 = .ok (.aload_n 0, 1) := by decide +kernel
theorem dX10_redo_38 : decode cX10_redo 38 = .ok (.dup, 1) := by decide +kernel
theorem dX10_redo_39 : decode cX10_redo 39 = .ok (.getfield 96, 3) := by decide +kernel
theorem dX10_redo_42 : decode cX10_redo 42 = .ok (.iconst 1, 1) := by decide +kernel
theorem dX10_redo_43 : decode cX10_redo 43 = .ok (.iadd, 1) := by decide +kernel
theorem dX10_redo_44 : decode cX10_redo 44 = .ok (.putfield 96, 3) := by decide +kernel
theorem dX10_redo_47 : decode cX10_redo 47 = .ok (.aload_n 0, 1) := by decide +kernel
theorem dX10_redo_48 : decode cX10_redo 48 = .ok (.getfield 99, 3) := by decide +kernel
theorem dX10_redo_51 : decode cX10_redo 51 = .ok (.aload_n 0, 1) := by decide +kernel
theorem dX10_redo_52 : decode cX10_redo 52 = .ok (.getfield 96, 3) := by decide +kernel
theorem dX10_redo_55 : decode cX10_redo 55 = .ok (.isub, 1) := by decide +kernel
theorem dX10_redo_56 : decode cX10_redo 56 = .ok (.ireturn, 1) := by decide +kernel
theorem dX10_isThing_0 : decode cX10_isThing 0 = .ok (.iload_n 1, 1) := by decide +kernel
theorem dX10_isThing_1 : decode cX10_isThing 1 = .ok (.i2l, 1) := by decide +kernel
theorem dX10_isThing_2 : decode cX10_isThing 2 = .ok (.lconst 0, 1) := by decide +kernel
theorem dX10_isThing_3 : decode cX10_isThing 3 = .ok (.aload_n 0, 1) := by decide +kernel
theorem dX10_isThing_4 : decode cX10_isThing 4 = .ok (.getfield 102, 3) := by decide +kernel
theorem dX10_isThing_7 : decode cX10_isThing 7 = .ok (.iconst 1, 1) := by decide +kernel
theorem dX10_isThing_8 : decode cX10_isThing 8 = .ok (.isub, 1) := by decide +kernel
theorem dX10_isThing_9 : decode cX10_isThing 9 = .ok (.i2l, 1) := by decide +kernel
theorem dX10_isThing_10 : decode cX10_isThing 10 = .ok (.invokestatic 105, 3) := by decide +kernel
theorem dX10_isThing_13 : decode cX10_isThing 13 = .ok (.ireturn, 1) := by decide +kernel
theorem dX10_isSort_0 : decode cX10_isSort 0 = .ok (.iload_n 1, 1) := by decide +kernel
theorem dX10_isSort_1 : decode cX10_isSort 1 = .ok (.i2l, 1) := by decide +kernel
theorem dX10_isSort_2 : decode cX10_isSort 2 = .ok (.lconst 0, 1) := by decide +kernel
theorem dX10_isSort_3 : decode cX10_isSort 3 = .ok (.aload_n 0, 1) := by decide +kernel
theorem dX10_isSort_4 : decode cX10_isSort 4 = .ok (.getfield 109, 3) := by decide +kernel
theorem dX10_isSort_7 : decode cX10_isSort 7 = .ok (.iconst 1, 1) := by decide +kernel
theorem dX10_isSort_8 : decode cX10_isSort 8 = .ok (.isub, 1) := by decide +kernel
theorem dX10_isSort_9 : decode cX10_isSort 9 = .ok (.i2l, 1) := by decide +kernel
theorem dX10_isSort_10 : decode cX10_isSort 10 = .ok (.invokestatic 105, 3) := by decide +kernel
theorem dX10_isSort_13 : decode cX10_isSort 13 = .ok (.ireturn, 1) := by decide +kernel
theorem dX10_isTwo_0 : decode cX10_isTwo 0 = .ok (.lload_n 0, 1) := by decide +kernel
theorem dX10_isTwo_1 : decode cX10_isTwo 1 = .ok (.lconst 0, 1) := by decide +kernel
theorem dX10_isTwo_2 : decode cX10_isTwo 2 = .ok (.ldc2_w 112, 3) := by decide +kernel
theorem dX10_isTwo_5 : decode cX10_isTwo 5 = .ok (.invokestatic 105, 3) := by decide +kernel
theorem dX10_isTwo_8 : decode cX10_isTwo 8 = .ok (.ireturn, 1) := by decide +kernel
theorem dX10_adds_0 : decode cX10_adds 0 = .ok (.aload_n 0, 1) := by decide +kernel
theorem dX10_adds_1 : decode cX10_adds 1 = .ok (.getfield 9, 3) := by decide +kernel
theorem dX10_adds_4 : decode cX10_adds 4 = .ok (.aload_n 0, 1) := by decide +kernel
theorem dX10_adds_5 : decode cX10_adds 5 = .ok (.getfield 102, 3) := by decide +kernel
theorem dX10_adds_8 : decode cX10_adds 8 = .ok (.iload_n 1, 1) := by decide +kernel
theorem dX10_adds_9 : decode cX10_adds 9 = .ok (.iastore, 1) := by decide +kernel
theorem dX10_adds_10 : decode cX10_adds 10 = .ok (.aload_n 0, 1) := by decide +kernel
theorem dX10_adds_11 : decode cX10_adds 11 = .ok (.getfield 9, 3) := by decide +kernel
theorem dX10_adds_14 : decode cX10_adds 14 = .ok (.bipush 6, 2) := by decide +kernel
theorem dX10_adds_16 : decode cX10_adds 16 = .ok (.aload_n 0, 1) := by decide +kernel
theorem dX10_adds_17 : decode cX10_adds 17 = .ok (.getfield 102, 3) := by decide +kernel
theorem dX10_adds_20 : decode cX10_adds 20 = .ok (.iadd, 1) := by decide +kernel
theorem dX10_adds_21 : decode cX10_adds 21 = .ok (.iload_n 2, 1) := by decide +kernel
theorem dX10_adds_22 : decode cX10_adds 22 = .ok (.iastore, 1) := by decide +kernel
theorem dX10_adds_23 : decode cX10_adds 23 = .ok (.aload_n 0, 1) := by decide +kernel
theorem dX10_adds_24 : decode cX10_adds 24 = .ok (.getfield 9, 3) := by decide +kernel
theorem dX10_adds_27 : decode cX10_adds 27 = .ok (.bipush 12, 2) := by decide +kernel
theorem dX10_adds_29 : decode cX10_adds 29 = .ok (.aload_n 0, 1) := by decide +kernel
theorem dX10_adds_30 : decode cX10_adds 30 = .ok (.getfield 102, 3) := by decide +kernel
theorem dX10_adds_33 : decode cX10_adds 33 = .ok (.iadd, 1) := by decide +kernel
theorem dX10_adds_34 : decode cX10_adds 34 = .ok (.iload_n 3, 1) := by decide +kernel
theorem dX10_adds_35 : decode cX10_adds 35 = .ok (.iastore, 1) := by decide +kernel
theorem dX10_adds_36 : decode cX10_adds 36 = .ok (.aload_n 0, 1) := by decide +kernel
theorem dX10_adds_37 : decode cX10_adds 37 = .ok (.getfield 22, 3) := by decide +kernel
theorem dX10_adds_40 : decode cX10_adds 40 = .ok (.aload_n 0, 1) := by decide +kernel
theorem dX10_adds_41 : decode cX10_adds 41 = .ok (.getfield 102, 3) := by decide +kernel
theorem dX10_adds_44 : decode cX10_adds 44 = .ok (.iload 4, 2) := by decide +kernel
theorem dX10_adds_46 : decode cX10_adds 46 = .ok (.iastore, 1) := by decide +kernel
theorem dX10_adds_47 : decode cX10_adds 47 = .ok (.aload_n 0, 1) := by decide +kernel
theorem dX10_adds_48 : decode cX10_adds 48 = .ok (.dup, 1) := by decide +kernel
theorem dX10_adds_49 : decode cX10_adds 49 = .ok (.getfield 102, 3) := by decide +kernel
theorem dX10_adds_52 : decode cX10_adds 52 = .ok (.iconst 1, 1) := by decide +kernel
theorem dX10_adds_53 : decode cX10_adds 53 = .ok (.iadd, 1) := by decide +kernel
theorem dX10_adds_54 : decode cX10_adds 54 = .ok (.putfield 102, 3) := by decide +kernel
theorem dX10_adds_57 : decode cX10_adds 57 = .ok (.return_, 1) := by decide +kernel
theorem dX10_thing_0 : decode cX10_thing 0 = .ok (.iload_n 1, 1) := by decide +kernel
theorem dX10_thing_1 : decode cX10_thing 1 = .ok (.i2l, 1) := by decide +kernel
theorem dX10_thing_2 : decode cX10_thing 2 = .ok (.lconst 0, 1) := by decide +kernel
theorem dX10_thing_3 : decode cX10_thing 3 = .ok (.ldc2_w 114, 3) := by decide +kernel
theorem dX10_thing_6 : decode cX10_thing 6 = .ok (.invokestatic 105, 3) := by decide +kernel
theorem dX10_thing_9 : decode cX10_thing 9 = .ok (.ifCond .eq 23, 3) := by decide +kernel
theorem dX10_thing_12 : decode cX10_thing 12 = .ok (.iload_n 2, 1) := by decide +kernel
theorem dX10_thing_13 : decode cX10_thing 13 = .ok (.i2l, 1) := by decide +kernel
theorem dX10_thing_14 : decode cX10_thing 14 = .ok (.lconst 0, 1) := by decide +kernel
theorem dX10_thing_15 : decode cX10_thing 15 = .ok (.ldc2_w 116, 3) := by decide +kernel
theorem dX10_thing_18 : decode cX10_thing 18 = .ok (.invokestatic 105, 3) := by decide +kernel
theorem dX10_thing_21 : decode cX10_thing 21 = .ok (.ifCond .eq 11, 3) := by decide +kernel
theorem dX10_thing_24 : decode cX10_thing 24 = .ok (.iload_n 3, 1) := by decide +kernel
theorem dX10_thing_25 : decode cX10_thing 25 = .ok (.i2l, 1) := by decide +kernel
theorem dX10_thing_26 : decode cX10_thing 26 = .ok (.invokestatic 118, 3) := by decide +kernel
theorem dX10_thing_29 : decode cX10_thing 29 = .ok (.ifCond .ne 5, 3) := by decide +kernel
theorem dX10_thing_32 : decode cX10_thing 32 = .ok (.iconst (-1), 1) := by decide +kernel
theorem dX10_thing_33 : decode cX10_thing 33 = .ok (.ireturn, 1) := by decide +kernel
theorem dX10_thing_34 : decode cX10_thing 34 = .ok (.aload_n 0, 1) := by decide +kernel
theorem dX10_thing_35 : decode cX10_thing 35 = .ok (.getfield 102, 3) := by decide +kernel
theorem dX10_thing_38 : decode cX10_thing 38 = .ok (.bipush 6, 2) := by decide +kernel
theorem dX10_thing_40 : decode cX10_thing 40 = .ok (.if_icmp .ne 6, 3) := by decide +kernel
theorem dX10_thing_43 : decode cX10_thing 43 = .ok (.bipush (-3), 2) := by decide +kernel
theorem dX10_thing_45 : decode cX10_thing 45 = .ok (.ireturn, 1) := by decide +kernel
theorem dX10_thing_46 : decode cX10_thing 46 = .ok (.aload_n 0, 1) := by decide +kernel
theorem dX10_thing_47 : decode cX10_thing 47 = .ok (.iload_n 1, 1) := by decide +kernel
theorem dX10_thing_48 : decode cX10_thing 48 = .ok (.iload_n 2, 1) := by decide +kernel
theorem dX10_thing_49 : decode cX10_thing 49 = .ok (.bipush 100, 2) := by decide +kernel
theorem dX10_thing_51 : decode cX10_thing 51 = .ok (.idiv, 1) := by decide +kernel
theorem dX10_thing_52 : decode cX10_thing 52 = .ok (.iload_n 2, 1) := by decide +kernel
theorem dX10_thing_53 : decode cX10_thing 53 = .ok (.bipush 100, 2) := by decide +kernel
theorem dX10_thing_55 : decode cX10_thing 55 = .ok (.irem, 1) := by decide +kernel
theorem dX10_thing_56 : decode cX10_thing 56 = .ok (.iload_n 3, 1) := by decide +kernel
theorem dX10_thing_57 : decode cX10_thing 57 = .ok (.invokevirtual 122, 3) := by decide +kernel
theorem dX10_thing_60 : decode cX10_thing 60 = .ok (.aload_n 0, 1) := by decide +kernel
theorem dX10_thing_61 : decode cX10_thing 61 = .ok (.getfield 102, 3) := by decide +kernel
theorem dX10_thing_64 : decode cX10_thing 64 = .ok (.iconst 1, 1) := by decide +kernel
theorem dX10_thing_65 : decode cX10_thing 65 = .ok (.isub, 1) := by decide +kernel
theorem dX10_thing_66 : decode cX10_thing 66 = .ok (.ireturn, 1) := by decide +kernel
theorem dX10_things_0 : decode cX10_things 0 = .ok (.iload_n 1, 1) := by decide +kernel
theorem dX10_things_1 : decode cX10_things 1 = .ok (.invokestatic 126, 3) := by decide +kernel
theorem dX10_things_4 : decode cX10_things 4 = .ok (.ifCond .eq 15, 3) := by decide +kernel
theorem dX10_things_7 : decode cX10_things 7 = .ok (.iload_n 3, 1) := by decide +kernel
theorem dX10_things_8 : decode cX10_things 8 = .ok (.i2l, 1) := by decide +kernel
theorem dX10_things_9 : decode cX10_things 9 = .ok (.lconst 1, 1) := by decide +kernel
theorem dX10_things_10 : decode cX10_things 10 = .ok (.ldc2_w 130, 3) := by decide +kernel
theorem dX10_things_13 : decode cX10_things 13 = .ok (.invokestatic 105, 3) := by decide +kernel
theorem dX10_things_16 : decode cX10_things 16 = .ok (.ifCond .ne 5, 3) := by decide +kernel
theorem dX10_things_19 : decode cX10_things 19 = .ok (.iconst (-1), 1) := by decide +kernel
theorem dX10_things_20 : decode cX10_things 20 = .ok (.ireturn, 1) := by decide +kernel
theorem dX10_things_21 : decode cX10_things 21 = .ok (.aload_n 0, 1) := by decide +kernel
theorem dX10_things_22 : decode cX10_things 22 = .ok (.getfield 83, 3) := by decide +kernel
theorem dX10_things_25 : decode cX10_things 25 = .ok (.iload_n 1, 1) := by decide +kernel
theorem dX10_things_26 : decode cX10_things 26 = .ok (.iaload, 1) := by decide +kernel
theorem dX10_things_27 : decode cX10_things 27 = .ok (.ifCond .lt 17, 3) := by decide +kernel
theorem dX10_things_30 : decode cX10_things 30 = .ok (.aload_n 0, 1) := by decide +kernel
theorem dX10_things_31 : decode cX10_things 31 = .ok (.getfield 83, 3) := by decide +kernel
theorem dX10_things_34 : decode cX10_things 34 = .ok (.iload_n 1, 1) := by decide +kernel
theorem dX10_things_35 : decode cX10_things 35 = .ok (.iaload, 1) := by decide +kernel
theorem dX10_things_36 : decode cX10_things 36 = .ok (.bipush 51, 2) := by decide +kernel
theorem dX10_things_38 : decode cX10_things 38 = .ok (.if_icmp .eq 6, 3) := by decide +kernel
theorem dX10_things_41 : decode cX10_things 41 = .ok (.bipush (-12), 2) := by decide +kernel
theorem dX10_things_43 : decode cX10_things 43 = .ok (.ireturn, 1) := by decide +kernel
theorem dX10_things_44 : decode cX10_things 44 = .ok (.iconst 0, 1) := by decide +kernel
theorem dX10_things_45 : decode cX10_things 45 = .ok (.istore 4, 2) := by decide +kernel
theorem dX10_things_47 : decode cX10_things 47 = .ok (.aload_n 0, 1) := by decide +kernel
theorem dX10_things_48 : decode cX10_things 48 = .ok (.getfield 83, 3) := by decide +kernel
theorem dX10_things_51 : decode cX10_things 51 = .ok (.iload_n 1, 1) := by decide +kernel
theorem dX10_things_52 : decode cX10_things 52 = .ok (.iaload, 1) := by decide +kernel
theorem dX10_things_53 : decode cX10_things 53 = .ok (.bipush 51, 2) := by decide +kernel
theorem dX10_things_55 : decode cX10_things 55 = .ok (.if_icmp .ne 11, 3) := by decide +kernel
theorem dX10_things_58 : decode cX10_things 58 = .ok (.iload_n 2, 1) := by decide +kernel
theorem dX10_things_59 : decode cX10_things 59 = .ok (.ifCond .lt 7, 3) := by decide +kernel
theorem dX10_things_62 : decode cX10_things 62 = .ok (.iconst 1, 1) := by decide +kernel
theorem dX10_things_63 : decode cX10_things 63 = .ok (.goto 4, 3) := by decide +kernel
theorem dX10_things_66 : decode cX10_things 66 = .ok (.iconst 0, 1) := by decide +kernel
theorem dX10_things_67 : decode cX10_things 67 = .ok (.istore 5, 2) := by decide +kernel
theorem dX10_things_69 : decode cX10_things 69 = .ok (.iload 5, 2) := by decide +kernel
theorem dX10_things_71 : decode cX10_things 71 = .ok (.ifCond .eq 182, 3) := by decide +kernel
theorem dX10_things_74 : decode cX10_things 74 = .ok (.iload 4, 2) := by decide +kernel
theorem dX10_things_76 : decode cX10_things 76 = .ok (.iload_n 3, 1) := by decide +kernel
theorem dX10_things_77 : decode cX10_things 77 = .ok (.if_icmp .ge 176, 3) := by decide +kernel
theorem dX10_things_80 : decode cX10_things 80 = .ok (.iload_n 2, 1) := by decide +kernel
theorem dX10_things_81 : decode cX10_things 81 = .ok (.aload_n 0, 1) := by decide +kernel
theorem dX10_things_82 : decode cX10_things 82 = .ok (.getfield 86, 3) := by decide +kernel
theorem dX10_things_85 : decode cX10_things 85 = .ok (.iload_n 1, 1) := by decide +kernel
theorem dX10_things_86 : decode cX10_things 86 = .ok (.iaload, 1) := by decide +kernel
theorem dX10_things_87 : decode cX10_things 87 = .ok (.iconst 4, 1) := by decide +kernel
theorem dX10_things_88 : decode cX10_things 88 = .ok (.isub, 1) := by decide +kernel
theorem dX10_things_89 : decode cX10_things 89 = .ok (.iconst 4, 1) := by decide +kernel
theorem dX10_things_90 : decode cX10_things 90 = .ok (.iload 4, 2) := by decide +kernel
theorem dX10_things_92 : decode cX10_things 92 = .ok (.imul, 1) := by decide +kernel
theorem dX10_things_93 : decode cX10_things 93 = .ok (.isub, 1) := by decide +kernel
theorem dX10_things_94 : decode cX10_things 94 = .ok (.if_icmp .gt 16, 3) := by decide +kernel
theorem dX10_things_97 : decode cX10_things 97 = .ok (.aload_n 0, 1) := by decide +kernel
theorem dX10_things_98 : decode cX10_things 98 = .ok (.getfield 102, 3) := by decide +kernel
theorem dX10_things_101 : decode cX10_things 101 = .ok (.bipush 6, 2) := by decide +kernel
theorem dX10_things_103 : decode cX10_things 103 = .ok (.if_icmp .ge 7, 3) := by decide +kernel
theorem dX10_things_106 : decode cX10_things 106 = .ok (.iconst 1, 1) := by decide +kernel
theorem dX10_things_107 : decode cX10_things 107 = .ok (.goto 4, 3) := by decide +kernel
theorem dX10_things_110 : decode cX10_things 110 = .ok (.iconst 0, 1) := by decide +kernel
theorem dX10_things_111 : decode cX10_things 111 = .ok (.istore 5, 2) := by decide +kernel
theorem dX10_things_113 : decode cX10_things 113 = .ok (.bipush 60, 2) := by decide +kernel
theorem dX10_things_115 : decode cX10_things 115 = .ok (.iload_n 1, 1) := by decide +kernel
theorem dX10_things_116 : decode cX10_things 116 = .ok (.imul, 1) := by decide +kernel
theorem dX10_things_117 : decode cX10_things 117 = .ok (.iload_n 2, 1) := by decide +kernel
theorem dX10_things_118 : decode cX10_things 118 = .ok (.iadd, 1) := by decide +kernel
theorem dX10_things_119 : decode cX10_things 119 = .ok (.iconst 4, 1) := by decide +kernel
theorem dX10_things_120 : decode cX10_things 120 = .ok (.iload 4, 2) := by decide +kernel
theorem dX10_things_122 : decode cX10_things 122 = .ok (.imul, 1) := by decide +kernel
theorem dX10_things_123 : decode cX10_things 123 = .ok (.iadd, 1) := by decide +kernel
theorem dX10_things_124 : decode cX10_things 124 = .ok (.istore 6, 2) := by decide +kernel
theorem dX10_things_126 : decode cX10_things 126 = .ok (.iload 5, 2) := by decide +kernel
theorem dX10_things_128 : decode cX10_things 128 = .ok (.ifCond .eq 69, 3) := by decide +kernel
theorem dX10_things_131 : decode cX10_things 131 = .ok (.aload_n 0, 1) := by decide +kernel
theorem dX10_things_132 : decode cX10_things 132 = .ok (.getfield 89, 3) := by decide +kernel
theorem dX10_things_135 : decode cX10_things 135 = .ok (.iload 6, 2) := by decide +kernel
theorem dX10_things_137 : decode cX10_things 137 = .ok (.laload, 1) := by decide +kernel
theorem dX10_things_138 : decode cX10_things 138 = .ok (.lconst 0, 1) := by decide +kernel
theorem dX10_things_139 : decode cX10_things 139 = .ok (.ldc2_w 114, 3) := by decide +kernel
theorem dX10_things_142 : decode cX10_things 142 = .ok (.invokestatic 105, 3) := by decide +kernel
theorem dX10_things_145 : decode cX10_things 145 = .ok (.ifCond .eq 52, 3) := by decide +kernel
theorem dX10_things_148 : decode cX10_things 148 = .ok (.aload_n 0, 1) := by decide +kernel
theorem dX10_things_149 : decode cX10_things 149 = .ok (.getfield 89, 3) := by decide +kernel
theorem dX10_things_152 : decode cX10_things 152 = .ok (.iload 6, 2) := by decide +kernel
theorem dX10_things_154 : decode cX10_things 154 = .ok (.iconst 1, 1) := by decide +kernel
theorem dX10_things_155 : decode cX10_things 155 = .ok (.iadd, 1) := by decide +kernel
theorem dX10_things_156 : decode cX10_things 156 = .ok (.laload, 1) := by decide +kernel
theorem dX10_things_157 : decode cX10_things 157 = .ok (.invokestatic 118, 3) := by decide +kernel
theorem dX10_things_160 : decode cX10_things 160 = .ok (.ifCond .eq 37, 3) := by decide +kernel
theorem dX10_things_163 : decode cX10_things 163 = .ok (.aload_n 0, 1) := by decide +kernel
theorem dX10_things_164 : decode cX10_things 164 = .ok (.getfield 89, 3) := by decide +kernel
theorem dX10_things_167 : decode cX10_things 167 = .ok (.iload 6, 2) := by decide +kernel
theorem dX10_things_169 : decode cX10_things 169 = .ok (.iconst 2, 1) := by decide +kernel
theorem dX10_things_170 : decode cX10_things 170 = .ok (.iadd, 1) := by decide +kernel
theorem dX10_things_171 : decode cX10_things 171 = .ok (.laload, 1) := by decide +kernel
theorem dX10_things_172 : decode cX10_things 172 = .ok (.invokestatic 118, 3) := by decide +kernel
theorem dX10_things_175 : decode cX10_things 175 = .ok (.ifCond .eq 22, 3) := by decide +kernel
theorem dX10_things_178 : decode cX10_things 178 = .ok (.aload_n 0, 1) := by decide +kernel
theorem dX10_things_179 : decode cX10_things 179 = .ok (.getfield 89, 3) := by decide +kernel
theorem dX10_things_182 : decode cX10_things 182 = .ok (.iload 6, 2) := by decide +kernel
theorem dX10_things_184 : decode cX10_things 184 = .ok (.iconst 3, 1) := by decide +kernel
theorem dX10_things_185 : decode cX10_things 185 = .ok (.iadd, 1) := by decide +kernel
theorem dX10_things_186 : decode cX10_things 186 = .ok (.laload, 1) := by decide +kernel
theorem dX10_things_187 : decode cX10_things 187 = .ok (.invokestatic 118, 3) := by decide +kernel
theorem dX10_things_190 : decode cX10_things 190 = .ok (.ifCond .eq 7, 3) := by decide +kernel
theorem dX10_things_193 : decode cX10_things 193 = .ok (.iconst 1, 1) := by decide +kernel
theorem dX10_things_194 : decode cX10_things 194 = .ok (.goto 4, 3) := by decide +kernel
theorem dX10_things_197 : decode cX10_things 197 = .ok (.iconst 0, 1) := by decide +kernel
theorem dX10_things_198 : decode cX10_things 198 = .ok (.istore 5, 2) := by decide +kernel
theorem dX10_things_200 : decode cX10_things 200 = .ok (.iload 5, 2) := by decide +kernel
theorem dX10_things_202 : decode cX10_things 202 = .ok (.ifCond .eq 48, 3) := by decide +kernel
theorem dX10_things_205 : decode cX10_things 205 = .ok (.aload_n 0, 1) := by decide +kernel
theorem dX10_things_206 : decode cX10_things 206 = .ok (.aload_n 0, 1) := by decide +kernel
theorem dX10_things_207 : decode cX10_things 207 = .ok (.getfield 89, 3) := by decide +kernel
theorem dX10_things_210 : decode cX10_things 210 = .ok (.iload 6, 2) := by decide +kernel
theorem dX10_things_212 : decode cX10_things 212 = .ok (.laload, 1) := by decide +kernel
theorem dX10_things_213 : decode cX10_things 213 = .ok (.l2i, 1) := by decide +kernel
theorem dX10_things_214 : decode cX10_things 214 = .ok (.aload_n 0, 1) := by decide +kernel
theorem dX10_things_215 : decode cX10_things 215 = .ok (.getfield 89, 3) := by decide +kernel
theorem dX10_things_218 : decode cX10_things 218 = .ok (.iload 6, 2) := by decide +kernel
theorem dX10_things_220 : decode cX10_things 220 = .ok (.iconst 1, 1) := by decide +kernel
theorem dX10_things_221 : decode cX10_things 221 = .ok (.iadd, 1) := by decide +kernel
theorem dX10_things_222 : decode cX10_things 222 = .ok (.laload, 1) := by decide +kernel
theorem dX10_things_223 : decode cX10_things 223 = .ok (.l2i, 1) := by decide +kernel
theorem dX10_things_224 : decode cX10_things 224 = .ok (.aload_n 0, 1) := by decide +kernel
theorem dX10_things_225 : decode cX10_things 225 = .ok (.getfield 89, 3) := by decide +kernel
theorem dX10_things_228 : decode cX10_things 228 = .ok (.iload 6, 2) := by decide +kernel
theorem dX10_things_230 : decode cX10_things 230 = .ok (.iconst 2, 1) := by decide +kernel
theorem dX10_things_231 : decode cX10_things 231 = .ok (.iadd, 1) := by decide +kernel
theorem dX10_things_232 : decode cX10_things 232 = .ok (.laload, 1) := by decide +kernel
theorem dX10_things_233 : decode cX10_things 233 = .ok (.l2i, 1) := by decide +kernel
theorem dX10_things_234 : decode cX10_things 234 = .ok (.aload_n 0, 1) := by decide +kernel
theorem dX10_things_235 : decode cX10_things 235 = .ok (.getfield 89, 3) := by decide +kernel
theorem dX10_things_238 : decode cX10_things 238 = .ok (.iload 6, 2) := by decide +kernel
theorem dX10_things_240 : decode cX10_things 240 = .ok (.iconst 3, 1) := by decide +kernel
theorem dX10_things_241 : decode cX10_things 241 = .ok (.iadd, 1) := by decide +kernel
theorem dX10_things_242 : decode cX10_things 242 = .ok (.laload, 1) := by decide +kernel
theorem dX10_things_243 : decode cX10_things 243 = .ok (.l2i, 1) := by decide +kernel
theorem dX10_things_244 : decode cX10_things 244 = .ok (.invokevirtual 122, 3) := by decide +kernel
theorem dX10_things_247 : decode cX10_things 247 = .ok (.iinc 4 1, 3) := by decide +kernel
theorem dX10_things_250 : decode cX10_things 250 = .ok (.goto (-181), 3) := by decide +kernel
theorem dX10_things_253 : decode cX10_things 253 = .ok (.iload 4, 2) := by decide +kernel
theorem dX10_things_255 : decode cX10_things 255 = .ok (.ireturn, 1) := by decide +kernel
theorem dX10_mend_0 : decode cX10_mend 0 = .ok (.aload_n 0, 1) := by decide +kernel
theorem dX10_mend_1 : decode cX10_mend 1 = .ok (.iload_n 1, 1) := by decide +kernel
theorem dX10_mend_2 : decode cX10_mend 2 = .ok (.invokevirtual 132, 3) := by decide +kernel
theorem dX10_mend_5 : decode cX10_mend 5 = .ok (.ifCond .eq 51, 3) := by decide +kernel
theorem dX10_mend_8 : decode cX10_mend 8 = .ok (.iload_n 2, 1) := by decide +kernel
theorem dX10_mend_9 : decode cX10_mend 9 = .ok (.i2l, 1) := by decide +kernel
theorem dX10_mend_10 : decode cX10_mend 10 = .ok (.lconst 0, 1) := by decide +kernel
theorem dX10_mend_11 : decode cX10_mend 11 = .ok (.ldc2_w 135, 3) := by decide +kernel
theorem dX10_mend_14 : decode cX10_mend 14 = .ok (.invokestatic 105, 3) := by decide +kernel
theorem dX10_mend_17 : decode cX10_mend 17 = .ok (.ifCond .eq 39, 3) := by decide +kernel
theorem dX10_mend_20 : decode cX10_mend 20 = .ok (.iload_n 3, 1) := by decide +kernel
theorem dX10_mend_21 : decode cX10_mend 21 = .ok (.i2l, 1) := by decide +kernel
theorem dX10_mend_22 : decode cX10_mend 22 = .ok (.lconst 0, 1) := by decide +kernel
theorem dX10_mend_23 : decode cX10_mend 23 = .ok (.iload_n 2, 1) := by decide +kernel
theorem dX10_mend_24 : decode cX10_mend 24 = .ok (.ifCond .ne 9, 3) := by decide +kernel
theorem dX10_mend_27 : decode cX10_mend 27 = .ok (.ldc2_w 114, 3) := by decide +kernel
theorem dX10_mend_30 : decode cX10_mend 30 = .ok (.goto 6, 3) := by decide +kernel
theorem dX10_mend_33 : decode cX10_mend 33 = .ok (.ldc2_w 112, 3) := by decide +kernel
theorem dX10_mend_36 : decode cX10_mend 36 = .ok (.invokestatic 105, 3) := by decide +kernel
theorem dX10_mend_39 : decode cX10_mend 39 = .ok (.ifCond .eq 17, 3) := by decide +kernel
theorem dX10_mend_42 : decode cX10_mend 42 = .ok (.aload_n 0, 1) := by decide +kernel
theorem dX10_mend_43 : decode cX10_mend 43 = .ok (.bipush 6, 2) := by decide +kernel
theorem dX10_mend_45 : decode cX10_mend 45 = .ok (.iload_n 2, 1) := by decide +kernel
theorem dX10_mend_46 : decode cX10_mend 46 = .ok (.imul, 1) := by decide +kernel
theorem dX10_mend_47 : decode cX10_mend 47 = .ok (.iload_n 1, 1) := by decide +kernel
theorem dX10_mend_48 : decode cX10_mend 48 = .ok (.iadd, 1) := by decide +kernel
theorem dX10_mend_49 : decode cX10_mend 49 = .ok (.iload_n 3, 1) := by decide +kernel
theorem dX10_mend_50 : decode cX10_mend 50 = .ok (.invokevirtual 137, 3) := by decide +kernel
theorem dX10_mend_53 : decode cX10_mend 53 = .ok (.goto 4, 3) := by decide +kernel
theorem dX10_mend_56 : decode cX10_mend 56 = .ok (.iconst (-1), 1) := by decide +kernel
theorem dX10_mend_57 : decode cX10_mend 57 = .ok (.ireturn, 1) := by decide +kernel
theorem dX10_sort_0 : decode cX10_sort 0 = .ok (.iload_n 1, 1) := by decide +kernel
theorem dX10_sort_1 : decode cX10_sort 1 = .ok (.i2l, 1) := by decide +kernel
theorem dX10_sort_2 : decode cX10_sort 2 = .ok (.lconst 1, 1) := by decide +kernel
theorem dX10_sort_3 : decode cX10_sort 3 = .ok (.ldc2_w 112, 3) := by decide +kernel
theorem dX10_sort_6 : decode cX10_sort 6 = .ok (.invokestatic 105, 3) := by decide +kernel
theorem dX10_sort_9 : decode cX10_sort 9 = .ok (.ifCond .eq 38, 3) := by decide +kernel
theorem dX10_sort_12 : decode cX10_sort 12 = .ok (.iload_n 2, 1) := by decide +kernel
theorem dX10_sort_13 : decode cX10_sort 13 = .ok (.i2l, 1) := by decide +kernel
theorem dX10_sort_14 : decode cX10_sort 14 = .ok (.lconst 0, 1) := by decide +kernel
theorem dX10_sort_15 : decode cX10_sort 15 = .ok (.ldc2_w 116, 3) := by decide +kernel
theorem dX10_sort_18 : decode cX10_sort 18 = .ok (.invokestatic 105, 3) := by decide +kernel
theorem dX10_sort_21 : decode cX10_sort 21 = .ok (.ifCond .eq 26, 3) := by decide +kernel
theorem dX10_sort_24 : decode cX10_sort 24 = .ok (.iload_n 3, 1) := by decide +kernel
theorem dX10_sort_25 : decode cX10_sort 25 = .ok (.ifCond .lt 22, 3) := by decide +kernel
theorem dX10_sort_28 : decode cX10_sort 28 = .ok (.iload_n 3, 1) := by decide +kernel
theorem dX10_sort_29 : decode cX10_sort 29 = .ok (.bipush 10, 2) := by decide +kernel
theorem dX10_sort_31 : decode cX10_sort 31 = .ok (.idiv, 1) := by decide +kernel
theorem dX10_sort_32 : decode cX10_sort 32 = .ok (.iconst 3, 1) := by decide +kernel
theorem dX10_sort_33 : decode cX10_sort 33 = .ok (.if_icmp .gt 14, 3) := by decide +kernel
theorem dX10_sort_36 : decode cX10_sort 36 = .ok (.iload_n 3, 1) := by decide +kernel
theorem dX10_sort_37 : decode cX10_sort 37 = .ok (.bipush 10, 2) := by decide +kernel
theorem dX10_sort_39 : decode cX10_sort 39 = .ok (.irem, 1) := by decide +kernel
theorem dX10_sort_40 : decode cX10_sort 40 = .ok (.aload_n 0, 1) := by decide +kernel
theorem dX10_sort_41 : decode cX10_sort 41 = .ok (.getfield 141, 3) := by decide +kernel
theorem dX10_sort_44 : decode cX10_sort 44 = .ok (.if_icmp .lt 5, 3) := by decide +kernel
theorem dX10_sort_47 : decode cX10_sort 47 = .ok (.iconst (-1), 1) := by decide +kernel
theorem dX10_sort_48 : decode cX10_sort 48 = .ok (.ireturn, 1) := by decide +kernel
theorem dX10_sort_49 : decode cX10_sort 49 = .ok (.aload_n 0, 1) := by decide +kernel
theorem dX10_sort_50 : decode cX10_sort 50 = .ok (.getfield 109, 3) := by decide +kernel
theorem dX10_sort_53 : decode cX10_sort 53 = .ok (.iconst 5, 1) := by decide +kernel
theorem dX10_sort_54 : decode cX10_sort 54 = .ok (.if_icmp .ne 6, 3) := by decide +kernel
theorem dX10_sort_57 : decode cX10_sort 57 = .ok (.bipush (-3), 2) := by decide +kernel
theorem dX10_sort_59 : decode cX10_sort 59 = .ok (.ireturn, 1) := by decide +kernel
theorem dX10_sort_60 : decode cX10_sort 60 = .ok (.aload_n 0, 1) := by decide +kernel
theorem dX10_sort_61 : decode cX10_sort 61 = .ok (.getfield 25, 3) := by decide +kernel
theorem dX10_sort_64 : decode cX10_sort 64 = .ok (.aload_n 0, 1) := by decide +kernel
theorem dX10_sort_65 : decode cX10_sort 65 = .ok (.getfield 109, 3) := by decide +kernel
theorem dX10_sort_68 : decode cX10_sort 68 = .ok (.iload_n 1, 1) := by decide +kernel
theorem dX10_sort_69 : decode cX10_sort 69 = .ok (.iastore, 1) := by decide +kernel
theorem dX10_sort_70 : decode cX10_sort 70 = .ok (.aload_n 0, 1) := by decide +kernel
theorem dX10_sort_71 : decode cX10_sort 71 = .ok (.getfield 9, 3) := by decide +kernel
theorem dX10_sort_74 : decode cX10_sort 74 = .ok (.bipush 18, 2) := by decide +kernel
theorem dX10_sort_76 : decode cX10_sort 76 = .ok (.aload_n 0, 1) := by decide +kernel
theorem dX10_sort_77 : decode cX10_sort 77 = .ok (.getfield 109, 3) := by decide +kernel
theorem dX10_sort_80 : decode cX10_sort 80 = .ok (.iadd, 1) := by decide +kernel
theorem dX10_sort_81 : decode cX10_sort 81 = .ok (.iload_n 2, 1) := by decide +kernel
theorem dX10_sort_82 : decode cX10_sort 82 = .ok (.bipush 100, 2) := by decide +kernel
theorem dX10_sort_84 : decode cX10_sort 84 = .ok (.idiv, 1) := by decide +kernel
theorem dX10_sort_85 : decode cX10_sort 85 = .ok (.iastore, 1) := by decide +kernel
theorem dX10_sort_86 : decode cX10_sort 86 = .ok (.aload_n 0, 1) := by decide +kernel
theorem dX10_sort_87 : decode cX10_sort 87 = .ok (.getfield 9, 3) := by decide +kernel
theorem dX10_sort_90 : decode cX10_sort 90 = .ok (.bipush 23, 2) := by decide +kernel
theorem dX10_sort_92 : decode cX10_sort 92 = .ok (.aload_n 0, 1) := by decide +kernel
theorem dX10_sort_93 : decode cX10_sort 93 = .ok (.getfield 109, 3) := by decide +kernel
theorem dX10_sort_96 : decode cX10_sort 96 = .ok (.iadd, 1) := by decide +kernel
theorem dX10_sort_97 : decode cX10_sort 97 = .ok (.iload_n 2, 1) := by decide +kernel
theorem dX10_sort_98 : decode cX10_sort 98 = .ok (.bipush 100, 2) := by decide +kernel
theorem dX10_sort_100 : decode cX10_sort 100 = .ok (.irem, 1) := by decide +kernel
theorem dX10_sort_101 : decode cX10_sort 101 = .ok (.iastore, 1) := by decide +kernel
theorem dX10_sort_102 : decode cX10_sort 102 = .ok (.aload_n 0, 1) := by decide +kernel
theorem dX10_sort_103 : decode cX10_sort 103 = .ok (.getfield 28, 3) := by decide +kernel
theorem dX10_sort_106 : decode cX10_sort 106 = .ok (.aload_n 0, 1) := by decide +kernel
theorem dX10_sort_107 : decode cX10_sort 107 = .ok (.getfield 109, 3) := by decide +kernel
theorem dX10_sort_110 : decode cX10_sort 110 = .ok (.iload_n 3, 1) := by decide +kernel
theorem dX10_sort_111 : decode cX10_sort 111 = .ok (.bipush 10, 2) := by decide +kernel
theorem dX10_sort_113 : decode cX10_sort 113 = .ok (.idiv, 1) := by decide +kernel
theorem dX10_sort_114 : decode cX10_sort 114 = .ok (.iastore, 1) := by decide +kernel
theorem dX10_sort_115 : decode cX10_sort 115 = .ok (.aload_n 0, 1) := by decide +kernel
theorem dX10_sort_116 : decode cX10_sort 116 = .ok (.getfield 31, 3) := by decide +kernel
theorem dX10_sort_119 : decode cX10_sort 119 = .ok (.aload_n 0, 1) := by decide +kernel
theorem dX10_sort_120 : decode cX10_sort 120 = .ok (.getfield 109, 3) := by decide +kernel
theorem dX10_sort_123 : decode cX10_sort 123 = .ok (.iload_n 3, 1) := by decide +kernel
theorem dX10_sort_124 : decode cX10_sort 124 = .ok (.bipush 10, 2) := by decide +kernel
theorem dX10_sort_126 : decode cX10_sort 126 = .ok (.irem, 1) := by decide +kernel
theorem dX10_sort_127 : decode cX10_sort 127 = .ok (.iastore, 1) := by decide +kernel
theorem dX10_sort_128 : decode cX10_sort 128 = .ok (.aload_n 0, 1) := by decide +kernel
theorem dX10_sort_129 : decode cX10_sort 129 = .ok (.getfield 34, 3) := by decide +kernel
theorem dX10_sort_132 : decode cX10_sort 132 = .ok (.aload_n 0, 1) := by decide +kernel
theorem dX10_sort_133 : decode cX10_sort 133 = .ok (.getfield 109, 3) := by decide +kernel
theorem dX10_sort_136 : decode cX10_sort 136 = .ok (.iconst 0, 1) := by decide +kernel
theorem dX10_sort_137 : decode cX10_sort 137 = .ok (.iastore, 1) := by decide +kernel
theorem dX10_sort_138 : decode cX10_sort 138 = .ok (.aload_n 0, 1) := by decide +kernel
theorem dX10_sort_139 : decode cX10_sort 139 = .ok (.dup, 1) := by decide +kernel
theorem dX10_sort_140 : decode cX10_sort 140 = .ok (.getfield 109, 3) := by decide +kernel
theorem dX10_sort_143 : decode cX10_sort 143 = .ok (.iconst 1, 1) := by decide +kernel
theorem dX10_sort_144 : decode cX10_sort 144 = .ok (.iadd, 1) := by decide +kernel
theorem dX10_sort_145 : decode cX10_sort 145 = .ok (.putfield 109, 3) := by decide +kernel
theorem dX10_sort_148 : decode cX10_sort 148 = .ok (.aload_n 0, 1) := by decide +kernel
theorem dX10_sort_149 : decode cX10_sort 149 = .ok (.getfield 109, 3) := by decide +kernel
theorem dX10_sort_152 : decode cX10_sort 152 = .ok (.iconst 1, 1) := by decide +kernel
theorem dX10_sort_153 : decode cX10_sort 153 = .ok (.isub, 1) := by decide +kernel
theorem dX10_sort_154 : decode cX10_sort 154 = .ok (.ireturn, 1) := by decide +kernel
theorem dX10_purse_0 : decode cX10_purse 0 = .ok (.aload_n 0, 1) := by decide +kernel
theorem dX10_purse_1 : decode cX10_purse 1 = .ok (.iload_n 1, 1) := by decide +kernel
theorem dX10_purse_2 : decode cX10_purse 2 = .ok (.invokevirtual 144, 3) := by decide +kernel
theorem dX10_purse_5 : decode cX10_purse 5 = .ok (.ifCond .eq 42, 3) := by decide +kernel
theorem dX10_purse_8 : decode cX10_purse 8 = .ok (.iload_n 2, 1) := by decide +kernel
theorem dX10_purse_9 : decode cX10_purse 9 = .ok (.i2l, 1) := by decide +kernel
theorem dX10_purse_10 : decode cX10_purse 10 = .ok (.lconst 0, 1) := by decide +kernel
theorem dX10_purse_11 : decode cX10_purse 11 = .ok (.lconst 1, 1) := by decide +kernel
theorem dX10_purse_12 : decode cX10_purse 12 = .ok (.invokestatic 105, 3) := by decide +kernel
theorem dX10_purse_15 : decode cX10_purse 15 = .ok (.ifCond .eq 32, 3) := by decide +kernel
theorem dX10_purse_18 : decode cX10_purse 18 = .ok (.iload_n 3, 1) := by decide +kernel
theorem dX10_purse_19 : decode cX10_purse 19 = .ok (.i2l, 1) := by decide +kernel
theorem dX10_purse_20 : decode cX10_purse 20 = .ok (.invokestatic 118, 3) := by decide +kernel
theorem dX10_purse_23 : decode cX10_purse 23 = .ok (.ifCond .eq 24, 3) := by decide +kernel
theorem dX10_purse_26 : decode cX10_purse 26 = .ok (.aload_n 0, 1) := by decide +kernel
theorem dX10_purse_27 : decode cX10_purse 27 = .ok (.iload_n 2, 1) := by decide +kernel
theorem dX10_purse_28 : decode cX10_purse 28 = .ok (.ifCond .ne 8, 3) := by decide +kernel
theorem dX10_purse_31 : decode cX10_purse 31 = .ok (.bipush 18, 2) := by decide +kernel
theorem dX10_purse_33 : decode cX10_purse 33 = .ok (.goto 5, 3) := by decide +kernel
theorem dX10_purse_36 : decode cX10_purse 36 = .ok (.bipush 23, 2) := by decide +kernel
theorem dX10_purse_38 : decode cX10_purse 38 = .ok (.iload_n 1, 1) := by decide +kernel
theorem dX10_purse_39 : decode cX10_purse 39 = .ok (.iadd, 1) := by decide +kernel
theorem dX10_purse_40 : decode cX10_purse 40 = .ok (.iload_n 3, 1) := by decide +kernel
theorem dX10_purse_41 : decode cX10_purse 41 = .ok (.invokevirtual 137, 3) := by decide +kernel
theorem dX10_purse_44 : decode cX10_purse 44 = .ok (.goto 4, 3) := by decide +kernel
theorem dX10_purse_47 : decode cX10_purse 47 = .ok (.iconst (-1), 1) := by decide +kernel
theorem dX10_purse_48 : decode cX10_purse 48 = .ok (.ireturn, 1) := by decide +kernel
theorem dX10_purseOf_0 : decode cX10_purseOf 0 = .ok (.aload_n 0, 1) := by decide +kernel
theorem dX10_purseOf_1 : decode cX10_purseOf 1 = .ok (.getfield 9, 3) := by decide +kernel
theorem dX10_purseOf_4 : decode cX10_purseOf 4 = .ok (.bipush 18, 2) := by decide +kernel
theorem dX10_purseOf_6 : decode cX10_purseOf 6 = .ok (.iload_n 1, 1) := by decide +kernel
theorem dX10_purseOf_7 : decode cX10_purseOf 7 = .ok (.iadd, 1) := by decide +kernel
theorem dX10_purseOf_8 : decode cX10_purseOf 8 = .ok (.iaload, 1) := by decide +kernel
theorem dX10_purseOf_9 : decode cX10_purseOf 9 = .ok (.ireturn, 1) := by decide +kernel
theorem dX10_pointsInAll_0 : decode cX10_pointsInAll 0 = .ok (.aload_n 0, 1) := by decide +kernel
theorem dX10_pointsInAll_1 : decode cX10_pointsInAll 1 = .ok (.getfield 9, 3) := by decide +kernel
theorem dX10_pointsInAll_4 : decode cX10_pointsInAll 4 = .ok (.bipush 23, 2) := by decide +kernel
theorem dX10_pointsInAll_6 : decode cX10_pointsInAll 6 = .ok (.iload_n 1, 1) := by decide +kernel
theorem dX10_pointsInAll_7 : decode cX10_pointsInAll 7 = .ok (.iadd, 1) := by decide +kernel
theorem dX10_pointsInAll_8 : decode cX10_pointsInAll 8 = .ok (.iaload, 1) := by decide +kernel
theorem dX10_pointsInAll_9 : decode cX10_pointsInAll 9 = .ok (.bipush 10, 2) := by decide +kernel
theorem dX10_pointsInAll_11 : decode cX10_pointsInAll 11 = .ok (.aload_n 0, 1) := by decide +kernel
theorem dX10_pointsInAll_12 : decode cX10_pointsInAll 12 = .ok (.getfield 28, 3) := by decide +kernel
theorem dX10_pointsInAll_15 : decode cX10_pointsInAll 15 = .ok (.iload_n 1, 1) := by decide +kernel
theorem dX10_pointsInAll_16 : decode cX10_pointsInAll 16 = .ok (.iaload, 1) := by decide +kernel
theorem dX10_pointsInAll_17 : decode cX10_pointsInAll 17 = .ok (.imul, 1) := by decide +kernel
theorem dX10_pointsInAll_18 : decode cX10_pointsInAll 18 = .ok (.iadd, 1) := by decide +kernel
theorem dX10_pointsInAll_19 : decode cX10_pointsInAll 19 = .ok (.ireturn, 1) := by decide +kernel
theorem dX10_of_0 : decode cX10_of 0 = .ok (.iload_n 2, 1) := by decide +kernel
theorem dX10_of_1 : decode cX10_of 1 = .ok (.i2l, 1) := by decide +kernel
theorem dX10_of_2 : decode cX10_of 2 = .ok (.lconst 0, 1) := by decide +kernel
theorem dX10_of_3 : decode cX10_of 3 = .ok (.ldc2_w 147, 3) := by decide +kernel
theorem dX10_of_6 : decode cX10_of 6 = .ok (.invokestatic 105, 3) := by decide +kernel
theorem dX10_of_9 : decode cX10_of 9 = .ok (.ifCond .eq 41, 3) := by decide +kernel
theorem dX10_of_12 : decode cX10_of 12 = .ok (.aload_n 0, 1) := by decide +kernel
theorem dX10_of_13 : decode cX10_of 13 = .ok (.iload_n 1, 1) := by decide +kernel
theorem dX10_of_14 : decode cX10_of 14 = .ok (.invokevirtual 132, 3) := by decide +kernel
theorem dX10_of_17 : decode cX10_of 17 = .ok (.ifCond .ne 7, 3) := by decide +kernel
theorem dX10_of_20 : decode cX10_of 20 = .ok (.iconst (-1), 1) := by decide +kernel
theorem dX10_of_21 : decode cX10_of 21 = .ok (.goto 28, 3) := by decide +kernel
theorem dX10_of_24 : decode cX10_of 24 = .ok (.iload_n 2, 1) := by decide +kernel
theorem dX10_of_25 : decode cX10_of 25 = .ok (.iconst 3, 1) := by decide +kernel
theorem dX10_of_26 : decode cX10_of 26 = .ok (.if_icmp .ne 12, 3) := by decide +kernel
theorem dX10_of_29 : decode cX10_of 29 = .ok (.aload_n 0, 1) := by decide +kernel
theorem dX10_of_30 : decode cX10_of 30 = .ok (.getfield 22, 3) := by decide +kernel
theorem dX10_of_33 : decode cX10_of 33 = .ok (.iload_n 1, 1) := by decide +kernel
theorem dX10_of_34 : decode cX10_of 34 = .ok (.iaload, 1) := by decide +kernel
theorem dX10_of_35 : decode cX10_of 35 = .ok (.goto 14, 3) := by decide +kernel
theorem dX10_of_38 : decode cX10_of 38 = .ok (.aload_n 0, 1) := by decide +kernel
theorem dX10_of_39 : decode cX10_of 39 = .ok (.getfield 9, 3) := by decide +kernel
theorem dX10_of_42 : decode cX10_of 42 = .ok (.bipush 6, 2) := by decide +kernel
theorem dX10_of_44 : decode cX10_of 44 = .ok (.iload_n 2, 1) := by decide +kernel
theorem dX10_of_45 : decode cX10_of 45 = .ok (.imul, 1) := by decide +kernel
theorem dX10_of_46 : decode cX10_of 46 = .ok (.iload_n 1, 1) := by decide +kernel
theorem dX10_of_47 : decode cX10_of 47 = .ok (.iadd, 1) := by decide +kernel
theorem dX10_of_48 : decode cX10_of 48 = .ok (.iaload, 1) := by decide +kernel
theorem dX10_of_49 : decode cX10_of 49 = .ok (.ireturn, 1) := by decide +kernel
theorem dX10_of_50 : decode cX10_of 50 = .ok (.aload_n 0, 1) := by decide +kernel
theorem dX10_of_51 : decode cX10_of 51 = .ok (.iload_n 1, 1) := by decide +kernel
theorem dX10_of_52 : decode cX10_of 52 = .ok (.invokevirtual 144, 3) := by decide +kernel
theorem dX10_of_55 : decode cX10_of 55 = .ok (.ifCond .ne 5, 3) := by decide +kernel
theorem dX10_of_58 : decode cX10_of 58 = .ok (.iconst (-1), 1) := by decide +kernel
theorem dX10_of_59 : decode cX10_of 59 = .ok (.ireturn, 1) := by decide +kernel
theorem dX10_of_60 : decode cX10_of 60 = .ok (.iload_n 2, 1) := by decide +kernel
theorem dX10_of_61 : decode cX10_of 61 = .ok (.tableswitch 68 10 14 #[35, 42, 48, 54, 61], 35) := by decide +kernel
theorem dX10_of_96 : decode cX10_of 96 = .ok (.aload_n 0, 1) := by decide +kernel
theorem dX10_of_97 : decode cX10_of 97 = .ok (.getfield 25, 3) := by decide +kernel
theorem dX10_of_100 : decode cX10_of 100 = .ok (.iload_n 1, 1) := by decide +kernel
theorem dX10_of_101 : decode cX10_of 101 = .ok (.iaload, 1) := by decide +kernel
theorem dX10_of_102 : decode cX10_of 102 = .ok (.ireturn, 1) := by decide +kernel
theorem dX10_of_103 : decode cX10_of 103 = .ok (.aload_n 0, 1) := by decide +kernel
theorem dX10_of_104 : decode cX10_of 104 = .ok (.iload_n 1, 1) := by decide +kernel
theorem dX10_of_105 : decode cX10_of 105 = .ok (.invokevirtual 149, 3) := by decide +kernel
theorem dX10_of_108 : decode cX10_of 108 = .ok (.ireturn, 1) := by decide +kernel
theorem dX10_of_109 : decode cX10_of 109 = .ok (.aload_n 0, 1) := by decide +kernel
theorem dX10_of_110 : decode cX10_of 110 = .ok (.iload_n 1, 1) := by decide +kernel
theorem dX10_of_111 : decode cX10_of 111 = .ok (.invokevirtual 153, 3) := by decide +kernel
theorem dX10_of_114 : decode cX10_of 114 = .ok (.ireturn, 1) := by decide +kernel
theorem dX10_of_115 : decode cX10_of 115 = .ok (.aload_n 0, 1) := by decide +kernel
theorem dX10_of_116 : decode cX10_of 116 = .ok (.getfield 28, 3) := by decide +kernel
theorem dX10_of_119 : decode cX10_of 119 = .ok (.iload_n 1, 1) := by decide +kernel
theorem dX10_of_120 : decode cX10_of 120 = .ok (.iaload, 1) := by decide +kernel
theorem dX10_of_121 : decode cX10_of 121 = .ok (.ireturn, 1) := by decide +kernel
theorem dX10_of_122 : decode cX10_of 122 = .ok (.aload_n 0, 1) := by decide +kernel
theorem dX10_of_123 : decode cX10_of 123 = .ok (.getfield 31, 3) := by decide +kernel
theorem dX10_of_126 : decode cX10_of 126 = .ok (.iload_n 1, 1) := by decide +kernel
theorem dX10_of_127 : decode cX10_of 127 = .ok (.iaload, 1) := by decide +kernel
theorem dX10_of_128 : decode cX10_of 128 = .ok (.ireturn, 1) := by decide +kernel
theorem dX10_of_129 : decode cX10_of 129 = .ok (.iconst (-1), 1) := by decide +kernel
theorem dX10_of_130 : decode cX10_of 130 = .ok (.ireturn, 1) := by decide +kernel
theorem dX10_feed_0 : decode cX10_feed 0 = .ok (.iload_n 1, 1) := by decide +kernel
theorem dX10_feed_1 : decode cX10_feed 1 = .ok (.i2l, 1) := by decide +kernel
theorem dX10_feed_2 : decode cX10_feed 2 = .ok (.lconst 1, 1) := by decide +kernel
theorem dX10_feed_3 : decode cX10_feed 3 = .ok (.ldc2_w 156, 3) := by decide +kernel
theorem dX10_feed_6 : decode cX10_feed 6 = .ok (.invokestatic 105, 3) := by decide +kernel
theorem dX10_feed_9 : decode cX10_feed 9 = .ok (.ifCond .ne 5, 3) := by decide +kernel
theorem dX10_feed_12 : decode cX10_feed 12 = .ok (.iconst (-1), 1) := by decide +kernel
theorem dX10_feed_13 : decode cX10_feed 13 = .ok (.ireturn, 1) := by decide +kernel
theorem dX10_feed_14 : decode cX10_feed 14 = .ok (.aload_n 0, 1) := by decide +kernel
theorem dX10_feed_15 : decode cX10_feed 15 = .ok (.getfield 158, 3) := by decide +kernel
theorem dX10_feed_18 : decode cX10_feed 18 = .ok (.iload_n 1, 1) := by decide +kernel
theorem dX10_feed_19 : decode cX10_feed 19 = .ok (.iadd, 1) := by decide +kernel
theorem dX10_feed_20 : decode cX10_feed 20 = .ok (.bipush 120, 2) := by decide +kernel
theorem dX10_feed_22 : decode cX10_feed 22 = .ok (.if_icmp .le 6, 3) := by decide +kernel
theorem dX10_feed_25 : decode cX10_feed 25 = .ok (.bipush (-3), 2) := by decide +kernel
theorem dX10_feed_27 : decode cX10_feed 27 = .ok (.ireturn, 1) := by decide +kernel
theorem dX10_feed_28 : decode cX10_feed 28 = .ok (.iconst 0, 1) := by decide +kernel
theorem dX10_feed_29 : decode cX10_feed 29 = .ok (.istore_n 3, 1) := by decide +kernel
theorem dX10_feed_30 : decode cX10_feed 30 = .ok (.iload_n 3, 1) := by decide +kernel
theorem dX10_feed_31 : decode cX10_feed 31 = .ok (.iload_n 1, 1) := by decide +kernel
theorem dX10_feed_32 : decode cX10_feed 32 = .ok (.if_icmp .ge 38, 3) := by decide +kernel
theorem dX10_feed_35 : decode cX10_feed 35 = .ok (.aload_n 0, 1) := by decide +kernel
theorem dX10_feed_36 : decode cX10_feed 36 = .ok (.getfield 37, 3) := by decide +kernel
theorem dX10_feed_39 : decode cX10_feed 39 = .ok (.aload_n 0, 1) := by decide +kernel
theorem dX10_feed_40 : decode cX10_feed 40 = .ok (.getfield 158, 3) := by decide +kernel
theorem dX10_feed_43 : decode cX10_feed 43 = .ok (.iload_n 2, 1) := by decide +kernel
theorem dX10_feed_44 : decode cX10_feed 44 = .ok (.bipush 8, 2) := by decide +kernel
theorem dX10_feed_46 : decode cX10_feed 46 = .ok (.iload_n 3, 1) := by decide +kernel
theorem dX10_feed_47 : decode cX10_feed 47 = .ok (.imul, 1) := by decide +kernel
theorem dX10_feed_48 : decode cX10_feed 48 = .ok (.ishr, 1) := by decide +kernel
theorem dX10_feed_49 : decode cX10_feed 49 = .ok (.sipush 255, 3) := by decide +kernel
theorem dX10_feed_52 : decode cX10_feed 52 = .ok (.iand, 1) := by decide +kernel
theorem dX10_feed_53 : decode cX10_feed 53 = .ok (.iastore, 1) := by decide +kernel
theorem dX10_feed_54 : decode cX10_feed 54 = .ok (.aload_n 0, 1) := by decide +kernel
theorem dX10_feed_55 : decode cX10_feed 55 = .ok (.dup, 1) := by decide +kernel
theorem dX10_feed_56 : decode cX10_feed 56 = .ok (.getfield 158, 3) := by decide +kernel
theorem dX10_feed_59 : decode cX10_feed 59 = .ok (.iconst 1, 1) := by decide +kernel
theorem dX10_feed_60 : decode cX10_feed 60 = .ok (.iadd, 1) := by decide +kernel
theorem dX10_feed_61 : decode cX10_feed 61 = .ok (.putfield 158, 3) := by decide +kernel
theorem dX10_feed_64 : decode cX10_feed 64 = .ok (.iinc 3 1, 3) := by decide +kernel
theorem dX10_feed_67 : decode cX10_feed 67 = .ok (.goto (-37), 3) := by decide +kernel
theorem dX10_feed_70 : decode cX10_feed 70 = .ok (.aload_n 0, 1) := by decide +kernel
theorem dX10_feed_71 : decode cX10_feed 71 = .ok (.getfield 158, 3) := by decide +kernel
theorem dX10_feed_74 : decode cX10_feed 74 = .ok (.ireturn, 1) := by decide +kernel
theorem dX10_byteAt_0 : decode cX10_byteAt 0 = .ok (.aload_n 0, 1) := by decide +kernel
theorem dX10_byteAt_1 : decode cX10_byteAt 1 = .ok (.getfield 161, 3) := by decide +kernel
theorem dX10_byteAt_4 : decode cX10_byteAt 4 = .ok (.aload_n 0, 1) := by decide +kernel
theorem dX10_byteAt_5 : decode cX10_byteAt 5 = .ok (.getfield 164, 3) := by decide +kernel
theorem dX10_byteAt_8 : decode cX10_byteAt 8 = .ok (.if_icmp .ge 39, 3) := by decide +kernel
theorem dX10_byteAt_11 : decode cX10_byteAt 11 = .ok (.aload_n 0, 1) := by decide +kernel
theorem dX10_byteAt_12 : decode cX10_byteAt 12 = .ok (.getfield 167, 3) := by decide +kernel
theorem dX10_byteAt_15 : decode cX10_byteAt 15 = .ok (.ifCond .ge 15, 3) := by decide +kernel
theorem dX10_byteAt_18 : decode cX10_byteAt 18 = .ok (.aload_n 0, 1) := by decide +kernel
theorem dX10_byteAt_19 : decode cX10_byteAt 19 = .ok (.getfield 37, 3) := by decide +kernel
theorem dX10_byteAt_22 : decode cX10_byteAt 22 = .ok (.aload_n 0, 1) := by decide +kernel
theorem dX10_byteAt_23 : decode cX10_byteAt 23 = .ok (.getfield 161, 3) := by decide +kernel
theorem dX10_byteAt_26 : decode cX10_byteAt 26 = .ok (.iaload, 1) := by decide +kernel
theorem dX10_byteAt_27 : decode cX10_byteAt 27 = .ok (.goto 21, 3) := by decide +kernel
theorem dX10_byteAt_30 : decode cX10_byteAt 30 = .ok (.aload_n 0, 1) := by decide +kernel
theorem dX10_byteAt_31 : decode cX10_byteAt 31 = .ok (.getfield 40, 3) := by decide +kernel
theorem dX10_byteAt_34 : decode cX10_byteAt 34 = .ok (.aload_n 0, 1) := by decide +kernel
theorem dX10_byteAt_35 : decode cX10_byteAt 35 = .ok (.getfield 167, 3) := by decide +kernel
theorem dX10_byteAt_38 : decode cX10_byteAt 38 = .ok (.aload_n 0, 1) := by decide +kernel
theorem dX10_byteAt_39 : decode cX10_byteAt 39 = .ok (.getfield 161, 3) := by decide +kernel
theorem dX10_byteAt_42 : decode cX10_byteAt 42 = .ok (.iadd, 1) := by decide +kernel
theorem dX10_byteAt_43 : decode cX10_byteAt 43 = .ok (.iaload, 1) := by decide +kernel
theorem dX10_byteAt_44 : decode cX10_byteAt 44 = .ok (.goto 4, 3) := by decide +kernel
theorem dX10_byteAt_47 : decode cX10_byteAt 47 = .ok (.iconst 0, 1) := by decide +kernel
theorem dX10_byteAt_48 : decode cX10_byteAt 48 = .ok (.ireturn, 1) := by decide +kernel
theorem dX10_fails_0 : decode cX10_fails 0 = .ok (.aload_n 0, 1) := by decide +kernel
theorem dX10_fails_1 : decode cX10_fails 1 = .ok (.aload_n 0, 1) := by decide +kernel
theorem dX10_fails_2 : decode cX10_fails 2 = .ok (.getfield 170, 3) := by decide +kernel
theorem dX10_fails_5 : decode cX10_fails 5 = .ok (.ifCond .ge 10, 3) := by decide +kernel
theorem dX10_fails_8 : decode cX10_fails 8 = .ok (.aload_n 0, 1) := by decide +kernel
theorem dX10_fails_9 : decode cX10_fails 9 = .ok (.getfield 161, 3) := by decide +kernel
theorem dX10_fails_12 : decode cX10_fails 12 = .ok (.goto 7, 3) := by decide +kernel
theorem dX10_fails_15 : decode cX10_fails 15 = .ok (.aload_n 0, 1) := by decide +kernel
theorem dX10_fails_16 : decode cX10_fails 16 = .ok (.getfield 170, 3) := by decide +kernel
theorem dX10_fails_19 : decode cX10_fails 19 = .ok (.putfield 170, 3) := by decide +kernel
theorem dX10_fails_22 : decode cX10_fails 22 = .ok (.iconst 0, 1) := by decide +kernel
theorem dX10_fails_23 : decode cX10_fails 23 = .ok (.ireturn, 1) := by decide +kernel
theorem dX10_takes_0 : decode cX10_takes 0 = .ok (.aload_n 0, 1) := by decide +kernel
theorem dX10_takes_1 : decode cX10_takes 1 = .ok (.getfield 170, 3) := by decide +kernel
theorem dX10_takes_4 : decode cX10_takes 4 = .ok (.ifCond .ge 11, 3) := by decide +kernel
theorem dX10_takes_7 : decode cX10_takes 7 = .ok (.aload_n 0, 1) := by decide +kernel
theorem dX10_takes_8 : decode cX10_takes 8 = .ok (.invokevirtual 173, 3) := by decide +kernel
theorem dX10_takes_11 : decode cX10_takes 11 = .ok (.iload_n 1, 1) := by decide +kernel
theorem dX10_takes_12 : decode cX10_takes 12 = .ok (.if_icmp .eq 5, 3) := by decide +kernel
theorem dX10_takes_15 : decode cX10_takes 15 = .ok (.iconst 0, 1) := by decide +kernel
theorem dX10_takes_16 : decode cX10_takes 16 = .ok (.ireturn, 1) := by decide +kernel
theorem dX10_takes_17 : decode cX10_takes 17 = .ok (.aload_n 0, 1) := by decide +kernel
theorem dX10_takes_18 : decode cX10_takes 18 = .ok (.dup, 1) := by decide +kernel
theorem dX10_takes_19 : decode cX10_takes 19 = .ok (.getfield 161, 3) := by decide +kernel
theorem dX10_takes_22 : decode cX10_takes 22 = .ok (.iconst 1, 1) := by decide +kernel
theorem dX10_takes_23 : decode cX10_takes 23 = .ok (.iadd, 1) := by decide +kernel
theorem dX10_takes_24 : decode cX10_takes 24 = .ok (.putfield 161, 3) := by decide +kernel
theorem dX10_takes_27 : decode cX10_takes 27 = .ok (.iconst 1, 1) := by decide +kernel
theorem dX10_takes_28 : decode cX10_takes 28 = .ok (.ireturn, 1) := by decide +kernel
theorem dX10_either_0 : decode cX10_either 0 = .ok (.aload_n 0, 1) := by decide +kernel
theorem dX10_either_1 : decode cX10_either 1 = .ok (.invokevirtual 177, 3) := by decide +kernel
theorem dX10_either_4 : decode cX10_either 4 = .ok (.istore_n 1, 1) := by decide +kernel
theorem dX10_either_5 : decode cX10_either 5 = .ok (.aload_n 0, 1) := by decide +kernel
theorem dX10_either_6 : decode cX10_either 6 = .ok (.bipush 124, 2) := by decide +kernel
theorem dX10_either_8 : decode cX10_either 8 = .ok (.invokevirtual 180, 3) := by decide +kernel
theorem dX10_either_11 : decode cX10_either 11 = .ok (.ifCond .eq 25, 3) := by decide +kernel
theorem dX10_either_14 : decode cX10_either 14 = .ok (.aload_n 0, 1) := by decide +kernel
theorem dX10_either_15 : decode cX10_either 15 = .ok (.invokevirtual 177, 3) := by decide +kernel
theorem dX10_either_18 : decode cX10_either 18 = .ok (.istore_n 2, 1) := by decide +kernel
theorem dX10_either_19 : decode cX10_either 19 = .ok (.iload_n 1, 1) := by decide +kernel
theorem dX10_either_20 : decode cX10_either 20 = .ok (.ifCond .ne 7, 3) := by decide +kernel
theorem dX10_either_23 : decode cX10_either 23 = .ok (.iload_n 2, 1) := by decide +kernel
theorem dX10_either_24 : decode cX10_either 24 = .ok (.ifCond .eq 7, 3) := by decide +kernel
theorem dX10_either_27 : decode cX10_either 27 = .ok (.iconst 1, 1) := by decide +kernel
theorem dX10_either_28 : decode cX10_either 28 = .ok (.goto 4, 3) := by decide +kernel
theorem dX10_either_31 : decode cX10_either 31 = .ok (.iconst 0, 1) := by decide +kernel
theorem dX10_either_32 : decode cX10_either 32 = .ok (.istore_n 1, 1) := by decide +kernel
theorem dX10_either_33 : decode cX10_either 33 = .ok (.goto (-28), 3) := by decide +kernel
theorem dX10_either_36 : decode cX10_either 36 = .ok (.iload_n 1, 1) := by decide +kernel
theorem dX10_either_37 : decode cX10_either 37 = .ok (.ireturn, 1) := by decide +kernel
theorem dX10_both_0 : decode cX10_both 0 = .ok (.aload_n 0, 1) := by decide +kernel
theorem dX10_both_1 : decode cX10_both 1 = .ok (.invokevirtual 182, 3) := by decide +kernel
theorem dX10_both_4 : decode cX10_both 4 = .ok (.istore_n 1, 1) := by decide +kernel
theorem dX10_both_5 : decode cX10_both 5 = .ok (.aload_n 0, 1) := by decide +kernel
theorem dX10_both_6 : decode cX10_both 6 = .ok (.bipush 38, 2) := by decide +kernel
theorem dX10_both_8 : decode cX10_both 8 = .ok (.invokevirtual 180, 3) := by decide +kernel
theorem dX10_both_11 : decode cX10_both 11 = .ok (.ifCond .eq 25, 3) := by decide +kernel
theorem dX10_both_14 : decode cX10_both 14 = .ok (.aload_n 0, 1) := by decide +kernel
theorem dX10_both_15 : decode cX10_both 15 = .ok (.invokevirtual 182, 3) := by decide +kernel
theorem dX10_both_18 : decode cX10_both 18 = .ok (.istore_n 2, 1) := by decide +kernel
theorem dX10_both_19 : decode cX10_both 19 = .ok (.iload_n 1, 1) := by decide +kernel
theorem dX10_both_20 : decode cX10_both 20 = .ok (.ifCond .eq 11, 3) := by decide +kernel
theorem dX10_both_23 : decode cX10_both 23 = .ok (.iload_n 2, 1) := by decide +kernel
theorem dX10_both_24 : decode cX10_both 24 = .ok (.ifCond .eq 7, 3) := by decide +kernel
theorem dX10_both_27 : decode cX10_both 27 = .ok (.iconst 1, 1) := by decide +kernel
theorem dX10_both_28 : decode cX10_both 28 = .ok (.goto 4, 3) := by decide +kernel
theorem dX10_both_31 : decode cX10_both 31 = .ok (.iconst 0, 1) := by decide +kernel
theorem dX10_both_32 : decode cX10_both 32 = .ok (.istore_n 1, 1) := by decide +kernel
theorem dX10_both_33 : decode cX10_both 33 = .ok (.goto (-28), 3) := by decide +kernel
theorem dX10_both_36 : decode cX10_both 36 = .ok (.iload_n 1, 1) := by decide +kernel
theorem dX10_both_37 : decode cX10_both 37 = .ok (.ireturn, 1) := by decide +kernel
theorem dX10_compared_0 : decode cX10_compared 0 = .ok (.aload_n 0, 1) := by decide +kernel
theorem dX10_compared_1 : decode cX10_compared 1 = .ok (.invokevirtual 185, 3) := by decide +kernel
theorem dX10_compared_4 : decode cX10_compared 4 = .ok (.istore_n 1, 1) := by decide +kernel
theorem dX10_compared_5 : decode cX10_compared 5 = .ok (.aload_n 0, 1) := by decide +kernel
theorem dX10_compared_6 : decode cX10_compared 6 = .ok (.invokevirtual 173, 3) := by decide +kernel
theorem dX10_compared_9 : decode cX10_compared 9 = .ok (.istore_n 2, 1) := by decide +kernel
theorem dX10_compared_10 : decode cX10_compared 10 = .ok (.aload_n 0, 1) := by decide +kernel
theorem dX10_compared_11 : decode cX10_compared 11 = .ok (.getfield 170, 3) := by decide +kernel
theorem dX10_compared_14 : decode cX10_compared 14 = .ok (.ifCond .ge 21, 3) := by decide +kernel
theorem dX10_compared_17 : decode cX10_compared 17 = .ok (.iload_n 2, 1) := by decide +kernel
theorem dX10_compared_18 : decode cX10_compared 18 = .ok (.bipush 60, 2) := by decide +kernel
theorem dX10_compared_20 : decode cX10_compared 20 = .ok (.if_icmp .eq 17, 3) := by decide +kernel
theorem dX10_compared_23 : decode cX10_compared 23 = .ok (.iload_n 2, 1) := by decide +kernel
theorem dX10_compared_24 : decode cX10_compared 24 = .ok (.bipush 61, 2) := by decide +kernel
theorem dX10_compared_26 : decode cX10_compared 26 = .ok (.if_icmp .eq 11, 3) := by decide +kernel
theorem dX10_compared_29 : decode cX10_compared 29 = .ok (.iload_n 2, 1) := by decide +kernel
theorem dX10_compared_30 : decode cX10_compared 30 = .ok (.bipush 62, 2) := by decide +kernel
theorem dX10_compared_32 : decode cX10_compared 32 = .ok (.if_icmp .eq 5, 3) := by decide +kernel
theorem dX10_compared_35 : decode cX10_compared 35 = .ok (.iload_n 1, 1) := by decide +kernel
theorem dX10_compared_36 : decode cX10_compared 36 = .ok (.ireturn, 1) := by decide +kernel
theorem dX10_compared_37 : decode cX10_compared 37 = .ok (.aload_n 0, 1) := by decide +kernel
theorem dX10_compared_38 : decode cX10_compared 38 = .ok (.dup, 1) := by decide +kernel
theorem dX10_compared_39 : decode cX10_compared 39 = .ok (.getfield 161, 3) := by decide +kernel
theorem dX10_compared_42 : decode cX10_compared 42 = .ok (.iconst 1, 1) := by decide +kernel
theorem dX10_compared_43 : decode cX10_compared 43 = .ok (.iadd, 1) := by decide +kernel
theorem dX10_compared_44 : decode cX10_compared 44 = .ok (.putfield 161, 3) := by decide +kernel
theorem dX10_compared_47 : decode cX10_compared 47 = .ok (.aload_n 0, 1) := by decide +kernel
theorem dX10_compared_48 : decode cX10_compared 48 = .ok (.invokevirtual 185, 3) := by decide +kernel
theorem dX10_compared_51 : decode cX10_compared 51 = .ok (.istore_n 3, 1) := by decide +kernel
theorem dX10_compared_52 : decode cX10_compared 52 = .ok (.iload_n 2, 1) := by decide +kernel
theorem dX10_compared_53 : decode cX10_compared 53 = .ok (.bipush 60, 2) := by decide +kernel
theorem dX10_compared_55 : decode cX10_compared 55 = .ok (.if_icmp .ne 11, 3) := by decide +kernel
theorem dX10_compared_58 : decode cX10_compared 58 = .ok (.iload_n 1, 1) := by decide +kernel
theorem dX10_compared_59 : decode cX10_compared 59 = .ok (.iload_n 3, 1) := by decide +kernel
theorem dX10_compared_60 : decode cX10_compared 60 = .ok (.if_icmp .ge 29, 3) := by decide +kernel
theorem dX10_compared_63 : decode cX10_compared 63 = .ok (.goto 22, 3) := by decide +kernel
theorem dX10_compared_66 : decode cX10_compared 66 = .ok (.iload_n 2, 1) := by decide +kernel
theorem dX10_compared_67 : decode cX10_compared 67 = .ok (.bipush 61, 2) := by decide +kernel
theorem dX10_compared_69 : decode cX10_compared 69 = .ok (.if_icmp .ne 11, 3) := by decide +kernel
theorem dX10_compared_72 : decode cX10_compared 72 = .ok (.iload_n 1, 1) := by decide +kernel
theorem dX10_compared_73 : decode cX10_compared 73 = .ok (.iload_n 3, 1) := by decide +kernel
theorem dX10_compared_74 : decode cX10_compared 74 = .ok (.if_icmp .ne 15, 3) := by decide +kernel
theorem dX10_compared_77 : decode cX10_compared 77 = .ok (.goto 8, 3) := by decide +kernel
theorem dX10_compared_80 : decode cX10_compared 80 = .ok (.iload_n 1, 1) := by decide +kernel
theorem dX10_compared_81 : decode cX10_compared 81 = .ok (.iload_n 3, 1) := by decide +kernel
theorem dX10_compared_82 : decode cX10_compared 82 = .ok (.if_icmp .le 7, 3) := by decide +kernel
theorem dX10_compared_85 : decode cX10_compared 85 = .ok (.iconst 1, 1) := by decide +kernel
theorem dX10_compared_86 : decode cX10_compared 86 = .ok (.goto 4, 3) := by decide +kernel
theorem dX10_compared_89 : decode cX10_compared 89 = .ok (.iconst 0, 1) := by decide +kernel
theorem dX10_compared_90 : decode cX10_compared 90 = .ok (.ireturn, 1) := by decide +kernel
theorem dX10_sums_0 : decode cX10_sums 0 = .ok (.aload_n 0, 1) := by decide +kernel
theorem dX10_sums_1 : decode cX10_sums 1 = .ok (.invokevirtual 188, 3) := by decide +kernel
theorem dX10_sums_4 : decode cX10_sums 4 = .ok (.istore_n 1, 1) := by decide +kernel
theorem dX10_sums_5 : decode cX10_sums 5 = .ok (.aload_n 0, 1) := by decide +kernel
theorem dX10_sums_6 : decode cX10_sums 6 = .ok (.getfield 170, 3) := by decide +kernel
theorem dX10_sums_9 : decode cX10_sums 9 = .ok (.ifCond .ge 68, 3) := by decide +kernel
theorem dX10_sums_12 : decode cX10_sums 12 = .ok (.aload_n 0, 1) := by decide +kernel
theorem dX10_sums_13 : decode cX10_sums 13 = .ok (.invokevirtual 173, 3) := by decide +kernel
theorem dX10_sums_16 : decode cX10_sums 16 = .ok (.bipush 43, 2) := by decide +kernel
theorem dX10_sums_18 : decode cX10_sums 18 = .ok (.if_icmp .eq 12, 3) := by decide +kernel
theorem dX10_sums_21 : decode cX10_sums 21 = .ok (.aload_n 0, 1) := by decide +kernel
theorem dX10_sums_22 : decode cX10_sums 22 = .ok (.invokevirtual 173, 3) := by decide +kernel
theorem dX10_sums_25 : decode cX10_sums 25 = .ok (.bipush 45, 2) := by decide +kernel
theorem dX10_sums_27 : decode cX10_sums 27 = .ok (.if_icmp .ne 50, 3) := by decide +kernel
theorem dX10_sums_30 : decode cX10_sums 30 = .ok (.aload_n 0, 1) := by decide +kernel
theorem dX10_sums_31 : decode cX10_sums 31 = .ok (.invokevirtual 173, 3) := by decide +kernel
theorem dX10_sums_34 : decode cX10_sums 34 = .ok (.bipush 43, 2) := by decide +kernel
theorem dX10_sums_36 : decode cX10_sums 36 = .ok (.if_icmp .ne 7, 3) := by decide +kernel
theorem dX10_sums_39 : decode cX10_sums 39 = .ok (.iconst 1, 1) := by decide +kernel
theorem dX10_sums_40 : decode cX10_sums 40 = .ok (.goto 4, 3) := by decide +kernel
theorem dX10_sums_43 : decode cX10_sums 43 = .ok (.iconst 0, 1) := by decide +kernel
theorem dX10_sums_44 : decode cX10_sums 44 = .ok (.istore_n 2, 1) := by decide +kernel
theorem dX10_sums_45 : decode cX10_sums 45 = .ok (.aload_n 0, 1) := by decide +kernel
theorem dX10_sums_46 : decode cX10_sums 46 = .ok (.dup, 1) := by decide +kernel
theorem dX10_sums_47 : decode cX10_sums 47 = .ok (.getfield 161, 3) := by decide +kernel
theorem dX10_sums_50 : decode cX10_sums 50 = .ok (.iconst 1, 1) := by decide +kernel
theorem dX10_sums_51 : decode cX10_sums 51 = .ok (.iadd, 1) := by decide +kernel
theorem dX10_sums_52 : decode cX10_sums 52 = .ok (.putfield 161, 3) := by decide +kernel
theorem dX10_sums_55 : decode cX10_sums 55 = .ok (.aload_n 0, 1) := by decide +kernel
theorem dX10_sums_56 : decode cX10_sums 56 = .ok (.invokevirtual 188, 3) := by decide +kernel
theorem dX10_sums_59 : decode cX10_sums 59 = .ok (.istore_n 3, 1) := by decide +kernel
theorem dX10_sums_60 : decode cX10_sums 60 = .ok (.iload_n 2, 1) := by decide +kernel
theorem dX10_sums_61 : decode cX10_sums 61 = .ok (.ifCond .eq 9, 3) := by decide +kernel
theorem dX10_sums_64 : decode cX10_sums 64 = .ok (.iload_n 1, 1) := by decide +kernel
theorem dX10_sums_65 : decode cX10_sums 65 = .ok (.iload_n 3, 1) := by decide +kernel
theorem dX10_sums_66 : decode cX10_sums 66 = .ok (.iadd, 1) := by decide +kernel
theorem dX10_sums_67 : decode cX10_sums 67 = .ok (.goto 6, 3) := by decide +kernel
theorem dX10_sums_70 : decode cX10_sums 70 = .ok (.iload_n 1, 1) := by decide +kernel
theorem dX10_sums_71 : decode cX10_sums 71 = .ok (.iload_n 3, 1) := by decide +kernel
theorem dX10_sums_72 : decode cX10_sums 72 = .ok (.isub, 1) := by decide +kernel
theorem dX10_sums_73 : decode cX10_sums 73 = .ok (.istore_n 1, 1) := by decide +kernel
theorem dX10_sums_74 : decode cX10_sums 74 = .ok (.goto (-69), 3) := by decide +kernel
theorem dX10_sums_77 : decode cX10_sums 77 = .ok (.iload_n 1, 1) := by decide +kernel
theorem dX10_sums_78 : decode cX10_sums 78 = .ok (.ireturn, 1) := by decide +kernel
theorem dX10_product_0 : decode cX10_product 0 = .ok (.aload_n 0, 1) := by decide +kernel
theorem dX10_product_1 : decode cX10_product 1 = .ok (.invokevirtual 191, 3) := by decide +kernel
theorem dX10_product_4 : decode cX10_product 4 = .ok (.istore_n 1, 1) := by decide +kernel
theorem dX10_product_5 : decode cX10_product 5 = .ok (.aload_n 0, 1) := by decide +kernel
theorem dX10_product_6 : decode cX10_product 6 = .ok (.invokevirtual 173, 3) := by decide +kernel
theorem dX10_product_9 : decode cX10_product 9 = .ok (.istore_n 2, 1) := by decide +kernel
theorem dX10_product_10 : decode cX10_product 10 = .ok (.aload_n 0, 1) := by decide +kernel
theorem dX10_product_11 : decode cX10_product 11 = .ok (.getfield 170, 3) := by decide +kernel
theorem dX10_product_14 : decode cX10_product 14 = .ok (.ifCond .ge 80, 3) := by decide +kernel
theorem dX10_product_17 : decode cX10_product 17 = .ok (.iload_n 2, 1) := by decide +kernel
theorem dX10_product_18 : decode cX10_product 18 = .ok (.bipush 42, 2) := by decide +kernel
theorem dX10_product_20 : decode cX10_product 20 = .ok (.if_icmp .eq 15, 3) := by decide +kernel
theorem dX10_product_23 : decode cX10_product 23 = .ok (.iload_n 2, 1) := by decide +kernel
theorem dX10_product_24 : decode cX10_product 24 = .ok (.bipush 47, 2) := by decide +kernel
theorem dX10_product_26 : decode cX10_product 26 = .ok (.if_icmp .eq 9, 3) := by decide +kernel
theorem dX10_product_29 : decode cX10_product 29 = .ok (.iload_n 2, 1) := by decide +kernel
theorem dX10_product_30 : decode cX10_product 30 = .ok (.bipush 37, 2) := by decide +kernel
theorem dX10_product_32 : decode cX10_product 32 = .ok (.if_icmp .ne 62, 3) := by decide +kernel
theorem dX10_product_35 : decode cX10_product 35 = .ok (.aload_n 0, 1) := by decide +kernel
theorem dX10_product_36 : decode cX10_product 36 = .ok (.dup, 1) := by decide +kernel
theorem dX10_product_37 : decode cX10_product 37 = .ok (.getfield 161, 3) := by decide +kernel
theorem dX10_product_40 : decode cX10_product 40 = .ok (.iconst 1, 1) := by decide +kernel
theorem dX10_product_41 : decode cX10_product 41 = .ok (.iadd, 1) := by decide +kernel
theorem dX10_product_42 : decode cX10_product 42 = .ok (.putfield 161, 3) := by decide +kernel
theorem dX10_product_45 : decode cX10_product 45 = .ok (.aload_n 0, 1) := by decide +kernel
theorem dX10_product_46 : decode cX10_product 46 = .ok (.invokevirtual 191, 3) := by decide +kernel
theorem dX10_product_49 : decode cX10_product 49 = .ok (.istore_n 3, 1) := by decide +kernel
theorem dX10_product_50 : decode cX10_product 50 = .ok (.iload_n 2, 1) := by decide +kernel
theorem dX10_product_51 : decode cX10_product 51 = .ok (.bipush 42, 2) := by decide +kernel
theorem dX10_product_53 : decode cX10_product 53 = .ok (.if_icmp .ne 9, 3) := by decide +kernel
theorem dX10_product_56 : decode cX10_product 56 = .ok (.iload_n 1, 1) := by decide +kernel
theorem dX10_product_57 : decode cX10_product 57 = .ok (.iload_n 3, 1) := by decide +kernel
theorem dX10_product_58 : decode cX10_product 58 = .ok (.imul, 1) := by decide +kernel
theorem dX10_product_59 : decode cX10_product 59 = .ok (.goto 26, 3) := by decide +kernel
theorem dX10_product_62 : decode cX10_product 62 = .ok (.iload_n 3, 1) := by decide +kernel
theorem dX10_product_63 : decode cX10_product 63 = .ok (.ifCond .ne 7, 3) := by decide +kernel
theorem dX10_product_66 : decode cX10_product 66 = .ok (.iconst 0, 1) := by decide +kernel
theorem dX10_product_67 : decode cX10_product 67 = .ok (.goto 18, 3) := by decide +kernel
theorem dX10_product_70 : decode cX10_product 70 = .ok (.iload_n 2, 1) := by decide +kernel
theorem dX10_product_71 : decode cX10_product 71 = .ok (.bipush 47, 2) := by decide +kernel
theorem dX10_product_73 : decode cX10_product 73 = .ok (.if_icmp .ne 9, 3) := by decide +kernel
theorem dX10_product_76 : decode cX10_product 76 = .ok (.iload_n 1, 1) := by decide +kernel
theorem dX10_product_77 : decode cX10_product 77 = .ok (.iload_n 3, 1) := by decide +kernel
theorem dX10_product_78 : decode cX10_product 78 = .ok (.idiv, 1) := by decide +kernel
theorem dX10_product_79 : decode cX10_product 79 = .ok (.goto 6, 3) := by decide +kernel
theorem dX10_product_82 : decode cX10_product 82 = .ok (.iload_n 1, 1) := by decide +kernel
theorem dX10_product_83 : decode cX10_product 83 = .ok (.iload_n 3, 1) := by decide +kernel
theorem dX10_product_84 : decode cX10_product 84 = .ok (.irem, 1) := by decide +kernel
theorem dX10_product_85 : decode cX10_product 85 = .ok (.istore_n 1, 1) := by decide +kernel
theorem dX10_product_86 : decode cX10_product 86 = .ok (.aload_n 0, 1) := by decide +kernel
theorem dX10_product_87 : decode cX10_product 87 = .ok (.invokevirtual 173, 3) := by decide +kernel
theorem dX10_product_90 : decode cX10_product 90 = .ok (.istore_n 2, 1) := by decide +kernel
theorem dX10_product_91 : decode cX10_product 91 = .ok (.goto (-81), 3) := by decide +kernel
theorem dX10_product_94 : decode cX10_product 94 = .ok (.iload_n 1, 1) := by decide +kernel
theorem dX10_product_95 : decode cX10_product 95 = .ok (.ireturn, 1) := by decide +kernel
theorem dX10_nameOf_0 : decode cX10_nameOf 0 = .ok (.iload_n 0, 1) := by decide +kernel
theorem dX10_nameOf_1 : decode cX10_nameOf 1 = .ok (.tableswitch 106 98 116 #[101, 95, 106, 106, 106, 106, 106, 106, 106, 93, 106, 106, 103, 106, 97, 106, 106, 99, 91], 91) := by decide +kernel
theorem dX10_nameOf_92 : decode cX10_nameOf 92 = .ok (.iconst 0, 1) := by decide +kernel
theorem dX10_nameOf_93 : decode cX10_nameOf 93 = .ok (.ireturn, 1) := by decide +kernel
theorem dX10_nameOf_94 : decode cX10_nameOf 94 = .ok (.iconst 1, 1) := by decide +kernel
theorem dX10_nameOf_95 : decode cX10_nameOf 95 = .ok (.ireturn, 1) := by decide +kernel
theorem dX10_nameOf_96 : decode cX10_nameOf 96 = .ok (.iconst 2, 1) := by decide +kernel
theorem dX10_nameOf_97 : decode cX10_nameOf 97 = .ok (.ireturn, 1) := by decide +kernel
theorem dX10_nameOf_98 : decode cX10_nameOf 98 = .ok (.iconst 3, 1) := by decide +kernel
theorem dX10_nameOf_99 : decode cX10_nameOf 99 = .ok (.ireturn, 1) := by decide +kernel
theorem dX10_nameOf_100 : decode cX10_nameOf 100 = .ok (.iconst 4, 1) := by decide +kernel
theorem dX10_nameOf_101 : decode cX10_nameOf 101 = .ok (.ireturn, 1) := by decide +kernel
theorem dX10_nameOf_102 : decode cX10_nameOf 102 = .ok (.iconst 5, 1) := by decide +kernel
theorem dX10_nameOf_103 : decode cX10_nameOf 103 = .ok (.ireturn, 1) := by decide +kernel
theorem dX10_nameOf_104 : decode cX10_nameOf 104 = .ok (.bipush 6, 2) := by decide +kernel
theorem dX10_nameOf_106 : decode cX10_nameOf 106 = .ok (.ireturn, 1) := by decide +kernel
theorem dX10_nameOf_107 : decode cX10_nameOf 107 = .ok (.iconst (-1), 1) := by decide +kernel
theorem dX10_nameOf_108 : decode cX10_nameOf 108 = .ok (.ireturn, 1) := by decide +kernel
theorem dX10_one_0 : decode cX10_one 0 = .ok (.aload_n 0, 1) := by decide +kernel
theorem dX10_one_1 : decode cX10_one 1 = .ok (.getfield 170, 3) := by decide +kernel
theorem dX10_one_4 : decode cX10_one 4 = .ok (.ifCond .lt 5, 3) := by decide +kernel
theorem dX10_one_7 : decode cX10_one 7 = .ok (.iconst 0, 1) := by decide +kernel
theorem dX10_one_8 : decode cX10_one 8 = .ok (.ireturn, 1) := by decide +kernel
theorem dX10_one_9 : decode cX10_one 9 = .ok (.aload_n 0, 1) := by decide +kernel
theorem dX10_one_10 : decode cX10_one 10 = .ok (.invokevirtual 173, 3) := by decide +kernel
theorem dX10_one_13 : decode cX10_one 13 = .ok (.istore_n 1, 1) := by decide +kernel
theorem dX10_one_14 : decode cX10_one 14 = .ok (.iload_n 1, 1) := by decide +kernel
theorem dX10_one_15 : decode cX10_one 15 = .ok (.bipush 33, 2) := by decide +kernel
theorem dX10_one_17 : decode cX10_one 17 = .ok (.if_icmp .eq 15, 3) := by decide +kernel
theorem dX10_one_20 : decode cX10_one 20 = .ok (.iload_n 1, 1) := by decide +kernel
theorem dX10_one_21 : decode cX10_one 21 = .ok (.bipush 45, 2) := by decide +kernel
theorem dX10_one_23 : decode cX10_one 23 = .ok (.if_icmp .eq 9, 3) := by decide +kernel
theorem dX10_one_26 : decode cX10_one 26 = .ok (.iload_n 1, 1) := by decide +kernel
theorem dX10_one_27 : decode cX10_one 27 = .ok (.bipush 40, 2) := by decide +kernel
theorem dX10_one_29 : decode cX10_one 29 = .ok (.if_icmp .ne 116, 3) := by decide +kernel
theorem dX10_one_32 : decode cX10_one 32 = .ok (.aload_n 0, 1) := by decide +kernel
theorem dX10_one_33 : decode cX10_one 33 = .ok (.getfield 194, 3) := by decide +kernel
theorem dX10_one_36 : decode cX10_one 36 = .ok (.bipush 6, 2) := by decide +kernel
theorem dX10_one_38 : decode cX10_one 38 = .ok (.if_icmp .ne 8, 3) := by decide +kernel
theorem dX10_one_41 : decode cX10_one 41 = .ok (.aload_n 0, 1) := by decide +kernel
theorem dX10_one_42 : decode cX10_one 42 = .ok (.invokevirtual 197, 3) := by decide +kernel
theorem dX10_one_45 : decode cX10_one 45 = .ok (.ireturn, 1) := by decide +kernel
theorem dX10_one_46 : decode cX10_one 46 = .ok (.aload_n 0, 1) := by decide +kernel
theorem dX10_one_47 : decode cX10_one 47 = .ok (.dup, 1) := by decide +kernel
theorem dX10_one_48 : decode cX10_one 48 = .ok (.getfield 194, 3) := by decide +kernel
theorem dX10_one_51 : decode cX10_one 51 = .ok (.iconst 1, 1) := by decide +kernel
theorem dX10_one_52 : decode cX10_one 52 = .ok (.iadd, 1) := by decide +kernel
theorem dX10_one_53 : decode cX10_one 53 = .ok (.putfield 194, 3) := by decide +kernel
theorem dX10_one_56 : decode cX10_one 56 = .ok (.aload_n 0, 1) := by decide +kernel
theorem dX10_one_57 : decode cX10_one 57 = .ok (.dup, 1) := by decide +kernel
theorem dX10_one_58 : decode cX10_one 58 = .ok (.getfield 161, 3) := by decide +kernel
theorem dX10_one_61 : decode cX10_one 61 = .ok (.iconst 1, 1) := by decide +kernel
theorem dX10_one_62 : decode cX10_one 62 = .ok (.iadd, 1) := by decide +kernel
theorem dX10_one_63 : decode cX10_one 63 = .ok (.putfield 161, 3) := by decide +kernel
theorem dX10_one_66 : decode cX10_one 66 = .ok (.iload_n 1, 1) := by decide +kernel
theorem dX10_one_67 : decode cX10_one 67 = .ok (.bipush 40, 2) := by decide +kernel
theorem dX10_one_69 : decode cX10_one 69 = .ok (.if_icmp .ne 10, 3) := by decide +kernel
theorem dX10_one_72 : decode cX10_one 72 = .ok (.aload_n 0, 1) := by decide +kernel
theorem dX10_one_73 : decode cX10_one 73 = .ok (.invokevirtual 200, 3) := by decide +kernel
theorem dX10_one_76 : decode cX10_one 76 = .ok (.goto 7, 3) := by decide +kernel
theorem dX10_one_79 : decode cX10_one 79 = .ok (.aload_n 0, 1) := by decide +kernel
theorem dX10_one_80 : decode cX10_one 80 = .ok (.invokevirtual 191, 3) := by decide +kernel
theorem dX10_one_83 : decode cX10_one 83 = .ok (.istore_n 2, 1) := by decide +kernel
theorem dX10_one_84 : decode cX10_one 84 = .ok (.iload_n 1, 1) := by decide +kernel
theorem dX10_one_85 : decode cX10_one 85 = .ok (.bipush 40, 2) := by decide +kernel
theorem dX10_one_87 : decode cX10_one 87 = .ok (.if_icmp .ne 17, 3) := by decide +kernel
theorem dX10_one_90 : decode cX10_one 90 = .ok (.aload_n 0, 1) := by decide +kernel
theorem dX10_one_91 : decode cX10_one 91 = .ok (.bipush 41, 2) := by decide +kernel
theorem dX10_one_93 : decode cX10_one 93 = .ok (.invokevirtual 180, 3) := by decide +kernel
theorem dX10_one_96 : decode cX10_one 96 = .ok (.ifCond .ne 8, 3) := by decide +kernel
theorem dX10_one_99 : decode cX10_one 99 = .ok (.aload_n 0, 1) := by decide +kernel
theorem dX10_one_100 : decode cX10_one 100 = .ok (.invokevirtual 197, 3) := by decide +kernel
theorem dX10_one_103 : decode cX10_one 103 = .ok (.ireturn, 1) := by decide +kernel
theorem dX10_one_104 : decode cX10_one 104 = .ok (.aload_n 0, 1) := by decide +kernel
theorem dX10_one_105 : decode cX10_one 105 = .ok (.dup, 1) := by decide +kernel
theorem dX10_one_106 : decode cX10_one 106 = .ok (.getfield 194, 3) := by decide +kernel
theorem dX10_one_109 : decode cX10_one 109 = .ok (.iconst 1, 1) := by decide +kernel
theorem dX10_one_110 : decode cX10_one 110 = .ok (.isub, 1) := by decide +kernel
theorem dX10_one_111 : decode cX10_one 111 = .ok (.putfield 194, 3) := by decide +kernel
theorem dX10_one_114 : decode cX10_one 114 = .ok (.iload_n 1, 1) := by decide +kernel
theorem dX10_one_115 : decode cX10_one 115 = .ok (.bipush 40, 2) := by decide +kernel
theorem dX10_one_117 : decode cX10_one 117 = .ok (.if_icmp .ne 7, 3) := by decide +kernel
theorem dX10_one_120 : decode cX10_one 120 = .ok (.iload_n 2, 1) := by decide +kernel
theorem dX10_one_121 : decode cX10_one 121 = .ok (.goto 23, 3) := by decide +kernel
theorem dX10_one_124 : decode cX10_one 124 = .ok (.iload_n 1, 1) := by decide +kernel
theorem dX10_one_125 : decode cX10_one 125 = .ok (.bipush 45, 2) := by decide +kernel
theorem dX10_one_127 : decode cX10_one 127 = .ok (.if_icmp .ne 8, 3) := by decide +kernel
theorem dX10_one_130 : decode cX10_one 130 = .ok (.iload_n 2, 1) := by decide +kernel
theorem dX10_one_131 : decode cX10_one 131 = .ok (.ineg, 1) := by decide +kernel
theorem dX10_one_132 : decode cX10_one 132 = .ok (.goto 12, 3) := by decide +kernel
theorem dX10_one_135 : decode cX10_one 135 = .ok (.iload_n 2, 1) := by decide +kernel
theorem dX10_one_136 : decode cX10_one 136 = .ok (.ifCond .ne 7, 3) := by decide +kernel
theorem dX10_one_139 : decode cX10_one 139 = .ok (.iconst 1, 1) := by decide +kernel
theorem dX10_one_140 : decode cX10_one 140 = .ok (.goto 4, 3) := by decide +kernel
theorem dX10_one_143 : decode cX10_one 143 = .ok (.iconst 0, 1) := by decide +kernel
theorem dX10_one_144 : decode cX10_one 144 = .ok (.ireturn, 1) := by decide +kernel
theorem dX10_one_145 : decode cX10_one 145 = .ok (.iload_n 1, 1) := by decide +kernel
theorem dX10_one_146 : decode cX10_one 146 = .ok (.invokestatic 203, 3) := by decide +kernel
theorem dX10_one_149 : decode cX10_one 149 = .ok (.istore_n 2, 1) := by decide +kernel
theorem dX10_one_150 : decode cX10_one 150 = .ok (.iload_n 2, 1) := by decide +kernel
theorem dX10_one_151 : decode cX10_one 151 = .ok (.ifCond .lt 20, 3) := by decide +kernel
theorem dX10_one_154 : decode cX10_one 154 = .ok (.aload_n 0, 1) := by decide +kernel
theorem dX10_one_155 : decode cX10_one 155 = .ok (.dup, 1) := by decide +kernel
theorem dX10_one_156 : decode cX10_one 156 = .ok (.getfield 161, 3) := by decide +kernel
theorem dX10_one_159 : decode cX10_one 159 = .ok (.iconst 1, 1) := by decide +kernel
theorem dX10_one_160 : decode cX10_one 160 = .ok (.iadd, 1) := by decide +kernel
theorem dX10_one_161 : decode cX10_one 161 = .ok (.putfield 161, 3) := by decide +kernel
theorem dX10_one_164 : decode cX10_one 164 = .ok (.aload_n 0, 1) := by decide +kernel
theorem dX10_one_165 : decode cX10_one 165 = .ok (.getfield 46, 3) := by decide +kernel
theorem dX10_one_168 : decode cX10_one 168 = .ok (.iload_n 2, 1) := by decide +kernel
theorem dX10_one_169 : decode cX10_one 169 = .ok (.iaload, 1) := by decide +kernel
theorem dX10_one_170 : decode cX10_one 170 = .ok (.ireturn, 1) := by decide +kernel
theorem dX10_one_171 : decode cX10_one 171 = .ok (.iconst 0, 1) := by decide +kernel
theorem dX10_one_172 : decode cX10_one 172 = .ok (.istore_n 3, 1) := by decide +kernel
theorem dX10_one_173 : decode cX10_one 173 = .ok (.iconst 0, 1) := by decide +kernel
theorem dX10_one_174 : decode cX10_one 174 = .ok (.istore 4, 2) := by decide +kernel
theorem dX10_one_176 : decode cX10_one 176 = .ok (.iload 4, 2) := by decide +kernel
theorem dX10_one_178 : decode cX10_one 178 = .ok (.iconst 4, 1) := by decide +kernel
theorem dX10_one_179 : decode cX10_one 179 = .ok (.if_icmp .ge 50, 3) := by decide +kernel
theorem dX10_one_182 : decode cX10_one 182 = .ok (.aload_n 0, 1) := by decide +kernel
theorem dX10_one_183 : decode cX10_one 183 = .ok (.invokevirtual 173, 3) := by decide +kernel
theorem dX10_one_186 : decode cX10_one 186 = .ok (.bipush 48, 2) := by decide +kernel
theorem dX10_one_188 : decode cX10_one 188 = .ok (.if_icmp .lt 41, 3) := by decide +kernel
theorem dX10_one_191 : decode cX10_one 191 = .ok (.aload_n 0, 1) := by decide +kernel
theorem dX10_one_192 : decode cX10_one 192 = .ok (.invokevirtual 173, 3) := by decide +kernel
theorem dX10_one_195 : decode cX10_one 195 = .ok (.bipush 57, 2) := by decide +kernel
theorem dX10_one_197 : decode cX10_one 197 = .ok (.if_icmp .gt 32, 3) := by decide +kernel
theorem dX10_one_200 : decode cX10_one 200 = .ok (.bipush 10, 2) := by decide +kernel
theorem dX10_one_202 : decode cX10_one 202 = .ok (.iload_n 3, 1) := by decide +kernel
theorem dX10_one_203 : decode cX10_one 203 = .ok (.imul, 1) := by decide +kernel
theorem dX10_one_204 : decode cX10_one 204 = .ok (.aload_n 0, 1) := by decide +kernel
theorem dX10_one_205 : decode cX10_one 205 = .ok (.invokevirtual 173, 3) := by decide +kernel
theorem dX10_one_208 : decode cX10_one 208 = .ok (.iadd, 1) := by decide +kernel
theorem dX10_one_209 : decode cX10_one 209 = .ok (.bipush 48, 2) := by decide +kernel
theorem dX10_one_211 : decode cX10_one 211 = .ok (.isub, 1) := by decide +kernel
theorem dX10_one_212 : decode cX10_one 212 = .ok (.istore_n 3, 1) := by decide +kernel
theorem dX10_one_213 : decode cX10_one 213 = .ok (.iinc 4 1, 3) := by decide +kernel
theorem dX10_one_216 : decode cX10_one 216 = .ok (.aload_n 0, 1) := by decide +kernel
theorem dX10_one_217 : decode cX10_one 217 = .ok (.dup, 1) := by decide +kernel
theorem dX10_one_218 : decode cX10_one 218 = .ok (.getfield 161, 3) := by decide +kernel
theorem dX10_one_221 : decode cX10_one 221 = .ok (.iconst 1, 1) := by decide +kernel
theorem dX10_one_222 : decode cX10_one 222 = .ok (.iadd, 1) := by decide +kernel
theorem dX10_one_223 : decode cX10_one 223 = .ok (.putfield 161, 3) := by decide +kernel
theorem dX10_one_226 : decode cX10_one 226 = .ok (.goto (-50), 3) := by decide +kernel
theorem dX10_one_229 : decode cX10_one 229 = .ok (.iload 4, 2) := by decide +kernel
theorem dX10_one_231 : decode cX10_one 231 = .ok (.ifCond .ne 10, 3) := by decide +kernel
theorem dX10_one_234 : decode cX10_one 234 = .ok (.aload_n 0, 1) := by decide +kernel
theorem dX10_one_235 : decode cX10_one 235 = .ok (.invokevirtual 197, 3) := by decide +kernel
theorem dX10_one_238 : decode cX10_one 238 = .ok (.goto 4, 3) := by decide +kernel
theorem dX10_one_241 : decode cX10_one 241 = .ok (.iload_n 3, 1) := by decide +kernel
theorem dX10_one_242 : decode cX10_one 242 = .ok (.ireturn, 1) := by decide +kernel
theorem dX10_workOut_0 : decode cX10_workOut 0 = .ok (.aload_n 0, 1) := by decide +kernel
theorem dX10_workOut_1 : decode cX10_workOut 1 = .ok (.iload_n 1, 1) := by decide +kernel
theorem dX10_workOut_2 : decode cX10_workOut 2 = .ok (.putfield 167, 3) := by decide +kernel
theorem dX10_workOut_5 : decode cX10_workOut 5 = .ok (.aload_n 0, 1) := by decide +kernel
theorem dX10_workOut_6 : decode cX10_workOut 6 = .ok (.iconst 0, 1) := by decide +kernel
theorem dX10_workOut_7 : decode cX10_workOut 7 = .ok (.putfield 161, 3) := by decide +kernel
theorem dX10_workOut_10 : decode cX10_workOut 10 = .ok (.aload_n 0, 1) := by decide +kernel
theorem dX10_workOut_11 : decode cX10_workOut 11 = .ok (.iload_n 2, 1) := by decide +kernel
theorem dX10_workOut_12 : decode cX10_workOut 12 = .ok (.putfield 164, 3) := by decide +kernel
theorem dX10_workOut_15 : decode cX10_workOut 15 = .ok (.aload_n 0, 1) := by decide +kernel
theorem dX10_workOut_16 : decode cX10_workOut 16 = .ok (.iconst (-1), 1) := by decide +kernel
theorem dX10_workOut_17 : decode cX10_workOut 17 = .ok (.putfield 170, 3) := by decide +kernel
theorem dX10_workOut_20 : decode cX10_workOut 20 = .ok (.aload_n 0, 1) := by decide +kernel
theorem dX10_workOut_21 : decode cX10_workOut 21 = .ok (.iconst 0, 1) := by decide +kernel
theorem dX10_workOut_22 : decode cX10_workOut 22 = .ok (.putfield 194, 3) := by decide +kernel
theorem dX10_workOut_25 : decode cX10_workOut 25 = .ok (.iconst 0, 1) := by decide +kernel
theorem dX10_workOut_26 : decode cX10_workOut 26 = .ok (.istore_n 3, 1) := by decide +kernel
theorem dX10_workOut_27 : decode cX10_workOut 27 = .ok (.iconst 0, 1) := by decide +kernel
theorem dX10_workOut_28 : decode cX10_workOut 28 = .ok (.istore 4, 2) := by decide +kernel
theorem dX10_workOut_30 : decode cX10_workOut 30 = .ok (.iconst 1, 1) := by decide +kernel
theorem dX10_workOut_31 : decode cX10_workOut 31 = .ok (.istore 5, 2) := by decide +kernel
theorem dX10_workOut_33 : decode cX10_workOut 33 = .ok (.iload 5, 2) := by decide +kernel
theorem dX10_workOut_35 : decode cX10_workOut 35 = .ok (.ifCond .eq 72, 3) := by decide +kernel
theorem dX10_workOut_38 : decode cX10_workOut 38 = .ok (.aload_n 0, 1) := by decide +kernel
theorem dX10_workOut_39 : decode cX10_workOut 39 = .ok (.invokevirtual 200, 3) := by decide +kernel
theorem dX10_workOut_42 : decode cX10_workOut 42 = .ok (.istore 6, 2) := by decide +kernel
theorem dX10_workOut_44 : decode cX10_workOut 44 = .ok (.iconst 1, 1) := by decide +kernel
theorem dX10_workOut_45 : decode cX10_workOut 45 = .ok (.istore 7, 2) := by decide +kernel
theorem dX10_workOut_47 : decode cX10_workOut 47 = .ok (.aload_n 0, 1) := by decide +kernel
theorem dX10_workOut_48 : decode cX10_workOut 48 = .ok (.bipush 63, 2) := by decide +kernel
theorem dX10_workOut_50 : decode cX10_workOut 50 = .ok (.invokevirtual 180, 3) := by decide +kernel
theorem dX10_workOut_53 : decode cX10_workOut 53 = .ok (.ifCond .eq 21, 3) := by decide +kernel
theorem dX10_workOut_56 : decode cX10_workOut 56 = .ok (.iload 6, 2) := by decide +kernel
theorem dX10_workOut_58 : decode cX10_workOut 58 = .ok (.ifCond .eq 7, 3) := by decide +kernel
theorem dX10_workOut_61 : decode cX10_workOut 61 = .ok (.iconst 1, 1) := by decide +kernel
theorem dX10_workOut_62 : decode cX10_workOut 62 = .ok (.goto 4, 3) := by decide +kernel
theorem dX10_workOut_65 : decode cX10_workOut 65 = .ok (.iconst 0, 1) := by decide +kernel
theorem dX10_workOut_66 : decode cX10_workOut 66 = .ok (.istore 7, 2) := by decide +kernel
theorem dX10_workOut_68 : decode cX10_workOut 68 = .ok (.aload_n 0, 1) := by decide +kernel
theorem dX10_workOut_69 : decode cX10_workOut 69 = .ok (.invokevirtual 200, 3) := by decide +kernel
theorem dX10_workOut_72 : decode cX10_workOut 72 = .ok (.istore 6, 2) := by decide +kernel
theorem dX10_workOut_74 : decode cX10_workOut 74 = .ok (.aload_n 0, 1) := by decide +kernel
theorem dX10_workOut_75 : decode cX10_workOut 75 = .ok (.getfield 170, 3) := by decide +kernel
theorem dX10_workOut_78 : decode cX10_workOut 78 = .ok (.ifCond .ge 18, 3) := by decide +kernel
theorem dX10_workOut_81 : decode cX10_workOut 81 = .ok (.iload 7, 2) := by decide +kernel
theorem dX10_workOut_83 : decode cX10_workOut 83 = .ok (.ifCond .eq 13, 3) := by decide +kernel
theorem dX10_workOut_86 : decode cX10_workOut 86 = .ok (.iload_n 3, 1) := by decide +kernel
theorem dX10_workOut_87 : decode cX10_workOut 87 = .ok (.ifCond .ne 9, 3) := by decide +kernel
theorem dX10_workOut_90 : decode cX10_workOut 90 = .ok (.iconst 1, 1) := by decide +kernel
theorem dX10_workOut_91 : decode cX10_workOut 91 = .ok (.istore_n 3, 1) := by decide +kernel
theorem dX10_workOut_92 : decode cX10_workOut 92 = .ok (.iload 6, 2) := by decide +kernel
theorem dX10_workOut_94 : decode cX10_workOut 94 = .ok (.istore 4, 2) := by decide +kernel
theorem dX10_workOut_96 : decode cX10_workOut 96 = .ok (.aload_n 0, 1) := by decide +kernel
theorem dX10_workOut_97 : decode cX10_workOut 97 = .ok (.bipush 59, 2) := by decide +kernel
theorem dX10_workOut_99 : decode cX10_workOut 99 = .ok (.invokevirtual 180, 3) := by decide +kernel
theorem dX10_workOut_102 : decode cX10_workOut 102 = .ok (.istore 5, 2) := by decide +kernel
theorem dX10_workOut_104 : decode cX10_workOut 104 = .ok (.goto (-71), 3) := by decide +kernel
theorem dX10_workOut_107 : decode cX10_workOut 107 = .ok (.aload_n 0, 1) := by decide +kernel
theorem dX10_workOut_108 : decode cX10_workOut 108 = .ok (.getfield 170, 3) := by decide +kernel
theorem dX10_workOut_111 : decode cX10_workOut 111 = .ok (.ifCond .ge 19, 3) := by decide +kernel
theorem dX10_workOut_114 : decode cX10_workOut 114 = .ok (.aload_n 0, 1) := by decide +kernel
theorem dX10_workOut_115 : decode cX10_workOut 115 = .ok (.getfield 161, 3) := by decide +kernel
theorem dX10_workOut_118 : decode cX10_workOut 118 = .ok (.aload_n 0, 1) := by decide +kernel
theorem dX10_workOut_119 : decode cX10_workOut 119 = .ok (.getfield 164, 3) := by decide +kernel
theorem dX10_workOut_122 : decode cX10_workOut 122 = .ok (.if_icmp .ge 8, 3) := by decide +kernel
theorem dX10_workOut_125 : decode cX10_workOut 125 = .ok (.aload_n 0, 1) := by decide +kernel
theorem dX10_workOut_126 : decode cX10_workOut 126 = .ok (.invokevirtual 197, 3) := by decide +kernel
theorem dX10_workOut_129 : decode cX10_workOut 129 = .ok (.ireturn, 1) := by decide +kernel
theorem dX10_workOut_130 : decode cX10_workOut 130 = .ok (.iload 4, 2) := by decide +kernel
theorem dX10_workOut_132 : decode cX10_workOut 132 = .ok (.ireturn, 1) := by decide +kernel
theorem dX10_want_0 : decode cX10_want 0 = .ok (.aload_n 0, 1) := by decide +kernel
theorem dX10_want_1 : decode cX10_want 1 = .ok (.getfield 141, 3) := by decide +kernel
theorem dX10_want_4 : decode cX10_want 4 = .ok (.iconst 4, 1) := by decide +kernel
theorem dX10_want_5 : decode cX10_want 5 = .ok (.if_icmp .ne 6, 3) := by decide +kernel
theorem dX10_want_8 : decode cX10_want 8 = .ok (.bipush (-3), 2) := by decide +kernel
theorem dX10_want_10 : decode cX10_want 10 = .ok (.ireturn, 1) := by decide +kernel
theorem dX10_want_11 : decode cX10_want 11 = .ok (.aload_n 0, 1) := by decide +kernel
theorem dX10_want_12 : decode cX10_want 12 = .ok (.iconst (-1), 1) := by decide +kernel
theorem dX10_want_13 : decode cX10_want 13 = .ok (.aload_n 0, 1) := by decide +kernel
theorem dX10_want_14 : decode cX10_want 14 = .ok (.getfield 158, 3) := by decide +kernel
theorem dX10_want_17 : decode cX10_want 17 = .ok (.invokevirtual 206, 3) := by decide +kernel
theorem dX10_want_20 : decode cX10_want 20 = .ok (.istore_n 1, 1) := by decide +kernel
theorem dX10_want_21 : decode cX10_want 21 = .ok (.aload_n 0, 1) := by decide +kernel
theorem dX10_want_22 : decode cX10_want 22 = .ok (.getfield 158, 3) := by decide +kernel
theorem dX10_want_25 : decode cX10_want 25 = .ok (.istore_n 2, 1) := by decide +kernel
theorem dX10_want_26 : decode cX10_want 26 = .ok (.aload_n 0, 1) := by decide +kernel
theorem dX10_want_27 : decode cX10_want 27 = .ok (.iconst 0, 1) := by decide +kernel
theorem dX10_want_28 : decode cX10_want 28 = .ok (.putfield 158, 3) := by decide +kernel
theorem dX10_want_31 : decode cX10_want 31 = .ok (.aload_n 0, 1) := by decide +kernel
theorem dX10_want_32 : decode cX10_want 32 = .ok (.getfield 170, 3) := by decide +kernel
theorem dX10_want_35 : decode cX10_want 35 = .ok (.ifCond .lt 11, 3) := by decide +kernel
theorem dX10_want_38 : decode cX10_want 38 = .ok (.bipush (-100), 2) := by decide +kernel
theorem dX10_want_40 : decode cX10_want 40 = .ok (.aload_n 0, 1) := by decide +kernel
theorem dX10_want_41 : decode cX10_want 41 = .ok (.getfield 170, 3) := by decide +kernel
theorem dX10_want_44 : decode cX10_want 44 = .ok (.isub, 1) := by decide +kernel
theorem dX10_want_45 : decode cX10_want 45 = .ok (.ireturn, 1) := by decide +kernel
theorem dX10_want_46 : decode cX10_want 46 = .ok (.iconst 0, 1) := by decide +kernel
theorem dX10_want_47 : decode cX10_want 47 = .ok (.istore_n 3, 1) := by decide +kernel
theorem dX10_want_48 : decode cX10_want 48 = .ok (.iload_n 3, 1) := by decide +kernel
theorem dX10_want_49 : decode cX10_want 49 = .ok (.iload_n 2, 1) := by decide +kernel
theorem dX10_want_50 : decode cX10_want 50 = .ok (.if_icmp .ge 29, 3) := by decide +kernel
theorem dX10_want_53 : decode cX10_want 53 = .ok (.aload_n 0, 1) := by decide +kernel
theorem dX10_want_54 : decode cX10_want 54 = .ok (.getfield 40, 3) := by decide +kernel
theorem dX10_want_57 : decode cX10_want 57 = .ok (.bipush 120, 2) := by decide +kernel
theorem dX10_want_59 : decode cX10_want 59 = .ok (.aload_n 0, 1) := by decide +kernel
theorem dX10_want_60 : decode cX10_want 60 = .ok (.getfield 141, 3) := by decide +kernel
theorem dX10_want_63 : decode cX10_want 63 = .ok (.imul, 1) := by decide +kernel
theorem dX10_want_64 : decode cX10_want 64 = .ok (.iload_n 3, 1) := by decide +kernel
theorem dX10_want_65 : decode cX10_want 65 = .ok (.iadd, 1) := by decide +kernel
theorem dX10_want_66 : decode cX10_want 66 = .ok (.aload_n 0, 1) := by decide +kernel
theorem dX10_want_67 : decode cX10_want 67 = .ok (.getfield 37, 3) := by decide +kernel
theorem dX10_want_70 : decode cX10_want 70 = .ok (.iload_n 3, 1) := by decide +kernel
theorem dX10_want_71 : decode cX10_want 71 = .ok (.iaload, 1) := by decide +kernel
theorem dX10_want_72 : decode cX10_want 72 = .ok (.iastore, 1) := by decide +kernel
theorem dX10_want_73 : decode cX10_want 73 = .ok (.iinc 3 1, 3) := by decide +kernel
theorem dX10_want_76 : decode cX10_want 76 = .ok (.goto (-28), 3) := by decide +kernel
theorem dX10_want_79 : decode cX10_want 79 = .ok (.aload_n 0, 1) := by decide +kernel
theorem dX10_want_80 : decode cX10_want 80 = .ok (.getfield 43, 3) := by decide +kernel
theorem dX10_want_83 : decode cX10_want 83 = .ok (.aload_n 0, 1) := by decide +kernel
theorem dX10_want_84 : decode cX10_want 84 = .ok (.getfield 141, 3) := by decide +kernel
theorem dX10_want_87 : decode cX10_want 87 = .ok (.iload_n 2, 1) := by decide +kernel
theorem dX10_want_88 : decode cX10_want 88 = .ok (.iastore, 1) := by decide +kernel
theorem dX10_want_89 : decode cX10_want 89 = .ok (.aload_n 0, 1) := by decide +kernel
theorem dX10_want_90 : decode cX10_want 90 = .ok (.dup, 1) := by decide +kernel
theorem dX10_want_91 : decode cX10_want 91 = .ok (.getfield 141, 3) := by decide +kernel
theorem dX10_want_94 : decode cX10_want 94 = .ok (.iconst 1, 1) := by decide +kernel
theorem dX10_want_95 : decode cX10_want 95 = .ok (.iadd, 1) := by decide +kernel
theorem dX10_want_96 : decode cX10_want 96 = .ok (.putfield 141, 3) := by decide +kernel
theorem dX10_want_99 : decode cX10_want 99 = .ok (.aload_n 0, 1) := by decide +kernel
theorem dX10_want_100 : decode cX10_want 100 = .ok (.getfield 141, 3) := by decide +kernel
theorem dX10_want_103 : decode cX10_want 103 = .ok (.iconst 1, 1) := by decide +kernel
theorem dX10_want_104 : decode cX10_want 104 = .ok (.isub, 1) := by decide +kernel
theorem dX10_want_105 : decode cX10_want 105 = .ok (.ireturn, 1) := by decide +kernel
theorem dX10_worthOf_0 : decode cX10_worthOf 0 = .ok (.aload_n 0, 1) := by decide +kernel
theorem dX10_worthOf_1 : decode cX10_worthOf 1 = .ok (.getfield 46, 3) := by decide +kernel
theorem dX10_worthOf_4 : decode cX10_worthOf 4 = .ok (.iconst 0, 1) := by decide +kernel
theorem dX10_worthOf_5 : decode cX10_worthOf 5 = .ok (.iload_n 2, 1) := by decide +kernel
theorem dX10_worthOf_6 : decode cX10_worthOf 6 = .ok (.iastore, 1) := by decide +kernel
theorem dX10_worthOf_7 : decode cX10_worthOf 7 = .ok (.aload_n 0, 1) := by decide +kernel
theorem dX10_worthOf_8 : decode cX10_worthOf 8 = .ok (.getfield 46, 3) := by decide +kernel
theorem dX10_worthOf_11 : decode cX10_worthOf 11 = .ok (.iconst 1, 1) := by decide +kernel
theorem dX10_worthOf_12 : decode cX10_worthOf 12 = .ok (.iload_n 3, 1) := by decide +kernel
theorem dX10_worthOf_13 : decode cX10_worthOf 13 = .ok (.iastore, 1) := by decide +kernel
theorem dX10_worthOf_14 : decode cX10_worthOf 14 = .ok (.aload_n 0, 1) := by decide +kernel
theorem dX10_worthOf_15 : decode cX10_worthOf 15 = .ok (.getfield 46, 3) := by decide +kernel
theorem dX10_worthOf_18 : decode cX10_worthOf 18 = .ok (.iconst 2, 1) := by decide +kernel
theorem dX10_worthOf_19 : decode cX10_worthOf 19 = .ok (.aload_n 0, 1) := by decide +kernel
theorem dX10_worthOf_20 : decode cX10_worthOf 20 = .ok (.getfield 9, 3) := by decide +kernel
theorem dX10_worthOf_23 : decode cX10_worthOf 23 = .ok (.bipush 6, 2) := by decide +kernel
theorem dX10_worthOf_25 : decode cX10_worthOf 25 = .ok (.iload_n 2, 1) := by decide +kernel
theorem dX10_worthOf_26 : decode cX10_worthOf 26 = .ok (.iadd, 1) := by decide +kernel
theorem dX10_worthOf_27 : decode cX10_worthOf 27 = .ok (.iaload, 1) := by decide +kernel
theorem dX10_worthOf_28 : decode cX10_worthOf 28 = .ok (.iastore, 1) := by decide +kernel
theorem dX10_worthOf_29 : decode cX10_worthOf 29 = .ok (.aload_n 0, 1) := by decide +kernel
theorem dX10_worthOf_30 : decode cX10_worthOf 30 = .ok (.getfield 46, 3) := by decide +kernel
theorem dX10_worthOf_33 : decode cX10_worthOf 33 = .ok (.iconst 3, 1) := by decide +kernel
theorem dX10_worthOf_34 : decode cX10_worthOf 34 = .ok (.aload_n 0, 1) := by decide +kernel
theorem dX10_worthOf_35 : decode cX10_worthOf 35 = .ok (.getfield 9, 3) := by decide +kernel
theorem dX10_worthOf_38 : decode cX10_worthOf 38 = .ok (.bipush 12, 2) := by decide +kernel
theorem dX10_worthOf_40 : decode cX10_worthOf 40 = .ok (.iload_n 2, 1) := by decide +kernel
theorem dX10_worthOf_41 : decode cX10_worthOf 41 = .ok (.iadd, 1) := by decide +kernel
theorem dX10_worthOf_42 : decode cX10_worthOf 42 = .ok (.iaload, 1) := by decide +kernel
theorem dX10_worthOf_43 : decode cX10_worthOf 43 = .ok (.iastore, 1) := by decide +kernel
theorem dX10_worthOf_44 : decode cX10_worthOf 44 = .ok (.aload_n 0, 1) := by decide +kernel
theorem dX10_worthOf_45 : decode cX10_worthOf 45 = .ok (.getfield 46, 3) := by decide +kernel
theorem dX10_worthOf_48 : decode cX10_worthOf 48 = .ok (.iconst 4, 1) := by decide +kernel
theorem dX10_worthOf_49 : decode cX10_worthOf 49 = .ok (.iload_n 1, 1) := by decide +kernel
theorem dX10_worthOf_50 : decode cX10_worthOf 50 = .ok (.iastore, 1) := by decide +kernel
theorem dX10_worthOf_51 : decode cX10_worthOf 51 = .ok (.aload_n 0, 1) := by decide +kernel
theorem dX10_worthOf_52 : decode cX10_worthOf 52 = .ok (.getfield 46, 3) := by decide +kernel
theorem dX10_worthOf_55 : decode cX10_worthOf 55 = .ok (.iconst 5, 1) := by decide +kernel
theorem dX10_worthOf_56 : decode cX10_worthOf 56 = .ok (.aload_n 0, 1) := by decide +kernel
theorem dX10_worthOf_57 : decode cX10_worthOf 57 = .ok (.getfield 28, 3) := by decide +kernel
theorem dX10_worthOf_60 : decode cX10_worthOf 60 = .ok (.iload_n 1, 1) := by decide +kernel
theorem dX10_worthOf_61 : decode cX10_worthOf 61 = .ok (.iaload, 1) := by decide +kernel
theorem dX10_worthOf_62 : decode cX10_worthOf 62 = .ok (.iastore, 1) := by decide +kernel
theorem dX10_worthOf_63 : decode cX10_worthOf 63 = .ok (.aload_n 0, 1) := by decide +kernel
theorem dX10_worthOf_64 : decode cX10_worthOf 64 = .ok (.getfield 46, 3) := by decide +kernel
theorem dX10_worthOf_67 : decode cX10_worthOf 67 = .ok (.bipush 6, 2) := by decide +kernel
theorem dX10_worthOf_69 : decode cX10_worthOf 69 = .ok (.aload_n 0, 1) := by decide +kernel
theorem dX10_worthOf_70 : decode cX10_worthOf 70 = .ok (.getfield 102, 3) := by decide +kernel
theorem dX10_worthOf_73 : decode cX10_worthOf 73 = .ok (.iastore, 1) := by decide +kernel
theorem dX10_worthOf_74 : decode cX10_worthOf 74 = .ok (.aload_n 0, 1) := by decide +kernel
theorem dX10_worthOf_75 : decode cX10_worthOf 75 = .ok (.bipush 120, 2) := by decide +kernel
theorem dX10_worthOf_77 : decode cX10_worthOf 77 = .ok (.aload_n 0, 1) := by decide +kernel
theorem dX10_worthOf_78 : decode cX10_worthOf 78 = .ok (.getfield 31, 3) := by decide +kernel
theorem dX10_worthOf_81 : decode cX10_worthOf 81 = .ok (.iload_n 1, 1) := by decide +kernel
theorem dX10_worthOf_82 : decode cX10_worthOf 82 = .ok (.iaload, 1) := by decide +kernel
theorem dX10_worthOf_83 : decode cX10_worthOf 83 = .ok (.imul, 1) := by decide +kernel
theorem dX10_worthOf_84 : decode cX10_worthOf 84 = .ok (.aload_n 0, 1) := by decide +kernel
theorem dX10_worthOf_85 : decode cX10_worthOf 85 = .ok (.getfield 43, 3) := by decide +kernel
theorem dX10_worthOf_88 : decode cX10_worthOf 88 = .ok (.aload_n 0, 1) := by decide +kernel
theorem dX10_worthOf_89 : decode cX10_worthOf 89 = .ok (.getfield 31, 3) := by decide +kernel
theorem dX10_worthOf_92 : decode cX10_worthOf 92 = .ok (.iload_n 1, 1) := by decide +kernel
theorem dX10_worthOf_93 : decode cX10_worthOf 93 = .ok (.iaload, 1) := by decide +kernel
theorem dX10_worthOf_94 : decode cX10_worthOf 94 = .ok (.iaload, 1) := by decide +kernel
theorem dX10_worthOf_95 : decode cX10_worthOf 95 = .ok (.invokevirtual 206, 3) := by decide +kernel
theorem dX10_worthOf_98 : decode cX10_worthOf 98 = .ok (.istore 4, 2) := by decide +kernel
theorem dX10_worthOf_100 : decode cX10_worthOf 100 = .ok (.iload 4, 2) := by decide +kernel
theorem dX10_worthOf_102 : decode cX10_worthOf 102 = .ok (.ifCond .ge 7, 3) := by decide +kernel
theorem dX10_worthOf_105 : decode cX10_worthOf 105 = .ok (.iconst 0, 1) := by decide +kernel
theorem dX10_worthOf_106 : decode cX10_worthOf 106 = .ok (.goto 19, 3) := by decide +kernel
theorem dX10_worthOf_109 : decode cX10_worthOf 109 = .ok (.iload 4, 2) := by decide +kernel
theorem dX10_worthOf_111 : decode cX10_worthOf 111 = .ok (.sipush 999, 3) := by decide +kernel
theorem dX10_worthOf_114 : decode cX10_worthOf 114 = .ok (.if_icmp .le 9, 3) := by decide +kernel
theorem dX10_worthOf_117 : decode cX10_worthOf 117 = .ok (.sipush 999, 3) := by decide +kernel
theorem dX10_worthOf_120 : decode cX10_worthOf 120 = .ok (.goto 5, 3) := by decide +kernel
theorem dX10_worthOf_123 : decode cX10_worthOf 123 = .ok (.iload 4, 2) := by decide +kernel
theorem dX10_worthOf_125 : decode cX10_worthOf 125 = .ok (.ireturn, 1) := by decide +kernel
theorem dX10_worth_0 : decode cX10_worth 0 = .ok (.aload_n 0, 1) := by decide +kernel
theorem dX10_worth_1 : decode cX10_worth 1 = .ok (.iload_n 1, 1) := by decide +kernel
theorem dX10_worth_2 : decode cX10_worth 2 = .ok (.invokevirtual 144, 3) := by decide +kernel
theorem dX10_worth_5 : decode cX10_worth 5 = .ok (.ifCond .eq 49, 3) := by decide +kernel
theorem dX10_worth_8 : decode cX10_worth 8 = .ok (.iload_n 2, 1) := by decide +kernel
theorem dX10_worth_9 : decode cX10_worth 9 = .ok (.ifCond .lt 45, 3) := by decide +kernel
theorem dX10_worth_12 : decode cX10_worth 12 = .ok (.aload_n 0, 1) := by decide +kernel
theorem dX10_worth_13 : decode cX10_worth 13 = .ok (.iload_n 2, 1) := by decide +kernel
theorem dX10_worth_14 : decode cX10_worth 14 = .ok (.bipush 10, 2) := by decide +kernel
theorem dX10_worth_16 : decode cX10_worth 16 = .ok (.idiv, 1) := by decide +kernel
theorem dX10_worth_17 : decode cX10_worth 17 = .ok (.invokevirtual 132, 3) := by decide +kernel
theorem dX10_worth_20 : decode cX10_worth 20 = .ok (.ifCond .eq 34, 3) := by decide +kernel
theorem dX10_worth_23 : decode cX10_worth 23 = .ok (.iload_n 2, 1) := by decide +kernel
theorem dX10_worth_24 : decode cX10_worth 24 = .ok (.bipush 10, 2) := by decide +kernel
theorem dX10_worth_26 : decode cX10_worth 26 = .ok (.irem, 1) := by decide +kernel
theorem dX10_worth_27 : decode cX10_worth 27 = .ok (.i2l, 1) := by decide +kernel
theorem dX10_worth_28 : decode cX10_worth 28 = .ok (.lconst 1, 1) := by decide +kernel
theorem dX10_worth_29 : decode cX10_worth 29 = .ok (.ldc2_w 147, 3) := by decide +kernel
theorem dX10_worth_32 : decode cX10_worth 32 = .ok (.invokestatic 105, 3) := by decide +kernel
theorem dX10_worth_35 : decode cX10_worth 35 = .ok (.ifCond .eq 19, 3) := by decide +kernel
theorem dX10_worth_38 : decode cX10_worth 38 = .ok (.aload_n 0, 1) := by decide +kernel
theorem dX10_worth_39 : decode cX10_worth 39 = .ok (.iload_n 1, 1) := by decide +kernel
theorem dX10_worth_40 : decode cX10_worth 40 = .ok (.iload_n 2, 1) := by decide +kernel
theorem dX10_worth_41 : decode cX10_worth 41 = .ok (.bipush 10, 2) := by decide +kernel
theorem dX10_worth_43 : decode cX10_worth 43 = .ok (.idiv, 1) := by decide +kernel
theorem dX10_worth_44 : decode cX10_worth 44 = .ok (.iload_n 2, 1) := by decide +kernel
theorem dX10_worth_45 : decode cX10_worth 45 = .ok (.bipush 10, 2) := by decide +kernel
theorem dX10_worth_47 : decode cX10_worth 47 = .ok (.irem, 1) := by decide +kernel
theorem dX10_worth_48 : decode cX10_worth 48 = .ok (.invokevirtual 209, 3) := by decide +kernel
theorem dX10_worth_51 : decode cX10_worth 51 = .ok (.goto 4, 3) := by decide +kernel
theorem dX10_worth_54 : decode cX10_worth 54 = .ok (.iconst (-1), 1) := by decide +kernel
theorem dX10_worth_55 : decode cX10_worth 55 = .ok (.ireturn, 1) := by decide +kernel
theorem dX10_layWorths_0 : decode cX10_layWorths 0 = .ok (.iconst 0, 1) := by decide +kernel
theorem dX10_layWorths_1 : decode cX10_layWorths 1 = .ok (.istore_n 2, 1) := by decide +kernel
theorem dX10_layWorths_2 : decode cX10_layWorths 2 = .ok (.iload_n 2, 1) := by decide +kernel
theorem dX10_layWorths_3 : decode cX10_layWorths 3 = .ok (.aload_n 0, 1) := by decide +kernel
theorem dX10_layWorths_4 : decode cX10_layWorths 4 = .ok (.getfield 102, 3) := by decide +kernel
theorem dX10_layWorths_7 : decode cX10_layWorths 7 = .ok (.if_icmp .ge 61, 3) := by decide +kernel
theorem dX10_layWorths_10 : decode cX10_layWorths 10 = .ok (.aload_n 0, 1) := by decide +kernel
theorem dX10_layWorths_11 : decode cX10_layWorths 11 = .ok (.getfield 49, 3) := by decide +kernel
theorem dX10_layWorths_14 : decode cX10_layWorths 14 = .ok (.iconst 4, 1) := by decide +kernel
theorem dX10_layWorths_15 : decode cX10_layWorths 15 = .ok (.iload_n 2, 1) := by decide +kernel
theorem dX10_layWorths_16 : decode cX10_layWorths 16 = .ok (.imul, 1) := by decide +kernel
theorem dX10_layWorths_17 : decode cX10_layWorths 17 = .ok (.iconst 0, 1) := by decide +kernel
theorem dX10_layWorths_18 : decode cX10_layWorths 18 = .ok (.iastore, 1) := by decide +kernel
theorem dX10_layWorths_19 : decode cX10_layWorths 19 = .ok (.iconst 1, 1) := by decide +kernel
theorem dX10_layWorths_20 : decode cX10_layWorths 20 = .ok (.istore_n 3, 1) := by decide +kernel
theorem dX10_layWorths_21 : decode cX10_layWorths 21 = .ok (.iload_n 3, 1) := by decide +kernel
theorem dX10_layWorths_22 : decode cX10_layWorths 22 = .ok (.iconst 3, 1) := by decide +kernel
theorem dX10_layWorths_23 : decode cX10_layWorths 23 = .ok (.if_icmp .gt 39, 3) := by decide +kernel
theorem dX10_layWorths_26 : decode cX10_layWorths 26 = .ok (.aload_n 0, 1) := by decide +kernel
theorem dX10_layWorths_27 : decode cX10_layWorths 27 = .ok (.getfield 49, 3) := by decide +kernel
theorem dX10_layWorths_30 : decode cX10_layWorths 30 = .ok (.iconst 4, 1) := by decide +kernel
theorem dX10_layWorths_31 : decode cX10_layWorths 31 = .ok (.iload_n 2, 1) := by decide +kernel
theorem dX10_layWorths_32 : decode cX10_layWorths 32 = .ok (.imul, 1) := by decide +kernel
theorem dX10_layWorths_33 : decode cX10_layWorths 33 = .ok (.iload_n 3, 1) := by decide +kernel
theorem dX10_layWorths_34 : decode cX10_layWorths 34 = .ok (.iadd, 1) := by decide +kernel
theorem dX10_layWorths_35 : decode cX10_layWorths 35 = .ok (.aload_n 0, 1) := by decide +kernel
theorem dX10_layWorths_36 : decode cX10_layWorths 36 = .ok (.getfield 49, 3) := by decide +kernel
theorem dX10_layWorths_39 : decode cX10_layWorths 39 = .ok (.iconst 4, 1) := by decide +kernel
theorem dX10_layWorths_40 : decode cX10_layWorths 40 = .ok (.iload_n 2, 1) := by decide +kernel
theorem dX10_layWorths_41 : decode cX10_layWorths 41 = .ok (.imul, 1) := by decide +kernel
theorem dX10_layWorths_42 : decode cX10_layWorths 42 = .ok (.iload_n 3, 1) := by decide +kernel
theorem dX10_layWorths_43 : decode cX10_layWorths 43 = .ok (.iadd, 1) := by decide +kernel
theorem dX10_layWorths_44 : decode cX10_layWorths 44 = .ok (.iconst 1, 1) := by decide +kernel
theorem dX10_layWorths_45 : decode cX10_layWorths 45 = .ok (.isub, 1) := by decide +kernel
theorem dX10_layWorths_46 : decode cX10_layWorths 46 = .ok (.iaload, 1) := by decide +kernel
theorem dX10_layWorths_47 : decode cX10_layWorths 47 = .ok (.aload_n 0, 1) := by decide +kernel
theorem dX10_layWorths_48 : decode cX10_layWorths 48 = .ok (.iload_n 1, 1) := by decide +kernel
theorem dX10_layWorths_49 : decode cX10_layWorths 49 = .ok (.iload_n 2, 1) := by decide +kernel
theorem dX10_layWorths_50 : decode cX10_layWorths 50 = .ok (.iload_n 3, 1) := by decide +kernel
theorem dX10_layWorths_51 : decode cX10_layWorths 51 = .ok (.invokevirtual 209, 3) := by decide +kernel
theorem dX10_layWorths_54 : decode cX10_layWorths 54 = .ok (.iadd, 1) := by decide +kernel
theorem dX10_layWorths_55 : decode cX10_layWorths 55 = .ok (.iastore, 1) := by decide +kernel
theorem dX10_layWorths_56 : decode cX10_layWorths 56 = .ok (.iinc 3 1, 3) := by decide +kernel
theorem dX10_layWorths_59 : decode cX10_layWorths 59 = .ok (.goto (-38), 3) := by decide +kernel
theorem dX10_layWorths_62 : decode cX10_layWorths 62 = .ok (.iinc 2 1, 3) := by decide +kernel
theorem dX10_layWorths_65 : decode cX10_layWorths 65 = .ok (.goto (-63), 3) := by decide +kernel
theorem dX10_layWorths_68 : decode cX10_layWorths 68 = .ok (.return_, 1) := by decide +kernel
theorem dX10_baskets_0 : decode cX10_baskets 0 = .ok (.iconst 1, 1) := by decide +kernel
theorem dX10_baskets_1 : decode cX10_baskets 1 = .ok (.iconst 2, 1) := by decide +kernel
theorem dX10_baskets_2 : decode cX10_baskets 2 = .ok (.aload_n 0, 1) := by decide +kernel
theorem dX10_baskets_3 : decode cX10_baskets 3 = .ok (.getfield 102, 3) := by decide +kernel
theorem dX10_baskets_6 : decode cX10_baskets 6 = .ok (.imul, 1) := by decide +kernel
theorem dX10_baskets_7 : decode cX10_baskets 7 = .ok (.ishl, 1) := by decide +kernel
theorem dX10_baskets_8 : decode cX10_baskets 8 = .ok (.ireturn, 1) := by decide +kernel
theorem dX10_unpack_0 : decode cX10_unpack 0 = .ok (.aload_n 0, 1) := by decide +kernel
theorem dX10_unpack_1 : decode cX10_unpack 1 = .ok (.iconst 0, 1) := by decide +kernel
theorem dX10_unpack_2 : decode cX10_unpack 2 = .ok (.putfield 213, 3) := by decide +kernel
theorem dX10_unpack_5 : decode cX10_unpack 5 = .ok (.aload_n 0, 1) := by decide +kernel
theorem dX10_unpack_6 : decode cX10_unpack 6 = .ok (.iconst 0, 1) := by decide +kernel
theorem dX10_unpack_7 : decode cX10_unpack 7 = .ok (.putfield 216, 3) := by decide +kernel
theorem dX10_unpack_10 : decode cX10_unpack 10 = .ok (.aload_n 0, 1) := by decide +kernel
theorem dX10_unpack_11 : decode cX10_unpack 11 = .ok (.iconst 0, 1) := by decide +kernel
theorem dX10_unpack_12 : decode cX10_unpack 12 = .ok (.putfield 219, 3) := by decide +kernel
theorem dX10_unpack_15 : decode cX10_unpack 15 = .ok (.iconst 0, 1) := by decide +kernel
theorem dX10_unpack_16 : decode cX10_unpack 16 = .ok (.istore_n 2, 1) := by decide +kernel
theorem dX10_unpack_17 : decode cX10_unpack 17 = .ok (.iload_n 2, 1) := by decide +kernel
theorem dX10_unpack_18 : decode cX10_unpack 18 = .ok (.aload_n 0, 1) := by decide +kernel
theorem dX10_unpack_19 : decode cX10_unpack 19 = .ok (.getfield 102, 3) := by decide +kernel
theorem dX10_unpack_22 : decode cX10_unpack 22 = .ok (.if_icmp .ge 98, 3) := by decide +kernel
theorem dX10_unpack_25 : decode cX10_unpack 25 = .ok (.iload_n 1, 1) := by decide +kernel
theorem dX10_unpack_26 : decode cX10_unpack 26 = .ok (.iconst 2, 1) := by decide +kernel
theorem dX10_unpack_27 : decode cX10_unpack 27 = .ok (.aload_n 0, 1) := by decide +kernel
theorem dX10_unpack_28 : decode cX10_unpack 28 = .ok (.getfield 102, 3) := by decide +kernel
theorem dX10_unpack_31 : decode cX10_unpack 31 = .ok (.iconst 1, 1) := by decide +kernel
theorem dX10_unpack_32 : decode cX10_unpack 32 = .ok (.isub, 1) := by decide +kernel
theorem dX10_unpack_33 : decode cX10_unpack 33 = .ok (.iload_n 2, 1) := by decide +kernel
theorem dX10_unpack_34 : decode cX10_unpack 34 = .ok (.isub, 1) := by decide +kernel
theorem dX10_unpack_35 : decode cX10_unpack 35 = .ok (.imul, 1) := by decide +kernel
theorem dX10_unpack_36 : decode cX10_unpack 36 = .ok (.ishr, 1) := by decide +kernel
theorem dX10_unpack_37 : decode cX10_unpack 37 = .ok (.iconst 3, 1) := by decide +kernel
theorem dX10_unpack_38 : decode cX10_unpack 38 = .ok (.iand, 1) := by decide +kernel
theorem dX10_unpack_39 : decode cX10_unpack 39 = .ok (.istore_n 3, 1) := by decide +kernel
theorem dX10_unpack_40 : decode cX10_unpack 40 = .ok (.aload_n 0, 1) := by decide +kernel
theorem dX10_unpack_41 : decode cX10_unpack 41 = .ok (.getfield 52, 3) := by decide +kernel
theorem dX10_unpack_44 : decode cX10_unpack 44 = .ok (.iload_n 2, 1) := by decide +kernel
theorem dX10_unpack_45 : decode cX10_unpack 45 = .ok (.iload_n 3, 1) := by decide +kernel
theorem dX10_unpack_46 : decode cX10_unpack 46 = .ok (.iastore, 1) := by decide +kernel
theorem dX10_unpack_47 : decode cX10_unpack 47 = .ok (.aload_n 0, 1) := by decide +kernel
theorem dX10_unpack_48 : decode cX10_unpack 48 = .ok (.dup, 1) := by decide +kernel
theorem dX10_unpack_49 : decode cX10_unpack 49 = .ok (.getfield 213, 3) := by decide +kernel
theorem dX10_unpack_52 : decode cX10_unpack 52 = .ok (.aload_n 0, 1) := by decide +kernel
theorem dX10_unpack_53 : decode cX10_unpack 53 = .ok (.getfield 49, 3) := by decide +kernel
theorem dX10_unpack_56 : decode cX10_unpack 56 = .ok (.iconst 4, 1) := by decide +kernel
theorem dX10_unpack_57 : decode cX10_unpack 57 = .ok (.iload_n 2, 1) := by decide +kernel
theorem dX10_unpack_58 : decode cX10_unpack 58 = .ok (.imul, 1) := by decide +kernel
theorem dX10_unpack_59 : decode cX10_unpack 59 = .ok (.iload_n 3, 1) := by decide +kernel
theorem dX10_unpack_60 : decode cX10_unpack 60 = .ok (.iadd, 1) := by decide +kernel
theorem dX10_unpack_61 : decode cX10_unpack 61 = .ok (.iaload, 1) := by decide +kernel
theorem dX10_unpack_62 : decode cX10_unpack 62 = .ok (.iadd, 1) := by decide +kernel
theorem dX10_unpack_63 : decode cX10_unpack 63 = .ok (.putfield 213, 3) := by decide +kernel
theorem dX10_unpack_66 : decode cX10_unpack 66 = .ok (.aload_n 0, 1) := by decide +kernel
theorem dX10_unpack_67 : decode cX10_unpack 67 = .ok (.dup, 1) := by decide +kernel
theorem dX10_unpack_68 : decode cX10_unpack 68 = .ok (.getfield 216, 3) := by decide +kernel
theorem dX10_unpack_71 : decode cX10_unpack 71 = .ok (.iload_n 3, 1) := by decide +kernel
theorem dX10_unpack_72 : decode cX10_unpack 72 = .ok (.aload_n 0, 1) := by decide +kernel
theorem dX10_unpack_73 : decode cX10_unpack 73 = .ok (.getfield 9, 3) := by decide +kernel
theorem dX10_unpack_76 : decode cX10_unpack 76 = .ok (.bipush 6, 2) := by decide +kernel
theorem dX10_unpack_78 : decode cX10_unpack 78 = .ok (.iload_n 2, 1) := by decide +kernel
theorem dX10_unpack_79 : decode cX10_unpack 79 = .ok (.iadd, 1) := by decide +kernel
theorem dX10_unpack_80 : decode cX10_unpack 80 = .ok (.iaload, 1) := by decide +kernel
theorem dX10_unpack_81 : decode cX10_unpack 81 = .ok (.aload_n 0, 1) := by decide +kernel
theorem dX10_unpack_82 : decode cX10_unpack 82 = .ok (.getfield 55, 3) := by decide +kernel
theorem dX10_unpack_85 : decode cX10_unpack 85 = .ok (.imul, 1) := by decide +kernel
theorem dX10_unpack_86 : decode cX10_unpack 86 = .ok (.bipush 100, 2) := by decide +kernel
theorem dX10_unpack_88 : decode cX10_unpack 88 = .ok (.idiv, 1) := by decide +kernel
theorem dX10_unpack_89 : decode cX10_unpack 89 = .ok (.imul, 1) := by decide +kernel
theorem dX10_unpack_90 : decode cX10_unpack 90 = .ok (.iadd, 1) := by decide +kernel
theorem dX10_unpack_91 : decode cX10_unpack 91 = .ok (.putfield 216, 3) := by decide +kernel
theorem dX10_unpack_94 : decode cX10_unpack 94 = .ok (.aload_n 0, 1) := by decide +kernel
theorem dX10_unpack_95 : decode cX10_unpack 95 = .ok (.dup, 1) := by decide +kernel
theorem dX10_unpack_96 : decode cX10_unpack 96 = .ok (.getfield 219, 3) := by decide +kernel
theorem dX10_unpack_99 : decode cX10_unpack 99 = .ok (.iload_n 3, 1) := by decide +kernel
theorem dX10_unpack_100 : decode cX10_unpack 100 = .ok (.aload_n 0, 1) := by decide +kernel
theorem dX10_unpack_101 : decode cX10_unpack 101 = .ok (.getfield 9, 3) := by decide +kernel
theorem dX10_unpack_104 : decode cX10_unpack 104 = .ok (.bipush 12, 2) := by decide +kernel
theorem dX10_unpack_106 : decode cX10_unpack 106 = .ok (.iload_n 2, 1) := by decide +kernel
theorem dX10_unpack_107 : decode cX10_unpack 107 = .ok (.iadd, 1) := by decide +kernel
theorem dX10_unpack_108 : decode cX10_unpack 108 = .ok (.iaload, 1) := by decide +kernel
theorem dX10_unpack_109 : decode cX10_unpack 109 = .ok (.imul, 1) := by decide +kernel
theorem dX10_unpack_110 : decode cX10_unpack 110 = .ok (.iadd, 1) := by decide +kernel
theorem dX10_unpack_111 : decode cX10_unpack 111 = .ok (.putfield 219, 3) := by decide +kernel
theorem dX10_unpack_114 : decode cX10_unpack 114 = .ok (.iinc 2 1, 3) := by decide +kernel
theorem dX10_unpack_117 : decode cX10_unpack 117 = .ok (.goto (-100), 3) := by decide +kernel
theorem dX10_unpack_120 : decode cX10_unpack 120 = .ok (.return_, 1) := by decide +kernel
theorem dX10_findBest_0 : decode cX10_findBest 0 = .ok (.aload_n 0, 1) := by decide +kernel
theorem dX10_findBest_1 : decode cX10_findBest 1 = .ok (.iload_n 1, 1) := by decide +kernel
theorem dX10_findBest_2 : decode cX10_findBest 2 = .ok (.invokevirtual 222, 3) := by decide +kernel
theorem dX10_findBest_5 : decode cX10_findBest 5 = .ok (.iconst (-1), 1) := by decide +kernel
theorem dX10_findBest_6 : decode cX10_findBest 6 = .ok (.istore 4, 2) := by decide +kernel
theorem dX10_findBest_8 : decode cX10_findBest 8 = .ok (.iconst 0, 1) := by decide +kernel
theorem dX10_findBest_9 : decode cX10_findBest 9 = .ok (.istore 5, 2) := by decide +kernel
theorem dX10_findBest_11 : decode cX10_findBest 11 = .ok (.iload 5, 2) := by decide +kernel
theorem dX10_findBest_13 : decode cX10_findBest 13 = .ok (.aload_n 0, 1) := by decide +kernel
theorem dX10_findBest_14 : decode cX10_findBest 14 = .ok (.invokevirtual 226, 3) := by decide +kernel
theorem dX10_findBest_17 : decode cX10_findBest 17 = .ok (.if_icmp .ge 134, 3) := by decide +kernel
theorem dX10_findBest_20 : decode cX10_findBest 20 = .ok (.aload_n 0, 1) := by decide +kernel
theorem dX10_findBest_21 : decode cX10_findBest 21 = .ok (.iload 5, 2) := by decide +kernel
theorem dX10_findBest_23 : decode cX10_findBest 23 = .ok (.invokevirtual 229, 3) := by decide +kernel
theorem dX10_findBest_26 : decode cX10_findBest 26 = .ok (.aload_n 0, 1) := by decide +kernel
theorem dX10_findBest_27 : decode cX10_findBest 27 = .ok (.getfield 216, 3) := by decide +kernel
theorem dX10_findBest_30 : decode cX10_findBest 30 = .ok (.iload_n 2, 1) := by decide +kernel
theorem dX10_findBest_31 : decode cX10_findBest 31 = .ok (.if_icmp .gt 114, 3) := by decide +kernel
theorem dX10_findBest_34 : decode cX10_findBest 34 = .ok (.aload_n 0, 1) := by decide +kernel
theorem dX10_findBest_35 : decode cX10_findBest 35 = .ok (.getfield 219, 3) := by decide +kernel
theorem dX10_findBest_38 : decode cX10_findBest 38 = .ok (.iload_n 3, 1) := by decide +kernel
theorem dX10_findBest_39 : decode cX10_findBest 39 = .ok (.if_icmp .le 6, 3) := by decide +kernel
theorem dX10_findBest_42 : decode cX10_findBest 42 = .ok (.goto 103, 3) := by decide +kernel
theorem dX10_findBest_45 : decode cX10_findBest 45 = .ok (.iload 4, 2) := by decide +kernel
theorem dX10_findBest_47 : decode cX10_findBest 47 = .ok (.ifCond .lt 58, 3) := by decide +kernel
theorem dX10_findBest_50 : decode cX10_findBest 50 = .ok (.aload_n 0, 1) := by decide +kernel
theorem dX10_findBest_51 : decode cX10_findBest 51 = .ok (.getfield 213, 3) := by decide +kernel
theorem dX10_findBest_54 : decode cX10_findBest 54 = .ok (.aload_n 0, 1) := by decide +kernel
theorem dX10_findBest_55 : decode cX10_findBest 55 = .ok (.getfield 232, 3) := by decide +kernel
theorem dX10_findBest_58 : decode cX10_findBest 58 = .ok (.if_icmp .gt 47, 3) := by decide +kernel
theorem dX10_findBest_61 : decode cX10_findBest 61 = .ok (.aload_n 0, 1) := by decide +kernel
theorem dX10_findBest_62 : decode cX10_findBest 62 = .ok (.getfield 213, 3) := by decide +kernel
theorem dX10_findBest_65 : decode cX10_findBest 65 = .ok (.aload_n 0, 1) := by decide +kernel
theorem dX10_findBest_66 : decode cX10_findBest 66 = .ok (.getfield 232, 3) := by decide +kernel
theorem dX10_findBest_69 : decode cX10_findBest 69 = .ok (.if_icmp .ne 40, 3) := by decide +kernel
theorem dX10_findBest_72 : decode cX10_findBest 72 = .ok (.aload_n 0, 1) := by decide +kernel
theorem dX10_findBest_73 : decode cX10_findBest 73 = .ok (.getfield 216, 3) := by decide +kernel
theorem dX10_findBest_76 : decode cX10_findBest 76 = .ok (.aload_n 0, 1) := by decide +kernel
theorem dX10_findBest_77 : decode cX10_findBest 77 = .ok (.getfield 235, 3) := by decide +kernel
theorem dX10_findBest_80 : decode cX10_findBest 80 = .ok (.if_icmp .lt 25, 3) := by decide +kernel
theorem dX10_findBest_83 : decode cX10_findBest 83 = .ok (.aload_n 0, 1) := by decide +kernel
theorem dX10_findBest_84 : decode cX10_findBest 84 = .ok (.getfield 216, 3) := by decide +kernel
theorem dX10_findBest_87 : decode cX10_findBest 87 = .ok (.aload_n 0, 1) := by decide +kernel
theorem dX10_findBest_88 : decode cX10_findBest 88 = .ok (.getfield 235, 3) := by decide +kernel
theorem dX10_findBest_91 : decode cX10_findBest 91 = .ok (.if_icmp .ne 18, 3) := by decide +kernel
theorem dX10_findBest_94 : decode cX10_findBest 94 = .ok (.aload_n 0, 1) := by decide +kernel
theorem dX10_findBest_95 : decode cX10_findBest 95 = .ok (.getfield 219, 3) := by decide +kernel
theorem dX10_findBest_98 : decode cX10_findBest 98 = .ok (.aload_n 0, 1) := by decide +kernel
theorem dX10_findBest_99 : decode cX10_findBest 99 = .ok (.getfield 238, 3) := by decide +kernel
theorem dX10_findBest_102 : decode cX10_findBest 102 = .ok (.if_icmp .ge 7, 3) := by decide +kernel
theorem dX10_findBest_105 : decode cX10_findBest 105 = .ok (.iconst 1, 1) := by decide +kernel
theorem dX10_findBest_106 : decode cX10_findBest 106 = .ok (.goto 4, 3) := by decide +kernel
theorem dX10_findBest_109 : decode cX10_findBest 109 = .ok (.iconst 0, 1) := by decide +kernel
theorem dX10_findBest_110 : decode cX10_findBest 110 = .ok (.istore 6, 2) := by decide +kernel
theorem dX10_findBest_112 : decode cX10_findBest 112 = .ok (.iload 6, 2) := by decide +kernel
theorem dX10_findBest_114 : decode cX10_findBest 114 = .ok (.ifCond .eq 31, 3) := by decide +kernel
theorem dX10_findBest_117 : decode cX10_findBest 117 = .ok (.iload 5, 2) := by decide +kernel
theorem dX10_findBest_119 : decode cX10_findBest 119 = .ok (.istore 4, 2) := by decide +kernel
theorem dX10_findBest_121 : decode cX10_findBest 121 = .ok (.aload_n 0, 1) := by decide +kernel
theorem dX10_findBest_122 : decode cX10_findBest 122 = .ok (.aload_n 0, 1) := by decide +kernel
theorem dX10_findBest_123 : decode cX10_findBest 123 = .ok (.getfield 213, 3) := by decide +kernel
theorem dX10_findBest_126 : decode cX10_findBest 126 = .ok (.putfield 232, 3) := by decide +kernel
theorem dX10_findBest_129 : decode cX10_findBest 129 = .ok (.aload_n 0, 1) := by decide +kernel
theorem dX10_findBest_130 : decode cX10_findBest 130 = .ok (.aload_n 0, 1) := by decide +kernel
theorem dX10_findBest_131 : decode cX10_findBest 131 = .ok (.getfield 216, 3) := by decide +kernel
theorem dX10_findBest_134 : decode cX10_findBest 134 = .ok (.putfield 235, 3) := by decide +kernel
theorem dX10_findBest_137 : decode cX10_findBest 137 = .ok (.aload_n 0, 1) := by decide +kernel
theorem dX10_findBest_138 : decode cX10_findBest 138 = .ok (.aload_n 0, 1) := by decide +kernel
theorem dX10_findBest_139 : decode cX10_findBest 139 = .ok (.getfield 219, 3) := by decide +kernel
theorem dX10_findBest_142 : decode cX10_findBest 142 = .ok (.putfield 238, 3) := by decide +kernel
theorem dX10_findBest_145 : decode cX10_findBest 145 = .ok (.iinc 5 1, 3) := by decide +kernel
theorem dX10_findBest_148 : decode cX10_findBest 148 = .ok (.goto (-137), 3) := by decide +kernel
theorem dX10_findBest_151 : decode cX10_findBest 151 = .ok (.aload_n 0, 1) := by decide +kernel
theorem dX10_findBest_152 : decode cX10_findBest 152 = .ok (.iload 4, 2) := by decide +kernel
theorem dX10_findBest_154 : decode cX10_findBest 154 = .ok (.invokevirtual 229, 3) := by decide +kernel
theorem dX10_findBest_157 : decode cX10_findBest 157 = .ok (.iload 4, 2) := by decide +kernel
theorem dX10_findBest_159 : decode cX10_findBest 159 = .ok (.ireturn, 1) := by decide +kernel
theorem dX10_bestOf_0 : decode cX10_bestOf 0 = .ok (.aload_n 0, 1) := by decide +kernel
theorem dX10_bestOf_1 : decode cX10_bestOf 1 = .ok (.iload_n 1, 1) := by decide +kernel
theorem dX10_bestOf_2 : decode cX10_bestOf 2 = .ok (.aload_n 0, 1) := by decide +kernel
theorem dX10_bestOf_3 : decode cX10_bestOf 3 = .ok (.iload_n 1, 1) := by decide +kernel
theorem dX10_bestOf_4 : decode cX10_bestOf 4 = .ok (.invokevirtual 149, 3) := by decide +kernel
theorem dX10_bestOf_7 : decode cX10_bestOf 7 = .ok (.aload_n 0, 1) := by decide +kernel
theorem dX10_bestOf_8 : decode cX10_bestOf 8 = .ok (.iload_n 1, 1) := by decide +kernel
theorem dX10_bestOf_9 : decode cX10_bestOf 9 = .ok (.invokevirtual 153, 3) := by decide +kernel
theorem dX10_bestOf_12 : decode cX10_bestOf 12 = .ok (.invokevirtual 241, 3) := by decide +kernel
theorem dX10_bestOf_15 : decode cX10_bestOf 15 = .ok (.ireturn, 1) := by decide +kernel
theorem dX10_digitsNow_0 : decode cX10_digitsNow 0 = .ok (.iconst 0, 1) := by decide +kernel
theorem dX10_digitsNow_1 : decode cX10_digitsNow 1 = .ok (.istore_n 1, 1) := by decide +kernel
theorem dX10_digitsNow_2 : decode cX10_digitsNow 2 = .ok (.iconst 0, 1) := by decide +kernel
theorem dX10_digitsNow_3 : decode cX10_digitsNow 3 = .ok (.istore_n 2, 1) := by decide +kernel
theorem dX10_digitsNow_4 : decode cX10_digitsNow 4 = .ok (.iload_n 2, 1) := by decide +kernel
theorem dX10_digitsNow_5 : decode cX10_digitsNow 5 = .ok (.aload_n 0, 1) := by decide +kernel
theorem dX10_digitsNow_6 : decode cX10_digitsNow 6 = .ok (.getfield 102, 3) := by decide +kernel
theorem dX10_digitsNow_9 : decode cX10_digitsNow 9 = .ok (.if_icmp .ge 21, 3) := by decide +kernel
theorem dX10_digitsNow_12 : decode cX10_digitsNow 12 = .ok (.bipush 10, 2) := by decide +kernel
theorem dX10_digitsNow_14 : decode cX10_digitsNow 14 = .ok (.iload_n 1, 1) := by decide +kernel
theorem dX10_digitsNow_15 : decode cX10_digitsNow 15 = .ok (.imul, 1) := by decide +kernel
theorem dX10_digitsNow_16 : decode cX10_digitsNow 16 = .ok (.aload_n 0, 1) := by decide +kernel
theorem dX10_digitsNow_17 : decode cX10_digitsNow 17 = .ok (.getfield 52, 3) := by decide +kernel
theorem dX10_digitsNow_20 : decode cX10_digitsNow 20 = .ok (.iload_n 2, 1) := by decide +kernel
theorem dX10_digitsNow_21 : decode cX10_digitsNow 21 = .ok (.iaload, 1) := by decide +kernel
theorem dX10_digitsNow_22 : decode cX10_digitsNow 22 = .ok (.iadd, 1) := by decide +kernel
theorem dX10_digitsNow_23 : decode cX10_digitsNow 23 = .ok (.istore_n 1, 1) := by decide +kernel
theorem dX10_digitsNow_24 : decode cX10_digitsNow 24 = .ok (.iinc 2 1, 3) := by decide +kernel
theorem dX10_digitsNow_27 : decode cX10_digitsNow 27 = .ok (.goto (-23), 3) := by decide +kernel
theorem dX10_digitsNow_30 : decode cX10_digitsNow 30 = .ok (.iload_n 1, 1) := by decide +kernel
theorem dX10_digitsNow_31 : decode cX10_digitsNow 31 = .ok (.ireturn, 1) := by decide +kernel
theorem dX10_basket_0 : decode cX10_basket 0 = .ok (.aload_n 0, 1) := by decide +kernel
theorem dX10_basket_1 : decode cX10_basket 1 = .ok (.iload_n 1, 1) := by decide +kernel
theorem dX10_basket_2 : decode cX10_basket 2 = .ok (.invokevirtual 144, 3) := by decide +kernel
theorem dX10_basket_5 : decode cX10_basket 5 = .ok (.ifCond .eq 15, 3) := by decide +kernel
theorem dX10_basket_8 : decode cX10_basket 8 = .ok (.iload_n 2, 1) := by decide +kernel
theorem dX10_basket_9 : decode cX10_basket 9 = .ok (.i2l, 1) := by decide +kernel
theorem dX10_basket_10 : decode cX10_basket 10 = .ok (.lconst 0, 1) := by decide +kernel
theorem dX10_basket_11 : decode cX10_basket 11 = .ok (.ldc2_w 147, 3) := by decide +kernel
theorem dX10_basket_14 : decode cX10_basket 14 = .ok (.invokestatic 105, 3) := by decide +kernel
theorem dX10_basket_17 : decode cX10_basket 17 = .ok (.ifCond .ne 5, 3) := by decide +kernel
theorem dX10_basket_20 : decode cX10_basket 20 = .ok (.iconst (-1), 1) := by decide +kernel
theorem dX10_basket_21 : decode cX10_basket 21 = .ok (.ireturn, 1) := by decide +kernel
theorem dX10_basket_22 : decode cX10_basket 22 = .ok (.aload_n 0, 1) := by decide +kernel
theorem dX10_basket_23 : decode cX10_basket 23 = .ok (.iload_n 1, 1) := by decide +kernel
theorem dX10_basket_24 : decode cX10_basket 24 = .ok (.invokevirtual 244, 3) := by decide +kernel
theorem dX10_basket_27 : decode cX10_basket 27 = .ok (.istore_n 3, 1) := by decide +kernel
theorem dX10_basket_28 : decode cX10_basket 28 = .ok (.iload_n 2, 1) := by decide +kernel
theorem dX10_basket_29 : decode cX10_basket 29 = .ok (.ifCond .ne 10, 3) := by decide +kernel
theorem dX10_basket_32 : decode cX10_basket 32 = .ok (.aload_n 0, 1) := by decide +kernel
theorem dX10_basket_33 : decode cX10_basket 33 = .ok (.invokevirtual 247, 3) := by decide +kernel
theorem dX10_basket_36 : decode cX10_basket 36 = .ok (.goto 31, 3) := by decide +kernel
theorem dX10_basket_39 : decode cX10_basket 39 = .ok (.iload_n 2, 1) := by decide +kernel
theorem dX10_basket_40 : decode cX10_basket 40 = .ok (.iconst 1, 1) := by decide +kernel
theorem dX10_basket_41 : decode cX10_basket 41 = .ok (.if_icmp .ne 10, 3) := by decide +kernel
theorem dX10_basket_44 : decode cX10_basket 44 = .ok (.aload_n 0, 1) := by decide +kernel
theorem dX10_basket_45 : decode cX10_basket 45 = .ok (.getfield 232, 3) := by decide +kernel
theorem dX10_basket_48 : decode cX10_basket 48 = .ok (.goto 19, 3) := by decide +kernel
theorem dX10_basket_51 : decode cX10_basket 51 = .ok (.iload_n 2, 1) := by decide +kernel
theorem dX10_basket_52 : decode cX10_basket 52 = .ok (.iconst 2, 1) := by decide +kernel
theorem dX10_basket_53 : decode cX10_basket 53 = .ok (.if_icmp .ne 10, 3) := by decide +kernel
theorem dX10_basket_56 : decode cX10_basket 56 = .ok (.aload_n 0, 1) := by decide +kernel
theorem dX10_basket_57 : decode cX10_basket 57 = .ok (.getfield 235, 3) := by decide +kernel
theorem dX10_basket_60 : decode cX10_basket 60 = .ok (.goto 7, 3) := by decide +kernel
theorem dX10_basket_63 : decode cX10_basket 63 = .ok (.aload_n 0, 1) := by decide +kernel
theorem dX10_basket_64 : decode cX10_basket 64 = .ok (.getfield 238, 3) := by decide +kernel
theorem dX10_basket_67 : decode cX10_basket 67 = .ok (.ireturn, 1) := by decide +kernel
theorem dX10_findWanted_0 : decode cX10_findWanted 0 = .ok (.iconst 0, 1) := by decide +kernel
theorem dX10_findWanted_1 : decode cX10_findWanted 1 = .ok (.istore_n 1, 1) := by decide +kernel
theorem dX10_findWanted_2 : decode cX10_findWanted 2 = .ok (.iload_n 1, 1) := by decide +kernel
theorem dX10_findWanted_3 : decode cX10_findWanted 3 = .ok (.aload_n 0, 1) := by decide +kernel
theorem dX10_findWanted_4 : decode cX10_findWanted 4 = .ok (.getfield 102, 3) := by decide +kernel
theorem dX10_findWanted_7 : decode cX10_findWanted 7 = .ok (.if_icmp .ge 16, 3) := by decide +kernel
theorem dX10_findWanted_10 : decode cX10_findWanted 10 = .ok (.aload_n 0, 1) := by decide +kernel
theorem dX10_findWanted_11 : decode cX10_findWanted 11 = .ok (.getfield 59, 3) := by decide +kernel
theorem dX10_findWanted_14 : decode cX10_findWanted 14 = .ok (.iload_n 1, 1) := by decide +kernel
theorem dX10_findWanted_15 : decode cX10_findWanted 15 = .ok (.iconst 0, 1) := by decide +kernel
theorem dX10_findWanted_16 : decode cX10_findWanted 16 = .ok (.iastore, 1) := by decide +kernel
theorem dX10_findWanted_17 : decode cX10_findWanted 17 = .ok (.iinc 1 1, 3) := by decide +kernel
theorem dX10_findWanted_20 : decode cX10_findWanted 20 = .ok (.goto (-18), 3) := by decide +kernel
theorem dX10_findWanted_23 : decode cX10_findWanted 23 = .ok (.iconst 0, 1) := by decide +kernel
theorem dX10_findWanted_24 : decode cX10_findWanted 24 = .ok (.istore_n 1, 1) := by decide +kernel
theorem dX10_findWanted_25 : decode cX10_findWanted 25 = .ok (.iload_n 1, 1) := by decide +kernel
theorem dX10_findWanted_26 : decode cX10_findWanted 26 = .ok (.aload_n 0, 1) := by decide +kernel
theorem dX10_findWanted_27 : decode cX10_findWanted 27 = .ok (.getfield 109, 3) := by decide +kernel
theorem dX10_findWanted_30 : decode cX10_findWanted 30 = .ok (.if_icmp .ge 77, 3) := by decide +kernel
theorem dX10_findWanted_33 : decode cX10_findWanted 33 = .ok (.aload_n 0, 1) := by decide +kernel
theorem dX10_findWanted_34 : decode cX10_findWanted 34 = .ok (.iload_n 1, 1) := by decide +kernel
theorem dX10_findWanted_35 : decode cX10_findWanted 35 = .ok (.invokevirtual 244, 3) := by decide +kernel
theorem dX10_findWanted_38 : decode cX10_findWanted 38 = .ok (.istore_n 2, 1) := by decide +kernel
theorem dX10_findWanted_39 : decode cX10_findWanted 39 = .ok (.iconst 0, 1) := by decide +kernel
theorem dX10_findWanted_40 : decode cX10_findWanted 40 = .ok (.istore_n 3, 1) := by decide +kernel
theorem dX10_findWanted_41 : decode cX10_findWanted 41 = .ok (.iload_n 3, 1) := by decide +kernel
theorem dX10_findWanted_42 : decode cX10_findWanted 42 = .ok (.aload_n 0, 1) := by decide +kernel
theorem dX10_findWanted_43 : decode cX10_findWanted 43 = .ok (.getfield 102, 3) := by decide +kernel
theorem dX10_findWanted_46 : decode cX10_findWanted 46 = .ok (.if_icmp .ge 55, 3) := by decide +kernel
theorem dX10_findWanted_49 : decode cX10_findWanted 49 = .ok (.aload_n 0, 1) := by decide +kernel
theorem dX10_findWanted_50 : decode cX10_findWanted 50 = .ok (.getfield 62, 3) := by decide +kernel
theorem dX10_findWanted_53 : decode cX10_findWanted 53 = .ok (.bipush 6, 2) := by decide +kernel
theorem dX10_findWanted_55 : decode cX10_findWanted 55 = .ok (.iload_n 1, 1) := by decide +kernel
theorem dX10_findWanted_56 : decode cX10_findWanted 56 = .ok (.imul, 1) := by decide +kernel
theorem dX10_findWanted_57 : decode cX10_findWanted 57 = .ok (.iload_n 3, 1) := by decide +kernel
theorem dX10_findWanted_58 : decode cX10_findWanted 58 = .ok (.iadd, 1) := by decide +kernel
theorem dX10_findWanted_59 : decode cX10_findWanted 59 = .ok (.aload_n 0, 1) := by decide +kernel
theorem dX10_findWanted_60 : decode cX10_findWanted 60 = .ok (.getfield 25, 3) := by decide +kernel
theorem dX10_findWanted_63 : decode cX10_findWanted 63 = .ok (.iload_n 1, 1) := by decide +kernel
theorem dX10_findWanted_64 : decode cX10_findWanted 64 = .ok (.iaload, 1) := by decide +kernel
theorem dX10_findWanted_65 : decode cX10_findWanted 65 = .ok (.aload_n 0, 1) := by decide +kernel
theorem dX10_findWanted_66 : decode cX10_findWanted 66 = .ok (.getfield 52, 3) := by decide +kernel
theorem dX10_findWanted_69 : decode cX10_findWanted 69 = .ok (.iload_n 3, 1) := by decide +kernel
theorem dX10_findWanted_70 : decode cX10_findWanted 70 = .ok (.iaload, 1) := by decide +kernel
theorem dX10_findWanted_71 : decode cX10_findWanted 71 = .ok (.imul, 1) := by decide +kernel
theorem dX10_findWanted_72 : decode cX10_findWanted 72 = .ok (.iastore, 1) := by decide +kernel
theorem dX10_findWanted_73 : decode cX10_findWanted 73 = .ok (.aload_n 0, 1) := by decide +kernel
theorem dX10_findWanted_74 : decode cX10_findWanted 74 = .ok (.getfield 59, 3) := by decide +kernel
theorem dX10_findWanted_77 : decode cX10_findWanted 77 = .ok (.iload_n 3, 1) := by decide +kernel
theorem dX10_findWanted_78 : decode cX10_findWanted 78 = .ok (.dup2, 1) := by decide +kernel
theorem dX10_findWanted_79 : decode cX10_findWanted 79 = .ok (.iaload, 1) := by decide +kernel
theorem dX10_findWanted_80 : decode cX10_findWanted 80 = .ok (.aload_n 0, 1) := by decide +kernel
theorem dX10_findWanted_81 : decode cX10_findWanted 81 = .ok (.getfield 25, 3) := by decide +kernel
theorem dX10_findWanted_84 : decode cX10_findWanted 84 = .ok (.iload_n 1, 1) := by decide +kernel
theorem dX10_findWanted_85 : decode cX10_findWanted 85 = .ok (.iaload, 1) := by decide +kernel
theorem dX10_findWanted_86 : decode cX10_findWanted 86 = .ok (.aload_n 0, 1) := by decide +kernel
theorem dX10_findWanted_87 : decode cX10_findWanted 87 = .ok (.getfield 52, 3) := by decide +kernel
theorem dX10_findWanted_90 : decode cX10_findWanted 90 = .ok (.iload_n 3, 1) := by decide +kernel
theorem dX10_findWanted_91 : decode cX10_findWanted 91 = .ok (.iaload, 1) := by decide +kernel
theorem dX10_findWanted_92 : decode cX10_findWanted 92 = .ok (.imul, 1) := by decide +kernel
theorem dX10_findWanted_93 : decode cX10_findWanted 93 = .ok (.iadd, 1) := by decide +kernel
theorem dX10_findWanted_94 : decode cX10_findWanted 94 = .ok (.iastore, 1) := by decide +kernel
theorem dX10_findWanted_95 : decode cX10_findWanted 95 = .ok (.iinc 3 1, 3) := by decide +kernel
theorem dX10_findWanted_98 : decode cX10_findWanted 98 = .ok (.goto (-57), 3) := by decide +kernel
theorem dX10_findWanted_101 : decode cX10_findWanted 101 = .ok (.iinc 1 1, 3) := by decide +kernel
theorem dX10_findWanted_104 : decode cX10_findWanted 104 = .ok (.goto (-79), 3) := by decide +kernel
theorem dX10_findWanted_107 : decode cX10_findWanted 107 = .ok (.return_, 1) := by decide +kernel
theorem dX10_over_0 : decode cX10_over 0 = .ok (.aload_n 0, 1) := by decide +kernel
theorem dX10_over_1 : decode cX10_over 1 = .ok (.getfield 9, 3) := by decide +kernel
theorem dX10_over_4 : decode cX10_over 4 = .ok (.iload_n 1, 1) := by decide +kernel
theorem dX10_over_5 : decode cX10_over 5 = .ok (.iaload, 1) := by decide +kernel
theorem dX10_over_6 : decode cX10_over 6 = .ok (.aload_n 0, 1) := by decide +kernel
theorem dX10_over_7 : decode cX10_over 7 = .ok (.getfield 59, 3) := by decide +kernel
theorem dX10_over_10 : decode cX10_over 10 = .ok (.iload_n 1, 1) := by decide +kernel
theorem dX10_over_11 : decode cX10_over 11 = .ok (.iaload, 1) := by decide +kernel
theorem dX10_over_12 : decode cX10_over 12 = .ok (.isub, 1) := by decide +kernel
theorem dX10_over_13 : decode cX10_over 13 = .ok (.ireturn, 1) := by decide +kernel
theorem dX10_bothOver_0 : decode cX10_bothOver 0 = .ok (.iconst 0, 1) := by decide +kernel
theorem dX10_bothOver_1 : decode cX10_bothOver 1 = .ok (.istore_n 1, 1) := by decide +kernel
theorem dX10_bothOver_2 : decode cX10_bothOver 2 = .ok (.iconst 0, 1) := by decide +kernel
theorem dX10_bothOver_3 : decode cX10_bothOver 3 = .ok (.istore_n 2, 1) := by decide +kernel
theorem dX10_bothOver_4 : decode cX10_bothOver 4 = .ok (.iload_n 2, 1) := by decide +kernel
theorem dX10_bothOver_5 : decode cX10_bothOver 5 = .ok (.aload_n 0, 1) := by decide +kernel
theorem dX10_bothOver_6 : decode cX10_bothOver 6 = .ok (.getfield 102, 3) := by decide +kernel
theorem dX10_bothOver_9 : decode cX10_bothOver 9 = .ok (.if_icmp .ge 20, 3) := by decide +kernel
theorem dX10_bothOver_12 : decode cX10_bothOver 12 = .ok (.iload_n 1, 1) := by decide +kernel
theorem dX10_bothOver_13 : decode cX10_bothOver 13 = .ok (.aload_n 0, 1) := by decide +kernel
theorem dX10_bothOver_14 : decode cX10_bothOver 14 = .ok (.iload_n 2, 1) := by decide +kernel
theorem dX10_bothOver_15 : decode cX10_bothOver 15 = .ok (.invokevirtual 250, 3) := by decide +kernel
theorem dX10_bothOver_18 : decode cX10_bothOver 18 = .ok (.invokestatic 253, 3) := by decide +kernel
theorem dX10_bothOver_21 : decode cX10_bothOver 21 = .ok (.iadd, 1) := by decide +kernel
theorem dX10_bothOver_22 : decode cX10_bothOver 22 = .ok (.istore_n 1, 1) := by decide +kernel
theorem dX10_bothOver_23 : decode cX10_bothOver 23 = .ok (.iinc 2 1, 3) := by decide +kernel
theorem dX10_bothOver_26 : decode cX10_bothOver 26 = .ok (.goto (-22), 3) := by decide +kernel
theorem dX10_bothOver_29 : decode cX10_bothOver 29 = .ok (.iload_n 1, 1) := by decide +kernel
theorem dX10_bothOver_30 : decode cX10_bothOver 30 = .ok (.ireturn, 1) := by decide +kernel
theorem dX10_wanted_0 : decode cX10_wanted 0 = .ok (.iload_n 1, 1) := by decide +kernel
theorem dX10_wanted_1 : decode cX10_wanted 1 = .ok (.iconst (-1), 1) := by decide +kernel
theorem dX10_wanted_2 : decode cX10_wanted 2 = .ok (.if_icmp .ne 12, 3) := by decide +kernel
theorem dX10_wanted_5 : decode cX10_wanted 5 = .ok (.iload_n 2, 1) := by decide +kernel
theorem dX10_wanted_6 : decode cX10_wanted 6 = .ok (.iconst 1, 1) := by decide +kernel
theorem dX10_wanted_7 : decode cX10_wanted 7 = .ok (.if_icmp .ne 7, 3) := by decide +kernel
theorem dX10_wanted_10 : decode cX10_wanted 10 = .ok (.iconst 1, 1) := by decide +kernel
theorem dX10_wanted_11 : decode cX10_wanted 11 = .ok (.goto 4, 3) := by decide +kernel
theorem dX10_wanted_14 : decode cX10_wanted 14 = .ok (.iconst 0, 1) := by decide +kernel
theorem dX10_wanted_15 : decode cX10_wanted 15 = .ok (.istore_n 3, 1) := by decide +kernel
theorem dX10_wanted_16 : decode cX10_wanted 16 = .ok (.iload_n 3, 1) := by decide +kernel
theorem dX10_wanted_17 : decode cX10_wanted 17 = .ok (.ifCond .ne 25, 3) := by decide +kernel
theorem dX10_wanted_20 : decode cX10_wanted 20 = .ok (.aload_n 0, 1) := by decide +kernel
theorem dX10_wanted_21 : decode cX10_wanted 21 = .ok (.iload_n 1, 1) := by decide +kernel
theorem dX10_wanted_22 : decode cX10_wanted 22 = .ok (.invokevirtual 132, 3) := by decide +kernel
theorem dX10_wanted_25 : decode cX10_wanted 25 = .ok (.ifCond .eq 13, 3) := by decide +kernel
theorem dX10_wanted_28 : decode cX10_wanted 28 = .ok (.iload_n 2, 1) := by decide +kernel
theorem dX10_wanted_29 : decode cX10_wanted 29 = .ok (.i2l, 1) := by decide +kernel
theorem dX10_wanted_30 : decode cX10_wanted 30 = .ok (.lconst 0, 1) := by decide +kernel
theorem dX10_wanted_31 : decode cX10_wanted 31 = .ok (.lconst 1, 1) := by decide +kernel
theorem dX10_wanted_32 : decode cX10_wanted 32 = .ok (.invokestatic 105, 3) := by decide +kernel
theorem dX10_wanted_35 : decode cX10_wanted 35 = .ok (.ifCond .ne 7, 3) := by decide +kernel
theorem dX10_wanted_38 : decode cX10_wanted 38 = .ok (.ldc_w 256, 3) := by decide +kernel
theorem dX10_wanted_41 : decode cX10_wanted 41 = .ok (.ireturn, 1) := by decide +kernel
theorem dX10_wanted_42 : decode cX10_wanted 42 = .ok (.aload_n 0, 1) := by decide +kernel
theorem dX10_wanted_43 : decode cX10_wanted 43 = .ok (.invokevirtual 257, 3) := by decide +kernel
theorem dX10_wanted_46 : decode cX10_wanted 46 = .ok (.iload_n 3, 1) := by decide +kernel
theorem dX10_wanted_47 : decode cX10_wanted 47 = .ok (.ifCond .eq 10, 3) := by decide +kernel
theorem dX10_wanted_50 : decode cX10_wanted 50 = .ok (.aload_n 0, 1) := by decide +kernel
theorem dX10_wanted_51 : decode cX10_wanted 51 = .ok (.invokevirtual 260, 3) := by decide +kernel
theorem dX10_wanted_54 : decode cX10_wanted 54 = .ok (.goto 21, 3) := by decide +kernel
theorem dX10_wanted_57 : decode cX10_wanted 57 = .ok (.iload_n 2, 1) := by decide +kernel
theorem dX10_wanted_58 : decode cX10_wanted 58 = .ok (.ifCond .ne 12, 3) := by decide +kernel
theorem dX10_wanted_61 : decode cX10_wanted 61 = .ok (.aload_n 0, 1) := by decide +kernel
theorem dX10_wanted_62 : decode cX10_wanted 62 = .ok (.getfield 59, 3) := by decide +kernel
theorem dX10_wanted_65 : decode cX10_wanted 65 = .ok (.iload_n 1, 1) := by decide +kernel
theorem dX10_wanted_66 : decode cX10_wanted 66 = .ok (.iaload, 1) := by decide +kernel
theorem dX10_wanted_67 : decode cX10_wanted 67 = .ok (.goto 8, 3) := by decide +kernel
theorem dX10_wanted_70 : decode cX10_wanted 70 = .ok (.aload_n 0, 1) := by decide +kernel
theorem dX10_wanted_71 : decode cX10_wanted 71 = .ok (.iload_n 1, 1) := by decide +kernel
theorem dX10_wanted_72 : decode cX10_wanted 72 = .ok (.invokevirtual 250, 3) := by decide +kernel
theorem dX10_wanted_75 : decode cX10_wanted 75 = .ok (.ireturn, 1) := by decide +kernel
theorem dX10_led_0 : decode cX10_led 0 = .ok (.aload_n 0, 1) := by decide +kernel
theorem dX10_led_1 : decode cX10_led 1 = .ok (.iload_n 1, 1) := by decide +kernel
theorem dX10_led_2 : decode cX10_led 2 = .ok (.invokevirtual 132, 3) := by decide +kernel
theorem dX10_led_5 : decode cX10_led 5 = .ok (.ifCond .eq 11, 3) := by decide +kernel
theorem dX10_led_8 : decode cX10_led 8 = .ok (.aload_n 0, 1) := by decide +kernel
theorem dX10_led_9 : decode cX10_led 9 = .ok (.iload_n 2, 1) := by decide +kernel
theorem dX10_led_10 : decode cX10_led 10 = .ok (.invokevirtual 144, 3) := by decide +kernel
theorem dX10_led_13 : decode cX10_led 13 = .ok (.ifCond .ne 5, 3) := by decide +kernel
theorem dX10_led_16 : decode cX10_led 16 = .ok (.iconst (-1), 1) := by decide +kernel
theorem dX10_led_17 : decode cX10_led 17 = .ok (.ireturn, 1) := by decide +kernel
theorem dX10_led_18 : decode cX10_led 18 = .ok (.aload_n 0, 1) := by decide +kernel
theorem dX10_led_19 : decode cX10_led 19 = .ok (.invokevirtual 257, 3) := by decide +kernel
theorem dX10_led_22 : decode cX10_led 22 = .ok (.aload_n 0, 1) := by decide +kernel
theorem dX10_led_23 : decode cX10_led 23 = .ok (.getfield 62, 3) := by decide +kernel
theorem dX10_led_26 : decode cX10_led 26 = .ok (.bipush 6, 2) := by decide +kernel
theorem dX10_led_28 : decode cX10_led 28 = .ok (.iload_n 2, 1) := by decide +kernel
theorem dX10_led_29 : decode cX10_led 29 = .ok (.imul, 1) := by decide +kernel
theorem dX10_led_30 : decode cX10_led 30 = .ok (.iload_n 1, 1) := by decide +kernel
theorem dX10_led_31 : decode cX10_led 31 = .ok (.iadd, 1) := by decide +kernel
theorem dX10_led_32 : decode cX10_led 32 = .ok (.iaload, 1) := by decide +kernel
theorem dX10_led_33 : decode cX10_led 33 = .ok (.ireturn, 1) := by decide +kernel
theorem dX10_goRounds_0 : decode cX10_goRounds 0 = .ok (.iconst 0, 1) := by decide +kernel
theorem dX10_goRounds_1 : decode cX10_goRounds 1 = .ok (.istore_n 2, 1) := by decide +kernel
theorem dX10_goRounds_2 : decode cX10_goRounds 2 = .ok (.iload_n 2, 1) := by decide +kernel
theorem dX10_goRounds_3 : decode cX10_goRounds 3 = .ok (.aload_n 0, 1) := by decide +kernel
theorem dX10_goRounds_4 : decode cX10_goRounds 4 = .ok (.getfield 102, 3) := by decide +kernel
theorem dX10_goRounds_7 : decode cX10_goRounds 7 = .ok (.if_icmp .ge 39, 3) := by decide +kernel
theorem dX10_goRounds_10 : decode cX10_goRounds 10 = .ok (.aload_n 0, 1) := by decide +kernel
theorem dX10_goRounds_11 : decode cX10_goRounds 11 = .ok (.getfield 71, 3) := by decide +kernel
theorem dX10_goRounds_14 : decode cX10_goRounds 14 = .ok (.iload_n 2, 1) := by decide +kernel
theorem dX10_goRounds_15 : decode cX10_goRounds 15 = .ok (.aload_n 0, 1) := by decide +kernel
theorem dX10_goRounds_16 : decode cX10_goRounds 16 = .ok (.getfield 9, 3) := by decide +kernel
theorem dX10_goRounds_19 : decode cX10_goRounds 19 = .ok (.bipush 12, 2) := by decide +kernel
theorem dX10_goRounds_21 : decode cX10_goRounds 21 = .ok (.iload_n 2, 1) := by decide +kernel
theorem dX10_goRounds_22 : decode cX10_goRounds 22 = .ok (.iadd, 1) := by decide +kernel
theorem dX10_goRounds_23 : decode cX10_goRounds 23 = .ok (.iaload, 1) := by decide +kernel
theorem dX10_goRounds_24 : decode cX10_goRounds 24 = .ok (.iastore, 1) := by decide +kernel
theorem dX10_goRounds_25 : decode cX10_goRounds 25 = .ok (.aload_n 0, 1) := by decide +kernel
theorem dX10_goRounds_26 : decode cX10_goRounds 26 = .ok (.getfield 68, 3) := by decide +kernel
theorem dX10_goRounds_29 : decode cX10_goRounds 29 = .ok (.iload_n 2, 1) := by decide +kernel
theorem dX10_goRounds_30 : decode cX10_goRounds 30 = .ok (.aload_n 0, 1) := by decide +kernel
theorem dX10_goRounds_31 : decode cX10_goRounds 31 = .ok (.getfield 9, 3) := by decide +kernel
theorem dX10_goRounds_34 : decode cX10_goRounds 34 = .ok (.bipush 12, 2) := by decide +kernel
theorem dX10_goRounds_36 : decode cX10_goRounds 36 = .ok (.iload_n 2, 1) := by decide +kernel
theorem dX10_goRounds_37 : decode cX10_goRounds 37 = .ok (.iadd, 1) := by decide +kernel
theorem dX10_goRounds_38 : decode cX10_goRounds 38 = .ok (.iaload, 1) := by decide +kernel
theorem dX10_goRounds_39 : decode cX10_goRounds 39 = .ok (.iastore, 1) := by decide +kernel
theorem dX10_goRounds_40 : decode cX10_goRounds 40 = .ok (.iinc 2 1, 3) := by decide +kernel
theorem dX10_goRounds_43 : decode cX10_goRounds 43 = .ok (.goto (-41), 3) := by decide +kernel
theorem dX10_goRounds_46 : decode cX10_goRounds 46 = .ok (.aload_n 0, 1) := by decide +kernel
theorem dX10_goRounds_47 : decode cX10_goRounds 47 = .ok (.invokevirtual 257, 3) := by decide +kernel
theorem dX10_goRounds_50 : decode cX10_goRounds 50 = .ok (.aload_n 0, 1) := by decide +kernel
theorem dX10_goRounds_51 : decode cX10_goRounds 51 = .ok (.iconst 0, 1) := by decide +kernel
theorem dX10_goRounds_52 : decode cX10_goRounds 52 = .ok (.putfield 263, 3) := by decide +kernel
theorem dX10_goRounds_55 : decode cX10_goRounds 55 = .ok (.aload_n 0, 1) := by decide +kernel
theorem dX10_goRounds_56 : decode cX10_goRounds 56 = .ok (.aload_n 0, 1) := by decide +kernel
theorem dX10_goRounds_57 : decode cX10_goRounds 57 = .ok (.invokevirtual 260, 3) := by decide +kernel
theorem dX10_goRounds_60 : decode cX10_goRounds 60 = .ok (.putfield 266, 3) := by decide +kernel
theorem dX10_goRounds_63 : decode cX10_goRounds 63 = .ok (.aload_n 0, 1) := by decide +kernel
theorem dX10_goRounds_64 : decode cX10_goRounds 64 = .ok (.aload_n 0, 1) := by decide +kernel
theorem dX10_goRounds_65 : decode cX10_goRounds 65 = .ok (.getfield 266, 3) := by decide +kernel
theorem dX10_goRounds_68 : decode cX10_goRounds 68 = .ok (.putfield 269, 3) := by decide +kernel
theorem dX10_goRounds_71 : decode cX10_goRounds 71 = .ok (.aload_n 0, 1) := by decide +kernel
theorem dX10_goRounds_72 : decode cX10_goRounds 72 = .ok (.iconst 0, 1) := by decide +kernel
theorem dX10_goRounds_73 : decode cX10_goRounds 73 = .ok (.putfield 272, 3) := by decide +kernel
theorem dX10_goRounds_76 : decode cX10_goRounds 76 = .ok (.iconst 1, 1) := by decide +kernel
theorem dX10_goRounds_77 : decode cX10_goRounds 77 = .ok (.istore_n 2, 1) := by decide +kernel
theorem dX10_goRounds_78 : decode cX10_goRounds 78 = .ok (.iconst 1, 1) := by decide +kernel
theorem dX10_goRounds_79 : decode cX10_goRounds 79 = .ok (.istore_n 3, 1) := by decide +kernel
theorem dX10_goRounds_80 : decode cX10_goRounds 80 = .ok (.iload_n 3, 1) := by decide +kernel
theorem dX10_goRounds_81 : decode cX10_goRounds 81 = .ok (.iload_n 1, 1) := by decide +kernel
theorem dX10_goRounds_82 : decode cX10_goRounds 82 = .ok (.if_icmp .gt 142, 3) := by decide +kernel
theorem dX10_goRounds_85 : decode cX10_goRounds 85 = .ok (.iload_n 2, 1) := by decide +kernel
theorem dX10_goRounds_86 : decode cX10_goRounds 86 = .ok (.ifCond .eq 138, 3) := by decide +kernel
theorem dX10_goRounds_89 : decode cX10_goRounds 89 = .ok (.iconst 0, 1) := by decide +kernel
theorem dX10_goRounds_90 : decode cX10_goRounds 90 = .ok (.istore_n 2, 1) := by decide +kernel
theorem dX10_goRounds_91 : decode cX10_goRounds 91 = .ok (.iconst 0, 1) := by decide +kernel
theorem dX10_goRounds_92 : decode cX10_goRounds 92 = .ok (.istore 4, 2) := by decide +kernel
theorem dX10_goRounds_94 : decode cX10_goRounds 94 = .ok (.iload 4, 2) := by decide +kernel
theorem dX10_goRounds_96 : decode cX10_goRounds 96 = .ok (.aload_n 0, 1) := by decide +kernel
theorem dX10_goRounds_97 : decode cX10_goRounds 97 = .ok (.getfield 102, 3) := by decide +kernel
theorem dX10_goRounds_100 : decode cX10_goRounds 100 = .ok (.if_icmp .ge 92, 3) := by decide +kernel
theorem dX10_goRounds_103 : decode cX10_goRounds 103 = .ok (.aload_n 0, 1) := by decide +kernel
theorem dX10_goRounds_104 : decode cX10_goRounds 104 = .ok (.getfield 9, 3) := by decide +kernel
theorem dX10_goRounds_107 : decode cX10_goRounds 107 = .ok (.bipush 12, 2) := by decide +kernel
theorem dX10_goRounds_109 : decode cX10_goRounds 109 = .ok (.iload 4, 2) := by decide +kernel
theorem dX10_goRounds_111 : decode cX10_goRounds 111 = .ok (.iadd, 1) := by decide +kernel
theorem dX10_goRounds_112 : decode cX10_goRounds 112 = .ok (.iaload, 1) := by decide +kernel
theorem dX10_goRounds_113 : decode cX10_goRounds 113 = .ok (.istore 5, 2) := by decide +kernel
theorem dX10_goRounds_115 : decode cX10_goRounds 115 = .ok (.aload_n 0, 1) := by decide +kernel
theorem dX10_goRounds_116 : decode cX10_goRounds 116 = .ok (.iload 4, 2) := by decide +kernel
theorem dX10_goRounds_118 : decode cX10_goRounds 118 = .ok (.invokevirtual 250, 3) := by decide +kernel
theorem dX10_goRounds_121 : decode cX10_goRounds 121 = .ok (.ifCond .ge 14, 3) := by decide +kernel
theorem dX10_goRounds_124 : decode cX10_goRounds 124 = .ok (.iload 5, 2) := by decide +kernel
theorem dX10_goRounds_126 : decode cX10_goRounds 126 = .ok (.bipush 99, 2) := by decide +kernel
theorem dX10_goRounds_128 : decode cX10_goRounds 128 = .ok (.if_icmp .ge 7, 3) := by decide +kernel
theorem dX10_goRounds_131 : decode cX10_goRounds 131 = .ok (.iconst 1, 1) := by decide +kernel
theorem dX10_goRounds_132 : decode cX10_goRounds 132 = .ok (.goto 22, 3) := by decide +kernel
theorem dX10_goRounds_135 : decode cX10_goRounds 135 = .ok (.aload_n 0, 1) := by decide +kernel
theorem dX10_goRounds_136 : decode cX10_goRounds 136 = .ok (.iload 4, 2) := by decide +kernel
theorem dX10_goRounds_138 : decode cX10_goRounds 138 = .ok (.invokevirtual 250, 3) := by decide +kernel
theorem dX10_goRounds_141 : decode cX10_goRounds 141 = .ok (.ifCond .le 12, 3) := by decide +kernel
theorem dX10_goRounds_144 : decode cX10_goRounds 144 = .ok (.iload 5, 2) := by decide +kernel
theorem dX10_goRounds_146 : decode cX10_goRounds 146 = .ok (.ifCond .le 7, 3) := by decide +kernel
end
section
theorem dX10_goRounds_149 : decode cX10_goRounds 149 = .ok (.iconst (-1), 1) := by decide +kernel
theorem dX10_goRounds_150 : decode cX10_goRounds 150 = .ok (.goto 4, 3) := by decide +kernel
theorem dX10_goRounds_153 : decode cX10_goRounds 153 = .ok (.iconst 0, 1) := by decide +kernel
theorem dX10_goRounds_154 : decode cX10_goRounds 154 = .ok (.istore 6, 2) := by decide +kernel
theorem dX10_goRounds_156 : decode cX10_goRounds 156 = .ok (.aload_n 0, 1) := by decide +kernel
theorem dX10_goRounds_157 : decode cX10_goRounds 157 = .ok (.getfield 9, 3) := by decide +kernel
theorem dX10_goRounds_160 : decode cX10_goRounds 160 = .ok (.bipush 12, 2) := by decide +kernel
theorem dX10_goRounds_162 : decode cX10_goRounds 162 = .ok (.iload 4, 2) := by decide +kernel
theorem dX10_goRounds_164 : decode cX10_goRounds 164 = .ok (.iadd, 1) := by decide +kernel
theorem dX10_goRounds_165 : decode cX10_goRounds 165 = .ok (.iload 5, 2) := by decide +kernel
theorem dX10_goRounds_167 : decode cX10_goRounds 167 = .ok (.iload 6, 2) := by decide +kernel
theorem dX10_goRounds_169 : decode cX10_goRounds 169 = .ok (.iadd, 1) := by decide +kernel
theorem dX10_goRounds_170 : decode cX10_goRounds 170 = .ok (.iastore, 1) := by decide +kernel
theorem dX10_goRounds_171 : decode cX10_goRounds 171 = .ok (.iload_n 2, 1) := by decide +kernel
theorem dX10_goRounds_172 : decode cX10_goRounds 172 = .ok (.ifCond .ne 8, 3) := by decide +kernel
theorem dX10_goRounds_175 : decode cX10_goRounds 175 = .ok (.iload 6, 2) := by decide +kernel
theorem dX10_goRounds_177 : decode cX10_goRounds 177 = .ok (.ifCond .eq 7, 3) := by decide +kernel
theorem dX10_goRounds_180 : decode cX10_goRounds 180 = .ok (.iconst 1, 1) := by decide +kernel
theorem dX10_goRounds_181 : decode cX10_goRounds 181 = .ok (.goto 4, 3) := by decide +kernel
theorem dX10_goRounds_184 : decode cX10_goRounds 184 = .ok (.iconst 0, 1) := by decide +kernel
theorem dX10_goRounds_185 : decode cX10_goRounds 185 = .ok (.istore_n 2, 1) := by decide +kernel
theorem dX10_goRounds_186 : decode cX10_goRounds 186 = .ok (.iinc 4 1, 3) := by decide +kernel
theorem dX10_goRounds_189 : decode cX10_goRounds 189 = .ok (.goto (-95), 3) := by decide +kernel
theorem dX10_goRounds_192 : decode cX10_goRounds 192 = .ok (.iload_n 2, 1) := by decide +kernel
theorem dX10_goRounds_193 : decode cX10_goRounds 193 = .ok (.ifCond .eq 25, 3) := by decide +kernel
theorem dX10_goRounds_196 : decode cX10_goRounds 196 = .ok (.aload_n 0, 1) := by decide +kernel
theorem dX10_goRounds_197 : decode cX10_goRounds 197 = .ok (.invokevirtual 257, 3) := by decide +kernel
theorem dX10_goRounds_200 : decode cX10_goRounds 200 = .ok (.aload_n 0, 1) := by decide +kernel
theorem dX10_goRounds_201 : decode cX10_goRounds 201 = .ok (.iload_n 3, 1) := by decide +kernel
theorem dX10_goRounds_202 : decode cX10_goRounds 202 = .ok (.putfield 263, 3) := by decide +kernel
theorem dX10_goRounds_205 : decode cX10_goRounds 205 = .ok (.aload_n 0, 1) := by decide +kernel
theorem dX10_goRounds_206 : decode cX10_goRounds 206 = .ok (.aload_n 0, 1) := by decide +kernel
theorem dX10_goRounds_207 : decode cX10_goRounds 207 = .ok (.invokevirtual 260, 3) := by decide +kernel
theorem dX10_goRounds_210 : decode cX10_goRounds 210 = .ok (.putfield 266, 3) := by decide +kernel
theorem dX10_goRounds_213 : decode cX10_goRounds 213 = .ok (.aload_n 0, 1) := by decide +kernel
theorem dX10_goRounds_214 : decode cX10_goRounds 214 = .ok (.iload_n 3, 1) := by decide +kernel
theorem dX10_goRounds_215 : decode cX10_goRounds 215 = .ok (.invokevirtual 275, 3) := by decide +kernel
theorem dX10_goRounds_218 : decode cX10_goRounds 218 = .ok (.iinc 3 1, 3) := by decide +kernel
theorem dX10_goRounds_221 : decode cX10_goRounds 221 = .ok (.goto (-141), 3) := by decide +kernel
theorem dX10_goRounds_224 : decode cX10_goRounds 224 = .ok (.iconst 0, 1) := by decide +kernel
theorem dX10_goRounds_225 : decode cX10_goRounds 225 = .ok (.istore_n 3, 1) := by decide +kernel
theorem dX10_goRounds_226 : decode cX10_goRounds 226 = .ok (.iload_n 3, 1) := by decide +kernel
theorem dX10_goRounds_227 : decode cX10_goRounds 227 = .ok (.aload_n 0, 1) := by decide +kernel
theorem dX10_goRounds_228 : decode cX10_goRounds 228 = .ok (.getfield 102, 3) := by decide +kernel
theorem dX10_goRounds_231 : decode cX10_goRounds 231 = .ok (.if_icmp .ge 39, 3) := by decide +kernel
theorem dX10_goRounds_234 : decode cX10_goRounds 234 = .ok (.aload_n 0, 1) := by decide +kernel
theorem dX10_goRounds_235 : decode cX10_goRounds 235 = .ok (.getfield 65, 3) := by decide +kernel
theorem dX10_goRounds_238 : decode cX10_goRounds 238 = .ok (.iload_n 3, 1) := by decide +kernel
theorem dX10_goRounds_239 : decode cX10_goRounds 239 = .ok (.aload_n 0, 1) := by decide +kernel
theorem dX10_goRounds_240 : decode cX10_goRounds 240 = .ok (.getfield 9, 3) := by decide +kernel
theorem dX10_goRounds_243 : decode cX10_goRounds 243 = .ok (.bipush 12, 2) := by decide +kernel
theorem dX10_goRounds_245 : decode cX10_goRounds 245 = .ok (.iload_n 3, 1) := by decide +kernel
theorem dX10_goRounds_246 : decode cX10_goRounds 246 = .ok (.iadd, 1) := by decide +kernel
theorem dX10_goRounds_247 : decode cX10_goRounds 247 = .ok (.iaload, 1) := by decide +kernel
theorem dX10_goRounds_248 : decode cX10_goRounds 248 = .ok (.iastore, 1) := by decide +kernel
theorem dX10_goRounds_249 : decode cX10_goRounds 249 = .ok (.aload_n 0, 1) := by decide +kernel
theorem dX10_goRounds_250 : decode cX10_goRounds 250 = .ok (.getfield 9, 3) := by decide +kernel
theorem dX10_goRounds_253 : decode cX10_goRounds 253 = .ok (.bipush 12, 2) := by decide +kernel
theorem dX10_goRounds_255 : decode cX10_goRounds 255 = .ok (.iload_n 3, 1) := by decide +kernel
theorem dX10_goRounds_256 : decode cX10_goRounds 256 = .ok (.iadd, 1) := by decide +kernel
theorem dX10_goRounds_257 : decode cX10_goRounds 257 = .ok (.aload_n 0, 1) := by decide +kernel
theorem dX10_goRounds_258 : decode cX10_goRounds 258 = .ok (.getfield 71, 3) := by decide +kernel
theorem dX10_goRounds_261 : decode cX10_goRounds 261 = .ok (.iload_n 3, 1) := by decide +kernel
theorem dX10_goRounds_262 : decode cX10_goRounds 262 = .ok (.iaload, 1) := by decide +kernel
theorem dX10_goRounds_263 : decode cX10_goRounds 263 = .ok (.iastore, 1) := by decide +kernel
theorem dX10_goRounds_264 : decode cX10_goRounds 264 = .ok (.iinc 3 1, 3) := by decide +kernel
theorem dX10_goRounds_267 : decode cX10_goRounds 267 = .ok (.goto (-41), 3) := by decide +kernel
theorem dX10_goRounds_270 : decode cX10_goRounds 270 = .ok (.return_, 1) := by decide +kernel
theorem dX10_keepsLeast_0 : decode cX10_keepsLeast 0 = .ok (.aload_n 0, 1) := by decide +kernel
theorem dX10_keepsLeast_1 : decode cX10_keepsLeast 1 = .ok (.getfield 266, 3) := by decide +kernel
theorem dX10_keepsLeast_4 : decode cX10_keepsLeast 4 = .ok (.aload_n 0, 1) := by decide +kernel
theorem dX10_keepsLeast_5 : decode cX10_keepsLeast 5 = .ok (.getfield 269, 3) := by decide +kernel
theorem dX10_keepsLeast_8 : decode cX10_keepsLeast 8 = .ok (.if_icmp .lt 4, 3) := by decide +kernel
theorem dX10_keepsLeast_11 : decode cX10_keepsLeast 11 = .ok (.return_, 1) := by decide +kernel
theorem dX10_keepsLeast_12 : decode cX10_keepsLeast 12 = .ok (.aload_n 0, 1) := by decide +kernel
theorem dX10_keepsLeast_13 : decode cX10_keepsLeast 13 = .ok (.aload_n 0, 1) := by decide +kernel
theorem dX10_keepsLeast_14 : decode cX10_keepsLeast 14 = .ok (.getfield 266, 3) := by decide +kernel
theorem dX10_keepsLeast_17 : decode cX10_keepsLeast 17 = .ok (.putfield 269, 3) := by decide +kernel
theorem dX10_keepsLeast_20 : decode cX10_keepsLeast 20 = .ok (.aload_n 0, 1) := by decide +kernel
theorem dX10_keepsLeast_21 : decode cX10_keepsLeast 21 = .ok (.iload_n 1, 1) := by decide +kernel
theorem dX10_keepsLeast_22 : decode cX10_keepsLeast 22 = .ok (.putfield 272, 3) := by decide +kernel
theorem dX10_keepsLeast_25 : decode cX10_keepsLeast 25 = .ok (.iconst 0, 1) := by decide +kernel
theorem dX10_keepsLeast_26 : decode cX10_keepsLeast 26 = .ok (.istore_n 2, 1) := by decide +kernel
theorem dX10_keepsLeast_27 : decode cX10_keepsLeast 27 = .ok (.iload_n 2, 1) := by decide +kernel
theorem dX10_keepsLeast_28 : decode cX10_keepsLeast 28 = .ok (.aload_n 0, 1) := by decide +kernel
theorem dX10_keepsLeast_29 : decode cX10_keepsLeast 29 = .ok (.getfield 102, 3) := by decide +kernel
theorem dX10_keepsLeast_32 : decode cX10_keepsLeast 32 = .ok (.if_icmp .ge 24, 3) := by decide +kernel
theorem dX10_keepsLeast_35 : decode cX10_keepsLeast 35 = .ok (.aload_n 0, 1) := by decide +kernel
theorem dX10_keepsLeast_36 : decode cX10_keepsLeast 36 = .ok (.getfield 68, 3) := by decide +kernel
theorem dX10_keepsLeast_39 : decode cX10_keepsLeast 39 = .ok (.iload_n 2, 1) := by decide +kernel
theorem dX10_keepsLeast_40 : decode cX10_keepsLeast 40 = .ok (.aload_n 0, 1) := by decide +kernel
theorem dX10_keepsLeast_41 : decode cX10_keepsLeast 41 = .ok (.getfield 9, 3) := by decide +kernel
theorem dX10_keepsLeast_44 : decode cX10_keepsLeast 44 = .ok (.bipush 12, 2) := by decide +kernel
theorem dX10_keepsLeast_46 : decode cX10_keepsLeast 46 = .ok (.iload_n 2, 1) := by decide +kernel
theorem dX10_keepsLeast_47 : decode cX10_keepsLeast 47 = .ok (.iadd, 1) := by decide +kernel
theorem dX10_keepsLeast_48 : decode cX10_keepsLeast 48 = .ok (.iaload, 1) := by decide +kernel
theorem dX10_keepsLeast_49 : decode cX10_keepsLeast 49 = .ok (.iastore, 1) := by decide +kernel
theorem dX10_keepsLeast_50 : decode cX10_keepsLeast 50 = .ok (.iinc 2 1, 3) := by decide +kernel
theorem dX10_keepsLeast_53 : decode cX10_keepsLeast 53 = .ok (.goto (-26), 3) := by decide +kernel
theorem dX10_keepsLeast_56 : decode cX10_keepsLeast 56 = .ok (.return_, 1) := by decide +kernel
theorem dX10_areRounds_0 : decode cX10_areRounds 0 = .ok (.iload_n 0, 1) := by decide +kernel
theorem dX10_areRounds_1 : decode cX10_areRounds 1 = .ok (.i2l, 1) := by decide +kernel
theorem dX10_areRounds_2 : decode cX10_areRounds 2 = .ok (.lconst 1, 1) := by decide +kernel
theorem dX10_areRounds_3 : decode cX10_areRounds 3 = .ok (.ldc2_w 278, 3) := by decide +kernel
theorem dX10_areRounds_6 : decode cX10_areRounds 6 = .ok (.invokestatic 105, 3) := by decide +kernel
theorem dX10_areRounds_9 : decode cX10_areRounds 9 = .ok (.ireturn, 1) := by decide +kernel
theorem dX10_found_0 : decode cX10_found 0 = .ok (.iload_n 1, 1) := by decide +kernel
theorem dX10_found_1 : decode cX10_found 1 = .ok (.invokestatic 280, 3) := by decide +kernel
theorem dX10_found_4 : decode cX10_found 4 = .ok (.ifCond .eq 21, 3) := by decide +kernel
theorem dX10_found_7 : decode cX10_found 7 = .ok (.iload_n 2, 1) := by decide +kernel
theorem dX10_found_8 : decode cX10_found 8 = .ok (.i2l, 1) := by decide +kernel
theorem dX10_found_9 : decode cX10_found 9 = .ok (.ldc2_w 283, 3) := by decide +kernel
theorem dX10_found_12 : decode cX10_found 12 = .ok (.aload_n 0, 1) := by decide +kernel
theorem dX10_found_13 : decode cX10_found 13 = .ok (.getfield 102, 3) := by decide +kernel
theorem dX10_found_16 : decode cX10_found 16 = .ok (.iconst 1, 1) := by decide +kernel
theorem dX10_found_17 : decode cX10_found 17 = .ok (.isub, 1) := by decide +kernel
theorem dX10_found_18 : decode cX10_found 18 = .ok (.i2l, 1) := by decide +kernel
theorem dX10_found_19 : decode cX10_found 19 = .ok (.invokestatic 105, 3) := by decide +kernel
theorem dX10_found_22 : decode cX10_found 22 = .ok (.ifCond .ne 5, 3) := by decide +kernel
theorem dX10_found_25 : decode cX10_found 25 = .ok (.iconst (-1), 1) := by decide +kernel
theorem dX10_found_26 : decode cX10_found 26 = .ok (.ireturn, 1) := by decide +kernel
theorem dX10_found_27 : decode cX10_found 27 = .ok (.aload_n 0, 1) := by decide +kernel
theorem dX10_found_28 : decode cX10_found 28 = .ok (.iload_n 1, 1) := by decide +kernel
theorem dX10_found_29 : decode cX10_found 29 = .ok (.invokevirtual 285, 3) := by decide +kernel
theorem dX10_found_32 : decode cX10_found 32 = .ok (.iload_n 2, 1) := by decide +kernel
theorem dX10_found_33 : decode cX10_found 33 = .ok (.tableswitch 51 (-4) (-1) #[46, 41, 36, 31], 31) := by decide +kernel
theorem dX10_found_64 : decode cX10_found 64 = .ok (.aload_n 0, 1) := by decide +kernel
theorem dX10_found_65 : decode cX10_found 65 = .ok (.getfield 263, 3) := by decide +kernel
theorem dX10_found_68 : decode cX10_found 68 = .ok (.ireturn, 1) := by decide +kernel
theorem dX10_found_69 : decode cX10_found 69 = .ok (.aload_n 0, 1) := by decide +kernel
theorem dX10_found_70 : decode cX10_found 70 = .ok (.getfield 266, 3) := by decide +kernel
theorem dX10_found_73 : decode cX10_found 73 = .ok (.ireturn, 1) := by decide +kernel
theorem dX10_found_74 : decode cX10_found 74 = .ok (.aload_n 0, 1) := by decide +kernel
theorem dX10_found_75 : decode cX10_found 75 = .ok (.getfield 269, 3) := by decide +kernel
theorem dX10_found_78 : decode cX10_found 78 = .ok (.ireturn, 1) := by decide +kernel
theorem dX10_found_79 : decode cX10_found 79 = .ok (.aload_n 0, 1) := by decide +kernel
theorem dX10_found_80 : decode cX10_found 80 = .ok (.getfield 272, 3) := by decide +kernel
theorem dX10_found_83 : decode cX10_found 83 = .ok (.ireturn, 1) := by decide +kernel
theorem dX10_found_84 : decode cX10_found 84 = .ok (.aload_n 0, 1) := by decide +kernel
theorem dX10_found_85 : decode cX10_found 85 = .ok (.getfield 65, 3) := by decide +kernel
theorem dX10_found_88 : decode cX10_found 88 = .ok (.iload_n 2, 1) := by decide +kernel
theorem dX10_found_89 : decode cX10_found 89 = .ok (.iaload, 1) := by decide +kernel
theorem dX10_found_90 : decode cX10_found 90 = .ok (.ireturn, 1) := by decide +kernel
theorem dX10_set_0 : decode cX10_set 0 = .ok (.iload_n 1, 1) := by decide +kernel
theorem dX10_set_1 : decode cX10_set 1 = .ok (.invokestatic 280, 3) := by decide +kernel
theorem dX10_set_4 : decode cX10_set 4 = .ok (.ifCond .ne 5, 3) := by decide +kernel
theorem dX10_set_7 : decode cX10_set 7 = .ok (.iconst (-1), 1) := by decide +kernel
theorem dX10_set_8 : decode cX10_set 8 = .ok (.ireturn, 1) := by decide +kernel
theorem dX10_set_9 : decode cX10_set 9 = .ok (.aload_n 0, 1) := by decide +kernel
theorem dX10_set_10 : decode cX10_set 10 = .ok (.iload_n 1, 1) := by decide +kernel
theorem dX10_set_11 : decode cX10_set 11 = .ok (.invokevirtual 285, 3) := by decide +kernel
theorem dX10_set_14 : decode cX10_set 14 = .ok (.aload_n 0, 1) := by decide +kernel
theorem dX10_set_15 : decode cX10_set 15 = .ok (.getfield 269, 3) := by decide +kernel
theorem dX10_set_18 : decode cX10_set 18 = .ok (.istore_n 2, 1) := by decide +kernel
theorem dX10_set_19 : decode cX10_set 19 = .ok (.iconst 0, 1) := by decide +kernel
theorem dX10_set_20 : decode cX10_set 20 = .ok (.istore_n 3, 1) := by decide +kernel
theorem dX10_set_21 : decode cX10_set 21 = .ok (.iload_n 3, 1) := by decide +kernel
theorem dX10_set_22 : decode cX10_set 22 = .ok (.aload_n 0, 1) := by decide +kernel
theorem dX10_set_23 : decode cX10_set 23 = .ok (.getfield 102, 3) := by decide +kernel
theorem dX10_set_26 : decode cX10_set 26 = .ok (.if_icmp .ge 25, 3) := by decide +kernel
theorem dX10_set_29 : decode cX10_set 29 = .ok (.aload_n 0, 1) := by decide +kernel
theorem dX10_set_30 : decode cX10_set 30 = .ok (.bipush 12, 2) := by decide +kernel
theorem dX10_set_32 : decode cX10_set 32 = .ok (.iload_n 3, 1) := by decide +kernel
theorem dX10_set_33 : decode cX10_set 33 = .ok (.iadd, 1) := by decide +kernel
theorem dX10_set_34 : decode cX10_set 34 = .ok (.aload_n 0, 1) := by decide +kernel
theorem dX10_set_35 : decode cX10_set 35 = .ok (.getfield 68, 3) := by decide +kernel
theorem dX10_set_38 : decode cX10_set 38 = .ok (.iload_n 3, 1) := by decide +kernel
theorem dX10_set_39 : decode cX10_set 39 = .ok (.iaload, 1) := by decide +kernel
theorem dX10_set_40 : decode cX10_set 40 = .ok (.invokevirtual 137, 3) := by decide +kernel
theorem dX10_set_43 : decode cX10_set 43 = .ok (.istore 4, 2) := by decide +kernel
theorem dX10_set_45 : decode cX10_set 45 = .ok (.iinc 3 1, 3) := by decide +kernel
theorem dX10_set_48 : decode cX10_set 48 = .ok (.goto (-27), 3) := by decide +kernel
theorem dX10_set_51 : decode cX10_set 51 = .ok (.iload_n 2, 1) := by decide +kernel
theorem dX10_set_52 : decode cX10_set 52 = .ok (.ireturn, 1) := by decide +kernel
theorem dX10_areDigits_0 : decode cX10_areDigits 0 = .ok (.iload_n 1, 1) := by decide +kernel
theorem dX10_areDigits_1 : decode cX10_areDigits 1 = .ok (.ifCond .ge 5, 3) := by decide +kernel
theorem dX10_areDigits_4 : decode cX10_areDigits 4 = .ok (.iconst 0, 1) := by decide +kernel
theorem dX10_areDigits_5 : decode cX10_areDigits 5 = .ok (.ireturn, 1) := by decide +kernel
theorem dX10_areDigits_6 : decode cX10_areDigits 6 = .ok (.iconst 0, 1) := by decide +kernel
theorem dX10_areDigits_7 : decode cX10_areDigits 7 = .ok (.istore_n 2, 1) := by decide +kernel
theorem dX10_areDigits_8 : decode cX10_areDigits 8 = .ok (.iload_n 1, 1) := by decide +kernel
theorem dX10_areDigits_9 : decode cX10_areDigits 9 = .ok (.istore_n 3, 1) := by decide +kernel
theorem dX10_areDigits_10 : decode cX10_areDigits 10 = .ok (.iload_n 3, 1) := by decide +kernel
theorem dX10_areDigits_11 : decode cX10_areDigits 11 = .ok (.ifCond .le 24, 3) := by decide +kernel
theorem dX10_areDigits_14 : decode cX10_areDigits 14 = .ok (.iload_n 3, 1) := by decide +kernel
theorem dX10_areDigits_15 : decode cX10_areDigits 15 = .ok (.bipush 10, 2) := by decide +kernel
theorem dX10_areDigits_17 : decode cX10_areDigits 17 = .ok (.irem, 1) := by decide +kernel
theorem dX10_areDigits_18 : decode cX10_areDigits 18 = .ok (.iconst 3, 1) := by decide +kernel
theorem dX10_areDigits_19 : decode cX10_areDigits 19 = .ok (.if_icmp .le 5, 3) := by decide +kernel
theorem dX10_areDigits_22 : decode cX10_areDigits 22 = .ok (.iconst 0, 1) := by decide +kernel
theorem dX10_areDigits_23 : decode cX10_areDigits 23 = .ok (.ireturn, 1) := by decide +kernel
theorem dX10_areDigits_24 : decode cX10_areDigits 24 = .ok (.iinc 2 1, 3) := by decide +kernel
theorem dX10_areDigits_27 : decode cX10_areDigits 27 = .ok (.iload_n 3, 1) := by decide +kernel
theorem dX10_areDigits_28 : decode cX10_areDigits 28 = .ok (.bipush 10, 2) := by decide +kernel
theorem dX10_areDigits_30 : decode cX10_areDigits 30 = .ok (.idiv, 1) := by decide +kernel
theorem dX10_areDigits_31 : decode cX10_areDigits 31 = .ok (.istore_n 3, 1) := by decide +kernel
theorem dX10_areDigits_32 : decode cX10_areDigits 32 = .ok (.goto (-22), 3) := by decide +kernel
theorem dX10_areDigits_35 : decode cX10_areDigits 35 = .ok (.iload_n 2, 1) := by decide +kernel
theorem dX10_areDigits_36 : decode cX10_areDigits 36 = .ok (.aload_n 0, 1) := by decide +kernel
theorem dX10_areDigits_37 : decode cX10_areDigits 37 = .ok (.getfield 102, 3) := by decide +kernel
theorem dX10_areDigits_40 : decode cX10_areDigits 40 = .ok (.if_icmp .gt 7, 3) := by decide +kernel
theorem dX10_areDigits_43 : decode cX10_areDigits 43 = .ok (.iconst 1, 1) := by decide +kernel
theorem dX10_areDigits_44 : decode cX10_areDigits 44 = .ok (.goto 4, 3) := by decide +kernel
theorem dX10_areDigits_47 : decode cX10_areDigits 47 = .ok (.iconst 0, 1) := by decide +kernel
theorem dX10_areDigits_48 : decode cX10_areDigits 48 = .ok (.ireturn, 1) := by decide +kernel
theorem dX10_tell_0 : decode cX10_tell 0 = .ok (.aload_n 0, 1) := by decide +kernel
theorem dX10_tell_1 : decode cX10_tell 1 = .ok (.iload_n 1, 1) := by decide +kernel
theorem dX10_tell_2 : decode cX10_tell 2 = .ok (.invokevirtual 144, 3) := by decide +kernel
theorem dX10_tell_5 : decode cX10_tell 5 = .ok (.ifCond .eq 11, 3) := by decide +kernel
theorem dX10_tell_8 : decode cX10_tell 8 = .ok (.aload_n 0, 1) := by decide +kernel
theorem dX10_tell_9 : decode cX10_tell 9 = .ok (.iload_n 2, 1) := by decide +kernel
theorem dX10_tell_10 : decode cX10_tell 10 = .ok (.invokevirtual 288, 3) := by decide +kernel
theorem dX10_tell_13 : decode cX10_tell 13 = .ok (.ifCond .ne 5, 3) := by decide +kernel
theorem dX10_tell_16 : decode cX10_tell 16 = .ok (.iconst (-1), 1) := by decide +kernel
theorem dX10_tell_17 : decode cX10_tell 17 = .ok (.ireturn, 1) := by decide +kernel
theorem dX10_tell_18 : decode cX10_tell 18 = .ok (.aload_n 0, 1) := by decide +kernel
theorem dX10_tell_19 : decode cX10_tell 19 = .ok (.getfield 34, 3) := by decide +kernel
theorem dX10_tell_22 : decode cX10_tell 22 = .ok (.iload_n 1, 1) := by decide +kernel
theorem dX10_tell_23 : decode cX10_tell 23 = .ok (.iaload, 1) := by decide +kernel
theorem dX10_tell_24 : decode cX10_tell 24 = .ok (.istore_n 3, 1) := by decide +kernel
theorem dX10_tell_25 : decode cX10_tell 25 = .ok (.aload_n 0, 1) := by decide +kernel
theorem dX10_tell_26 : decode cX10_tell 26 = .ok (.getfield 34, 3) := by decide +kernel
theorem dX10_tell_29 : decode cX10_tell 29 = .ok (.iload_n 1, 1) := by decide +kernel
theorem dX10_tell_30 : decode cX10_tell 30 = .ok (.iload_n 2, 1) := by decide +kernel
theorem dX10_tell_31 : decode cX10_tell 31 = .ok (.iastore, 1) := by decide +kernel
theorem dX10_tell_32 : decode cX10_tell 32 = .ok (.iload_n 3, 1) := by decide +kernel
theorem dX10_tell_33 : decode cX10_tell 33 = .ok (.ireturn, 1) := by decide +kernel
theorem dX10_packed_0 : decode cX10_packed 0 = .ok (.iconst 0, 1) := by decide +kernel
theorem dX10_packed_1 : decode cX10_packed 1 = .ok (.istore_n 2, 1) := by decide +kernel
theorem dX10_packed_2 : decode cX10_packed 2 = .ok (.iload_n 1, 1) := by decide +kernel
theorem dX10_packed_3 : decode cX10_packed 3 = .ok (.istore_n 3, 1) := by decide +kernel
theorem dX10_packed_4 : decode cX10_packed 4 = .ok (.iconst 0, 1) := by decide +kernel
theorem dX10_packed_5 : decode cX10_packed 5 = .ok (.istore 4, 2) := by decide +kernel
theorem dX10_packed_7 : decode cX10_packed 7 = .ok (.iload 4, 2) := by decide +kernel
theorem dX10_packed_9 : decode cX10_packed 9 = .ok (.aload_n 0, 1) := by decide +kernel
theorem dX10_packed_10 : decode cX10_packed 10 = .ok (.getfield 102, 3) := by decide +kernel
theorem dX10_packed_13 : decode cX10_packed 13 = .ok (.if_icmp .ge 26, 3) := by decide +kernel
theorem dX10_packed_16 : decode cX10_packed 16 = .ok (.iload_n 2, 1) := by decide +kernel
theorem dX10_packed_17 : decode cX10_packed 17 = .ok (.iload_n 3, 1) := by decide +kernel
theorem dX10_packed_18 : decode cX10_packed 18 = .ok (.bipush 10, 2) := by decide +kernel
theorem dX10_packed_20 : decode cX10_packed 20 = .ok (.irem, 1) := by decide +kernel
theorem dX10_packed_21 : decode cX10_packed 21 = .ok (.iconst 2, 1) := by decide +kernel
theorem dX10_packed_22 : decode cX10_packed 22 = .ok (.iload 4, 2) := by decide +kernel
theorem dX10_packed_24 : decode cX10_packed 24 = .ok (.imul, 1) := by decide +kernel
theorem dX10_packed_25 : decode cX10_packed 25 = .ok (.ishl, 1) := by decide +kernel
theorem dX10_packed_26 : decode cX10_packed 26 = .ok (.ior, 1) := by decide +kernel
theorem dX10_packed_27 : decode cX10_packed 27 = .ok (.istore_n 2, 1) := by decide +kernel
theorem dX10_packed_28 : decode cX10_packed 28 = .ok (.iload_n 3, 1) := by decide +kernel
theorem dX10_packed_29 : decode cX10_packed 29 = .ok (.bipush 10, 2) := by decide +kernel
theorem dX10_packed_31 : decode cX10_packed 31 = .ok (.idiv, 1) := by decide +kernel
theorem dX10_packed_32 : decode cX10_packed 32 = .ok (.istore_n 3, 1) := by decide +kernel
theorem dX10_packed_33 : decode cX10_packed 33 = .ok (.iinc 4 1, 3) := by decide +kernel
theorem dX10_packed_36 : decode cX10_packed 36 = .ok (.goto (-29), 3) := by decide +kernel
theorem dX10_packed_39 : decode cX10_packed 39 = .ok (.iload_n 2, 1) := by decide +kernel
theorem dX10_packed_40 : decode cX10_packed 40 = .ok (.ireturn, 1) := by decide +kernel
theorem dX10_judge_0 : decode cX10_judge 0 = .ok (.iconst 0, 1) := by decide +kernel
theorem dX10_judge_1 : decode cX10_judge 1 = .ok (.istore_n 1, 1) := by decide +kernel
theorem dX10_judge_2 : decode cX10_judge 2 = .ok (.iload_n 1, 1) := by decide +kernel
theorem dX10_judge_3 : decode cX10_judge 3 = .ok (.aload_n 0, 1) := by decide +kernel
theorem dX10_judge_4 : decode cX10_judge 4 = .ok (.getfield 109, 3) := by decide +kernel
theorem dX10_judge_7 : decode cX10_judge 7 = .ok (.if_icmp .ge 74, 3) := by decide +kernel
theorem dX10_judge_10 : decode cX10_judge 10 = .ok (.aload_n 0, 1) := by decide +kernel
theorem dX10_judge_11 : decode cX10_judge 11 = .ok (.iload_n 1, 1) := by decide +kernel
theorem dX10_judge_12 : decode cX10_judge 12 = .ok (.invokevirtual 244, 3) := by decide +kernel
theorem dX10_judge_15 : decode cX10_judge 15 = .ok (.istore_n 2, 1) := by decide +kernel
theorem dX10_judge_16 : decode cX10_judge 16 = .ok (.aload_n 0, 1) := by decide +kernel
theorem dX10_judge_17 : decode cX10_judge 17 = .ok (.aload_n 0, 1) := by decide +kernel
theorem dX10_judge_18 : decode cX10_judge 18 = .ok (.aload_n 0, 1) := by decide +kernel
theorem dX10_judge_19 : decode cX10_judge 19 = .ok (.getfield 34, 3) := by decide +kernel
theorem dX10_judge_22 : decode cX10_judge 22 = .ok (.iload_n 1, 1) := by decide +kernel
theorem dX10_judge_23 : decode cX10_judge 23 = .ok (.iaload, 1) := by decide +kernel
theorem dX10_judge_24 : decode cX10_judge 24 = .ok (.invokevirtual 291, 3) := by decide +kernel
theorem dX10_judge_27 : decode cX10_judge 27 = .ok (.invokevirtual 229, 3) := by decide +kernel
theorem dX10_judge_30 : decode cX10_judge 30 = .ok (.aload_n 0, 1) := by decide +kernel
theorem dX10_judge_31 : decode cX10_judge 31 = .ok (.getfield 216, 3) := by decide +kernel
theorem dX10_judge_34 : decode cX10_judge 34 = .ok (.aload_n 0, 1) := by decide +kernel
theorem dX10_judge_35 : decode cX10_judge 35 = .ok (.iload_n 1, 1) := by decide +kernel
theorem dX10_judge_36 : decode cX10_judge 36 = .ok (.invokevirtual 149, 3) := by decide +kernel
theorem dX10_judge_39 : decode cX10_judge 39 = .ok (.if_icmp .gt 15, 3) := by decide +kernel
theorem dX10_judge_42 : decode cX10_judge 42 = .ok (.aload_n 0, 1) := by decide +kernel
theorem dX10_judge_43 : decode cX10_judge 43 = .ok (.getfield 219, 3) := by decide +kernel
theorem dX10_judge_46 : decode cX10_judge 46 = .ok (.aload_n 0, 1) := by decide +kernel
theorem dX10_judge_47 : decode cX10_judge 47 = .ok (.iload_n 1, 1) := by decide +kernel
theorem dX10_judge_48 : decode cX10_judge 48 = .ok (.invokevirtual 153, 3) := by decide +kernel
theorem dX10_judge_51 : decode cX10_judge 51 = .ok (.if_icmp .le 8, 3) := by decide +kernel
theorem dX10_judge_54 : decode cX10_judge 54 = .ok (.bipush 10, 2) := by decide +kernel
theorem dX10_judge_56 : decode cX10_judge 56 = .ok (.iload_n 1, 1) := by decide +kernel
theorem dX10_judge_57 : decode cX10_judge 57 = .ok (.iadd, 1) := by decide +kernel
theorem dX10_judge_58 : decode cX10_judge 58 = .ok (.ireturn, 1) := by decide +kernel
theorem dX10_judge_59 : decode cX10_judge 59 = .ok (.aload_n 0, 1) := by decide +kernel
theorem dX10_judge_60 : decode cX10_judge 60 = .ok (.getfield 213, 3) := by decide +kernel
theorem dX10_judge_63 : decode cX10_judge 63 = .ok (.aload_n 0, 1) := by decide +kernel
theorem dX10_judge_64 : decode cX10_judge 64 = .ok (.getfield 232, 3) := by decide +kernel
theorem dX10_judge_67 : decode cX10_judge 67 = .ok (.if_icmp .ge 8, 3) := by decide +kernel
theorem dX10_judge_70 : decode cX10_judge 70 = .ok (.bipush 20, 2) := by decide +kernel
theorem dX10_judge_72 : decode cX10_judge 72 = .ok (.iload_n 1, 1) := by decide +kernel
theorem dX10_judge_73 : decode cX10_judge 73 = .ok (.iadd, 1) := by decide +kernel
theorem dX10_judge_74 : decode cX10_judge 74 = .ok (.ireturn, 1) := by decide +kernel
theorem dX10_judge_75 : decode cX10_judge 75 = .ok (.iinc 1 1, 3) := by decide +kernel
theorem dX10_judge_78 : decode cX10_judge 78 = .ok (.goto (-76), 3) := by decide +kernel
theorem dX10_judge_81 : decode cX10_judge 81 = .ok (.iconst 0, 1) := by decide +kernel
theorem dX10_judge_82 : decode cX10_judge 82 = .ok (.istore_n 1, 1) := by decide +kernel
theorem dX10_judge_83 : decode cX10_judge 83 = .ok (.iload_n 1, 1) := by decide +kernel
theorem dX10_judge_84 : decode cX10_judge 84 = .ok (.aload_n 0, 1) := by decide +kernel
theorem dX10_judge_85 : decode cX10_judge 85 = .ok (.getfield 102, 3) := by decide +kernel
theorem dX10_judge_88 : decode cX10_judge 88 = .ok (.if_icmp .ge 75, 3) := by decide +kernel
theorem dX10_judge_91 : decode cX10_judge 91 = .ok (.iconst 0, 1) := by decide +kernel
theorem dX10_judge_92 : decode cX10_judge 92 = .ok (.istore_n 2, 1) := by decide +kernel
theorem dX10_judge_93 : decode cX10_judge 93 = .ok (.iconst 0, 1) := by decide +kernel
theorem dX10_judge_94 : decode cX10_judge 94 = .ok (.istore_n 3, 1) := by decide +kernel
theorem dX10_judge_95 : decode cX10_judge 95 = .ok (.iload_n 3, 1) := by decide +kernel
theorem dX10_judge_96 : decode cX10_judge 96 = .ok (.aload_n 0, 1) := by decide +kernel
theorem dX10_judge_97 : decode cX10_judge 97 = .ok (.getfield 109, 3) := by decide +kernel
theorem dX10_judge_100 : decode cX10_judge 100 = .ok (.if_icmp .ge 42, 3) := by decide +kernel
theorem dX10_judge_103 : decode cX10_judge 103 = .ok (.iload_n 2, 1) := by decide +kernel
theorem dX10_judge_104 : decode cX10_judge 104 = .ok (.aload_n 0, 1) := by decide +kernel
theorem dX10_judge_105 : decode cX10_judge 105 = .ok (.getfield 25, 3) := by decide +kernel
theorem dX10_judge_108 : decode cX10_judge 108 = .ok (.iload_n 3, 1) := by decide +kernel
theorem dX10_judge_109 : decode cX10_judge 109 = .ok (.iaload, 1) := by decide +kernel
theorem dX10_judge_110 : decode cX10_judge 110 = .ok (.aload_n 0, 1) := by decide +kernel
theorem dX10_judge_111 : decode cX10_judge 111 = .ok (.aload_n 0, 1) := by decide +kernel
theorem dX10_judge_112 : decode cX10_judge 112 = .ok (.getfield 34, 3) := by decide +kernel
theorem dX10_judge_115 : decode cX10_judge 115 = .ok (.iload_n 3, 1) := by decide +kernel
theorem dX10_judge_116 : decode cX10_judge 116 = .ok (.iaload, 1) := by decide +kernel
theorem dX10_judge_117 : decode cX10_judge 117 = .ok (.invokevirtual 291, 3) := by decide +kernel
theorem dX10_judge_120 : decode cX10_judge 120 = .ok (.iconst 2, 1) := by decide +kernel
theorem dX10_judge_121 : decode cX10_judge 121 = .ok (.aload_n 0, 1) := by decide +kernel
theorem dX10_judge_122 : decode cX10_judge 122 = .ok (.getfield 102, 3) := by decide +kernel
theorem dX10_judge_125 : decode cX10_judge 125 = .ok (.iconst 1, 1) := by decide +kernel
theorem dX10_judge_126 : decode cX10_judge 126 = .ok (.isub, 1) := by decide +kernel
theorem dX10_judge_127 : decode cX10_judge 127 = .ok (.iload_n 1, 1) := by decide +kernel
theorem dX10_judge_128 : decode cX10_judge 128 = .ok (.isub, 1) := by decide +kernel
theorem dX10_judge_129 : decode cX10_judge 129 = .ok (.imul, 1) := by decide +kernel
theorem dX10_judge_130 : decode cX10_judge 130 = .ok (.ishr, 1) := by decide +kernel
theorem dX10_judge_131 : decode cX10_judge 131 = .ok (.iconst 3, 1) := by decide +kernel
theorem dX10_judge_132 : decode cX10_judge 132 = .ok (.iand, 1) := by decide +kernel
theorem dX10_judge_133 : decode cX10_judge 133 = .ok (.imul, 1) := by decide +kernel
theorem dX10_judge_134 : decode cX10_judge 134 = .ok (.iadd, 1) := by decide +kernel
theorem dX10_judge_135 : decode cX10_judge 135 = .ok (.istore_n 2, 1) := by decide +kernel
theorem dX10_judge_136 : decode cX10_judge 136 = .ok (.iinc 3 1, 3) := by decide +kernel
theorem dX10_judge_139 : decode cX10_judge 139 = .ok (.goto (-44), 3) := by decide +kernel
theorem dX10_judge_142 : decode cX10_judge 142 = .ok (.iload_n 2, 1) := by decide +kernel
theorem dX10_judge_143 : decode cX10_judge 143 = .ok (.aload_n 0, 1) := by decide +kernel
theorem dX10_judge_144 : decode cX10_judge 144 = .ok (.getfield 9, 3) := by decide +kernel
theorem dX10_judge_147 : decode cX10_judge 147 = .ok (.iload_n 1, 1) := by decide +kernel
theorem dX10_judge_148 : decode cX10_judge 148 = .ok (.iaload, 1) := by decide +kernel
theorem dX10_judge_149 : decode cX10_judge 149 = .ok (.if_icmp .le 8, 3) := by decide +kernel
theorem dX10_judge_152 : decode cX10_judge 152 = .ok (.bipush 30, 2) := by decide +kernel
theorem dX10_judge_154 : decode cX10_judge 154 = .ok (.iload_n 1, 1) := by decide +kernel
theorem dX10_judge_155 : decode cX10_judge 155 = .ok (.iadd, 1) := by decide +kernel
theorem dX10_judge_156 : decode cX10_judge 156 = .ok (.ireturn, 1) := by decide +kernel
theorem dX10_judge_157 : decode cX10_judge 157 = .ok (.iinc 1 1, 3) := by decide +kernel
theorem dX10_judge_160 : decode cX10_judge 160 = .ok (.goto (-77), 3) := by decide +kernel
theorem dX10_judge_163 : decode cX10_judge 163 = .ok (.bipush (-2), 2) := by decide +kernel
theorem dX10_judge_165 : decode cX10_judge 165 = .ok (.ireturn, 1) := by decide +kernel
theorem dX10_findChanged_0 : decode cX10_findChanged 0 = .ok (.aload_n 0, 1) := by decide +kernel
theorem dX10_findChanged_1 : decode cX10_findChanged 1 = .ok (.iload_n 1, 1) := by decide +kernel
theorem dX10_findChanged_2 : decode cX10_findChanged 2 = .ok (.invokevirtual 222, 3) := by decide +kernel
theorem dX10_findChanged_5 : decode cX10_findChanged 5 = .ok (.iconst (-1), 1) := by decide +kernel
theorem dX10_findChanged_6 : decode cX10_findChanged 6 = .ok (.istore_n 3, 1) := by decide +kernel
theorem dX10_findChanged_7 : decode cX10_findChanged 7 = .ok (.iconst 0, 1) := by decide +kernel
theorem dX10_findChanged_8 : decode cX10_findChanged 8 = .ok (.istore 4, 2) := by decide +kernel
theorem dX10_findChanged_10 : decode cX10_findChanged 10 = .ok (.iconst 0, 1) := by decide +kernel
theorem dX10_findChanged_11 : decode cX10_findChanged 11 = .ok (.istore 5, 2) := by decide +kernel
theorem dX10_findChanged_13 : decode cX10_findChanged 13 = .ok (.iload 5, 2) := by decide +kernel
theorem dX10_findChanged_15 : decode cX10_findChanged 15 = .ok (.aload_n 0, 1) := by decide +kernel
theorem dX10_findChanged_16 : decode cX10_findChanged 16 = .ok (.invokevirtual 226, 3) := by decide +kernel
theorem dX10_findChanged_19 : decode cX10_findChanged 19 = .ok (.if_icmp .ge 135, 3) := by decide +kernel
theorem dX10_findChanged_22 : decode cX10_findChanged 22 = .ok (.aload_n 0, 1) := by decide +kernel
theorem dX10_findChanged_23 : decode cX10_findChanged 23 = .ok (.iload 5, 2) := by decide +kernel
theorem dX10_findChanged_25 : decode cX10_findChanged 25 = .ok (.invokevirtual 229, 3) := by decide +kernel
theorem dX10_findChanged_28 : decode cX10_findChanged 28 = .ok (.aload_n 0, 1) := by decide +kernel
theorem dX10_findChanged_29 : decode cX10_findChanged 29 = .ok (.getfield 216, 3) := by decide +kernel
theorem dX10_findChanged_32 : decode cX10_findChanged 32 = .ok (.iload_n 2, 1) := by decide +kernel
theorem dX10_findChanged_33 : decode cX10_findChanged 33 = .ok (.aload_n 0, 1) := by decide +kernel
theorem dX10_findChanged_34 : decode cX10_findChanged 34 = .ok (.getfield 219, 3) := by decide +kernel
theorem dX10_findChanged_37 : decode cX10_findChanged 37 = .ok (.imul, 1) := by decide +kernel
theorem dX10_findChanged_38 : decode cX10_findChanged 38 = .ok (.iadd, 1) := by decide +kernel
theorem dX10_findChanged_39 : decode cX10_findChanged 39 = .ok (.istore 6, 2) := by decide +kernel
theorem dX10_findChanged_41 : decode cX10_findChanged 41 = .ok (.iload 6, 2) := by decide +kernel
theorem dX10_findChanged_43 : decode cX10_findChanged 43 = .ok (.iload_n 2, 1) := by decide +kernel
theorem dX10_findChanged_44 : decode cX10_findChanged 44 = .ok (.aload_n 0, 1) := by decide +kernel
theorem dX10_findChanged_45 : decode cX10_findChanged 45 = .ok (.iload_n 1, 1) := by decide +kernel
theorem dX10_findChanged_46 : decode cX10_findChanged 46 = .ok (.invokevirtual 153, 3) := by decide +kernel
theorem dX10_findChanged_49 : decode cX10_findChanged 49 = .ok (.imul, 1) := by decide +kernel
theorem dX10_findChanged_50 : decode cX10_findChanged 50 = .ok (.isub, 1) := by decide +kernel
theorem dX10_findChanged_51 : decode cX10_findChanged 51 = .ok (.aload_n 0, 1) := by decide +kernel
theorem dX10_findChanged_52 : decode cX10_findChanged 52 = .ok (.iload_n 1, 1) := by decide +kernel
theorem dX10_findChanged_53 : decode cX10_findChanged 53 = .ok (.invokevirtual 149, 3) := by decide +kernel
theorem dX10_findChanged_56 : decode cX10_findChanged 56 = .ok (.if_icmp .le 6, 3) := by decide +kernel
theorem dX10_findChanged_59 : decode cX10_findChanged 59 = .ok (.goto 89, 3) := by decide +kernel
theorem dX10_findChanged_62 : decode cX10_findChanged 62 = .ok (.iload_n 3, 1) := by decide +kernel
theorem dX10_findChanged_63 : decode cX10_findChanged 63 = .ok (.ifCond .lt 50, 3) := by decide +kernel
theorem dX10_findChanged_66 : decode cX10_findChanged 66 = .ok (.aload_n 0, 1) := by decide +kernel
theorem dX10_findChanged_67 : decode cX10_findChanged 67 = .ok (.getfield 213, 3) := by decide +kernel
theorem dX10_findChanged_70 : decode cX10_findChanged 70 = .ok (.aload_n 0, 1) := by decide +kernel
theorem dX10_findChanged_71 : decode cX10_findChanged 71 = .ok (.getfield 294, 3) := by decide +kernel
theorem dX10_findChanged_74 : decode cX10_findChanged 74 = .ok (.if_icmp .gt 39, 3) := by decide +kernel
theorem dX10_findChanged_77 : decode cX10_findChanged 77 = .ok (.aload_n 0, 1) := by decide +kernel
theorem dX10_findChanged_78 : decode cX10_findChanged 78 = .ok (.getfield 213, 3) := by decide +kernel
theorem dX10_findChanged_81 : decode cX10_findChanged 81 = .ok (.aload_n 0, 1) := by decide +kernel
theorem dX10_findChanged_82 : decode cX10_findChanged 82 = .ok (.getfield 294, 3) := by decide +kernel
theorem dX10_findChanged_85 : decode cX10_findChanged 85 = .ok (.if_icmp .ne 32, 3) := by decide +kernel
theorem dX10_findChanged_88 : decode cX10_findChanged 88 = .ok (.iload 6, 2) := by decide +kernel
theorem dX10_findChanged_90 : decode cX10_findChanged 90 = .ok (.iload 4, 2) := by decide +kernel
theorem dX10_findChanged_92 : decode cX10_findChanged 92 = .ok (.if_icmp .lt 21, 3) := by decide +kernel
theorem dX10_findChanged_95 : decode cX10_findChanged 95 = .ok (.iload 6, 2) := by decide +kernel
theorem dX10_findChanged_97 : decode cX10_findChanged 97 = .ok (.iload 4, 2) := by decide +kernel
theorem dX10_findChanged_99 : decode cX10_findChanged 99 = .ok (.if_icmp .ne 18, 3) := by decide +kernel
theorem dX10_findChanged_102 : decode cX10_findChanged 102 = .ok (.aload_n 0, 1) := by decide +kernel
theorem dX10_findChanged_103 : decode cX10_findChanged 103 = .ok (.getfield 219, 3) := by decide +kernel
theorem dX10_findChanged_106 : decode cX10_findChanged 106 = .ok (.aload_n 0, 1) := by decide +kernel
theorem dX10_findChanged_107 : decode cX10_findChanged 107 = .ok (.getfield 297, 3) := by decide +kernel
theorem dX10_findChanged_110 : decode cX10_findChanged 110 = .ok (.if_icmp .ge 7, 3) := by decide +kernel
theorem dX10_findChanged_113 : decode cX10_findChanged 113 = .ok (.iconst 1, 1) := by decide +kernel
theorem dX10_findChanged_114 : decode cX10_findChanged 114 = .ok (.goto 4, 3) := by decide +kernel
theorem dX10_findChanged_117 : decode cX10_findChanged 117 = .ok (.iconst 0, 1) := by decide +kernel
theorem dX10_findChanged_118 : decode cX10_findChanged 118 = .ok (.istore 7, 2) := by decide +kernel
theorem dX10_findChanged_120 : decode cX10_findChanged 120 = .ok (.iload 7, 2) := by decide +kernel
theorem dX10_findChanged_122 : decode cX10_findChanged 122 = .ok (.ifCond .eq 26, 3) := by decide +kernel
theorem dX10_findChanged_125 : decode cX10_findChanged 125 = .ok (.iload 5, 2) := by decide +kernel
theorem dX10_findChanged_127 : decode cX10_findChanged 127 = .ok (.istore_n 3, 1) := by decide +kernel
theorem dX10_findChanged_128 : decode cX10_findChanged 128 = .ok (.iload 6, 2) := by decide +kernel
theorem dX10_findChanged_130 : decode cX10_findChanged 130 = .ok (.istore 4, 2) := by decide +kernel
theorem dX10_findChanged_132 : decode cX10_findChanged 132 = .ok (.aload_n 0, 1) := by decide +kernel
theorem dX10_findChanged_133 : decode cX10_findChanged 133 = .ok (.aload_n 0, 1) := by decide +kernel
theorem dX10_findChanged_134 : decode cX10_findChanged 134 = .ok (.getfield 213, 3) := by decide +kernel
theorem dX10_findChanged_137 : decode cX10_findChanged 137 = .ok (.putfield 294, 3) := by decide +kernel
theorem dX10_findChanged_140 : decode cX10_findChanged 140 = .ok (.aload_n 0, 1) := by decide +kernel
theorem dX10_findChanged_141 : decode cX10_findChanged 141 = .ok (.aload_n 0, 1) := by decide +kernel
theorem dX10_findChanged_142 : decode cX10_findChanged 142 = .ok (.getfield 219, 3) := by decide +kernel
theorem dX10_findChanged_145 : decode cX10_findChanged 145 = .ok (.putfield 297, 3) := by decide +kernel
theorem dX10_findChanged_148 : decode cX10_findChanged 148 = .ok (.iinc 5 1, 3) := by decide +kernel
theorem dX10_findChanged_151 : decode cX10_findChanged 151 = .ok (.goto (-138), 3) := by decide +kernel
theorem dX10_findChanged_154 : decode cX10_findChanged 154 = .ok (.return_, 1) := by decide +kernel
theorem dX10_isRate_0 : decode cX10_isRate 0 = .ok (.iload_n 0, 1) := by decide +kernel
theorem dX10_isRate_1 : decode cX10_isRate 1 = .ok (.i2l, 1) := by decide +kernel
theorem dX10_isRate_2 : decode cX10_isRate 2 = .ok (.lconst 1, 1) := by decide +kernel
theorem dX10_isRate_3 : decode cX10_isRate 3 = .ok (.ldc2_w 112, 3) := by decide +kernel
theorem dX10_isRate_6 : decode cX10_isRate 6 = .ok (.invokestatic 105, 3) := by decide +kernel
theorem dX10_isRate_9 : decode cX10_isRate 9 = .ok (.ireturn, 1) := by decide +kernel
theorem dX10_changed_0 : decode cX10_changed 0 = .ok (.aload_n 0, 1) := by decide +kernel
theorem dX10_changed_1 : decode cX10_changed 1 = .ok (.iload_n 1, 1) := by decide +kernel
theorem dX10_changed_2 : decode cX10_changed 2 = .ok (.invokevirtual 144, 3) := by decide +kernel
theorem dX10_changed_5 : decode cX10_changed 5 = .ok (.ifCond .eq 20, 3) := by decide +kernel
theorem dX10_changed_8 : decode cX10_changed 8 = .ok (.iload_n 2, 1) := by decide +kernel
theorem dX10_changed_9 : decode cX10_changed 9 = .ok (.invokestatic 300, 3) := by decide +kernel
theorem dX10_changed_12 : decode cX10_changed 12 = .ok (.ifCond .eq 13, 3) := by decide +kernel
theorem dX10_changed_15 : decode cX10_changed 15 = .ok (.iload_n 3, 1) := by decide +kernel
theorem dX10_changed_16 : decode cX10_changed 16 = .ok (.i2l, 1) := by decide +kernel
theorem dX10_changed_17 : decode cX10_changed 17 = .ok (.lconst 0, 1) := by decide +kernel
theorem dX10_changed_18 : decode cX10_changed 18 = .ok (.lconst 1, 1) := by decide +kernel
theorem dX10_changed_19 : decode cX10_changed 19 = .ok (.invokestatic 105, 3) := by decide +kernel
theorem dX10_changed_22 : decode cX10_changed 22 = .ok (.ifCond .ne 5, 3) := by decide +kernel
theorem dX10_changed_25 : decode cX10_changed 25 = .ok (.iconst (-1), 1) := by decide +kernel
theorem dX10_changed_26 : decode cX10_changed 26 = .ok (.ireturn, 1) := by decide +kernel
theorem dX10_changed_27 : decode cX10_changed 27 = .ok (.aload_n 0, 1) := by decide +kernel
theorem dX10_changed_28 : decode cX10_changed 28 = .ok (.iload_n 1, 1) := by decide +kernel
theorem dX10_changed_29 : decode cX10_changed 29 = .ok (.invokevirtual 244, 3) := by decide +kernel
theorem dX10_changed_32 : decode cX10_changed 32 = .ok (.istore 4, 2) := by decide +kernel
theorem dX10_changed_34 : decode cX10_changed 34 = .ok (.aload_n 0, 1) := by decide +kernel
theorem dX10_changed_35 : decode cX10_changed 35 = .ok (.iload_n 1, 1) := by decide +kernel
theorem dX10_changed_36 : decode cX10_changed 36 = .ok (.iload_n 2, 1) := by decide +kernel
theorem dX10_changed_37 : decode cX10_changed 37 = .ok (.invokevirtual 303, 3) := by decide +kernel
theorem dX10_changed_40 : decode cX10_changed 40 = .ok (.iload_n 3, 1) := by decide +kernel
theorem dX10_changed_41 : decode cX10_changed 41 = .ok (.ifCond .ne 10, 3) := by decide +kernel
theorem dX10_changed_44 : decode cX10_changed 44 = .ok (.aload_n 0, 1) := by decide +kernel
theorem dX10_changed_45 : decode cX10_changed 45 = .ok (.getfield 294, 3) := by decide +kernel
theorem dX10_changed_48 : decode cX10_changed 48 = .ok (.goto 12, 3) := by decide +kernel
theorem dX10_changed_51 : decode cX10_changed 51 = .ok (.aload_n 0, 1) := by decide +kernel
theorem dX10_changed_52 : decode cX10_changed 52 = .ok (.getfield 294, 3) := by decide +kernel
theorem dX10_changed_55 : decode cX10_changed 55 = .ok (.aload_n 0, 1) := by decide +kernel
theorem dX10_changed_56 : decode cX10_changed 56 = .ok (.getfield 232, 3) := by decide +kernel
theorem dX10_changed_59 : decode cX10_changed 59 = .ok (.isub, 1) := by decide +kernel
theorem dX10_changed_60 : decode cX10_changed 60 = .ok (.ireturn, 1) := by decide +kernel
theorem dX10_free_0 : decode cX10_free 0 = .ok (.iconst 1, 1) := by decide +kernel
theorem dX10_free_1 : decode cX10_free 1 = .ok (.istore_n 1, 1) := by decide +kernel
theorem dX10_free_2 : decode cX10_free 2 = .ok (.iload_n 1, 1) := by decide +kernel
theorem dX10_free_3 : decode cX10_free 3 = .ok (.bipush 99, 2) := by decide +kernel
theorem dX10_free_5 : decode cX10_free 5 = .ok (.if_icmp .gt 59, 3) := by decide +kernel
theorem dX10_free_8 : decode cX10_free 8 = .ok (.iconst 0, 1) := by decide +kernel
theorem dX10_free_9 : decode cX10_free 9 = .ok (.istore_n 2, 1) := by decide +kernel
theorem dX10_free_10 : decode cX10_free 10 = .ok (.iconst 0, 1) := by decide +kernel
theorem dX10_free_11 : decode cX10_free 11 = .ok (.istore_n 3, 1) := by decide +kernel
theorem dX10_free_12 : decode cX10_free 12 = .ok (.iload_n 3, 1) := by decide +kernel
theorem dX10_free_13 : decode cX10_free 13 = .ok (.aload_n 0, 1) := by decide +kernel
theorem dX10_free_14 : decode cX10_free 14 = .ok (.getfield 109, 3) := by decide +kernel
theorem dX10_free_17 : decode cX10_free 17 = .ok (.if_icmp .ge 35, 3) := by decide +kernel
theorem dX10_free_20 : decode cX10_free 20 = .ok (.aload_n 0, 1) := by decide +kernel
theorem dX10_free_21 : decode cX10_free 21 = .ok (.iload_n 3, 1) := by decide +kernel
theorem dX10_free_22 : decode cX10_free 22 = .ok (.iload_n 1, 1) := by decide +kernel
theorem dX10_free_23 : decode cX10_free 23 = .ok (.invokevirtual 303, 3) := by decide +kernel
theorem dX10_free_26 : decode cX10_free 26 = .ok (.iload_n 2, 1) := by decide +kernel
theorem dX10_free_27 : decode cX10_free 27 = .ok (.aload_n 0, 1) := by decide +kernel
theorem dX10_free_28 : decode cX10_free 28 = .ok (.getfield 25, 3) := by decide +kernel
theorem dX10_free_31 : decode cX10_free 31 = .ok (.iload_n 3, 1) := by decide +kernel
theorem dX10_free_32 : decode cX10_free 32 = .ok (.iaload, 1) := by decide +kernel
theorem dX10_free_33 : decode cX10_free 33 = .ok (.aload_n 0, 1) := by decide +kernel
theorem dX10_free_34 : decode cX10_free 34 = .ok (.getfield 297, 3) := by decide +kernel
theorem dX10_free_37 : decode cX10_free 37 = .ok (.aload_n 0, 1) := by decide +kernel
theorem dX10_free_38 : decode cX10_free 38 = .ok (.iload_n 3, 1) := by decide +kernel
theorem dX10_free_39 : decode cX10_free 39 = .ok (.invokevirtual 153, 3) := by decide +kernel
theorem dX10_free_42 : decode cX10_free 42 = .ok (.isub, 1) := by decide +kernel
theorem dX10_free_43 : decode cX10_free 43 = .ok (.imul, 1) := by decide +kernel
theorem dX10_free_44 : decode cX10_free 44 = .ok (.iadd, 1) := by decide +kernel
theorem dX10_free_45 : decode cX10_free 45 = .ok (.istore_n 2, 1) := by decide +kernel
theorem dX10_free_46 : decode cX10_free 46 = .ok (.iinc 3 1, 3) := by decide +kernel
theorem dX10_free_49 : decode cX10_free 49 = .ok (.goto (-37), 3) := by decide +kernel
theorem dX10_free_52 : decode cX10_free 52 = .ok (.iload_n 2, 1) := by decide +kernel
theorem dX10_free_53 : decode cX10_free 53 = .ok (.ifCond .gt 5, 3) := by decide +kernel
theorem dX10_free_56 : decode cX10_free 56 = .ok (.iload_n 1, 1) := by decide +kernel
theorem dX10_free_57 : decode cX10_free 57 = .ok (.ireturn, 1) := by decide +kernel
theorem dX10_free_58 : decode cX10_free 58 = .ok (.iinc 1 1, 3) := by decide +kernel
theorem dX10_free_61 : decode cX10_free 61 = .ok (.goto (-59), 3) := by decide +kernel
theorem dX10_free_64 : decode cX10_free 64 = .ok (.bipush (-2), 2) := by decide +kernel
theorem dX10_free_66 : decode cX10_free 66 = .ok (.ireturn, 1) := by decide +kernel
theorem dX10_black_0 : decode cX10_black 0 = .ok (.aload_n 0, 1) := by decide +kernel
theorem dX10_black_1 : decode cX10_black 1 = .ok (.iload_n 1, 1) := by decide +kernel
theorem dX10_black_2 : decode cX10_black 2 = .ok (.invokevirtual 144, 3) := by decide +kernel
theorem dX10_black_5 : decode cX10_black 5 = .ok (.ifCond .eq 29, 3) := by decide +kernel
theorem dX10_black_8 : decode cX10_black 8 = .ok (.iload_n 2, 1) := by decide +kernel
theorem dX10_black_9 : decode cX10_black 9 = .ok (.ifCond .lt 25, 3) := by decide +kernel
theorem dX10_black_12 : decode cX10_black 12 = .ok (.iload_n 2, 1) := by decide +kernel
theorem dX10_black_13 : decode cX10_black 13 = .ok (.bipush 100, 2) := by decide +kernel
theorem dX10_black_15 : decode cX10_black 15 = .ok (.idiv, 1) := by decide +kernel
theorem dX10_black_16 : decode cX10_black 16 = .ok (.invokestatic 300, 3) := by decide +kernel
theorem dX10_black_19 : decode cX10_black 19 = .ok (.ifCond .eq 15, 3) := by decide +kernel
theorem dX10_black_22 : decode cX10_black 22 = .ok (.iload_n 3, 1) := by decide +kernel
theorem dX10_black_23 : decode cX10_black 23 = .ok (.i2l, 1) := by decide +kernel
theorem dX10_black_24 : decode cX10_black 24 = .ok (.lconst 0, 1) := by decide +kernel
theorem dX10_black_25 : decode cX10_black 25 = .ok (.ldc2_w 307, 3) := by decide +kernel
theorem dX10_black_28 : decode cX10_black 28 = .ok (.invokestatic 105, 3) := by decide +kernel
theorem dX10_black_31 : decode cX10_black 31 = .ok (.ifCond .ne 5, 3) := by decide +kernel
theorem dX10_black_34 : decode cX10_black 34 = .ok (.iconst (-1), 1) := by decide +kernel
theorem dX10_black_35 : decode cX10_black 35 = .ok (.ireturn, 1) := by decide +kernel
theorem dX10_black_36 : decode cX10_black 36 = .ok (.iload_n 2, 1) := by decide +kernel
theorem dX10_black_37 : decode cX10_black 37 = .ok (.bipush 100, 2) := by decide +kernel
theorem dX10_black_39 : decode cX10_black 39 = .ok (.idiv, 1) := by decide +kernel
theorem dX10_black_40 : decode cX10_black 40 = .ok (.iload_n 2, 1) := by decide +kernel
theorem dX10_black_41 : decode cX10_black 41 = .ok (.bipush 100, 2) := by decide +kernel
theorem dX10_black_43 : decode cX10_black 43 = .ok (.irem, 1) := by decide +kernel
theorem dX10_black_44 : decode cX10_black 44 = .ok (.iload_n 3, 1) := by decide +kernel
theorem dX10_black_45 : decode cX10_black 45 = .ok (.imul, 1) := by decide +kernel
theorem dX10_black_46 : decode cX10_black 46 = .ok (.bipush 99, 2) := by decide +kernel
theorem dX10_black_48 : decode cX10_black 48 = .ok (.iadd, 1) := by decide +kernel
theorem dX10_black_49 : decode cX10_black 49 = .ok (.bipush 100, 2) := by decide +kernel
theorem dX10_black_51 : decode cX10_black 51 = .ok (.idiv, 1) := by decide +kernel
theorem dX10_black_52 : decode cX10_black 52 = .ok (.iadd, 1) := by decide +kernel
theorem dX10_black_53 : decode cX10_black 53 = .ok (.istore 4, 2) := by decide +kernel
theorem dX10_black_55 : decode cX10_black 55 = .ok (.aload_n 0, 1) := by decide +kernel
theorem dX10_black_56 : decode cX10_black 56 = .ok (.iload_n 1, 1) := by decide +kernel
theorem dX10_black_57 : decode cX10_black 57 = .ok (.invokevirtual 222, 3) := by decide +kernel
theorem dX10_black_60 : decode cX10_black 60 = .ok (.iconst 0, 1) := by decide +kernel
theorem dX10_black_61 : decode cX10_black 61 = .ok (.istore 5, 2) := by decide +kernel
theorem dX10_black_63 : decode cX10_black 63 = .ok (.iconst 0, 1) := by decide +kernel
theorem dX10_black_64 : decode cX10_black 64 = .ok (.istore 6, 2) := by decide +kernel
theorem dX10_black_66 : decode cX10_black 66 = .ok (.iload 6, 2) := by decide +kernel
theorem dX10_black_68 : decode cX10_black 68 = .ok (.aload_n 0, 1) := by decide +kernel
theorem dX10_black_69 : decode cX10_black 69 = .ok (.invokevirtual 226, 3) := by decide +kernel
theorem dX10_black_72 : decode cX10_black 72 = .ok (.if_icmp .ge 81, 3) := by decide +kernel
theorem dX10_black_75 : decode cX10_black 75 = .ok (.aload_n 0, 1) := by decide +kernel
theorem dX10_black_76 : decode cX10_black 76 = .ok (.iload 6, 2) := by decide +kernel
theorem dX10_black_78 : decode cX10_black 78 = .ok (.invokevirtual 229, 3) := by decide +kernel
theorem dX10_black_81 : decode cX10_black 81 = .ok (.aload_n 0, 1) := by decide +kernel
theorem dX10_black_82 : decode cX10_black 82 = .ok (.getfield 219, 3) := by decide +kernel
theorem dX10_black_85 : decode cX10_black 85 = .ok (.aload_n 0, 1) := by decide +kernel
theorem dX10_black_86 : decode cX10_black 86 = .ok (.iload_n 1, 1) := by decide +kernel
theorem dX10_black_87 : decode cX10_black 87 = .ok (.invokevirtual 153, 3) := by decide +kernel
theorem dX10_black_90 : decode cX10_black 90 = .ok (.if_icmp .le 16, 3) := by decide +kernel
theorem dX10_black_93 : decode cX10_black 93 = .ok (.aload_n 0, 1) := by decide +kernel
theorem dX10_black_94 : decode cX10_black 94 = .ok (.getfield 219, 3) := by decide +kernel
theorem dX10_black_97 : decode cX10_black 97 = .ok (.aload_n 0, 1) := by decide +kernel
theorem dX10_black_98 : decode cX10_black 98 = .ok (.iload_n 1, 1) := by decide +kernel
theorem dX10_black_99 : decode cX10_black 99 = .ok (.invokevirtual 153, 3) := by decide +kernel
theorem dX10_black_102 : decode cX10_black 102 = .ok (.isub, 1) := by decide +kernel
theorem dX10_black_103 : decode cX10_black 103 = .ok (.goto 4, 3) := by decide +kernel
theorem dX10_black_106 : decode cX10_black 106 = .ok (.iconst 0, 1) := by decide +kernel
theorem dX10_black_107 : decode cX10_black 107 = .ok (.istore 7, 2) := by decide +kernel
theorem dX10_black_109 : decode cX10_black 109 = .ok (.aload_n 0, 1) := by decide +kernel
theorem dX10_black_110 : decode cX10_black 110 = .ok (.getfield 216, 3) := by decide +kernel
theorem dX10_black_113 : decode cX10_black 113 = .ok (.iload 7, 2) := by decide +kernel
theorem dX10_black_115 : decode cX10_black 115 = .ok (.iload 4, 2) := by decide +kernel
theorem dX10_black_117 : decode cX10_black 117 = .ok (.imul, 1) := by decide +kernel
theorem dX10_black_118 : decode cX10_black 118 = .ok (.iadd, 1) := by decide +kernel
theorem dX10_black_119 : decode cX10_black 119 = .ok (.aload_n 0, 1) := by decide +kernel
theorem dX10_black_120 : decode cX10_black 120 = .ok (.iload_n 1, 1) := by decide +kernel
theorem dX10_black_121 : decode cX10_black 121 = .ok (.invokevirtual 149, 3) := by decide +kernel
theorem dX10_black_124 : decode cX10_black 124 = .ok (.if_icmp .gt 19, 3) := by decide +kernel
theorem dX10_black_127 : decode cX10_black 127 = .ok (.aload_n 0, 1) := by decide +kernel
theorem dX10_black_128 : decode cX10_black 128 = .ok (.getfield 213, 3) := by decide +kernel
theorem dX10_black_131 : decode cX10_black 131 = .ok (.iload 5, 2) := by decide +kernel
theorem dX10_black_133 : decode cX10_black 133 = .ok (.if_icmp .le 10, 3) := by decide +kernel
theorem dX10_black_136 : decode cX10_black 136 = .ok (.aload_n 0, 1) := by decide +kernel
theorem dX10_black_137 : decode cX10_black 137 = .ok (.getfield 213, 3) := by decide +kernel
theorem dX10_black_140 : decode cX10_black 140 = .ok (.goto 5, 3) := by decide +kernel
theorem dX10_black_143 : decode cX10_black 143 = .ok (.iload 5, 2) := by decide +kernel
theorem dX10_black_145 : decode cX10_black 145 = .ok (.istore 5, 2) := by decide +kernel
theorem dX10_black_147 : decode cX10_black 147 = .ok (.iinc 6 1, 3) := by decide +kernel
theorem dX10_black_150 : decode cX10_black 150 = .ok (.goto (-84), 3) := by decide +kernel
theorem dX10_black_153 : decode cX10_black 153 = .ok (.iload 5, 2) := by decide +kernel
theorem dX10_black_155 : decode cX10_black 155 = .ok (.ireturn, 1) := by decide +kernel
theorem dX10_isHow_0 : decode cX10_isHow 0 = .ok (.iload_n 0, 1) := by decide +kernel
theorem dX10_isHow_1 : decode cX10_isHow 1 = .ok (.ifCond .eq 17, 3) := by decide +kernel
theorem dX10_isHow_4 : decode cX10_isHow 4 = .ok (.iload_n 0, 1) := by decide +kernel
theorem dX10_isHow_5 : decode cX10_isHow 5 = .ok (.i2l, 1) := by decide +kernel
theorem dX10_isHow_6 : decode cX10_isHow 6 = .ok (.ldc2_w 307, 3) := by decide +kernel
theorem dX10_isHow_9 : decode cX10_isHow 9 = .ok (.ldc2_w 309, 3) := by decide +kernel
theorem dX10_isHow_12 : decode cX10_isHow 12 = .ok (.invokestatic 105, 3) := by decide +kernel
theorem dX10_isHow_15 : decode cX10_isHow 15 = .ok (.ifCond .eq 7, 3) := by decide +kernel
theorem dX10_isHow_18 : decode cX10_isHow 18 = .ok (.iconst 1, 1) := by decide +kernel
theorem dX10_isHow_19 : decode cX10_isHow 19 = .ok (.goto 4, 3) := by decide +kernel
theorem dX10_isHow_22 : decode cX10_isHow 22 = .ok (.iconst 0, 1) := by decide +kernel
theorem dX10_isHow_23 : decode cX10_isHow 23 = .ok (.ireturn, 1) := by decide +kernel
theorem dX10_besideOf_0 : decode cX10_besideOf 0 = .ok (.iload_n 2, 1) := by decide +kernel
theorem dX10_besideOf_1 : decode cX10_besideOf 1 = .ok (.ifCond .le 33, 3) := by decide +kernel
theorem dX10_besideOf_4 : decode cX10_besideOf 4 = .ok (.aload_n 0, 1) := by decide +kernel
theorem dX10_besideOf_5 : decode cX10_besideOf 5 = .ok (.iload_n 2, 1) := by decide +kernel
theorem dX10_besideOf_6 : decode cX10_besideOf 6 = .ok (.putfield 55, 3) := by decide +kernel
theorem dX10_besideOf_9 : decode cX10_besideOf 9 = .ok (.aload_n 0, 1) := by decide +kernel
theorem dX10_besideOf_10 : decode cX10_besideOf 10 = .ok (.iload_n 1, 1) := by decide +kernel
theorem dX10_besideOf_11 : decode cX10_besideOf 11 = .ok (.aload_n 0, 1) := by decide +kernel
theorem dX10_besideOf_12 : decode cX10_besideOf 12 = .ok (.iload_n 1, 1) := by decide +kernel
theorem dX10_besideOf_13 : decode cX10_besideOf 13 = .ok (.invokevirtual 149, 3) := by decide +kernel
theorem dX10_besideOf_16 : decode cX10_besideOf 16 = .ok (.ldc_w 311, 3) := by decide +kernel
theorem dX10_besideOf_19 : decode cX10_besideOf 19 = .ok (.invokevirtual 241, 3) := by decide +kernel
theorem dX10_besideOf_22 : decode cX10_besideOf 22 = .ok (.istore_n 3, 1) := by decide +kernel
theorem dX10_besideOf_23 : decode cX10_besideOf 23 = .ok (.aload_n 0, 1) := by decide +kernel
theorem dX10_besideOf_24 : decode cX10_besideOf 24 = .ok (.bipush 100, 2) := by decide +kernel
theorem dX10_besideOf_26 : decode cX10_besideOf 26 = .ok (.putfield 55, 3) := by decide +kernel
theorem dX10_besideOf_29 : decode cX10_besideOf 29 = .ok (.aload_n 0, 1) := by decide +kernel
theorem dX10_besideOf_30 : decode cX10_besideOf 30 = .ok (.getfield 232, 3) := by decide +kernel
theorem dX10_besideOf_33 : decode cX10_besideOf 33 = .ok (.ireturn, 1) := by decide +kernel
theorem dX10_besideOf_34 : decode cX10_besideOf 34 = .ok (.iconst 0, 1) := by decide +kernel
theorem dX10_besideOf_35 : decode cX10_besideOf 35 = .ok (.istore_n 3, 1) := by decide +kernel
theorem dX10_besideOf_36 : decode cX10_besideOf 36 = .ok (.iconst 0, 1) := by decide +kernel
theorem dX10_besideOf_37 : decode cX10_besideOf 37 = .ok (.istore 4, 2) := by decide +kernel
theorem dX10_besideOf_39 : decode cX10_besideOf 39 = .ok (.iload 4, 2) := by decide +kernel
theorem dX10_besideOf_41 : decode cX10_besideOf 41 = .ok (.aload_n 0, 1) := by decide +kernel
theorem dX10_besideOf_42 : decode cX10_besideOf 42 = .ok (.getfield 109, 3) := by decide +kernel
theorem dX10_besideOf_45 : decode cX10_besideOf 45 = .ok (.if_icmp .ge 19, 3) := by decide +kernel
theorem dX10_besideOf_48 : decode cX10_besideOf 48 = .ok (.iload_n 3, 1) := by decide +kernel
theorem dX10_besideOf_49 : decode cX10_besideOf 49 = .ok (.aload_n 0, 1) := by decide +kernel
theorem dX10_besideOf_50 : decode cX10_besideOf 50 = .ok (.getfield 25, 3) := by decide +kernel
theorem dX10_besideOf_53 : decode cX10_besideOf 53 = .ok (.iload 4, 2) := by decide +kernel
theorem dX10_besideOf_55 : decode cX10_besideOf 55 = .ok (.iaload, 1) := by decide +kernel
theorem dX10_besideOf_56 : decode cX10_besideOf 56 = .ok (.iadd, 1) := by decide +kernel
theorem dX10_besideOf_57 : decode cX10_besideOf 57 = .ok (.istore_n 3, 1) := by decide +kernel
theorem dX10_besideOf_58 : decode cX10_besideOf 58 = .ok (.iinc 4 1, 3) := by decide +kernel
theorem dX10_besideOf_61 : decode cX10_besideOf 61 = .ok (.goto (-22), 3) := by decide +kernel
theorem dX10_besideOf_64 : decode cX10_besideOf 64 = .ok (.aload_n 0, 1) := by decide +kernel
theorem dX10_besideOf_65 : decode cX10_besideOf 65 = .ok (.iload_n 1, 1) := by decide +kernel
theorem dX10_besideOf_66 : decode cX10_besideOf 66 = .ok (.invokevirtual 222, 3) := by decide +kernel
theorem dX10_besideOf_69 : decode cX10_besideOf 69 = .ok (.iconst 0, 1) := by decide +kernel
theorem dX10_besideOf_70 : decode cX10_besideOf 70 = .ok (.istore 4, 2) := by decide +kernel
theorem dX10_besideOf_72 : decode cX10_besideOf 72 = .ok (.iconst 0, 1) := by decide +kernel
theorem dX10_besideOf_73 : decode cX10_besideOf 73 = .ok (.istore 5, 2) := by decide +kernel
theorem dX10_besideOf_75 : decode cX10_besideOf 75 = .ok (.iload 5, 2) := by decide +kernel
theorem dX10_besideOf_77 : decode cX10_besideOf 77 = .ok (.aload_n 0, 1) := by decide +kernel
theorem dX10_besideOf_78 : decode cX10_besideOf 78 = .ok (.getfield 102, 3) := by decide +kernel
theorem dX10_besideOf_81 : decode cX10_besideOf 81 = .ok (.if_icmp .ge 47, 3) := by decide +kernel
theorem dX10_besideOf_84 : decode cX10_besideOf 84 = .ok (.aload_n 0, 1) := by decide +kernel
theorem dX10_besideOf_85 : decode cX10_besideOf 85 = .ok (.getfield 9, 3) := by decide +kernel
theorem dX10_besideOf_88 : decode cX10_besideOf 88 = .ok (.iload 5, 2) := by decide +kernel
theorem dX10_besideOf_90 : decode cX10_besideOf 90 = .ok (.iaload, 1) := by decide +kernel
theorem dX10_besideOf_91 : decode cX10_besideOf 91 = .ok (.iload_n 3, 1) := by decide +kernel
theorem dX10_besideOf_92 : decode cX10_besideOf 92 = .ok (.idiv, 1) := by decide +kernel
theorem dX10_besideOf_93 : decode cX10_besideOf 93 = .ok (.istore 6, 2) := by decide +kernel
theorem dX10_besideOf_95 : decode cX10_besideOf 95 = .ok (.iload 4, 2) := by decide +kernel
theorem dX10_besideOf_97 : decode cX10_besideOf 97 = .ok (.aload_n 0, 1) := by decide +kernel
theorem dX10_besideOf_98 : decode cX10_besideOf 98 = .ok (.getfield 49, 3) := by decide +kernel
theorem dX10_besideOf_101 : decode cX10_besideOf 101 = .ok (.iconst 4, 1) := by decide +kernel
theorem dX10_besideOf_102 : decode cX10_besideOf 102 = .ok (.iload 5, 2) := by decide +kernel
theorem dX10_besideOf_104 : decode cX10_besideOf 104 = .ok (.imul, 1) := by decide +kernel
theorem dX10_besideOf_105 : decode cX10_besideOf 105 = .ok (.iload 6, 2) := by decide +kernel
theorem dX10_besideOf_107 : decode cX10_besideOf 107 = .ok (.iconst 3, 1) := by decide +kernel
theorem dX10_besideOf_108 : decode cX10_besideOf 108 = .ok (.if_icmp .le 7, 3) := by decide +kernel
theorem dX10_besideOf_111 : decode cX10_besideOf 111 = .ok (.iconst 3, 1) := by decide +kernel
theorem dX10_besideOf_112 : decode cX10_besideOf 112 = .ok (.goto 5, 3) := by decide +kernel
theorem dX10_besideOf_115 : decode cX10_besideOf 115 = .ok (.iload 6, 2) := by decide +kernel
theorem dX10_besideOf_117 : decode cX10_besideOf 117 = .ok (.iadd, 1) := by decide +kernel
theorem dX10_besideOf_118 : decode cX10_besideOf 118 = .ok (.iaload, 1) := by decide +kernel
theorem dX10_besideOf_119 : decode cX10_besideOf 119 = .ok (.iadd, 1) := by decide +kernel
theorem dX10_besideOf_120 : decode cX10_besideOf 120 = .ok (.istore 4, 2) := by decide +kernel
theorem dX10_besideOf_122 : decode cX10_besideOf 122 = .ok (.iinc 5 1, 3) := by decide +kernel
theorem dX10_besideOf_125 : decode cX10_besideOf 125 = .ok (.goto (-50), 3) := by decide +kernel
theorem dX10_besideOf_128 : decode cX10_besideOf 128 = .ok (.iload 4, 2) := by decide +kernel
theorem dX10_besideOf_130 : decode cX10_besideOf 130 = .ok (.ireturn, 1) := by decide +kernel
theorem dX10_beside_0 : decode cX10_beside 0 = .ok (.aload_n 0, 1) := by decide +kernel
theorem dX10_beside_1 : decode cX10_beside 1 = .ok (.iload_n 1, 1) := by decide +kernel
theorem dX10_beside_2 : decode cX10_beside 2 = .ok (.invokevirtual 144, 3) := by decide +kernel
theorem dX10_beside_5 : decode cX10_beside 5 = .ok (.ifCond .eq 19, 3) := by decide +kernel
theorem dX10_beside_8 : decode cX10_beside 8 = .ok (.iload_n 2, 1) := by decide +kernel
theorem dX10_beside_9 : decode cX10_beside 9 = .ok (.invokestatic 312, 3) := by decide +kernel
theorem dX10_beside_12 : decode cX10_beside 12 = .ok (.ifCond .eq 12, 3) := by decide +kernel
theorem dX10_beside_15 : decode cX10_beside 15 = .ok (.aload_n 0, 1) := by decide +kernel
theorem dX10_beside_16 : decode cX10_beside 16 = .ok (.iload_n 1, 1) := by decide +kernel
theorem dX10_beside_17 : decode cX10_beside 17 = .ok (.iload_n 2, 1) := by decide +kernel
theorem dX10_beside_18 : decode cX10_beside 18 = .ok (.invokevirtual 315, 3) := by decide +kernel
theorem dX10_beside_21 : decode cX10_beside 21 = .ok (.goto 4, 3) := by decide +kernel
theorem dX10_beside_24 : decode cX10_beside 24 = .ok (.iconst (-1), 1) := by decide +kernel
theorem dX10_beside_25 : decode cX10_beside 25 = .ok (.ireturn, 1) := by decide +kernel
theorem dX10_loses_0 : decode cX10_loses 0 = .ok (.iload_n 1, 1) := by decide +kernel
theorem dX10_loses_1 : decode cX10_loses 1 = .ok (.invokestatic 312, 3) := by decide +kernel
theorem dX10_loses_4 : decode cX10_loses 4 = .ok (.ifCond .ne 5, 3) := by decide +kernel
theorem dX10_loses_7 : decode cX10_loses 7 = .ok (.iconst (-1), 1) := by decide +kernel
theorem dX10_loses_8 : decode cX10_loses 8 = .ok (.ireturn, 1) := by decide +kernel
theorem dX10_loses_9 : decode cX10_loses 9 = .ok (.iconst 0, 1) := by decide +kernel
theorem dX10_loses_10 : decode cX10_loses 10 = .ok (.istore_n 2, 1) := by decide +kernel
theorem dX10_loses_11 : decode cX10_loses 11 = .ok (.iconst 0, 1) := by decide +kernel
theorem dX10_loses_12 : decode cX10_loses 12 = .ok (.istore_n 3, 1) := by decide +kernel
theorem dX10_loses_13 : decode cX10_loses 13 = .ok (.iload_n 3, 1) := by decide +kernel
theorem dX10_loses_14 : decode cX10_loses 14 = .ok (.aload_n 0, 1) := by decide +kernel
theorem dX10_loses_15 : decode cX10_loses 15 = .ok (.getfield 109, 3) := by decide +kernel
theorem dX10_loses_18 : decode cX10_loses 18 = .ok (.if_icmp .ge 43, 3) := by decide +kernel
theorem dX10_loses_21 : decode cX10_loses 21 = .ok (.aload_n 0, 1) := by decide +kernel
theorem dX10_loses_22 : decode cX10_loses 22 = .ok (.iload_n 3, 1) := by decide +kernel
theorem dX10_loses_23 : decode cX10_loses 23 = .ok (.invokevirtual 244, 3) := by decide +kernel
theorem dX10_loses_26 : decode cX10_loses 26 = .ok (.istore 4, 2) := by decide +kernel
theorem dX10_loses_28 : decode cX10_loses 28 = .ok (.aload_n 0, 1) := by decide +kernel
theorem dX10_loses_29 : decode cX10_loses 29 = .ok (.getfield 232, 3) := by decide +kernel
theorem dX10_loses_32 : decode cX10_loses 32 = .ok (.istore 5, 2) := by decide +kernel
theorem dX10_loses_34 : decode cX10_loses 34 = .ok (.iload_n 2, 1) := by decide +kernel
theorem dX10_loses_35 : decode cX10_loses 35 = .ok (.iload 5, 2) := by decide +kernel
theorem dX10_loses_37 : decode cX10_loses 37 = .ok (.aload_n 0, 1) := by decide +kernel
theorem dX10_loses_38 : decode cX10_loses 38 = .ok (.iload_n 3, 1) := by decide +kernel
theorem dX10_loses_39 : decode cX10_loses 39 = .ok (.iload_n 1, 1) := by decide +kernel
theorem dX10_loses_40 : decode cX10_loses 40 = .ok (.invokevirtual 315, 3) := by decide +kernel
theorem dX10_loses_43 : decode cX10_loses 43 = .ok (.if_icmp .ge 9, 3) := by decide +kernel
theorem dX10_loses_46 : decode cX10_loses 46 = .ok (.iconst 1, 1) := by decide +kernel
theorem dX10_loses_47 : decode cX10_loses 47 = .ok (.iload_n 3, 1) := by decide +kernel
theorem dX10_loses_48 : decode cX10_loses 48 = .ok (.ishl, 1) := by decide +kernel
theorem dX10_loses_49 : decode cX10_loses 49 = .ok (.goto 4, 3) := by decide +kernel
theorem dX10_loses_52 : decode cX10_loses 52 = .ok (.iconst 0, 1) := by decide +kernel
theorem dX10_loses_53 : decode cX10_loses 53 = .ok (.ior, 1) := by decide +kernel
theorem dX10_loses_54 : decode cX10_loses 54 = .ok (.istore_n 2, 1) := by decide +kernel
theorem dX10_loses_55 : decode cX10_loses 55 = .ok (.iinc 3 1, 3) := by decide +kernel
theorem dX10_loses_58 : decode cX10_loses 58 = .ok (.goto (-45), 3) := by decide +kernel
theorem dX10_loses_61 : decode cX10_loses 61 = .ok (.iload_n 2, 1) := by decide +kernel
theorem dX10_loses_62 : decode cX10_loses 62 = .ok (.ireturn, 1) := by decide +kernel
theorem dX10_bitsOf_0 : decode cX10_bitsOf 0 = .ok (.iconst 0, 1) := by decide +kernel
theorem dX10_bitsOf_1 : decode cX10_bitsOf 1 = .ok (.istore_n 1, 1) := by decide +kernel
theorem dX10_bitsOf_2 : decode cX10_bitsOf 2 = .ok (.iload_n 0, 1) := by decide +kernel
theorem dX10_bitsOf_3 : decode cX10_bitsOf 3 = .ok (.istore_n 2, 1) := by decide +kernel
theorem dX10_bitsOf_4 : decode cX10_bitsOf 4 = .ok (.iload_n 2, 1) := by decide +kernel
theorem dX10_bitsOf_5 : decode cX10_bitsOf 5 = .ok (.ifCond .eq 15, 3) := by decide +kernel
theorem dX10_bitsOf_8 : decode cX10_bitsOf 8 = .ok (.iinc 1 1, 3) := by decide +kernel
theorem dX10_bitsOf_11 : decode cX10_bitsOf 11 = .ok (.iload_n 2, 1) := by decide +kernel
theorem dX10_bitsOf_12 : decode cX10_bitsOf 12 = .ok (.iload_n 2, 1) := by decide +kernel
theorem dX10_bitsOf_13 : decode cX10_bitsOf 13 = .ok (.iconst 1, 1) := by decide +kernel
theorem dX10_bitsOf_14 : decode cX10_bitsOf 14 = .ok (.isub, 1) := by decide +kernel
theorem dX10_bitsOf_15 : decode cX10_bitsOf 15 = .ok (.iand, 1) := by decide +kernel
theorem dX10_bitsOf_16 : decode cX10_bitsOf 16 = .ok (.istore_n 2, 1) := by decide +kernel
theorem dX10_bitsOf_17 : decode cX10_bitsOf 17 = .ok (.goto (-13), 3) := by decide +kernel
theorem dX10_bitsOf_20 : decode cX10_bitsOf 20 = .ok (.iload_n 1, 1) := by decide +kernel
theorem dX10_bitsOf_21 : decode cX10_bitsOf 21 = .ok (.ireturn, 1) := by decide +kernel
theorem dX10_isGone_0 : decode cX10_isGone 0 = .ok (.iconst 0, 1) := by decide +kernel
theorem dX10_isGone_1 : decode cX10_isGone 1 = .ok (.istore_n 1, 1) := by decide +kernel
theorem dX10_isGone_2 : decode cX10_isGone 2 = .ok (.iload_n 1, 1) := by decide +kernel
theorem dX10_isGone_3 : decode cX10_isGone 3 = .ok (.aload_n 0, 1) := by decide +kernel
theorem dX10_isGone_4 : decode cX10_isGone 4 = .ok (.getfield 102, 3) := by decide +kernel
theorem dX10_isGone_7 : decode cX10_isGone 7 = .ok (.if_icmp .ge 19, 3) := by decide +kernel
theorem dX10_isGone_10 : decode cX10_isGone 10 = .ok (.aload_n 0, 1) := by decide +kernel
theorem dX10_isGone_11 : decode cX10_isGone 11 = .ok (.iload_n 1, 1) := by decide +kernel
theorem dX10_isGone_12 : decode cX10_isGone 12 = .ok (.invokevirtual 250, 3) := by decide +kernel
theorem dX10_isGone_15 : decode cX10_isGone 15 = .ok (.ifCond .ge 5, 3) := by decide +kernel
theorem dX10_isGone_18 : decode cX10_isGone 18 = .ok (.iconst 1, 1) := by decide +kernel
theorem dX10_isGone_19 : decode cX10_isGone 19 = .ok (.ireturn, 1) := by decide +kernel
theorem dX10_isGone_20 : decode cX10_isGone 20 = .ok (.iinc 1 1, 3) := by decide +kernel
theorem dX10_isGone_23 : decode cX10_isGone 23 = .ok (.goto (-21), 3) := by decide +kernel
theorem dX10_isGone_26 : decode cX10_isGone 26 = .ok (.iconst 0, 1) := by decide +kernel
theorem dX10_isGone_27 : decode cX10_isGone 27 = .ok (.ireturn, 1) := by decide +kernel
theorem dX10_fewest_0 : decode cX10_fewest 0 = .ok (.bipush (-2), 2) := by decide +kernel
theorem dX10_fewest_2 : decode cX10_fewest 2 = .ok (.istore_n 1, 1) := by decide +kernel
theorem dX10_fewest_3 : decode cX10_fewest 3 = .ok (.iconst 0, 1) := by decide +kernel
theorem dX10_fewest_4 : decode cX10_fewest 4 = .ok (.istore_n 2, 1) := by decide +kernel
theorem dX10_fewest_5 : decode cX10_fewest 5 = .ok (.iload_n 2, 1) := by decide +kernel
theorem dX10_fewest_6 : decode cX10_fewest 6 = .ok (.aload_n 0, 1) := by decide +kernel
theorem dX10_fewest_7 : decode cX10_fewest 7 = .ok (.getfield 102, 3) := by decide +kernel
theorem dX10_fewest_10 : decode cX10_fewest 10 = .ok (.if_icmp .ge 24, 3) := by decide +kernel
theorem dX10_fewest_13 : decode cX10_fewest 13 = .ok (.aload_n 0, 1) := by decide +kernel
theorem dX10_fewest_14 : decode cX10_fewest 14 = .ok (.getfield 71, 3) := by decide +kernel
theorem dX10_fewest_17 : decode cX10_fewest 17 = .ok (.iload_n 2, 1) := by decide +kernel
theorem dX10_fewest_18 : decode cX10_fewest 18 = .ok (.aload_n 0, 1) := by decide +kernel
theorem dX10_fewest_19 : decode cX10_fewest 19 = .ok (.getfield 9, 3) := by decide +kernel
theorem dX10_fewest_22 : decode cX10_fewest 22 = .ok (.bipush 12, 2) := by decide +kernel
theorem dX10_fewest_24 : decode cX10_fewest 24 = .ok (.iload_n 2, 1) := by decide +kernel
theorem dX10_fewest_25 : decode cX10_fewest 25 = .ok (.iadd, 1) := by decide +kernel
theorem dX10_fewest_26 : decode cX10_fewest 26 = .ok (.iaload, 1) := by decide +kernel
theorem dX10_fewest_27 : decode cX10_fewest 27 = .ok (.iastore, 1) := by decide +kernel
theorem dX10_fewest_28 : decode cX10_fewest 28 = .ok (.iinc 2 1, 3) := by decide +kernel
theorem dX10_fewest_31 : decode cX10_fewest 31 = .ok (.goto (-26), 3) := by decide +kernel
theorem dX10_fewest_34 : decode cX10_fewest 34 = .ok (.iconst 0, 1) := by decide +kernel
theorem dX10_fewest_35 : decode cX10_fewest 35 = .ok (.istore_n 2, 1) := by decide +kernel
theorem dX10_fewest_36 : decode cX10_fewest 36 = .ok (.iload_n 2, 1) := by decide +kernel
theorem dX10_fewest_37 : decode cX10_fewest 37 = .ok (.iconst 1, 1) := by decide +kernel
theorem dX10_fewest_38 : decode cX10_fewest 38 = .ok (.aload_n 0, 1) := by decide +kernel
theorem dX10_fewest_39 : decode cX10_fewest 39 = .ok (.getfield 102, 3) := by decide +kernel
theorem dX10_fewest_42 : decode cX10_fewest 42 = .ok (.ishl, 1) := by decide +kernel
theorem dX10_fewest_43 : decode cX10_fewest 43 = .ok (.if_icmp .ge 88, 3) := by decide +kernel
theorem dX10_fewest_46 : decode cX10_fewest 46 = .ok (.iload_n 1, 1) := by decide +kernel
theorem dX10_fewest_47 : decode cX10_fewest 47 = .ok (.ifCond .lt 17, 3) := by decide +kernel
theorem dX10_fewest_50 : decode cX10_fewest 50 = .ok (.iload_n 2, 1) := by decide +kernel
theorem dX10_fewest_51 : decode cX10_fewest 51 = .ok (.invokestatic 318, 3) := by decide +kernel
theorem dX10_fewest_54 : decode cX10_fewest 54 = .ok (.iload_n 1, 1) := by decide +kernel
theorem dX10_fewest_55 : decode cX10_fewest 55 = .ok (.invokestatic 318, 3) := by decide +kernel
theorem dX10_fewest_58 : decode cX10_fewest 58 = .ok (.if_icmp .lt 6, 3) := by decide +kernel
theorem dX10_fewest_61 : decode cX10_fewest 61 = .ok (.goto 64, 3) := by decide +kernel
theorem dX10_fewest_64 : decode cX10_fewest 64 = .ok (.iconst 0, 1) := by decide +kernel
theorem dX10_fewest_65 : decode cX10_fewest 65 = .ok (.istore_n 3, 1) := by decide +kernel
theorem dX10_fewest_66 : decode cX10_fewest 66 = .ok (.iload_n 3, 1) := by decide +kernel
theorem dX10_fewest_67 : decode cX10_fewest 67 = .ok (.aload_n 0, 1) := by decide +kernel
theorem dX10_fewest_68 : decode cX10_fewest 68 = .ok (.getfield 102, 3) := by decide +kernel
theorem dX10_fewest_71 : decode cX10_fewest 71 = .ok (.if_icmp .ge 37, 3) := by decide +kernel
theorem dX10_fewest_74 : decode cX10_fewest 74 = .ok (.aload_n 0, 1) := by decide +kernel
theorem dX10_fewest_75 : decode cX10_fewest 75 = .ok (.getfield 9, 3) := by decide +kernel
theorem dX10_fewest_78 : decode cX10_fewest 78 = .ok (.bipush 12, 2) := by decide +kernel
theorem dX10_fewest_80 : decode cX10_fewest 80 = .ok (.iload_n 3, 1) := by decide +kernel
theorem dX10_fewest_81 : decode cX10_fewest 81 = .ok (.iadd, 1) := by decide +kernel
theorem dX10_fewest_82 : decode cX10_fewest 82 = .ok (.iload_n 2, 1) := by decide +kernel
theorem dX10_fewest_83 : decode cX10_fewest 83 = .ok (.iload_n 3, 1) := by decide +kernel
theorem dX10_fewest_84 : decode cX10_fewest 84 = .ok (.ishr, 1) := by decide +kernel
theorem dX10_fewest_85 : decode cX10_fewest 85 = .ok (.iconst 1, 1) := by decide +kernel
theorem dX10_fewest_86 : decode cX10_fewest 86 = .ok (.iand, 1) := by decide +kernel
theorem dX10_fewest_87 : decode cX10_fewest 87 = .ok (.iconst 1, 1) := by decide +kernel
theorem dX10_fewest_88 : decode cX10_fewest 88 = .ok (.if_icmp .ne 12, 3) := by decide +kernel
theorem dX10_fewest_91 : decode cX10_fewest 91 = .ok (.aload_n 0, 1) := by decide +kernel
theorem dX10_fewest_92 : decode cX10_fewest 92 = .ok (.getfield 71, 3) := by decide +kernel
theorem dX10_fewest_95 : decode cX10_fewest 95 = .ok (.iload_n 3, 1) := by decide +kernel
theorem dX10_fewest_96 : decode cX10_fewest 96 = .ok (.iaload, 1) := by decide +kernel
theorem dX10_fewest_97 : decode cX10_fewest 97 = .ok (.goto 4, 3) := by decide +kernel
theorem dX10_fewest_100 : decode cX10_fewest 100 = .ok (.iconst 0, 1) := by decide +kernel
theorem dX10_fewest_101 : decode cX10_fewest 101 = .ok (.iastore, 1) := by decide +kernel
theorem dX10_fewest_102 : decode cX10_fewest 102 = .ok (.iinc 3 1, 3) := by decide +kernel
theorem dX10_fewest_105 : decode cX10_fewest 105 = .ok (.goto (-39), 3) := by decide +kernel
theorem dX10_fewest_108 : decode cX10_fewest 108 = .ok (.aload_n 0, 1) := by decide +kernel
theorem dX10_fewest_109 : decode cX10_fewest 109 = .ok (.invokevirtual 257, 3) := by decide +kernel
theorem dX10_fewest_112 : decode cX10_fewest 112 = .ok (.aload_n 0, 1) := by decide +kernel
theorem dX10_fewest_113 : decode cX10_fewest 113 = .ok (.invokevirtual 321, 3) := by decide +kernel
theorem dX10_fewest_116 : decode cX10_fewest 116 = .ok (.ifCond .eq 7, 3) := by decide +kernel
theorem dX10_fewest_119 : decode cX10_fewest 119 = .ok (.iload_n 1, 1) := by decide +kernel
theorem dX10_fewest_120 : decode cX10_fewest 120 = .ok (.goto 4, 3) := by decide +kernel
theorem dX10_fewest_123 : decode cX10_fewest 123 = .ok (.iload_n 2, 1) := by decide +kernel
theorem dX10_fewest_124 : decode cX10_fewest 124 = .ok (.istore_n 1, 1) := by decide +kernel
theorem dX10_fewest_125 : decode cX10_fewest 125 = .ok (.iinc 2 1, 3) := by decide +kernel
theorem dX10_fewest_128 : decode cX10_fewest 128 = .ok (.goto (-92), 3) := by decide +kernel
theorem dX10_fewest_131 : decode cX10_fewest 131 = .ok (.iconst 0, 1) := by decide +kernel
theorem dX10_fewest_132 : decode cX10_fewest 132 = .ok (.istore_n 2, 1) := by decide +kernel
theorem dX10_fewest_133 : decode cX10_fewest 133 = .ok (.iload_n 2, 1) := by decide +kernel
theorem dX10_fewest_134 : decode cX10_fewest 134 = .ok (.aload_n 0, 1) := by decide +kernel
theorem dX10_fewest_135 : decode cX10_fewest 135 = .ok (.getfield 102, 3) := by decide +kernel
theorem dX10_fewest_138 : decode cX10_fewest 138 = .ok (.if_icmp .ge 24, 3) := by decide +kernel
theorem dX10_fewest_141 : decode cX10_fewest 141 = .ok (.aload_n 0, 1) := by decide +kernel
theorem dX10_fewest_142 : decode cX10_fewest 142 = .ok (.getfield 9, 3) := by decide +kernel
theorem dX10_fewest_145 : decode cX10_fewest 145 = .ok (.bipush 12, 2) := by decide +kernel
theorem dX10_fewest_147 : decode cX10_fewest 147 = .ok (.iload_n 2, 1) := by decide +kernel
theorem dX10_fewest_148 : decode cX10_fewest 148 = .ok (.iadd, 1) := by decide +kernel
theorem dX10_fewest_149 : decode cX10_fewest 149 = .ok (.aload_n 0, 1) := by decide +kernel
theorem dX10_fewest_150 : decode cX10_fewest 150 = .ok (.getfield 71, 3) := by decide +kernel
theorem dX10_fewest_153 : decode cX10_fewest 153 = .ok (.iload_n 2, 1) := by decide +kernel
theorem dX10_fewest_154 : decode cX10_fewest 154 = .ok (.iaload, 1) := by decide +kernel
theorem dX10_fewest_155 : decode cX10_fewest 155 = .ok (.iastore, 1) := by decide +kernel
theorem dX10_fewest_156 : decode cX10_fewest 156 = .ok (.iinc 2 1, 3) := by decide +kernel
theorem dX10_fewest_159 : decode cX10_fewest 159 = .ok (.goto (-26), 3) := by decide +kernel
theorem dX10_fewest_162 : decode cX10_fewest 162 = .ok (.iload_n 1, 1) := by decide +kernel
theorem dX10_fewest_163 : decode cX10_fewest 163 = .ok (.ireturn, 1) := by decide +kernel
theorem dX10_least_0 : decode cX10_least 0 = .ok (.aload_n 0, 1) := by decide +kernel
theorem dX10_least_1 : decode cX10_least 1 = .ok (.iload_n 1, 1) := by decide +kernel
theorem dX10_least_2 : decode cX10_least 2 = .ok (.invokevirtual 132, 3) := by decide +kernel
theorem dX10_least_5 : decode cX10_least 5 = .ok (.ifCond .ne 5, 3) := by decide +kernel
theorem dX10_least_8 : decode cX10_least 8 = .ok (.iconst (-1), 1) := by decide +kernel
theorem dX10_least_9 : decode cX10_least 9 = .ok (.ireturn, 1) := by decide +kernel
theorem dX10_least_10 : decode cX10_least 10 = .ok (.aload_n 0, 1) := by decide +kernel
theorem dX10_least_11 : decode cX10_least 11 = .ok (.invokevirtual 257, 3) := by decide +kernel
theorem dX10_least_14 : decode cX10_least 14 = .ok (.iconst 0, 1) := by decide +kernel
theorem dX10_least_15 : decode cX10_least 15 = .ok (.istore_n 2, 1) := by decide +kernel
theorem dX10_least_16 : decode cX10_least 16 = .ok (.iconst 0, 1) := by decide +kernel
theorem dX10_least_17 : decode cX10_least 17 = .ok (.istore_n 3, 1) := by decide +kernel
theorem dX10_least_18 : decode cX10_least 18 = .ok (.iload_n 3, 1) := by decide +kernel
theorem dX10_least_19 : decode cX10_least 19 = .ok (.aload_n 0, 1) := by decide +kernel
theorem dX10_least_20 : decode cX10_least 20 = .ok (.getfield 109, 3) := by decide +kernel
theorem dX10_least_23 : decode cX10_least 23 = .ok (.if_icmp .ge 33, 3) := by decide +kernel
theorem dX10_least_26 : decode cX10_least 26 = .ok (.iload_n 2, 1) := by decide +kernel
theorem dX10_least_27 : decode cX10_least 27 = .ok (.aload_n 0, 1) := by decide +kernel
theorem dX10_least_28 : decode cX10_least 28 = .ok (.getfield 62, 3) := by decide +kernel
theorem dX10_least_31 : decode cX10_least 31 = .ok (.bipush 6, 2) := by decide +kernel
theorem dX10_least_33 : decode cX10_least 33 = .ok (.iload_n 3, 1) := by decide +kernel
theorem dX10_least_34 : decode cX10_least 34 = .ok (.imul, 1) := by decide +kernel
theorem dX10_least_35 : decode cX10_least 35 = .ok (.iload_n 1, 1) := by decide +kernel
theorem dX10_least_36 : decode cX10_least 36 = .ok (.iadd, 1) := by decide +kernel
theorem dX10_least_37 : decode cX10_least 37 = .ok (.iaload, 1) := by decide +kernel
theorem dX10_least_38 : decode cX10_least 38 = .ok (.ifCond .le 9, 3) := by decide +kernel
theorem dX10_least_41 : decode cX10_least 41 = .ok (.iconst 1, 1) := by decide +kernel
theorem dX10_least_42 : decode cX10_least 42 = .ok (.iload_n 3, 1) := by decide +kernel
theorem dX10_least_43 : decode cX10_least 43 = .ok (.ishl, 1) := by decide +kernel
theorem dX10_least_44 : decode cX10_least 44 = .ok (.goto 4, 3) := by decide +kernel
theorem dX10_least_47 : decode cX10_least 47 = .ok (.iconst 0, 1) := by decide +kernel
theorem dX10_least_48 : decode cX10_least 48 = .ok (.ior, 1) := by decide +kernel
theorem dX10_least_49 : decode cX10_least 49 = .ok (.istore_n 2, 1) := by decide +kernel
theorem dX10_least_50 : decode cX10_least 50 = .ok (.iinc 3 1, 3) := by decide +kernel
theorem dX10_least_53 : decode cX10_least 53 = .ok (.goto (-35), 3) := by decide +kernel
theorem dX10_least_56 : decode cX10_least 56 = .ok (.iload_n 2, 1) := by decide +kernel
theorem dX10_least_57 : decode cX10_least 57 = .ok (.ireturn, 1) := by decide +kernel
theorem dX10_months_0 : decode cX10_months 0 = .ok (.aload_n 0, 1) := by decide +kernel
theorem dX10_months_1 : decode cX10_months 1 = .ok (.iload_n 1, 1) := by decide +kernel
theorem dX10_months_2 : decode cX10_months 2 = .ok (.invokevirtual 144, 3) := by decide +kernel
theorem dX10_months_5 : decode cX10_months 5 = .ok (.ifCond .eq 34, 3) := by decide +kernel
theorem dX10_months_8 : decode cX10_months 8 = .ok (.iload_n 2, 1) := by decide +kernel
theorem dX10_months_9 : decode cX10_months 9 = .ok (.i2l, 1) := by decide +kernel
theorem dX10_months_10 : decode cX10_months 10 = .ok (.lconst 1, 1) := by decide +kernel
theorem dX10_months_11 : decode cX10_months 11 = .ok (.ldc2_w 325, 3) := by decide +kernel
theorem dX10_months_14 : decode cX10_months 14 = .ok (.invokestatic 105, 3) := by decide +kernel
theorem dX10_months_17 : decode cX10_months 17 = .ok (.ifCond .eq 22, 3) := by decide +kernel
theorem dX10_months_20 : decode cX10_months 20 = .ok (.iload_n 3, 1) := by decide +kernel
theorem dX10_months_21 : decode cX10_months 21 = .ok (.i2l, 1) := by decide +kernel
theorem dX10_months_22 : decode cX10_months 22 = .ok (.invokestatic 118, 3) := by decide +kernel
theorem dX10_months_25 : decode cX10_months 25 = .ok (.ifCond .eq 14, 3) := by decide +kernel
theorem dX10_months_28 : decode cX10_months 28 = .ok (.iload 4, 2) := by decide +kernel
theorem dX10_months_30 : decode cX10_months 30 = .ok (.i2l, 1) := by decide +kernel
theorem dX10_months_31 : decode cX10_months 31 = .ok (.lconst 0, 1) := by decide +kernel
theorem dX10_months_32 : decode cX10_months 32 = .ok (.lconst 1, 1) := by decide +kernel
theorem dX10_months_33 : decode cX10_months 33 = .ok (.invokestatic 105, 3) := by decide +kernel
theorem dX10_months_36 : decode cX10_months 36 = .ok (.ifCond .ne 5, 3) := by decide +kernel
theorem dX10_months_39 : decode cX10_months 39 = .ok (.iconst (-1), 1) := by decide +kernel
theorem dX10_months_40 : decode cX10_months 40 = .ok (.ireturn, 1) := by decide +kernel
theorem dX10_months_41 : decode cX10_months 41 = .ok (.iconst 0, 1) := by decide +kernel
theorem dX10_months_42 : decode cX10_months 42 = .ok (.istore 5, 2) := by decide +kernel
theorem dX10_months_44 : decode cX10_months 44 = .ok (.iconst 0, 1) := by decide +kernel
theorem dX10_months_45 : decode cX10_months 45 = .ok (.istore 6, 2) := by decide +kernel
theorem dX10_months_47 : decode cX10_months 47 = .ok (.iconst 0, 1) := by decide +kernel
theorem dX10_months_48 : decode cX10_months 48 = .ok (.istore 7, 2) := by decide +kernel
theorem dX10_months_50 : decode cX10_months 50 = .ok (.iconst 0, 1) := by decide +kernel
theorem dX10_months_51 : decode cX10_months 51 = .ok (.istore 8, 2) := by decide +kernel
theorem dX10_months_53 : decode cX10_months 53 = .ok (.iload 8, 2) := by decide +kernel
theorem dX10_months_55 : decode cX10_months 55 = .ok (.iload_n 2, 1) := by decide +kernel
theorem dX10_months_56 : decode cX10_months 56 = .ok (.if_icmp .ge 87, 3) := by decide +kernel
theorem dX10_months_59 : decode cX10_months 59 = .ok (.aload_n 0, 1) := by decide +kernel
theorem dX10_months_60 : decode cX10_months 60 = .ok (.iload_n 1, 1) := by decide +kernel
theorem dX10_months_61 : decode cX10_months 61 = .ok (.invokevirtual 153, 3) := by decide +kernel
theorem dX10_months_64 : decode cX10_months 64 = .ok (.iload 7, 2) := by decide +kernel
theorem dX10_months_66 : decode cX10_months 66 = .ok (.iadd, 1) := by decide +kernel
theorem dX10_months_67 : decode cX10_months 67 = .ok (.istore 9, 2) := by decide +kernel
theorem dX10_months_69 : decode cX10_months 69 = .ok (.aload_n 0, 1) := by decide +kernel
theorem dX10_months_70 : decode cX10_months 70 = .ok (.iload_n 1, 1) := by decide +kernel
theorem dX10_months_71 : decode cX10_months 71 = .ok (.aload_n 0, 1) := by decide +kernel
theorem dX10_months_72 : decode cX10_months 72 = .ok (.iload_n 1, 1) := by decide +kernel
theorem dX10_months_73 : decode cX10_months 73 = .ok (.invokevirtual 149, 3) := by decide +kernel
theorem dX10_months_76 : decode cX10_months 76 = .ok (.iload 9, 2) := by decide +kernel
theorem dX10_months_78 : decode cX10_months 78 = .ok (.invokevirtual 241, 3) := by decide +kernel
theorem dX10_months_81 : decode cX10_months 81 = .ok (.istore 10, 2) := by decide +kernel
theorem dX10_months_83 : decode cX10_months 83 = .ok (.iload 5, 2) := by decide +kernel
theorem dX10_months_85 : decode cX10_months 85 = .ok (.aload_n 0, 1) := by decide +kernel
theorem dX10_months_86 : decode cX10_months 86 = .ok (.getfield 232, 3) := by decide +kernel
theorem dX10_months_89 : decode cX10_months 89 = .ok (.iadd, 1) := by decide +kernel
theorem dX10_months_90 : decode cX10_months 90 = .ok (.istore 5, 2) := by decide +kernel
theorem dX10_months_92 : decode cX10_months 92 = .ok (.iload 9, 2) := by decide +kernel
theorem dX10_months_94 : decode cX10_months 94 = .ok (.aload_n 0, 1) := by decide +kernel
theorem dX10_months_95 : decode cX10_months 95 = .ok (.getfield 238, 3) := by decide +kernel
theorem dX10_months_98 : decode cX10_months 98 = .ok (.isub, 1) := by decide +kernel
theorem dX10_months_99 : decode cX10_months 99 = .ok (.istore 11, 2) := by decide +kernel
theorem dX10_months_101 : decode cX10_months 101 = .ok (.iload 8, 2) := by decide +kernel
theorem dX10_months_103 : decode cX10_months 103 = .ok (.iconst 1, 1) := by decide +kernel
theorem dX10_months_104 : decode cX10_months 104 = .ok (.iadd, 1) := by decide +kernel
theorem dX10_months_105 : decode cX10_months 105 = .ok (.iload_n 2, 1) := by decide +kernel
theorem dX10_months_106 : decode cX10_months 106 = .ok (.if_icmp .ne 7, 3) := by decide +kernel
theorem dX10_months_109 : decode cX10_months 109 = .ok (.iconst 0, 1) := by decide +kernel
theorem dX10_months_110 : decode cX10_months 110 = .ok (.goto 15, 3) := by decide +kernel
theorem dX10_months_113 : decode cX10_months 113 = .ok (.iload 11, 2) := by decide +kernel
theorem dX10_months_115 : decode cX10_months 115 = .ok (.iload_n 3, 1) := by decide +kernel
theorem dX10_months_116 : decode cX10_months 116 = .ok (.if_icmp .ge 8, 3) := by decide +kernel
theorem dX10_months_119 : decode cX10_months 119 = .ok (.iload 11, 2) := by decide +kernel
theorem dX10_months_121 : decode cX10_months 121 = .ok (.goto 4, 3) := by decide +kernel
theorem dX10_months_124 : decode cX10_months 124 = .ok (.iload_n 3, 1) := by decide +kernel
theorem dX10_months_125 : decode cX10_months 125 = .ok (.istore 7, 2) := by decide +kernel
theorem dX10_months_127 : decode cX10_months 127 = .ok (.iload 6, 2) := by decide +kernel
theorem dX10_months_129 : decode cX10_months 129 = .ok (.iload 11, 2) := by decide +kernel
theorem dX10_months_131 : decode cX10_months 131 = .ok (.iload 7, 2) := by decide +kernel
theorem dX10_months_133 : decode cX10_months 133 = .ok (.isub, 1) := by decide +kernel
theorem dX10_months_134 : decode cX10_months 134 = .ok (.iadd, 1) := by decide +kernel
theorem dX10_months_135 : decode cX10_months 135 = .ok (.istore 6, 2) := by decide +kernel
theorem dX10_months_137 : decode cX10_months 137 = .ok (.iinc 8 1, 3) := by decide +kernel
theorem dX10_months_140 : decode cX10_months 140 = .ok (.goto (-87), 3) := by decide +kernel
theorem dX10_months_143 : decode cX10_months 143 = .ok (.iload 4, 2) := by decide +kernel
theorem dX10_months_145 : decode cX10_months 145 = .ok (.ifCond .ne 8, 3) := by decide +kernel
theorem dX10_months_148 : decode cX10_months 148 = .ok (.iload 5, 2) := by decide +kernel
theorem dX10_months_150 : decode cX10_months 150 = .ok (.goto 5, 3) := by decide +kernel
theorem dX10_months_153 : decode cX10_months 153 = .ok (.iload 6, 2) := by decide +kernel
theorem dX10_months_155 : decode cX10_months 155 = .ok (.ireturn, 1) := by decide +kernel
theorem dX10_foresight_0 : decode cX10_foresight 0 = .ok (.aload_n 0, 1) := by decide +kernel
theorem dX10_foresight_1 : decode cX10_foresight 1 = .ok (.iload_n 1, 1) := by decide +kernel
theorem dX10_foresight_2 : decode cX10_foresight 2 = .ok (.invokevirtual 144, 3) := by decide +kernel
theorem dX10_foresight_5 : decode cX10_foresight 5 = .ok (.ifCond .ne 5, 3) := by decide +kernel
theorem dX10_foresight_8 : decode cX10_foresight 8 = .ok (.iconst (-1), 1) := by decide +kernel
theorem dX10_foresight_9 : decode cX10_foresight 9 = .ok (.ireturn, 1) := by decide +kernel
theorem dX10_foresight_10 : decode cX10_foresight 10 = .ok (.aload_n 0, 1) := by decide +kernel
theorem dX10_foresight_11 : decode cX10_foresight 11 = .ok (.iload_n 1, 1) := by decide +kernel
theorem dX10_foresight_12 : decode cX10_foresight 12 = .ok (.invokevirtual 244, 3) := by decide +kernel
theorem dX10_foresight_15 : decode cX10_foresight 15 = .ok (.istore_n 2, 1) := by decide +kernel
theorem dX10_foresight_16 : decode cX10_foresight 16 = .ok (.iconst 2, 1) := by decide +kernel
theorem dX10_foresight_17 : decode cX10_foresight 17 = .ok (.aload_n 0, 1) := by decide +kernel
theorem dX10_foresight_18 : decode cX10_foresight 18 = .ok (.getfield 232, 3) := by decide +kernel
theorem dX10_foresight_21 : decode cX10_foresight 21 = .ok (.imul, 1) := by decide +kernel
theorem dX10_foresight_22 : decode cX10_foresight 22 = .ok (.istore_n 3, 1) := by decide +kernel
theorem dX10_foresight_23 : decode cX10_foresight 23 = .ok (.iconst 0, 1) := by decide +kernel
theorem dX10_foresight_24 : decode cX10_foresight 24 = .ok (.istore 4, 2) := by decide +kernel
theorem dX10_foresight_26 : decode cX10_foresight 26 = .ok (.iload 4, 2) := by decide +kernel
theorem dX10_foresight_28 : decode cX10_foresight 28 = .ok (.aload_n 0, 1) := by decide +kernel
theorem dX10_foresight_29 : decode cX10_foresight 29 = .ok (.getfield 74, 3) := by decide +kernel
theorem dX10_foresight_32 : decode cX10_foresight 32 = .ok (.arraylength, 1) := by decide +kernel
theorem dX10_foresight_33 : decode cX10_foresight 33 = .ok (.if_icmp .ge 17, 3) := by decide +kernel
theorem dX10_foresight_36 : decode cX10_foresight 36 = .ok (.aload_n 0, 1) := by decide +kernel
theorem dX10_foresight_37 : decode cX10_foresight 37 = .ok (.getfield 74, 3) := by decide +kernel
theorem dX10_foresight_40 : decode cX10_foresight 40 = .ok (.iload 4, 2) := by decide +kernel
theorem dX10_foresight_42 : decode cX10_foresight 42 = .ok (.iconst 0, 1) := by decide +kernel
theorem dX10_foresight_43 : decode cX10_foresight 43 = .ok (.iastore, 1) := by decide +kernel
theorem dX10_foresight_44 : decode cX10_foresight 44 = .ok (.iinc 4 1, 3) := by decide +kernel
theorem dX10_foresight_47 : decode cX10_foresight 47 = .ok (.goto (-21), 3) := by decide +kernel
theorem dX10_foresight_50 : decode cX10_foresight 50 = .ok (.iconst 0, 1) := by decide +kernel
theorem dX10_foresight_51 : decode cX10_foresight 51 = .ok (.istore 4, 2) := by decide +kernel
theorem dX10_foresight_53 : decode cX10_foresight 53 = .ok (.iload 4, 2) := by decide +kernel
theorem dX10_foresight_55 : decode cX10_foresight 55 = .ok (.aload_n 0, 1) := by decide +kernel
theorem dX10_foresight_56 : decode cX10_foresight 56 = .ok (.invokevirtual 226, 3) := by decide +kernel
theorem dX10_foresight_59 : decode cX10_foresight 59 = .ok (.if_icmp .ge 56, 3) := by decide +kernel
theorem dX10_foresight_62 : decode cX10_foresight 62 = .ok (.aload_n 0, 1) := by decide +kernel
theorem dX10_foresight_63 : decode cX10_foresight 63 = .ok (.iload 4, 2) := by decide +kernel
theorem dX10_foresight_65 : decode cX10_foresight 65 = .ok (.invokevirtual 229, 3) := by decide +kernel
theorem dX10_foresight_68 : decode cX10_foresight 68 = .ok (.aload_n 0, 1) := by decide +kernel
theorem dX10_foresight_69 : decode cX10_foresight 69 = .ok (.getfield 216, 3) := by decide +kernel
theorem dX10_foresight_72 : decode cX10_foresight 72 = .ok (.aload_n 0, 1) := by decide +kernel
theorem dX10_foresight_73 : decode cX10_foresight 73 = .ok (.iload_n 1, 1) := by decide +kernel
theorem dX10_foresight_74 : decode cX10_foresight 74 = .ok (.invokevirtual 149, 3) := by decide +kernel
theorem dX10_foresight_77 : decode cX10_foresight 77 = .ok (.if_icmp .gt 32, 3) := by decide +kernel
theorem dX10_foresight_80 : decode cX10_foresight 80 = .ok (.aload_n 0, 1) := by decide +kernel
theorem dX10_foresight_81 : decode cX10_foresight 81 = .ok (.getfield 213, 3) := by decide +kernel
theorem dX10_foresight_84 : decode cX10_foresight 84 = .ok (.aload_n 0, 1) := by decide +kernel
theorem dX10_foresight_85 : decode cX10_foresight 85 = .ok (.getfield 74, 3) := by decide +kernel
theorem dX10_foresight_88 : decode cX10_foresight 88 = .ok (.aload_n 0, 1) := by decide +kernel
theorem dX10_foresight_89 : decode cX10_foresight 89 = .ok (.getfield 219, 3) := by decide +kernel
theorem dX10_foresight_92 : decode cX10_foresight 92 = .ok (.iaload, 1) := by decide +kernel
theorem dX10_foresight_93 : decode cX10_foresight 93 = .ok (.if_icmp .le 16, 3) := by decide +kernel
theorem dX10_foresight_96 : decode cX10_foresight 96 = .ok (.aload_n 0, 1) := by decide +kernel
theorem dX10_foresight_97 : decode cX10_foresight 97 = .ok (.getfield 74, 3) := by decide +kernel
theorem dX10_foresight_100 : decode cX10_foresight 100 = .ok (.aload_n 0, 1) := by decide +kernel
theorem dX10_foresight_101 : decode cX10_foresight 101 = .ok (.getfield 219, 3) := by decide +kernel
theorem dX10_foresight_104 : decode cX10_foresight 104 = .ok (.aload_n 0, 1) := by decide +kernel
theorem dX10_foresight_105 : decode cX10_foresight 105 = .ok (.getfield 213, 3) := by decide +kernel
theorem dX10_foresight_108 : decode cX10_foresight 108 = .ok (.iastore, 1) := by decide +kernel
theorem dX10_foresight_109 : decode cX10_foresight 109 = .ok (.iinc 4 1, 3) := by decide +kernel
theorem dX10_foresight_112 : decode cX10_foresight 112 = .ok (.goto (-59), 3) := by decide +kernel
theorem dX10_foresight_115 : decode cX10_foresight 115 = .ok (.iconst 1, 1) := by decide +kernel
theorem dX10_foresight_116 : decode cX10_foresight 116 = .ok (.istore 4, 2) := by decide +kernel
theorem dX10_foresight_118 : decode cX10_foresight 118 = .ok (.iload 4, 2) := by decide +kernel
theorem dX10_foresight_120 : decode cX10_foresight 120 = .ok (.aload_n 0, 1) := by decide +kernel
theorem dX10_foresight_121 : decode cX10_foresight 121 = .ok (.getfield 74, 3) := by decide +kernel
theorem dX10_foresight_124 : decode cX10_foresight 124 = .ok (.arraylength, 1) := by decide +kernel
theorem dX10_foresight_125 : decode cX10_foresight 125 = .ok (.if_icmp .ge 54, 3) := by decide +kernel
theorem dX10_foresight_128 : decode cX10_foresight 128 = .ok (.aload_n 0, 1) := by decide +kernel
theorem dX10_foresight_129 : decode cX10_foresight 129 = .ok (.getfield 74, 3) := by decide +kernel
theorem dX10_foresight_132 : decode cX10_foresight 132 = .ok (.iload 4, 2) := by decide +kernel
theorem dX10_foresight_134 : decode cX10_foresight 134 = .ok (.aload_n 0, 1) := by decide +kernel
theorem dX10_foresight_135 : decode cX10_foresight 135 = .ok (.getfield 74, 3) := by decide +kernel
theorem dX10_foresight_138 : decode cX10_foresight 138 = .ok (.iload 4, 2) := by decide +kernel
theorem dX10_foresight_140 : decode cX10_foresight 140 = .ok (.iconst 1, 1) := by decide +kernel
theorem dX10_foresight_141 : decode cX10_foresight 141 = .ok (.isub, 1) := by decide +kernel
theorem dX10_foresight_142 : decode cX10_foresight 142 = .ok (.iaload, 1) := by decide +kernel
theorem dX10_foresight_143 : decode cX10_foresight 143 = .ok (.aload_n 0, 1) := by decide +kernel
theorem dX10_foresight_144 : decode cX10_foresight 144 = .ok (.getfield 74, 3) := by decide +kernel
theorem dX10_foresight_147 : decode cX10_foresight 147 = .ok (.iload 4, 2) := by decide +kernel
theorem dX10_foresight_149 : decode cX10_foresight 149 = .ok (.iaload, 1) := by decide +kernel
theorem dX10_foresight_150 : decode cX10_foresight 150 = .ok (.if_icmp .le 15, 3) := by decide +kernel
theorem dX10_foresight_153 : decode cX10_foresight 153 = .ok (.aload_n 0, 1) := by decide +kernel
theorem dX10_foresight_154 : decode cX10_foresight 154 = .ok (.getfield 74, 3) := by decide +kernel
theorem dX10_foresight_157 : decode cX10_foresight 157 = .ok (.iload 4, 2) := by decide +kernel
theorem dX10_foresight_159 : decode cX10_foresight 159 = .ok (.iconst 1, 1) := by decide +kernel
theorem dX10_foresight_160 : decode cX10_foresight 160 = .ok (.isub, 1) := by decide +kernel
theorem dX10_foresight_161 : decode cX10_foresight 161 = .ok (.iaload, 1) := by decide +kernel
theorem dX10_foresight_162 : decode cX10_foresight 162 = .ok (.goto 10, 3) := by decide +kernel
theorem dX10_foresight_165 : decode cX10_foresight 165 = .ok (.aload_n 0, 1) := by decide +kernel
theorem dX10_foresight_166 : decode cX10_foresight 166 = .ok (.getfield 74, 3) := by decide +kernel
theorem dX10_foresight_169 : decode cX10_foresight 169 = .ok (.iload 4, 2) := by decide +kernel
theorem dX10_foresight_171 : decode cX10_foresight 171 = .ok (.iaload, 1) := by decide +kernel
theorem dX10_foresight_172 : decode cX10_foresight 172 = .ok (.iastore, 1) := by decide +kernel
theorem dX10_foresight_173 : decode cX10_foresight 173 = .ok (.iinc 4 1, 3) := by decide +kernel
theorem dX10_foresight_176 : decode cX10_foresight 176 = .ok (.goto (-58), 3) := by decide +kernel
theorem dX10_foresight_179 : decode cX10_foresight 179 = .ok (.iconst 0, 1) := by decide +kernel
theorem dX10_foresight_180 : decode cX10_foresight 180 = .ok (.istore 4, 2) := by decide +kernel
theorem dX10_foresight_182 : decode cX10_foresight 182 = .ok (.aload_n 0, 1) := by decide +kernel
theorem dX10_foresight_183 : decode cX10_foresight 183 = .ok (.iload_n 1, 1) := by decide +kernel
theorem dX10_foresight_184 : decode cX10_foresight 184 = .ok (.invokevirtual 153, 3) := by decide +kernel
theorem dX10_foresight_187 : decode cX10_foresight 187 = .ok (.istore 5, 2) := by decide +kernel
theorem dX10_foresight_189 : decode cX10_foresight 189 = .ok (.iconst 0, 1) := by decide +kernel
theorem dX10_foresight_190 : decode cX10_foresight 190 = .ok (.istore 6, 2) := by decide +kernel
theorem dX10_foresight_192 : decode cX10_foresight 192 = .ok (.iload 6, 2) := by decide +kernel
theorem dX10_foresight_194 : decode cX10_foresight 194 = .ok (.iload 5, 2) := by decide +kernel
theorem dX10_foresight_196 : decode cX10_foresight 196 = .ok (.if_icmp .gt 81, 3) := by decide +kernel
theorem dX10_foresight_199 : decode cX10_foresight 199 = .ok (.iload 6, 2) := by decide +kernel
theorem dX10_foresight_201 : decode cX10_foresight 201 = .ok (.aload_n 0, 1) := by decide +kernel
theorem dX10_foresight_202 : decode cX10_foresight 202 = .ok (.getfield 74, 3) := by decide +kernel
theorem dX10_foresight_205 : decode cX10_foresight 205 = .ok (.arraylength, 1) := by decide +kernel
theorem dX10_foresight_206 : decode cX10_foresight 206 = .ok (.if_icmp .ge 71, 3) := by decide +kernel
theorem dX10_foresight_209 : decode cX10_foresight 209 = .ok (.iconst 2, 1) := by decide +kernel
theorem dX10_foresight_210 : decode cX10_foresight 210 = .ok (.iload 5, 2) := by decide +kernel
theorem dX10_foresight_212 : decode cX10_foresight 212 = .ok (.imul, 1) := by decide +kernel
theorem dX10_foresight_213 : decode cX10_foresight 213 = .ok (.iload 6, 2) := by decide +kernel
theorem dX10_foresight_215 : decode cX10_foresight 215 = .ok (.isub, 1) := by decide +kernel
theorem dX10_foresight_216 : decode cX10_foresight 216 = .ok (.istore 7, 2) := by decide +kernel
theorem dX10_foresight_218 : decode cX10_foresight 218 = .ok (.aload_n 0, 1) := by decide +kernel
theorem dX10_foresight_219 : decode cX10_foresight 219 = .ok (.getfield 74, 3) := by decide +kernel
theorem dX10_foresight_222 : decode cX10_foresight 222 = .ok (.iload 6, 2) := by decide +kernel
theorem dX10_foresight_224 : decode cX10_foresight 224 = .ok (.iaload, 1) := by decide +kernel
theorem dX10_foresight_225 : decode cX10_foresight 225 = .ok (.aload_n 0, 1) := by decide +kernel
theorem dX10_foresight_226 : decode cX10_foresight 226 = .ok (.getfield 74, 3) := by decide +kernel
theorem dX10_foresight_229 : decode cX10_foresight 229 = .ok (.iload 7, 2) := by decide +kernel
theorem dX10_foresight_231 : decode cX10_foresight 231 = .ok (.aload_n 0, 1) := by decide +kernel
theorem dX10_foresight_232 : decode cX10_foresight 232 = .ok (.getfield 74, 3) := by decide +kernel
theorem dX10_foresight_235 : decode cX10_foresight 235 = .ok (.arraylength, 1) := by decide +kernel
theorem dX10_foresight_236 : decode cX10_foresight 236 = .ok (.if_icmp .ge 8, 3) := by decide +kernel
theorem dX10_foresight_239 : decode cX10_foresight 239 = .ok (.iload 7, 2) := by decide +kernel
theorem dX10_foresight_241 : decode cX10_foresight 241 = .ok (.goto 10, 3) := by decide +kernel
theorem dX10_foresight_244 : decode cX10_foresight 244 = .ok (.aload_n 0, 1) := by decide +kernel
theorem dX10_foresight_245 : decode cX10_foresight 245 = .ok (.getfield 74, 3) := by decide +kernel
theorem dX10_foresight_248 : decode cX10_foresight 248 = .ok (.arraylength, 1) := by decide +kernel
theorem dX10_foresight_249 : decode cX10_foresight 249 = .ok (.iconst 1, 1) := by decide +kernel
theorem dX10_foresight_250 : decode cX10_foresight 250 = .ok (.isub, 1) := by decide +kernel
theorem dX10_foresight_251 : decode cX10_foresight 251 = .ok (.iaload, 1) := by decide +kernel
theorem dX10_foresight_252 : decode cX10_foresight 252 = .ok (.iadd, 1) := by decide +kernel
theorem dX10_foresight_253 : decode cX10_foresight 253 = .ok (.istore 8, 2) := by decide +kernel
theorem dX10_foresight_255 : decode cX10_foresight 255 = .ok (.iload 8, 2) := by decide +kernel
theorem dX10_foresight_257 : decode cX10_foresight 257 = .ok (.iload 4, 2) := by decide +kernel
theorem dX10_foresight_259 : decode cX10_foresight 259 = .ok (.if_icmp .le 8, 3) := by decide +kernel
theorem dX10_foresight_262 : decode cX10_foresight 262 = .ok (.iload 8, 2) := by decide +kernel
theorem dX10_foresight_264 : decode cX10_foresight 264 = .ok (.goto 5, 3) := by decide +kernel
theorem dX10_foresight_267 : decode cX10_foresight 267 = .ok (.iload 4, 2) := by decide +kernel
theorem dX10_foresight_269 : decode cX10_foresight 269 = .ok (.istore 4, 2) := by decide +kernel
theorem dX10_foresight_271 : decode cX10_foresight 271 = .ok (.iinc 6 1, 3) := by decide +kernel
theorem dX10_foresight_274 : decode cX10_foresight 274 = .ok (.goto (-82), 3) := by decide +kernel
theorem dX10_foresight_277 : decode cX10_foresight 277 = .ok (.iload 4, 2) := by decide +kernel
theorem dX10_foresight_279 : decode cX10_foresight 279 = .ok (.iload_n 3, 1) := by decide +kernel
theorem dX10_foresight_280 : decode cX10_foresight 280 = .ok (.isub, 1) := by decide +kernel
theorem dX10_foresight_281 : decode cX10_foresight 281 = .ok (.ireturn, 1) := by decide +kernel
theorem dX10_cheap_0 : decode cX10_cheap 0 = .ok (.iload_n 1, 1) := by decide +kernel
theorem dX10_cheap_1 : decode cX10_cheap 1 = .ok (.i2l, 1) := by decide +kernel
theorem dX10_cheap_2 : decode cX10_cheap 2 = .ok (.invokestatic 118, 3) := by decide +kernel
theorem dX10_cheap_5 : decode cX10_cheap 5 = .ok (.ifCond .ne 5, 3) := by decide +kernel
theorem dX10_cheap_8 : decode cX10_cheap 8 = .ok (.iconst (-1), 1) := by decide +kernel
theorem dX10_cheap_9 : decode cX10_cheap 9 = .ok (.ireturn, 1) := by decide +kernel
theorem dX10_cheap_10 : decode cX10_cheap 10 = .ok (.bipush (-2), 2) := by decide +kernel
theorem dX10_cheap_12 : decode cX10_cheap 12 = .ok (.istore_n 2, 1) := by decide +kernel
theorem dX10_cheap_13 : decode cX10_cheap 13 = .ok (.iconst 0, 1) := by decide +kernel
theorem dX10_cheap_14 : decode cX10_cheap 14 = .ok (.istore_n 3, 1) := by decide +kernel
theorem dX10_cheap_15 : decode cX10_cheap 15 = .ok (.iload_n 3, 1) := by decide +kernel
theorem dX10_cheap_16 : decode cX10_cheap 16 = .ok (.aload_n 0, 1) := by decide +kernel
theorem dX10_cheap_17 : decode cX10_cheap 17 = .ok (.getfield 102, 3) := by decide +kernel
theorem dX10_cheap_20 : decode cX10_cheap 20 = .ok (.if_icmp .ge 56, 3) := by decide +kernel
theorem dX10_cheap_23 : decode cX10_cheap 23 = .ok (.aload_n 0, 1) := by decide +kernel
theorem dX10_cheap_24 : decode cX10_cheap 24 = .ok (.getfield 22, 3) := by decide +kernel
theorem dX10_cheap_27 : decode cX10_cheap 27 = .ok (.iload_n 3, 1) := by decide +kernel
theorem dX10_cheap_28 : decode cX10_cheap 28 = .ok (.iaload, 1) := by decide +kernel
theorem dX10_cheap_29 : decode cX10_cheap 29 = .ok (.aload_n 0, 1) := by decide +kernel
theorem dX10_cheap_30 : decode cX10_cheap 30 = .ok (.getfield 9, 3) := by decide +kernel
theorem dX10_cheap_33 : decode cX10_cheap 33 = .ok (.bipush 6, 2) := by decide +kernel
theorem dX10_cheap_35 : decode cX10_cheap 35 = .ok (.iload_n 3, 1) := by decide +kernel
theorem dX10_cheap_36 : decode cX10_cheap 36 = .ok (.iadd, 1) := by decide +kernel
theorem dX10_cheap_37 : decode cX10_cheap 37 = .ok (.iaload, 1) := by decide +kernel
theorem dX10_cheap_38 : decode cX10_cheap 38 = .ok (.iload_n 1, 1) := by decide +kernel
theorem dX10_cheap_39 : decode cX10_cheap 39 = .ok (.isub, 1) := by decide +kernel
theorem dX10_cheap_40 : decode cX10_cheap 40 = .ok (.if_icmp .gt 30, 3) := by decide +kernel
theorem dX10_cheap_43 : decode cX10_cheap 43 = .ok (.iload_n 2, 1) := by decide +kernel
theorem dX10_cheap_44 : decode cX10_cheap 44 = .ok (.ifCond .lt 24, 3) := by decide +kernel
theorem dX10_cheap_47 : decode cX10_cheap 47 = .ok (.aload_n 0, 1) := by decide +kernel
theorem dX10_cheap_48 : decode cX10_cheap 48 = .ok (.getfield 9, 3) := by decide +kernel
theorem dX10_cheap_51 : decode cX10_cheap 51 = .ok (.bipush 12, 2) := by decide +kernel
theorem dX10_cheap_53 : decode cX10_cheap 53 = .ok (.iload_n 3, 1) := by decide +kernel
theorem dX10_cheap_54 : decode cX10_cheap 54 = .ok (.iadd, 1) := by decide +kernel
theorem dX10_cheap_55 : decode cX10_cheap 55 = .ok (.iaload, 1) := by decide +kernel
theorem dX10_cheap_56 : decode cX10_cheap 56 = .ok (.aload_n 0, 1) := by decide +kernel
theorem dX10_cheap_57 : decode cX10_cheap 57 = .ok (.getfield 9, 3) := by decide +kernel
theorem dX10_cheap_60 : decode cX10_cheap 60 = .ok (.bipush 12, 2) := by decide +kernel
theorem dX10_cheap_62 : decode cX10_cheap 62 = .ok (.iload_n 2, 1) := by decide +kernel
theorem dX10_cheap_63 : decode cX10_cheap 63 = .ok (.iadd, 1) := by decide +kernel
theorem dX10_cheap_64 : decode cX10_cheap 64 = .ok (.iaload, 1) := by decide +kernel
theorem dX10_cheap_65 : decode cX10_cheap 65 = .ok (.if_icmp .ge 5, 3) := by decide +kernel
theorem dX10_cheap_68 : decode cX10_cheap 68 = .ok (.iload_n 3, 1) := by decide +kernel
theorem dX10_cheap_69 : decode cX10_cheap 69 = .ok (.istore_n 2, 1) := by decide +kernel
theorem dX10_cheap_70 : decode cX10_cheap 70 = .ok (.iinc 3 1, 3) := by decide +kernel
theorem dX10_cheap_73 : decode cX10_cheap 73 = .ok (.goto (-58), 3) := by decide +kernel
theorem dX10_cheap_76 : decode cX10_cheap 76 = .ok (.iload_n 2, 1) := by decide +kernel
theorem dX10_cheap_77 : decode cX10_cheap 77 = .ok (.ireturn, 1) := by decide +kernel
theorem dX10_wrong_0 : decode cX10_wrong 0 = .ok (.iload_n 1, 1) := by decide +kernel
theorem dX10_wrong_1 : decode cX10_wrong 1 = .ok (.i2l, 1) := by decide +kernel
theorem dX10_wrong_2 : decode cX10_wrong 2 = .ok (.lconst 0, 1) := by decide +kernel
theorem dX10_wrong_3 : decode cX10_wrong 3 = .ok (.ldc2_w 135, 3) := by decide +kernel
theorem dX10_wrong_6 : decode cX10_wrong 6 = .ok (.invokestatic 105, 3) := by decide +kernel
theorem dX10_wrong_9 : decode cX10_wrong 9 = .ok (.ifCond .ne 7, 3) := by decide +kernel
theorem dX10_wrong_12 : decode cX10_wrong 12 = .ok (.ldc_w 256, 3) := by decide +kernel
theorem dX10_wrong_15 : decode cX10_wrong 15 = .ok (.ireturn, 1) := by decide +kernel
theorem dX10_wrong_16 : decode cX10_wrong 16 = .ok (.aload_n 0, 1) := by decide +kernel
theorem dX10_wrong_17 : decode cX10_wrong 17 = .ok (.invokevirtual 257, 3) := by decide +kernel
theorem dX10_wrong_20 : decode cX10_wrong 20 = .ok (.bipush (-2), 2) := by decide +kernel
theorem dX10_wrong_22 : decode cX10_wrong 22 = .ok (.istore_n 2, 1) := by decide +kernel
theorem dX10_wrong_23 : decode cX10_wrong 23 = .ok (.iconst 0, 1) := by decide +kernel
theorem dX10_wrong_24 : decode cX10_wrong 24 = .ok (.istore_n 3, 1) := by decide +kernel
theorem dX10_wrong_25 : decode cX10_wrong 25 = .ok (.iconst 0, 1) := by decide +kernel
theorem dX10_wrong_26 : decode cX10_wrong 26 = .ok (.istore 4, 2) := by decide +kernel
theorem dX10_wrong_28 : decode cX10_wrong 28 = .ok (.iload 4, 2) := by decide +kernel
theorem dX10_wrong_30 : decode cX10_wrong 30 = .ok (.aload_n 0, 1) := by decide +kernel
theorem dX10_wrong_31 : decode cX10_wrong 31 = .ok (.getfield 102, 3) := by decide +kernel
theorem dX10_wrong_34 : decode cX10_wrong 34 = .ok (.if_icmp .ge 67, 3) := by decide +kernel
theorem dX10_wrong_37 : decode cX10_wrong 37 = .ok (.aload_n 0, 1) := by decide +kernel
theorem dX10_wrong_38 : decode cX10_wrong 38 = .ok (.getfield 9, 3) := by decide +kernel
theorem dX10_wrong_41 : decode cX10_wrong 41 = .ok (.iload 4, 2) := by decide +kernel
theorem dX10_wrong_43 : decode cX10_wrong 43 = .ok (.iaload, 1) := by decide +kernel
theorem dX10_wrong_44 : decode cX10_wrong 44 = .ok (.ifCond .ne 7, 3) := by decide +kernel
theorem dX10_wrong_47 : decode cX10_wrong 47 = .ok (.iconst (-1), 1) := by decide +kernel
theorem dX10_wrong_48 : decode cX10_wrong 48 = .ok (.goto 24, 3) := by decide +kernel
theorem dX10_wrong_51 : decode cX10_wrong 51 = .ok (.aload_n 0, 1) := by decide +kernel
theorem dX10_wrong_52 : decode cX10_wrong 52 = .ok (.iload 4, 2) := by decide +kernel
theorem dX10_wrong_54 : decode cX10_wrong 54 = .ok (.invokevirtual 250, 3) := by decide +kernel
theorem dX10_wrong_57 : decode cX10_wrong 57 = .ok (.invokestatic 253, 3) := by decide +kernel
theorem dX10_wrong_60 : decode cX10_wrong 60 = .ok (.sipush 1000, 3) := by decide +kernel
theorem dX10_wrong_63 : decode cX10_wrong 63 = .ok (.imul, 1) := by decide +kernel
theorem dX10_wrong_64 : decode cX10_wrong 64 = .ok (.aload_n 0, 1) := by decide +kernel
theorem dX10_wrong_65 : decode cX10_wrong 65 = .ok (.getfield 9, 3) := by decide +kernel
theorem dX10_wrong_68 : decode cX10_wrong 68 = .ok (.iload 4, 2) := by decide +kernel
theorem dX10_wrong_70 : decode cX10_wrong 70 = .ok (.iaload, 1) := by decide +kernel
theorem dX10_wrong_71 : decode cX10_wrong 71 = .ok (.idiv, 1) := by decide +kernel
theorem dX10_wrong_72 : decode cX10_wrong 72 = .ok (.istore 5, 2) := by decide +kernel
theorem dX10_wrong_74 : decode cX10_wrong 74 = .ok (.iload 5, 2) := by decide +kernel
theorem dX10_wrong_76 : decode cX10_wrong 76 = .ok (.ifCond .lt 19, 3) := by decide +kernel
theorem dX10_wrong_79 : decode cX10_wrong 79 = .ok (.iload_n 2, 1) := by decide +kernel
theorem dX10_wrong_80 : decode cX10_wrong 80 = .ok (.ifCond .lt 9, 3) := by decide +kernel
theorem dX10_wrong_83 : decode cX10_wrong 83 = .ok (.iload 5, 2) := by decide +kernel
theorem dX10_wrong_85 : decode cX10_wrong 85 = .ok (.iload_n 3, 1) := by decide +kernel
theorem dX10_wrong_86 : decode cX10_wrong 86 = .ok (.if_icmp .le 9, 3) := by decide +kernel
theorem dX10_wrong_89 : decode cX10_wrong 89 = .ok (.iload 4, 2) := by decide +kernel
theorem dX10_wrong_91 : decode cX10_wrong 91 = .ok (.istore_n 2, 1) := by decide +kernel
theorem dX10_wrong_92 : decode cX10_wrong 92 = .ok (.iload 5, 2) := by decide +kernel
theorem dX10_wrong_94 : decode cX10_wrong 94 = .ok (.istore_n 3, 1) := by decide +kernel
theorem dX10_wrong_95 : decode cX10_wrong 95 = .ok (.iinc 4 1, 3) := by decide +kernel
theorem dX10_wrong_98 : decode cX10_wrong 98 = .ok (.goto (-70), 3) := by decide +kernel
theorem dX10_wrong_101 : decode cX10_wrong 101 = .ok (.iload_n 2, 1) := by decide +kernel
theorem dX10_wrong_102 : decode cX10_wrong 102 = .ok (.ifCond .ge 6, 3) := by decide +kernel
theorem dX10_wrong_105 : decode cX10_wrong 105 = .ok (.bipush (-2), 2) := by decide +kernel
theorem dX10_wrong_107 : decode cX10_wrong 107 = .ok (.ireturn, 1) := by decide +kernel
theorem dX10_wrong_108 : decode cX10_wrong 108 = .ok (.iload_n 1, 1) := by decide +kernel
theorem dX10_wrong_109 : decode cX10_wrong 109 = .ok (.ifCond .ne 7, 3) := by decide +kernel
theorem dX10_wrong_112 : decode cX10_wrong 112 = .ok (.iload_n 2, 1) := by decide +kernel
theorem dX10_wrong_113 : decode cX10_wrong 113 = .ok (.goto 37, 3) := by decide +kernel
theorem dX10_wrong_116 : decode cX10_wrong 116 = .ok (.iload_n 1, 1) := by decide +kernel
theorem dX10_wrong_117 : decode cX10_wrong 117 = .ok (.iconst 1, 1) := by decide +kernel
theorem dX10_wrong_118 : decode cX10_wrong 118 = .ok (.if_icmp .ne 7, 3) := by decide +kernel
theorem dX10_wrong_121 : decode cX10_wrong 121 = .ok (.iload_n 3, 1) := by decide +kernel
theorem dX10_wrong_122 : decode cX10_wrong 122 = .ok (.goto 28, 3) := by decide +kernel
theorem dX10_wrong_125 : decode cX10_wrong 125 = .ok (.aload_n 0, 1) := by decide +kernel
theorem dX10_wrong_126 : decode cX10_wrong 126 = .ok (.iload_n 2, 1) := by decide +kernel
theorem dX10_wrong_127 : decode cX10_wrong 127 = .ok (.invokevirtual 250, 3) := by decide +kernel
theorem dX10_wrong_130 : decode cX10_wrong 130 = .ok (.ifCond .ge 7, 3) := by decide +kernel
theorem dX10_wrong_133 : decode cX10_wrong 133 = .ok (.iconst 1, 1) := by decide +kernel
theorem dX10_wrong_134 : decode cX10_wrong 134 = .ok (.goto 16, 3) := by decide +kernel
theorem dX10_wrong_137 : decode cX10_wrong 137 = .ok (.aload_n 0, 1) := by decide +kernel
theorem dX10_wrong_138 : decode cX10_wrong 138 = .ok (.iload_n 2, 1) := by decide +kernel
theorem dX10_wrong_139 : decode cX10_wrong 139 = .ok (.invokevirtual 250, 3) := by decide +kernel
theorem dX10_wrong_142 : decode cX10_wrong 142 = .ok (.ifCond .le 7, 3) := by decide +kernel
theorem dX10_wrong_145 : decode cX10_wrong 145 = .ok (.iconst (-1), 1) := by decide +kernel
theorem dX10_wrong_146 : decode cX10_wrong 146 = .ok (.goto 4, 3) := by decide +kernel
theorem dX10_wrong_149 : decode cX10_wrong 149 = .ok (.iconst 0, 1) := by decide +kernel
theorem dX10_wrong_150 : decode cX10_wrong 150 = .ok (.ireturn, 1) := by decide +kernel
theorem dX10_isBody_0 : decode cX10_isBody 0 = .ok (.iload_n 1, 1) := by decide +kernel
theorem dX10_isBody_1 : decode cX10_isBody 1 = .ok (.i2l, 1) := by decide +kernel
theorem dX10_isBody_2 : decode cX10_isBody 2 = .ok (.lconst 0, 1) := by decide +kernel
theorem dX10_isBody_3 : decode cX10_isBody 3 = .ok (.aload_n 0, 1) := by decide +kernel
theorem dX10_isBody_4 : decode cX10_isBody 4 = .ok (.getfield 327, 3) := by decide +kernel
theorem dX10_isBody_7 : decode cX10_isBody 7 = .ok (.iconst 1, 1) := by decide +kernel
theorem dX10_isBody_8 : decode cX10_isBody 8 = .ok (.isub, 1) := by decide +kernel
theorem dX10_isBody_9 : decode cX10_isBody 9 = .ok (.i2l, 1) := by decide +kernel
theorem dX10_isBody_10 : decode cX10_isBody 10 = .ok (.invokestatic 105, 3) := by decide +kernel
theorem dX10_isBody_13 : decode cX10_isBody 13 = .ok (.ireturn, 1) := by decide +kernel
theorem dX10_kindOf_0 : decode cX10_kindOf 0 = .ok (.aload_n 0, 1) := by decide +kernel
theorem dX10_kindOf_1 : decode cX10_kindOf 1 = .ok (.getfield 77, 3) := by decide +kernel
theorem dX10_kindOf_4 : decode cX10_kindOf 4 = .ok (.iload_n 1, 1) := by decide +kernel
theorem dX10_kindOf_5 : decode cX10_kindOf 5 = .ok (.iaload, 1) := by decide +kernel
theorem dX10_kindOf_6 : decode cX10_kindOf 6 = .ok (.ireturn, 1) := by decide +kernel
theorem dX10_body_0 : decode cX10_body 0 = .ok (.iload_n 1, 1) := by decide +kernel
theorem dX10_body_1 : decode cX10_body 1 = .ok (.i2l, 1) := by decide +kernel
theorem dX10_body_2 : decode cX10_body 2 = .ok (.lconst 0, 1) := by decide +kernel
theorem dX10_body_3 : decode cX10_body 3 = .ok (.ldc2_w 330, 3) := by decide +kernel
theorem dX10_body_6 : decode cX10_body 6 = .ok (.invokestatic 105, 3) := by decide +kernel
theorem dX10_body_9 : decode cX10_body 9 = .ok (.ifCond .ne 5, 3) := by decide +kernel
theorem dX10_body_12 : decode cX10_body 12 = .ok (.iconst (-1), 1) := by decide +kernel
theorem dX10_body_13 : decode cX10_body 13 = .ok (.ireturn, 1) := by decide +kernel
theorem dX10_body_14 : decode cX10_body 14 = .ok (.aload_n 0, 1) := by decide +kernel
theorem dX10_body_15 : decode cX10_body 15 = .ok (.getfield 327, 3) := by decide +kernel
theorem dX10_body_18 : decode cX10_body 18 = .ok (.bipush 50, 2) := by decide +kernel
theorem dX10_body_20 : decode cX10_body 20 = .ok (.if_icmp .ne 6, 3) := by decide +kernel
theorem dX10_body_23 : decode cX10_body 23 = .ok (.bipush (-3), 2) := by decide +kernel
theorem dX10_body_25 : decode cX10_body 25 = .ok (.ireturn, 1) := by decide +kernel
theorem dX10_body_26 : decode cX10_body 26 = .ok (.aload_n 0, 1) := by decide +kernel
theorem dX10_body_27 : decode cX10_body 27 = .ok (.getfield 77, 3) := by decide +kernel
theorem dX10_body_30 : decode cX10_body 30 = .ok (.aload_n 0, 1) := by decide +kernel
theorem dX10_body_31 : decode cX10_body 31 = .ok (.getfield 327, 3) := by decide +kernel
theorem dX10_body_34 : decode cX10_body 34 = .ok (.iload_n 1, 1) := by decide +kernel
theorem dX10_body_35 : decode cX10_body 35 = .ok (.iastore, 1) := by decide +kernel
theorem dX10_body_36 : decode cX10_body 36 = .ok (.aload_n 0, 1) := by decide +kernel
theorem dX10_body_37 : decode cX10_body 37 = .ok (.dup, 1) := by decide +kernel
theorem dX10_body_38 : decode cX10_body 38 = .ok (.getfield 327, 3) := by decide +kernel
theorem dX10_body_41 : decode cX10_body 41 = .ok (.iconst 1, 1) := by decide +kernel
theorem dX10_body_42 : decode cX10_body 42 = .ok (.iadd, 1) := by decide +kernel
theorem dX10_body_43 : decode cX10_body 43 = .ok (.putfield 327, 3) := by decide +kernel
theorem dX10_body_46 : decode cX10_body 46 = .ok (.aload_n 0, 1) := by decide +kernel
theorem dX10_body_47 : decode cX10_body 47 = .ok (.getfield 327, 3) := by decide +kernel
theorem dX10_body_50 : decode cX10_body 50 = .ok (.iconst 1, 1) := by decide +kernel
theorem dX10_body_51 : decode cX10_body 51 = .ok (.isub, 1) := by decide +kernel
theorem dX10_body_52 : decode cX10_body 52 = .ok (.ireturn, 1) := by decide +kernel
theorem dX10_above_0 : decode cX10_above 0 = .ok (.iload_n 0, 1) := by decide +kernel
theorem dX10_above_1 : decode cX10_above 1 = .ok (.iconst 3, 1) := by decide +kernel
theorem dX10_above_2 : decode cX10_above 2 = .ok (.if_icmp .eq 8, 3) := by decide +kernel
theorem dX10_above_5 : decode cX10_above 5 = .ok (.iload_n 0, 1) := by decide +kernel
theorem dX10_above_6 : decode cX10_above 6 = .ok (.iconst 4, 1) := by decide +kernel
theorem dX10_above_7 : decode cX10_above 7 = .ok (.if_icmp .ne 7, 3) := by decide +kernel
theorem dX10_above_10 : decode cX10_above 10 = .ok (.iconst 2, 1) := by decide +kernel
theorem dX10_above_11 : decode cX10_above 11 = .ok (.goto 23, 3) := by decide +kernel
theorem dX10_above_14 : decode cX10_above 14 = .ok (.iload_n 0, 1) := by decide +kernel
theorem dX10_above_15 : decode cX10_above 15 = .ok (.iconst 5, 1) := by decide +kernel
theorem dX10_above_16 : decode cX10_above 16 = .ok (.if_icmp .ne 7, 3) := by decide +kernel
theorem dX10_above_19 : decode cX10_above 19 = .ok (.iconst 3, 1) := by decide +kernel
theorem dX10_above_20 : decode cX10_above 20 = .ok (.goto 14, 3) := by decide +kernel
theorem dX10_above_23 : decode cX10_above 23 = .ok (.iload_n 0, 1) := by decide +kernel
theorem dX10_above_24 : decode cX10_above 24 = .ok (.bipush 7, 2) := by decide +kernel
theorem dX10_above_26 : decode cX10_above 26 = .ok (.if_icmp .ne 7, 3) := by decide +kernel
theorem dX10_above_29 : decode cX10_above 29 = .ok (.iconst 4, 1) := by decide +kernel
theorem dX10_above_30 : decode cX10_above 30 = .ok (.goto 4, 3) := by decide +kernel
theorem dX10_above_33 : decode cX10_above 33 = .ok (.iconst 0, 1) := by decide +kernel
theorem dX10_above_34 : decode cX10_above 34 = .ok (.ireturn, 1) := by decide +kernel
theorem dX10_begins_0 : decode cX10_begins 0 = .ok (.aload_n 0, 1) := by decide +kernel
theorem dX10_begins_1 : decode cX10_begins 1 = .ok (.getfield 332, 3) := by decide +kernel
theorem dX10_begins_4 : decode cX10_begins 4 = .ok (.bipush 24, 2) := by decide +kernel
theorem dX10_begins_6 : decode cX10_begins 6 = .ok (.if_icmp .ge 13, 3) := by decide +kernel
theorem dX10_begins_9 : decode cX10_begins 9 = .ok (.aload_n 0, 1) := by decide +kernel
theorem dX10_begins_10 : decode cX10_begins 10 = .ok (.getfield 80, 3) := by decide +kernel
theorem dX10_begins_13 : decode cX10_begins 13 = .ok (.aload_n 0, 1) := by decide +kernel
theorem dX10_begins_14 : decode cX10_begins 14 = .ok (.getfield 332, 3) := by decide +kernel
theorem dX10_begins_17 : decode cX10_begins 17 = .ok (.iload_n 1, 1) := by decide +kernel
theorem dX10_begins_18 : decode cX10_begins 18 = .ok (.iastore, 1) := by decide +kernel
theorem dX10_begins_19 : decode cX10_begins 19 = .ok (.aload_n 0, 1) := by decide +kernel
theorem dX10_begins_20 : decode cX10_begins 20 = .ok (.dup, 1) := by decide +kernel
theorem dX10_begins_21 : decode cX10_begins 21 = .ok (.getfield 332, 3) := by decide +kernel
theorem dX10_begins_24 : decode cX10_begins 24 = .ok (.iconst 1, 1) := by decide +kernel
theorem dX10_begins_25 : decode cX10_begins 25 = .ok (.iadd, 1) := by decide +kernel
theorem dX10_begins_26 : decode cX10_begins 26 = .ok (.putfield 332, 3) := by decide +kernel
theorem dX10_begins_29 : decode cX10_begins 29 = .ok (.return_, 1) := by decide +kernel
theorem dX10_buysAs_0 : decode cX10_buysAs 0 = .ok (.iload_n 1, 1) := by decide +kernel
theorem dX10_buysAs_1 : decode cX10_buysAs 1 = .ok (.iconst 1, 1) := by decide +kernel
theorem dX10_buysAs_2 : decode cX10_buysAs 2 = .ok (.if_icmp .ne 18, 3) := by decide +kernel
theorem dX10_buysAs_5 : decode cX10_buysAs 5 = .ok (.aload_n 0, 1) := by decide +kernel
theorem dX10_buysAs_6 : decode cX10_buysAs 6 = .ok (.bipush 20, 2) := by decide +kernel
theorem dX10_buysAs_8 : decode cX10_buysAs 8 = .ok (.invokevirtual 335, 3) := by decide +kernel
theorem dX10_buysAs_11 : decode cX10_buysAs 11 = .ok (.aload_n 0, 1) := by decide +kernel
theorem dX10_buysAs_12 : decode cX10_buysAs 12 = .ok (.iconst 0, 1) := by decide +kernel
theorem dX10_buysAs_13 : decode cX10_buysAs 13 = .ok (.iload_n 2, 1) := by decide +kernel
theorem dX10_buysAs_14 : decode cX10_buysAs 14 = .ok (.invokevirtual 338, 3) := by decide +kernel
theorem dX10_buysAs_17 : decode cX10_buysAs 17 = .ok (.iconst 3, 1) := by decide +kernel
theorem dX10_buysAs_18 : decode cX10_buysAs 18 = .ok (.iadd, 1) := by decide +kernel
theorem dX10_buysAs_19 : decode cX10_buysAs 19 = .ok (.ireturn, 1) := by decide +kernel
theorem dX10_buysAs_20 : decode cX10_buysAs 20 = .ok (.iload_n 1, 1) := by decide +kernel
theorem dX10_buysAs_21 : decode cX10_buysAs 21 = .ok (.iconst 5, 1) := by decide +kernel
theorem dX10_buysAs_22 : decode cX10_buysAs 22 = .ok (.if_icmp .ne 18, 3) := by decide +kernel
theorem dX10_buysAs_25 : decode cX10_buysAs 25 = .ok (.aload_n 0, 1) := by decide +kernel
theorem dX10_buysAs_26 : decode cX10_buysAs 26 = .ok (.bipush 60, 2) := by decide +kernel
theorem dX10_buysAs_28 : decode cX10_buysAs 28 = .ok (.invokevirtual 335, 3) := by decide +kernel
theorem dX10_buysAs_31 : decode cX10_buysAs 31 = .ok (.aload_n 0, 1) := by decide +kernel
theorem dX10_buysAs_32 : decode cX10_buysAs 32 = .ok (.iconst 0, 1) := by decide +kernel
theorem dX10_buysAs_33 : decode cX10_buysAs 33 = .ok (.iload_n 2, 1) := by decide +kernel
theorem dX10_buysAs_34 : decode cX10_buysAs 34 = .ok (.iconst 1, 1) := by decide +kernel
theorem dX10_buysAs_35 : decode cX10_buysAs 35 = .ok (.iadd, 1) := by decide +kernel
theorem dX10_buysAs_36 : decode cX10_buysAs 36 = .ok (.invokevirtual 338, 3) := by decide +kernel
theorem dX10_buysAs_39 : decode cX10_buysAs 39 = .ok (.ireturn, 1) := by decide +kernel
theorem dX10_buysAs_40 : decode cX10_buysAs 40 = .ok (.iload_n 1, 1) := by decide +kernel
theorem dX10_buysAs_41 : decode cX10_buysAs 41 = .ok (.bipush 6, 2) := by decide +kernel
theorem dX10_buysAs_43 : decode cX10_buysAs 43 = .ok (.if_icmp .ne 18, 3) := by decide +kernel
theorem dX10_buysAs_46 : decode cX10_buysAs 46 = .ok (.aload_n 0, 1) := by decide +kernel
theorem dX10_buysAs_47 : decode cX10_buysAs 47 = .ok (.bipush 70, 2) := by decide +kernel
theorem dX10_buysAs_49 : decode cX10_buysAs 49 = .ok (.invokevirtual 335, 3) := by decide +kernel
theorem dX10_buysAs_52 : decode cX10_buysAs 52 = .ok (.aload_n 0, 1) := by decide +kernel
theorem dX10_buysAs_53 : decode cX10_buysAs 53 = .ok (.iconst 0, 1) := by decide +kernel
theorem dX10_buysAs_54 : decode cX10_buysAs 54 = .ok (.iload_n 2, 1) := by decide +kernel
theorem dX10_buysAs_55 : decode cX10_buysAs 55 = .ok (.invokevirtual 338, 3) := by decide +kernel
theorem dX10_buysAs_58 : decode cX10_buysAs 58 = .ok (.iconst 2, 1) := by decide +kernel
theorem dX10_buysAs_59 : decode cX10_buysAs 59 = .ok (.imul, 1) := by decide +kernel
theorem dX10_buysAs_60 : decode cX10_buysAs 60 = .ok (.ireturn, 1) := by decide +kernel
theorem dX10_buysAs_61 : decode cX10_buysAs 61 = .ok (.aload_n 0, 1) := by decide +kernel
theorem dX10_buysAs_62 : decode cX10_buysAs 62 = .ok (.iconst 1, 1) := by decide +kernel
theorem dX10_buysAs_63 : decode cX10_buysAs 63 = .ok (.invokevirtual 335, 3) := by decide +kernel
theorem dX10_buysAs_66 : decode cX10_buysAs 66 = .ok (.iload_n 2, 1) := by decide +kernel
theorem dX10_buysAs_67 : decode cX10_buysAs 67 = .ok (.aload_n 0, 1) := by decide +kernel
theorem dX10_buysAs_68 : decode cX10_buysAs 68 = .ok (.getfield 341, 3) := by decide +kernel
theorem dX10_buysAs_71 : decode cX10_buysAs 71 = .ok (.iadd, 1) := by decide +kernel
theorem dX10_buysAs_72 : decode cX10_buysAs 72 = .ok (.ireturn, 1) := by decide +kernel
theorem dX10_keepsAs_0 : decode cX10_keepsAs 0 = .ok (.iload_n 1, 1) := by decide +kernel
theorem dX10_keepsAs_1 : decode cX10_keepsAs 1 = .ok (.bipush 7, 2) := by decide +kernel
theorem dX10_keepsAs_3 : decode cX10_keepsAs 3 = .ok (.if_icmp .ne 28, 3) := by decide +kernel
theorem dX10_keepsAs_6 : decode cX10_keepsAs 6 = .ok (.aload_n 0, 1) := by decide +kernel
theorem dX10_keepsAs_7 : decode cX10_keepsAs 7 = .ok (.bipush 80, 2) := by decide +kernel
theorem dX10_keepsAs_9 : decode cX10_keepsAs 9 = .ok (.invokevirtual 335, 3) := by decide +kernel
theorem dX10_keepsAs_12 : decode cX10_keepsAs 12 = .ok (.aload_n 0, 1) := by decide +kernel
theorem dX10_keepsAs_13 : decode cX10_keepsAs 13 = .ok (.iconst 4, 1) := by decide +kernel
theorem dX10_keepsAs_14 : decode cX10_keepsAs 14 = .ok (.iload_n 2, 1) := by decide +kernel
theorem dX10_keepsAs_15 : decode cX10_keepsAs 15 = .ok (.invokevirtual 344, 3) := by decide +kernel
theorem dX10_keepsAs_18 : decode cX10_keepsAs 18 = .ok (.istore_n 3, 1) := by decide +kernel
theorem dX10_keepsAs_19 : decode cX10_keepsAs 19 = .ok (.iload_n 3, 1) := by decide +kernel
theorem dX10_keepsAs_20 : decode cX10_keepsAs 20 = .ok (.aload_n 0, 1) := by decide +kernel
theorem dX10_keepsAs_21 : decode cX10_keepsAs 21 = .ok (.aload_n 0, 1) := by decide +kernel
theorem dX10_keepsAs_22 : decode cX10_keepsAs 22 = .ok (.getfield 347, 3) := by decide +kernel
theorem dX10_keepsAs_25 : decode cX10_keepsAs 25 = .ok (.iconst 2, 1) := by decide +kernel
theorem dX10_keepsAs_26 : decode cX10_keepsAs 26 = .ok (.invokevirtual 350, 3) := by decide +kernel
theorem dX10_keepsAs_29 : decode cX10_keepsAs 29 = .ok (.iadd, 1) := by decide +kernel
theorem dX10_keepsAs_30 : decode cX10_keepsAs 30 = .ok (.ireturn, 1) := by decide +kernel
theorem dX10_keepsAs_31 : decode cX10_keepsAs 31 = .ok (.iload_n 1, 1) := by decide +kernel
theorem dX10_keepsAs_32 : decode cX10_keepsAs 32 = .ok (.iconst 2, 1) := by decide +kernel
theorem dX10_keepsAs_33 : decode cX10_keepsAs 33 = .ok (.if_icmp .eq 18, 3) := by decide +kernel
theorem dX10_keepsAs_36 : decode cX10_keepsAs 36 = .ok (.iload_n 1, 1) := by decide +kernel
theorem dX10_keepsAs_37 : decode cX10_keepsAs 37 = .ok (.iconst 3, 1) := by decide +kernel
theorem dX10_keepsAs_38 : decode cX10_keepsAs 38 = .ok (.if_icmp .eq 13, 3) := by decide +kernel
theorem dX10_keepsAs_41 : decode cX10_keepsAs 41 = .ok (.iload_n 1, 1) := by decide +kernel
theorem dX10_keepsAs_42 : decode cX10_keepsAs 42 = .ok (.iconst 4, 1) := by decide +kernel
theorem dX10_keepsAs_43 : decode cX10_keepsAs 43 = .ok (.if_icmp .eq 8, 3) := by decide +kernel
theorem dX10_keepsAs_46 : decode cX10_keepsAs 46 = .ok (.iload_n 1, 1) := by decide +kernel
theorem dX10_keepsAs_47 : decode cX10_keepsAs 47 = .ok (.iconst 5, 1) := by decide +kernel
theorem dX10_keepsAs_48 : decode cX10_keepsAs 48 = .ok (.if_icmp .ne 17, 3) := by decide +kernel
theorem dX10_keepsAs_51 : decode cX10_keepsAs 51 = .ok (.aload_n 0, 1) := by decide +kernel
theorem dX10_keepsAs_52 : decode cX10_keepsAs 52 = .ok (.bipush 30, 2) := by decide +kernel
theorem dX10_keepsAs_54 : decode cX10_keepsAs 54 = .ok (.invokevirtual 335, 3) := by decide +kernel
theorem dX10_keepsAs_57 : decode cX10_keepsAs 57 = .ok (.aload_n 0, 1) := by decide +kernel
theorem dX10_keepsAs_58 : decode cX10_keepsAs 58 = .ok (.iconst 0, 1) := by decide +kernel
theorem dX10_keepsAs_59 : decode cX10_keepsAs 59 = .ok (.iload_n 2, 1) := by decide +kernel
theorem dX10_keepsAs_60 : decode cX10_keepsAs 60 = .ok (.invokevirtual 344, 3) := by decide +kernel
theorem dX10_keepsAs_63 : decode cX10_keepsAs 63 = .ok (.ineg, 1) := by decide +kernel
theorem dX10_keepsAs_64 : decode cX10_keepsAs 64 = .ok (.ireturn, 1) := by decide +kernel
theorem dX10_keepsAs_65 : decode cX10_keepsAs 65 = .ok (.aload_n 0, 1) := by decide +kernel
theorem dX10_keepsAs_66 : decode cX10_keepsAs 66 = .ok (.bipush 10, 2) := by decide +kernel
theorem dX10_keepsAs_68 : decode cX10_keepsAs 68 = .ok (.invokevirtual 335, 3) := by decide +kernel
theorem dX10_keepsAs_71 : decode cX10_keepsAs 71 = .ok (.aload_n 0, 1) := by decide +kernel
theorem dX10_keepsAs_72 : decode cX10_keepsAs 72 = .ok (.aload_n 0, 1) := by decide +kernel
theorem dX10_keepsAs_73 : decode cX10_keepsAs 73 = .ok (.getfield 347, 3) := by decide +kernel
theorem dX10_keepsAs_76 : decode cX10_keepsAs 76 = .ok (.iload_n 2, 1) := by decide +kernel
theorem dX10_keepsAs_77 : decode cX10_keepsAs 77 = .ok (.invokevirtual 338, 3) := by decide +kernel
theorem dX10_keepsAs_80 : decode cX10_keepsAs 80 = .ok (.iconst 2, 1) := by decide +kernel
theorem dX10_keepsAs_81 : decode cX10_keepsAs 81 = .ok (.imul, 1) := by decide +kernel
theorem dX10_keepsAs_82 : decode cX10_keepsAs 82 = .ok (.ireturn, 1) := by decide +kernel
theorem dX10_lendsAs_0 : decode cX10_lendsAs 0 = .ok (.iload_n 1, 1) := by decide +kernel
theorem dX10_lendsAs_1 : decode cX10_lendsAs 1 = .ok (.iconst 3, 1) := by decide +kernel
theorem dX10_lendsAs_2 : decode cX10_lendsAs 2 = .ok (.if_icmp .eq 8, 3) := by decide +kernel
theorem dX10_lendsAs_5 : decode cX10_lendsAs 5 = .ok (.iload_n 1, 1) := by decide +kernel
theorem dX10_lendsAs_6 : decode cX10_lendsAs 6 = .ok (.iconst 5, 1) := by decide +kernel
theorem dX10_lendsAs_7 : decode cX10_lendsAs 7 = .ok (.if_icmp .ne 18, 3) := by decide +kernel
theorem dX10_lendsAs_10 : decode cX10_lendsAs 10 = .ok (.aload_n 0, 1) := by decide +kernel
theorem dX10_lendsAs_11 : decode cX10_lendsAs 11 = .ok (.bipush 40, 2) := by decide +kernel
theorem dX10_lendsAs_13 : decode cX10_lendsAs 13 = .ok (.invokevirtual 335, 3) := by decide +kernel
theorem dX10_lendsAs_16 : decode cX10_lendsAs 16 = .ok (.aload_n 0, 1) := by decide +kernel
theorem dX10_lendsAs_17 : decode cX10_lendsAs 17 = .ok (.iconst 0, 1) := by decide +kernel
theorem dX10_lendsAs_18 : decode cX10_lendsAs 18 = .ok (.iload_n 2, 1) := by decide +kernel
theorem dX10_lendsAs_19 : decode cX10_lendsAs 19 = .ok (.invokevirtual 350, 3) := by decide +kernel
theorem dX10_lendsAs_22 : decode cX10_lendsAs 22 = .ok (.iconst 3, 1) := by decide +kernel
theorem dX10_lendsAs_23 : decode cX10_lendsAs 23 = .ok (.imul, 1) := by decide +kernel
theorem dX10_lendsAs_24 : decode cX10_lendsAs 24 = .ok (.ireturn, 1) := by decide +kernel
theorem dX10_lendsAs_25 : decode cX10_lendsAs 25 = .ok (.iload_n 1, 1) := by decide +kernel
theorem dX10_lendsAs_26 : decode cX10_lendsAs 26 = .ok (.iconst 4, 1) := by decide +kernel
theorem dX10_lendsAs_27 : decode cX10_lendsAs 27 = .ok (.if_icmp .eq 9, 3) := by decide +kernel
theorem dX10_lendsAs_30 : decode cX10_lendsAs 30 = .ok (.iload_n 1, 1) := by decide +kernel
theorem dX10_lendsAs_31 : decode cX10_lendsAs 31 = .ok (.bipush 7, 2) := by decide +kernel
theorem dX10_lendsAs_33 : decode cX10_lendsAs 33 = .ok (.if_icmp .ne 28, 3) := by decide +kernel
theorem dX10_lendsAs_36 : decode cX10_lendsAs 36 = .ok (.aload_n 0, 1) := by decide +kernel
theorem dX10_lendsAs_37 : decode cX10_lendsAs 37 = .ok (.bipush 50, 2) := by decide +kernel
theorem dX10_lendsAs_39 : decode cX10_lendsAs 39 = .ok (.invokevirtual 335, 3) := by decide +kernel
theorem dX10_lendsAs_42 : decode cX10_lendsAs 42 = .ok (.aload_n 0, 1) := by decide +kernel
theorem dX10_lendsAs_43 : decode cX10_lendsAs 43 = .ok (.iconst 0, 1) := by decide +kernel
theorem dX10_lendsAs_44 : decode cX10_lendsAs 44 = .ok (.iload_n 2, 1) := by decide +kernel
theorem dX10_lendsAs_45 : decode cX10_lendsAs 45 = .ok (.invokevirtual 350, 3) := by decide +kernel
theorem dX10_lendsAs_48 : decode cX10_lendsAs 48 = .ok (.istore_n 3, 1) := by decide +kernel
theorem dX10_lendsAs_49 : decode cX10_lendsAs 49 = .ok (.iload_n 3, 1) := by decide +kernel
theorem dX10_lendsAs_50 : decode cX10_lendsAs 50 = .ok (.aload_n 0, 1) := by decide +kernel
theorem dX10_lendsAs_51 : decode cX10_lendsAs 51 = .ok (.aload_n 0, 1) := by decide +kernel
theorem dX10_lendsAs_52 : decode cX10_lendsAs 52 = .ok (.getfield 347, 3) := by decide +kernel
theorem dX10_lendsAs_55 : decode cX10_lendsAs 55 = .ok (.iconst 2, 1) := by decide +kernel
theorem dX10_lendsAs_56 : decode cX10_lendsAs 56 = .ok (.invokevirtual 338, 3) := by decide +kernel
theorem dX10_lendsAs_59 : decode cX10_lendsAs 59 = .ok (.isub, 1) := by decide +kernel
theorem dX10_lendsAs_60 : decode cX10_lendsAs 60 = .ok (.ireturn, 1) := by decide +kernel
theorem dX10_lendsAs_61 : decode cX10_lendsAs 61 = .ok (.aload_n 0, 1) := by decide +kernel
theorem dX10_lendsAs_62 : decode cX10_lendsAs 62 = .ok (.bipush 11, 2) := by decide +kernel
theorem dX10_lendsAs_64 : decode cX10_lendsAs 64 = .ok (.invokevirtual 335, 3) := by decide +kernel
theorem dX10_lendsAs_67 : decode cX10_lendsAs 67 = .ok (.iload_n 2, 1) := by decide +kernel
theorem dX10_lendsAs_68 : decode cX10_lendsAs 68 = .ok (.aload_n 0, 1) := by decide +kernel
theorem dX10_lendsAs_69 : decode cX10_lendsAs 69 = .ok (.getfield 341, 3) := by decide +kernel
theorem dX10_lendsAs_72 : decode cX10_lendsAs 72 = .ok (.ixor, 1) := by decide +kernel
theorem dX10_lendsAs_73 : decode cX10_lendsAs 73 = .ok (.ireturn, 1) := by decide +kernel
theorem dX10_tellsAs_0 : decode cX10_tellsAs 0 = .ok (.iload_n 1, 1) := by decide +kernel
theorem dX10_tellsAs_1 : decode cX10_tellsAs 1 = .ok (.iconst 5, 1) := by decide +kernel
theorem dX10_tellsAs_2 : decode cX10_tellsAs 2 = .ok (.if_icmp .ne 18, 3) := by decide +kernel
theorem dX10_tellsAs_5 : decode cX10_tellsAs 5 = .ok (.aload_n 0, 1) := by decide +kernel
theorem dX10_tellsAs_6 : decode cX10_tellsAs 6 = .ok (.bipush 61, 2) := by decide +kernel
theorem dX10_tellsAs_8 : decode cX10_tellsAs 8 = .ok (.invokevirtual 335, 3) := by decide +kernel
theorem dX10_tellsAs_11 : decode cX10_tellsAs 11 = .ok (.aload_n 0, 1) := by decide +kernel
theorem dX10_tellsAs_12 : decode cX10_tellsAs 12 = .ok (.iconst 3, 1) := by decide +kernel
theorem dX10_tellsAs_13 : decode cX10_tellsAs 13 = .ok (.iload_n 2, 1) := by decide +kernel
theorem dX10_tellsAs_14 : decode cX10_tellsAs 14 = .ok (.invokevirtual 353, 3) := by decide +kernel
theorem dX10_tellsAs_17 : decode cX10_tellsAs 17 = .ok (.iconst 5, 1) := by decide +kernel
theorem dX10_tellsAs_18 : decode cX10_tellsAs 18 = .ok (.ixor, 1) := by decide +kernel
theorem dX10_tellsAs_19 : decode cX10_tellsAs 19 = .ok (.ireturn, 1) := by decide +kernel
theorem dX10_tellsAs_20 : decode cX10_tellsAs 20 = .ok (.iload_n 1, 1) := by decide +kernel
theorem dX10_tellsAs_21 : decode cX10_tellsAs 21 = .ok (.bipush 7, 2) := by decide +kernel
theorem dX10_tellsAs_23 : decode cX10_tellsAs 23 = .ok (.if_icmp .ne 18, 3) := by decide +kernel
theorem dX10_tellsAs_26 : decode cX10_tellsAs 26 = .ok (.aload_n 0, 1) := by decide +kernel
theorem dX10_tellsAs_27 : decode cX10_tellsAs 27 = .ok (.bipush 81, 2) := by decide +kernel
theorem dX10_tellsAs_29 : decode cX10_tellsAs 29 = .ok (.invokevirtual 335, 3) := by decide +kernel
theorem dX10_tellsAs_32 : decode cX10_tellsAs 32 = .ok (.aload_n 0, 1) := by decide +kernel
theorem dX10_tellsAs_33 : decode cX10_tellsAs 33 = .ok (.iconst 4, 1) := by decide +kernel
theorem dX10_tellsAs_34 : decode cX10_tellsAs 34 = .ok (.iload_n 2, 1) := by decide +kernel
theorem dX10_tellsAs_35 : decode cX10_tellsAs 35 = .ok (.invokevirtual 353, 3) := by decide +kernel
theorem dX10_tellsAs_38 : decode cX10_tellsAs 38 = .ok (.iconst 1, 1) := by decide +kernel
theorem dX10_tellsAs_39 : decode cX10_tellsAs 39 = .ok (.isub, 1) := by decide +kernel
theorem dX10_tellsAs_40 : decode cX10_tellsAs 40 = .ok (.ireturn, 1) := by decide +kernel
theorem dX10_tellsAs_41 : decode cX10_tellsAs 41 = .ok (.aload_n 0, 1) := by decide +kernel
theorem dX10_tellsAs_42 : decode cX10_tellsAs 42 = .ok (.iconst 2, 1) := by decide +kernel
theorem dX10_tellsAs_43 : decode cX10_tellsAs 43 = .ok (.invokevirtual 335, 3) := by decide +kernel
theorem dX10_tellsAs_46 : decode cX10_tellsAs 46 = .ok (.aload_n 0, 1) := by decide +kernel
theorem dX10_tellsAs_47 : decode cX10_tellsAs 47 = .ok (.aload_n 0, 1) := by decide +kernel
theorem dX10_tellsAs_48 : decode cX10_tellsAs 48 = .ok (.getfield 347, 3) := by decide +kernel
theorem dX10_tellsAs_51 : decode cX10_tellsAs 51 = .ok (.iload_n 2, 1) := by decide +kernel
theorem dX10_tellsAs_52 : decode cX10_tellsAs 52 = .ok (.invokevirtual 344, 3) := by decide +kernel
theorem dX10_tellsAs_55 : decode cX10_tellsAs 55 = .ok (.istore_n 3, 1) := by decide +kernel
theorem dX10_tellsAs_56 : decode cX10_tellsAs 56 = .ok (.iload_n 3, 1) := by decide +kernel
theorem dX10_tellsAs_57 : decode cX10_tellsAs 57 = .ok (.aload_n 0, 1) := by decide +kernel
theorem dX10_tellsAs_58 : decode cX10_tellsAs 58 = .ok (.aload_n 0, 1) := by decide +kernel
theorem dX10_tellsAs_59 : decode cX10_tellsAs 59 = .ok (.getfield 347, 3) := by decide +kernel
theorem dX10_tellsAs_62 : decode cX10_tellsAs 62 = .ok (.iconst 1, 1) := by decide +kernel
theorem dX10_tellsAs_63 : decode cX10_tellsAs 63 = .ok (.invokevirtual 350, 3) := by decide +kernel
theorem dX10_tellsAs_66 : decode cX10_tellsAs 66 = .ok (.isub, 1) := by decide +kernel
theorem dX10_tellsAs_67 : decode cX10_tellsAs 67 = .ok (.ireturn, 1) := by decide +kernel
theorem dX10_act_0 : decode cX10_act 0 = .ok (.aload_n 0, 1) := by decide +kernel
theorem dX10_act_1 : decode cX10_act 1 = .ok (.iconst 0, 1) := by decide +kernel
theorem dX10_act_2 : decode cX10_act 2 = .ok (.putfield 332, 3) := by decide +kernel
theorem dX10_act_5 : decode cX10_act 5 = .ok (.aload_n 0, 1) := by decide +kernel
theorem dX10_act_6 : decode cX10_act 6 = .ok (.iload_n 1, 1) := by decide +kernel
theorem dX10_act_7 : decode cX10_act 7 = .ok (.invokevirtual 356, 3) := by decide +kernel
theorem dX10_act_10 : decode cX10_act 10 = .ok (.ifCond .ne 5, 3) := by decide +kernel
theorem dX10_act_13 : decode cX10_act 13 = .ok (.iconst 0, 1) := by decide +kernel
theorem dX10_act_14 : decode cX10_act 14 = .ok (.ireturn, 1) := by decide +kernel
theorem dX10_act_15 : decode cX10_act 15 = .ok (.aload_n 0, 1) := by decide +kernel
theorem dX10_act_16 : decode cX10_act 16 = .ok (.aload_n 0, 1) := by decide +kernel
theorem dX10_act_17 : decode cX10_act 17 = .ok (.getfield 77, 3) := by decide +kernel
theorem dX10_act_20 : decode cX10_act 20 = .ok (.iload_n 1, 1) := by decide +kernel
theorem dX10_act_21 : decode cX10_act 21 = .ok (.iaload, 1) := by decide +kernel
theorem dX10_act_22 : decode cX10_act 22 = .ok (.putfield 347, 3) := by decide +kernel
theorem dX10_act_25 : decode cX10_act 25 = .ok (.aload_n 0, 1) := by decide +kernel
theorem dX10_act_26 : decode cX10_act 26 = .ok (.iload_n 1, 1) := by decide +kernel
theorem dX10_act_27 : decode cX10_act 27 = .ok (.putfield 341, 3) := by decide +kernel
theorem dX10_act_30 : decode cX10_act 30 = .ok (.iload_n 2, 1) := by decide +kernel
theorem dX10_act_31 : decode cX10_act 31 = .ok (.tableswitch 69 0 3 #[29, 39, 49, 59], 29) := by decide +kernel
theorem dX10_act_60 : decode cX10_act 60 = .ok (.aload_n 0, 1) := by decide +kernel
theorem dX10_act_61 : decode cX10_act 61 = .ok (.aload_n 0, 1) := by decide +kernel
theorem dX10_act_62 : decode cX10_act 62 = .ok (.getfield 347, 3) := by decide +kernel
theorem dX10_act_65 : decode cX10_act 65 = .ok (.iload_n 3, 1) := by decide +kernel
theorem dX10_act_66 : decode cX10_act 66 = .ok (.invokevirtual 338, 3) := by decide +kernel
theorem dX10_act_69 : decode cX10_act 69 = .ok (.ireturn, 1) := by decide +kernel
theorem dX10_act_70 : decode cX10_act 70 = .ok (.aload_n 0, 1) := by decide +kernel
theorem dX10_act_71 : decode cX10_act 71 = .ok (.aload_n 0, 1) := by decide +kernel
theorem dX10_act_72 : decode cX10_act 72 = .ok (.getfield 347, 3) := by decide +kernel
theorem dX10_act_75 : decode cX10_act 75 = .ok (.iload_n 3, 1) := by decide +kernel
theorem dX10_act_76 : decode cX10_act 76 = .ok (.invokevirtual 344, 3) := by decide +kernel
theorem dX10_act_79 : decode cX10_act 79 = .ok (.ireturn, 1) := by decide +kernel
theorem dX10_act_80 : decode cX10_act 80 = .ok (.aload_n 0, 1) := by decide +kernel
theorem dX10_act_81 : decode cX10_act 81 = .ok (.aload_n 0, 1) := by decide +kernel
theorem dX10_act_82 : decode cX10_act 82 = .ok (.getfield 347, 3) := by decide +kernel
theorem dX10_act_85 : decode cX10_act 85 = .ok (.iload_n 3, 1) := by decide +kernel
theorem dX10_act_86 : decode cX10_act 86 = .ok (.invokevirtual 350, 3) := by decide +kernel
theorem dX10_act_89 : decode cX10_act 89 = .ok (.ireturn, 1) := by decide +kernel
theorem dX10_act_90 : decode cX10_act 90 = .ok (.aload_n 0, 1) := by decide +kernel
theorem dX10_act_91 : decode cX10_act 91 = .ok (.aload_n 0, 1) := by decide +kernel
theorem dX10_act_92 : decode cX10_act 92 = .ok (.getfield 347, 3) := by decide +kernel
theorem dX10_act_95 : decode cX10_act 95 = .ok (.iload_n 3, 1) := by decide +kernel
theorem dX10_act_96 : decode cX10_act 96 = .ok (.invokevirtual 353, 3) := by decide +kernel
theorem dX10_act_99 : decode cX10_act 99 = .ok (.ireturn, 1) := by decide +kernel
theorem dX10_act_100 : decode cX10_act 100 = .ok (.iconst 0, 1) := by decide +kernel
theorem dX10_act_101 : decode cX10_act 101 = .ok (.ireturn, 1) := by decide +kernel
theorem dX10_trace_0 : decode cX10_trace 0 = .ok (.iload_n 1, 1) := by decide +kernel
theorem dX10_trace_1 : decode cX10_trace 1 = .ok (.ifCond .lt 26, 3) := by decide +kernel
theorem dX10_trace_4 : decode cX10_trace 4 = .ok (.iload_n 1, 1) := by decide +kernel
theorem dX10_trace_5 : decode cX10_trace 5 = .ok (.aload_n 0, 1) := by decide +kernel
theorem dX10_trace_6 : decode cX10_trace 6 = .ok (.getfield 332, 3) := by decide +kernel
theorem dX10_trace_9 : decode cX10_trace 9 = .ok (.if_icmp .ge 18, 3) := by decide +kernel
theorem dX10_trace_12 : decode cX10_trace 12 = .ok (.iload_n 1, 1) := by decide +kernel
theorem dX10_trace_13 : decode cX10_trace 13 = .ok (.bipush 24, 2) := by decide +kernel
theorem dX10_trace_15 : decode cX10_trace 15 = .ok (.if_icmp .ge 12, 3) := by decide +kernel
theorem dX10_trace_18 : decode cX10_trace 18 = .ok (.aload_n 0, 1) := by decide +kernel
theorem dX10_trace_19 : decode cX10_trace 19 = .ok (.getfield 80, 3) := by decide +kernel
theorem dX10_trace_22 : decode cX10_trace 22 = .ok (.iload_n 1, 1) := by decide +kernel
theorem dX10_trace_23 : decode cX10_trace 23 = .ok (.iaload, 1) := by decide +kernel
theorem dX10_trace_24 : decode cX10_trace 24 = .ok (.goto 4, 3) := by decide +kernel
theorem dX10_trace_27 : decode cX10_trace 27 = .ok (.iconst (-1), 1) := by decide +kernel
theorem dX10_trace_28 : decode cX10_trace 28 = .ok (.ireturn, 1) := by decide +kernel
theorem dX10_isShelf_0 : decode cX10_isShelf 0 = .ok (.iload_n 0, 1) := by decide +kernel
theorem dX10_isShelf_1 : decode cX10_isShelf 1 = .ok (.i2l, 1) := by decide +kernel
theorem dX10_isShelf_2 : decode cX10_isShelf 2 = .ok (.lconst 0, 1) := by decide +kernel
theorem dX10_isShelf_3 : decode cX10_isShelf 3 = .ok (.ldc2_w 359, 3) := by decide +kernel
theorem dX10_isShelf_6 : decode cX10_isShelf 6 = .ok (.invokestatic 105, 3) := by decide +kernel
theorem dX10_isShelf_9 : decode cX10_isShelf 9 = .ok (.ireturn, 1) := by decide +kernel
theorem dX10_keep_0 : decode cX10_keep 0 = .ok (.iload_n 1, 1) := by decide +kernel
theorem dX10_keep_1 : decode cX10_keep 1 = .ok (.invokestatic 126, 3) := by decide +kernel
theorem dX10_keep_4 : decode cX10_keep 4 = .ok (.ifCond .eq 16, 3) := by decide +kernel
theorem dX10_keep_7 : decode cX10_keep 7 = .ok (.iload_n 2, 1) := by decide +kernel
theorem dX10_keep_8 : decode cX10_keep 8 = .ok (.iconst (-1), 1) := by decide +kernel
theorem dX10_keep_9 : decode cX10_keep 9 = .ok (.if_icmp .eq 13, 3) := by decide +kernel
theorem dX10_keep_12 : decode cX10_keep 12 = .ok (.aload_n 0, 1) := by decide +kernel
theorem dX10_keep_13 : decode cX10_keep 13 = .ok (.iload_n 2, 1) := by decide +kernel
theorem dX10_keep_14 : decode cX10_keep 14 = .ok (.invokevirtual 356, 3) := by decide +kernel
theorem dX10_keep_17 : decode cX10_keep 17 = .ok (.ifCond .ne 5, 3) := by decide +kernel
theorem dX10_keep_20 : decode cX10_keep 20 = .ok (.iconst (-1), 1) := by decide +kernel
theorem dX10_keep_21 : decode cX10_keep 21 = .ok (.ireturn, 1) := by decide +kernel
theorem dX10_keep_22 : decode cX10_keep 22 = .ok (.aload_n 0, 1) := by decide +kernel
theorem dX10_keep_23 : decode cX10_keep 23 = .ok (.getfield 83, 3) := by decide +kernel
theorem dX10_keep_26 : decode cX10_keep 26 = .ok (.iload_n 1, 1) := by decide +kernel
theorem dX10_keep_27 : decode cX10_keep 27 = .ok (.iload_n 2, 1) := by decide +kernel
theorem dX10_keep_28 : decode cX10_keep 28 = .ok (.iastore, 1) := by decide +kernel
theorem dX10_keep_29 : decode cX10_keep 29 = .ok (.aload_n 0, 1) := by decide +kernel
theorem dX10_keep_30 : decode cX10_keep 30 = .ok (.getfield 86, 3) := by decide +kernel
theorem dX10_keep_33 : decode cX10_keep 33 = .ok (.iload_n 1, 1) := by decide +kernel
theorem dX10_keep_34 : decode cX10_keep 34 = .ok (.iconst 0, 1) := by decide +kernel
theorem dX10_keep_35 : decode cX10_keep 35 = .ok (.iastore, 1) := by decide +kernel
theorem dX10_keep_36 : decode cX10_keep 36 = .ok (.iconst 1, 1) := by decide +kernel
theorem dX10_keep_37 : decode cX10_keep 37 = .ok (.ireturn, 1) := by decide +kernel
theorem dX10_row_0 : decode cX10_row 0 = .ok (.iload_n 1, 1) := by decide +kernel
theorem dX10_row_1 : decode cX10_row 1 = .ok (.invokestatic 126, 3) := by decide +kernel
theorem dX10_row_4 : decode cX10_row 4 = .ok (.ifCond .eq 21, 3) := by decide +kernel
theorem dX10_row_7 : decode cX10_row 7 = .ok (.iload_n 2, 1) := by decide +kernel
theorem dX10_row_8 : decode cX10_row 8 = .ok (.i2l, 1) := by decide +kernel
theorem dX10_row_9 : decode cX10_row 9 = .ok (.lconst 0, 1) := by decide +kernel
theorem dX10_row_10 : decode cX10_row 10 = .ok (.ldc2_w 156, 3) := by decide +kernel
theorem dX10_row_13 : decode cX10_row 13 = .ok (.invokestatic 105, 3) := by decide +kernel
theorem dX10_row_16 : decode cX10_row 16 = .ok (.ifCond .eq 9, 3) := by decide +kernel
theorem dX10_row_19 : decode cX10_row 19 = .ok (.iload_n 3, 1) := by decide +kernel
theorem dX10_row_20 : decode cX10_row 20 = .ok (.bipush 60, 2) := by decide +kernel
theorem dX10_row_22 : decode cX10_row 22 = .ok (.if_icmp .le 5, 3) := by decide +kernel
theorem dX10_row_25 : decode cX10_row 25 = .ok (.iconst (-1), 1) := by decide +kernel
theorem dX10_row_26 : decode cX10_row 26 = .ok (.ireturn, 1) := by decide +kernel
theorem dX10_row_27 : decode cX10_row 27 = .ok (.iload_n 3, 1) := by decide +kernel
theorem dX10_row_28 : decode cX10_row 28 = .ok (.ifCond .ge 6, 3) := by decide +kernel
theorem dX10_row_31 : decode cX10_row 31 = .ok (.bipush (-14), 2) := by decide +kernel
theorem dX10_row_33 : decode cX10_row 33 = .ok (.ireturn, 1) := by decide +kernel
theorem dX10_row_34 : decode cX10_row 34 = .ok (.aload_n 0, 1) := by decide +kernel
theorem dX10_row_35 : decode cX10_row 35 = .ok (.getfield 83, 3) := by decide +kernel
theorem dX10_row_38 : decode cX10_row 38 = .ok (.iload_n 1, 1) := by decide +kernel
theorem dX10_row_39 : decode cX10_row 39 = .ok (.bipush 50, 2) := by decide +kernel
theorem dX10_row_41 : decode cX10_row 41 = .ok (.iload_n 2, 1) := by decide +kernel
theorem dX10_row_42 : decode cX10_row 42 = .ok (.iadd, 1) := by decide +kernel
theorem dX10_row_43 : decode cX10_row 43 = .ok (.iastore, 1) := by decide +kernel
theorem dX10_row_44 : decode cX10_row 44 = .ok (.aload_n 0, 1) := by decide +kernel
theorem dX10_row_45 : decode cX10_row 45 = .ok (.getfield 86, 3) := by decide +kernel
theorem dX10_row_48 : decode cX10_row 48 = .ok (.iload_n 1, 1) := by decide +kernel
theorem dX10_row_49 : decode cX10_row 49 = .ok (.iload_n 3, 1) := by decide +kernel
theorem dX10_row_50 : decode cX10_row 50 = .ok (.iastore, 1) := by decide +kernel
theorem dX10_row_51 : decode cX10_row 51 = .ok (.bipush 60, 2) := by decide +kernel
theorem dX10_row_53 : decode cX10_row 53 = .ok (.iload_n 1, 1) := by decide +kernel
theorem dX10_row_54 : decode cX10_row 54 = .ok (.imul, 1) := by decide +kernel
theorem dX10_row_55 : decode cX10_row 55 = .ok (.istore 4, 2) := by decide +kernel
theorem dX10_row_57 : decode cX10_row 57 = .ok (.iload 4, 2) := by decide +kernel
theorem dX10_row_59 : decode cX10_row 59 = .ok (.bipush 60, 2) := by decide +kernel
theorem dX10_row_61 : decode cX10_row 61 = .ok (.iload_n 1, 1) := by decide +kernel
theorem dX10_row_62 : decode cX10_row 62 = .ok (.imul, 1) := by decide +kernel
theorem dX10_row_63 : decode cX10_row 63 = .ok (.bipush 60, 2) := by decide +kernel
theorem dX10_row_65 : decode cX10_row 65 = .ok (.iadd, 1) := by decide +kernel
theorem dX10_row_66 : decode cX10_row 66 = .ok (.if_icmp .ge 17, 3) := by decide +kernel
theorem dX10_row_69 : decode cX10_row 69 = .ok (.aload_n 0, 1) := by decide +kernel
theorem dX10_row_70 : decode cX10_row 70 = .ok (.getfield 89, 3) := by decide +kernel
theorem dX10_row_73 : decode cX10_row 73 = .ok (.iload 4, 2) := by decide +kernel
theorem dX10_row_75 : decode cX10_row 75 = .ok (.lconst 0, 1) := by decide +kernel
theorem dX10_row_76 : decode cX10_row 76 = .ok (.lastore, 1) := by decide +kernel
theorem dX10_row_77 : decode cX10_row 77 = .ok (.iinc 4 1, 3) := by decide +kernel
theorem dX10_row_80 : decode cX10_row 80 = .ok (.goto (-23), 3) := by decide +kernel
theorem dX10_row_83 : decode cX10_row 83 = .ok (.iconst 1, 1) := by decide +kernel
theorem dX10_row_84 : decode cX10_row 84 = .ok (.ireturn, 1) := by decide +kernel
theorem dX10_refusal_0 : decode cX10_refusal 0 = .ok (.iload_n 1, 1) := by decide +kernel
theorem dX10_refusal_1 : decode cX10_refusal 1 = .ok (.invokestatic 126, 3) := by decide +kernel
theorem dX10_refusal_4 : decode cX10_refusal 4 = .ok (.ifCond .ne 5, 3) := by decide +kernel
theorem dX10_refusal_7 : decode cX10_refusal 7 = .ok (.iconst (-1), 1) := by decide +kernel
theorem dX10_refusal_8 : decode cX10_refusal 8 = .ok (.ireturn, 1) := by decide +kernel
theorem dX10_refusal_9 : decode cX10_refusal 9 = .ok (.aload_n 0, 1) := by decide +kernel
theorem dX10_refusal_10 : decode cX10_refusal 10 = .ok (.getfield 83, 3) := by decide +kernel
theorem dX10_refusal_13 : decode cX10_refusal 13 = .ok (.iload_n 1, 1) := by decide +kernel
theorem dX10_refusal_14 : decode cX10_refusal 14 = .ok (.iaload, 1) := by decide +kernel
theorem dX10_refusal_15 : decode cX10_refusal 15 = .ok (.ifCond .ge 6, 3) := by decide +kernel
theorem dX10_refusal_18 : decode cX10_refusal 18 = .ok (.bipush (-11), 2) := by decide +kernel
theorem dX10_refusal_20 : decode cX10_refusal 20 = .ok (.ireturn, 1) := by decide +kernel
theorem dX10_refusal_21 : decode cX10_refusal 21 = .ok (.aload_n 0, 1) := by decide +kernel
theorem dX10_refusal_22 : decode cX10_refusal 22 = .ok (.getfield 83, 3) := by decide +kernel
theorem dX10_refusal_25 : decode cX10_refusal 25 = .ok (.iload_n 1, 1) := by decide +kernel
theorem dX10_refusal_26 : decode cX10_refusal 26 = .ok (.iaload, 1) := by decide +kernel
theorem dX10_refusal_27 : decode cX10_refusal 27 = .ok (.bipush 50, 2) := by decide +kernel
theorem dX10_refusal_29 : decode cX10_refusal 29 = .ok (.if_icmp .ge 6, 3) := by decide +kernel
theorem dX10_refusal_32 : decode cX10_refusal 32 = .ok (.bipush (-12), 2) := by decide +kernel
theorem dX10_refusal_34 : decode cX10_refusal 34 = .ok (.ireturn, 1) := by decide +kernel
theorem dX10_refusal_35 : decode cX10_refusal 35 = .ok (.iload_n 2, 1) := by decide +kernel
theorem dX10_refusal_36 : decode cX10_refusal 36 = .ok (.ifCond .lt 17, 3) := by decide +kernel
theorem dX10_refusal_39 : decode cX10_refusal 39 = .ok (.iload_n 2, 1) := by decide +kernel
theorem dX10_refusal_40 : decode cX10_refusal 40 = .ok (.aload_n 0, 1) := by decide +kernel
theorem dX10_refusal_41 : decode cX10_refusal 41 = .ok (.getfield 86, 3) := by decide +kernel
theorem dX10_refusal_44 : decode cX10_refusal 44 = .ok (.iload_n 1, 1) := by decide +kernel
theorem dX10_refusal_45 : decode cX10_refusal 45 = .ok (.iaload, 1) := by decide +kernel
theorem dX10_refusal_46 : decode cX10_refusal 46 = .ok (.if_icmp .ge 7, 3) := by decide +kernel
theorem dX10_refusal_49 : decode cX10_refusal 49 = .ok (.iconst 0, 1) := by decide +kernel
theorem dX10_refusal_50 : decode cX10_refusal 50 = .ok (.goto 5, 3) := by decide +kernel
theorem dX10_refusal_53 : decode cX10_refusal 53 = .ok (.bipush (-13), 2) := by decide +kernel
theorem dX10_refusal_55 : decode cX10_refusal 55 = .ok (.ireturn, 1) := by decide +kernel
theorem dX10_asSort_0 : decode cX10_asSort 0 = .ok (.iload_n 0, 1) := by decide +kernel
theorem dX10_asSort_1 : decode cX10_asSort 1 = .ok (.ifCond .ne 10, 3) := by decide +kernel
theorem dX10_asSort_4 : decode cX10_asSort 4 = .ok (.lload_n 1, 1) := by decide +kernel
theorem dX10_asSort_5 : decode cX10_asSort 5 = .ok (.l2i, 1) := by decide +kernel
theorem dX10_asSort_6 : decode cX10_asSort 6 = .ok (.i2b, 1) := by decide +kernel
theorem dX10_asSort_7 : decode cX10_asSort 7 = .ok (.i2l, 1) := by decide +kernel
theorem dX10_asSort_8 : decode cX10_asSort 8 = .ok (.goto 46, 3) := by decide +kernel
theorem dX10_asSort_11 : decode cX10_asSort 11 = .ok (.iload_n 0, 1) := by decide +kernel
theorem dX10_asSort_12 : decode cX10_asSort 12 = .ok (.iconst 1, 1) := by decide +kernel
theorem dX10_asSort_13 : decode cX10_asSort 13 = .ok (.if_icmp .ne 10, 3) := by decide +kernel
theorem dX10_asSort_16 : decode cX10_asSort 16 = .ok (.lload_n 1, 1) := by decide +kernel
theorem dX10_asSort_17 : decode cX10_asSort 17 = .ok (.l2i, 1) := by decide +kernel
theorem dX10_asSort_18 : decode cX10_asSort 18 = .ok (.i2s, 1) := by decide +kernel
theorem dX10_asSort_19 : decode cX10_asSort 19 = .ok (.i2l, 1) := by decide +kernel
theorem dX10_asSort_20 : decode cX10_asSort 20 = .ok (.goto 34, 3) := by decide +kernel
theorem dX10_asSort_23 : decode cX10_asSort 23 = .ok (.iload_n 0, 1) := by decide +kernel
theorem dX10_asSort_24 : decode cX10_asSort 24 = .ok (.iconst 2, 1) := by decide +kernel
theorem dX10_asSort_25 : decode cX10_asSort 25 = .ok (.if_icmp .ne 9, 3) := by decide +kernel
theorem dX10_asSort_28 : decode cX10_asSort 28 = .ok (.lload_n 1, 1) := by decide +kernel
theorem dX10_asSort_29 : decode cX10_asSort 29 = .ok (.l2i, 1) := by decide +kernel
theorem dX10_asSort_30 : decode cX10_asSort 30 = .ok (.i2l, 1) := by decide +kernel
theorem dX10_asSort_31 : decode cX10_asSort 31 = .ok (.goto 23, 3) := by decide +kernel
theorem dX10_asSort_34 : decode cX10_asSort 34 = .ok (.iload_n 0, 1) := by decide +kernel
theorem dX10_asSort_35 : decode cX10_asSort 35 = .ok (.iconst 4, 1) := by decide +kernel
theorem dX10_asSort_36 : decode cX10_asSort 36 = .ok (.if_icmp .ne 17, 3) := by decide +kernel
theorem dX10_asSort_39 : decode cX10_asSort 39 = .ok (.lload_n 1, 1) := by decide +kernel
theorem dX10_asSort_40 : decode cX10_asSort 40 = .ok (.lconst 0, 1) := by decide +kernel
theorem dX10_asSort_41 : decode cX10_asSort 41 = .ok (.lcmp, 1) := by decide +kernel
theorem dX10_asSort_42 : decode cX10_asSort 42 = .ok (.ifCond .eq 7, 3) := by decide +kernel
theorem dX10_asSort_45 : decode cX10_asSort 45 = .ok (.lconst 1, 1) := by decide +kernel
theorem dX10_asSort_46 : decode cX10_asSort 46 = .ok (.goto 8, 3) := by decide +kernel
theorem dX10_asSort_49 : decode cX10_asSort 49 = .ok (.lconst 0, 1) := by decide +kernel
theorem dX10_asSort_50 : decode cX10_asSort 50 = .ok (.goto 4, 3) := by decide +kernel
theorem dX10_asSort_53 : decode cX10_asSort 53 = .ok (.lload_n 1, 1) := by decide +kernel
theorem dX10_asSort_54 : decode cX10_asSort 54 = .ok (.lreturn, 1) := by decide +kernel
theorem dX10_put_0 : decode cX10_put 0 = .ok (.aload_n 0, 1) := by decide +kernel
theorem dX10_put_1 : decode cX10_put 1 = .ok (.iload_n 1, 1) := by decide +kernel
theorem dX10_put_2 : decode cX10_put 2 = .ok (.iload_n 2, 1) := by decide +kernel
theorem dX10_put_3 : decode cX10_put 3 = .ok (.invokevirtual 361, 3) := by decide +kernel
theorem dX10_put_6 : decode cX10_put 6 = .ok (.istore 5, 2) := by decide +kernel
theorem dX10_put_8 : decode cX10_put 8 = .ok (.iload 5, 2) := by decide +kernel
theorem dX10_put_10 : decode cX10_put 10 = .ok (.ifCond .ne 27, 3) := by decide +kernel
theorem dX10_put_13 : decode cX10_put 13 = .ok (.aload_n 0, 1) := by decide +kernel
theorem dX10_put_14 : decode cX10_put 14 = .ok (.getfield 89, 3) := by decide +kernel
theorem dX10_put_17 : decode cX10_put 17 = .ok (.bipush 60, 2) := by decide +kernel
theorem dX10_put_19 : decode cX10_put 19 = .ok (.iload_n 1, 1) := by decide +kernel
theorem dX10_put_20 : decode cX10_put 20 = .ok (.imul, 1) := by decide +kernel
theorem dX10_put_21 : decode cX10_put 21 = .ok (.iload_n 2, 1) := by decide +kernel
theorem dX10_put_22 : decode cX10_put 22 = .ok (.iadd, 1) := by decide +kernel
theorem dX10_put_23 : decode cX10_put 23 = .ok (.aload_n 0, 1) := by decide +kernel
theorem dX10_put_24 : decode cX10_put 24 = .ok (.getfield 83, 3) := by decide +kernel
theorem dX10_put_27 : decode cX10_put 27 = .ok (.iload_n 1, 1) := by decide +kernel
theorem dX10_put_28 : decode cX10_put 28 = .ok (.iaload, 1) := by decide +kernel
theorem dX10_put_29 : decode cX10_put 29 = .ok (.bipush 50, 2) := by decide +kernel
theorem dX10_put_31 : decode cX10_put 31 = .ok (.isub, 1) := by decide +kernel
theorem dX10_put_32 : decode cX10_put 32 = .ok (.lload_n 3, 1) := by decide +kernel
theorem dX10_put_33 : decode cX10_put 33 = .ok (.invokestatic 364, 3) := by decide +kernel
theorem dX10_put_36 : decode cX10_put 36 = .ok (.lastore, 1) := by decide +kernel
theorem dX10_put_37 : decode cX10_put 37 = .ok (.iload 5, 2) := by decide +kernel
theorem dX10_put_39 : decode cX10_put 39 = .ok (.ifCond .ne 7, 3) := by decide +kernel
theorem dX10_put_42 : decode cX10_put 42 = .ok (.iconst 1, 1) := by decide +kernel
theorem dX10_put_43 : decode cX10_put 43 = .ok (.goto 5, 3) := by decide +kernel
theorem dX10_put_46 : decode cX10_put 46 = .ok (.iload 5, 2) := by decide +kernel
theorem dX10_put_48 : decode cX10_put 48 = .ok (.ireturn, 1) := by decide +kernel
theorem dX10_element_0 : decode cX10_element 0 = .ok (.aload_n 0, 1) := by decide +kernel
theorem dX10_element_1 : decode cX10_element 1 = .ok (.iload_n 1, 1) := by decide +kernel
theorem dX10_element_2 : decode cX10_element 2 = .ok (.iload_n 2, 1) := by decide +kernel
theorem dX10_element_3 : decode cX10_element 3 = .ok (.invokevirtual 361, 3) := by decide +kernel
theorem dX10_element_6 : decode cX10_element 6 = .ok (.ifCond .eq 9, 3) := by decide +kernel
theorem dX10_element_9 : decode cX10_element 9 = .ok (.ldc2_w 370, 3) := by decide +kernel
theorem dX10_element_12 : decode cX10_element 12 = .ok (.goto 14, 3) := by decide +kernel
theorem dX10_element_15 : decode cX10_element 15 = .ok (.aload_n 0, 1) := by decide +kernel
theorem dX10_element_16 : decode cX10_element 16 = .ok (.getfield 89, 3) := by decide +kernel
theorem dX10_element_19 : decode cX10_element 19 = .ok (.bipush 60, 2) := by decide +kernel
theorem dX10_element_21 : decode cX10_element 21 = .ok (.iload_n 1, 1) := by decide +kernel
theorem dX10_element_22 : decode cX10_element 22 = .ok (.imul, 1) := by decide +kernel
theorem dX10_element_23 : decode cX10_element 23 = .ok (.iload_n 2, 1) := by decide +kernel
theorem dX10_element_24 : decode cX10_element 24 = .ok (.iadd, 1) := by decide +kernel
theorem dX10_element_25 : decode cX10_element 25 = .ok (.laload, 1) := by decide +kernel
theorem dX10_element_26 : decode cX10_element 26 = .ok (.lreturn, 1) := by decide +kernel
theorem dX10_shift_0 : decode cX10_shift 0 = .ok (.iload_n 1, 1) := by decide +kernel
theorem dX10_shift_1 : decode cX10_shift 1 = .ok (.invokestatic 126, 3) := by decide +kernel
theorem dX10_shift_4 : decode cX10_shift 4 = .ok (.ifCond .eq 10, 3) := by decide +kernel
theorem dX10_shift_7 : decode cX10_shift 7 = .ok (.iload_n 3, 1) := by decide +kernel
theorem dX10_shift_8 : decode cX10_shift 8 = .ok (.invokestatic 126, 3) := by decide +kernel
theorem dX10_shift_11 : decode cX10_shift 11 = .ok (.ifCond .ne 5, 3) := by decide +kernel
theorem dX10_shift_14 : decode cX10_shift 14 = .ok (.iconst (-1), 1) := by decide +kernel
theorem dX10_shift_15 : decode cX10_shift 15 = .ok (.ireturn, 1) := by decide +kernel
theorem dX10_shift_16 : decode cX10_shift 16 = .ok (.aload_n 0, 1) := by decide +kernel
theorem dX10_shift_17 : decode cX10_shift 17 = .ok (.getfield 83, 3) := by decide +kernel
theorem dX10_shift_20 : decode cX10_shift 20 = .ok (.iload_n 1, 1) := by decide +kernel
theorem dX10_shift_21 : decode cX10_shift 21 = .ok (.iaload, 1) := by decide +kernel
theorem dX10_shift_22 : decode cX10_shift 22 = .ok (.ifCond .lt 12, 3) := by decide +kernel
theorem dX10_shift_25 : decode cX10_shift 25 = .ok (.aload_n 0, 1) := by decide +kernel
theorem dX10_shift_26 : decode cX10_shift 26 = .ok (.getfield 83, 3) := by decide +kernel
theorem dX10_shift_29 : decode cX10_shift 29 = .ok (.iload_n 3, 1) := by decide +kernel
theorem dX10_shift_30 : decode cX10_shift 30 = .ok (.iaload, 1) := by decide +kernel
theorem dX10_shift_31 : decode cX10_shift 31 = .ok (.ifCond .ge 6, 3) := by decide +kernel
theorem dX10_shift_34 : decode cX10_shift 34 = .ok (.bipush (-11), 2) := by decide +kernel
theorem dX10_shift_36 : decode cX10_shift 36 = .ok (.ireturn, 1) := by decide +kernel
theorem dX10_shift_37 : decode cX10_shift 37 = .ok (.aload_n 0, 1) := by decide +kernel
theorem dX10_shift_38 : decode cX10_shift 38 = .ok (.getfield 83, 3) := by decide +kernel
theorem dX10_shift_41 : decode cX10_shift 41 = .ok (.iload_n 1, 1) := by decide +kernel
theorem dX10_shift_42 : decode cX10_shift 42 = .ok (.iaload, 1) := by decide +kernel
theorem dX10_shift_43 : decode cX10_shift 43 = .ok (.bipush 50, 2) := by decide +kernel
theorem dX10_shift_45 : decode cX10_shift 45 = .ok (.if_icmp .lt 18, 3) := by decide +kernel
theorem dX10_shift_48 : decode cX10_shift 48 = .ok (.aload_n 0, 1) := by decide +kernel
theorem dX10_shift_49 : decode cX10_shift 49 = .ok (.getfield 83, 3) := by decide +kernel
theorem dX10_shift_52 : decode cX10_shift 52 = .ok (.iload_n 1, 1) := by decide +kernel
theorem dX10_shift_53 : decode cX10_shift 53 = .ok (.iaload, 1) := by decide +kernel
theorem dX10_shift_54 : decode cX10_shift 54 = .ok (.aload_n 0, 1) := by decide +kernel
theorem dX10_shift_55 : decode cX10_shift 55 = .ok (.getfield 83, 3) := by decide +kernel
theorem dX10_shift_58 : decode cX10_shift 58 = .ok (.iload_n 3, 1) := by decide +kernel
theorem dX10_shift_59 : decode cX10_shift 59 = .ok (.iaload, 1) := by decide +kernel
theorem dX10_shift_60 : decode cX10_shift 60 = .ok (.if_icmp .eq 6, 3) := by decide +kernel
theorem dX10_shift_63 : decode cX10_shift 63 = .ok (.bipush (-12), 2) := by decide +kernel
theorem dX10_shift_65 : decode cX10_shift 65 = .ok (.ireturn, 1) := by decide +kernel
theorem dX10_shift_66 : decode cX10_shift 66 = .ok (.iload 5, 2) := by decide +kernel
theorem dX10_shift_68 : decode cX10_shift 68 = .ok (.ifCond .lt 39, 3) := by decide +kernel
theorem dX10_shift_71 : decode cX10_shift 71 = .ok (.iload_n 2, 1) := by decide +kernel
theorem dX10_shift_72 : decode cX10_shift 72 = .ok (.ifCond .lt 35, 3) := by decide +kernel
theorem dX10_shift_75 : decode cX10_shift 75 = .ok (.iload 4, 2) := by decide +kernel
theorem dX10_shift_77 : decode cX10_shift 77 = .ok (.ifCond .lt 30, 3) := by decide +kernel
theorem dX10_shift_80 : decode cX10_shift 80 = .ok (.iload_n 2, 1) := by decide +kernel
theorem dX10_shift_81 : decode cX10_shift 81 = .ok (.aload_n 0, 1) := by decide +kernel
theorem dX10_shift_82 : decode cX10_shift 82 = .ok (.getfield 86, 3) := by decide +kernel
theorem dX10_shift_85 : decode cX10_shift 85 = .ok (.iload_n 1, 1) := by decide +kernel
theorem dX10_shift_86 : decode cX10_shift 86 = .ok (.iaload, 1) := by decide +kernel
theorem dX10_shift_87 : decode cX10_shift 87 = .ok (.iload 5, 2) := by decide +kernel
theorem dX10_shift_89 : decode cX10_shift 89 = .ok (.isub, 1) := by decide +kernel
theorem dX10_shift_90 : decode cX10_shift 90 = .ok (.if_icmp .gt 17, 3) := by decide +kernel
theorem dX10_shift_93 : decode cX10_shift 93 = .ok (.iload 4, 2) := by decide +kernel
theorem dX10_shift_95 : decode cX10_shift 95 = .ok (.aload_n 0, 1) := by decide +kernel
theorem dX10_shift_96 : decode cX10_shift 96 = .ok (.getfield 86, 3) := by decide +kernel
theorem dX10_shift_99 : decode cX10_shift 99 = .ok (.iload_n 3, 1) := by decide +kernel
theorem dX10_shift_100 : decode cX10_shift 100 = .ok (.iaload, 1) := by decide +kernel
theorem dX10_shift_101 : decode cX10_shift 101 = .ok (.iload 5, 2) := by decide +kernel
theorem dX10_shift_103 : decode cX10_shift 103 = .ok (.isub, 1) := by decide +kernel
theorem dX10_shift_104 : decode cX10_shift 104 = .ok (.if_icmp .le 6, 3) := by decide +kernel
theorem dX10_shift_107 : decode cX10_shift 107 = .ok (.bipush (-13), 2) := by decide +kernel
theorem dX10_shift_109 : decode cX10_shift 109 = .ok (.ireturn, 1) := by decide +kernel
theorem dX10_shift_110 : decode cX10_shift 110 = .ok (.iconst 0, 1) := by decide +kernel
theorem dX10_shift_111 : decode cX10_shift 111 = .ok (.istore 6, 2) := by decide +kernel
theorem dX10_shift_113 : decode cX10_shift 113 = .ok (.iload 6, 2) := by decide +kernel
theorem dX10_shift_115 : decode cX10_shift 115 = .ok (.iload 5, 2) := by decide +kernel
theorem dX10_shift_117 : decode cX10_shift 117 = .ok (.if_icmp .ge 30, 3) := by decide +kernel
theorem dX10_shift_120 : decode cX10_shift 120 = .ok (.aload_n 0, 1) := by decide +kernel
theorem dX10_shift_121 : decode cX10_shift 121 = .ok (.getfield 93, 3) := by decide +kernel
theorem dX10_shift_124 : decode cX10_shift 124 = .ok (.iload 6, 2) := by decide +kernel
theorem dX10_shift_126 : decode cX10_shift 126 = .ok (.aload_n 0, 1) := by decide +kernel
theorem dX10_shift_127 : decode cX10_shift 127 = .ok (.getfield 89, 3) := by decide +kernel
theorem dX10_shift_130 : decode cX10_shift 130 = .ok (.bipush 60, 2) := by decide +kernel
theorem dX10_shift_132 : decode cX10_shift 132 = .ok (.iload_n 1, 1) := by decide +kernel
theorem dX10_shift_133 : decode cX10_shift 133 = .ok (.imul, 1) := by decide +kernel
theorem dX10_shift_134 : decode cX10_shift 134 = .ok (.iload_n 2, 1) := by decide +kernel
theorem dX10_shift_135 : decode cX10_shift 135 = .ok (.iadd, 1) := by decide +kernel
theorem dX10_shift_136 : decode cX10_shift 136 = .ok (.iload 6, 2) := by decide +kernel
theorem dX10_shift_138 : decode cX10_shift 138 = .ok (.iadd, 1) := by decide +kernel
theorem dX10_shift_139 : decode cX10_shift 139 = .ok (.laload, 1) := by decide +kernel
theorem dX10_shift_140 : decode cX10_shift 140 = .ok (.lastore, 1) := by decide +kernel
theorem dX10_shift_141 : decode cX10_shift 141 = .ok (.iinc 6 1, 3) := by decide +kernel
theorem dX10_shift_144 : decode cX10_shift 144 = .ok (.goto (-31), 3) := by decide +kernel
theorem dX10_shift_147 : decode cX10_shift 147 = .ok (.iconst 0, 1) := by decide +kernel
theorem dX10_shift_148 : decode cX10_shift 148 = .ok (.istore 6, 2) := by decide +kernel
theorem dX10_shift_150 : decode cX10_shift 150 = .ok (.iload 6, 2) := by decide +kernel
theorem dX10_shift_152 : decode cX10_shift 152 = .ok (.iload 5, 2) := by decide +kernel
theorem dX10_shift_154 : decode cX10_shift 154 = .ok (.if_icmp .ge 31, 3) := by decide +kernel
theorem dX10_shift_157 : decode cX10_shift 157 = .ok (.aload_n 0, 1) := by decide +kernel
theorem dX10_shift_158 : decode cX10_shift 158 = .ok (.getfield 89, 3) := by decide +kernel
theorem dX10_shift_161 : decode cX10_shift 161 = .ok (.bipush 60, 2) := by decide +kernel
theorem dX10_shift_163 : decode cX10_shift 163 = .ok (.iload_n 3, 1) := by decide +kernel
theorem dX10_shift_164 : decode cX10_shift 164 = .ok (.imul, 1) := by decide +kernel
theorem dX10_shift_165 : decode cX10_shift 165 = .ok (.iload 4, 2) := by decide +kernel
theorem dX10_shift_167 : decode cX10_shift 167 = .ok (.iadd, 1) := by decide +kernel
theorem dX10_shift_168 : decode cX10_shift 168 = .ok (.iload 6, 2) := by decide +kernel
theorem dX10_shift_170 : decode cX10_shift 170 = .ok (.iadd, 1) := by decide +kernel
theorem dX10_shift_171 : decode cX10_shift 171 = .ok (.aload_n 0, 1) := by decide +kernel
theorem dX10_shift_172 : decode cX10_shift 172 = .ok (.getfield 93, 3) := by decide +kernel
theorem dX10_shift_175 : decode cX10_shift 175 = .ok (.iload 6, 2) := by decide +kernel
theorem dX10_shift_177 : decode cX10_shift 177 = .ok (.laload, 1) := by decide +kernel
theorem dX10_shift_178 : decode cX10_shift 178 = .ok (.lastore, 1) := by decide +kernel
theorem dX10_shift_179 : decode cX10_shift 179 = .ok (.iinc 6 1, 3) := by decide +kernel
theorem dX10_shift_182 : decode cX10_shift 182 = .ok (.goto (-32), 3) := by decide +kernel
theorem dX10_shift_185 : decode cX10_shift 185 = .ok (.iload 5, 2) := by decide +kernel
theorem dX10_shift_187 : decode cX10_shift 187 = .ok (.ireturn, 1) := by decide +kernel
theorem dX10_taken_0 : decode cX10_taken 0 = .ok (.iload_n 1, 1) := by decide +kernel
theorem dX10_taken_1 : decode cX10_taken 1 = .ok (.invokestatic 126, 3) := by decide +kernel
theorem dX10_taken_4 : decode cX10_taken 4 = .ok (.ifCond .eq 15, 3) := by decide +kernel
theorem dX10_taken_7 : decode cX10_taken 7 = .ok (.iload_n 2, 1) := by decide +kernel
theorem dX10_taken_8 : decode cX10_taken 8 = .ok (.i2l, 1) := by decide +kernel
theorem dX10_taken_9 : decode cX10_taken 9 = .ok (.lconst 0, 1) := by decide +kernel
theorem dX10_taken_10 : decode cX10_taken 10 = .ok (.ldc2_w 330, 3) := by decide +kernel
theorem dX10_taken_13 : decode cX10_taken 13 = .ok (.invokestatic 105, 3) := by decide +kernel
theorem dX10_taken_16 : decode cX10_taken 16 = .ok (.ifCond .ne 5, 3) := by decide +kernel
theorem dX10_taken_19 : decode cX10_taken 19 = .ok (.iconst (-1), 1) := by decide +kernel
theorem dX10_taken_20 : decode cX10_taken 20 = .ok (.ireturn, 1) := by decide +kernel
theorem dX10_taken_21 : decode cX10_taken 21 = .ok (.aload_n 0, 1) := by decide +kernel
theorem dX10_taken_22 : decode cX10_taken 22 = .ok (.getfield 83, 3) := by decide +kernel
theorem dX10_taken_25 : decode cX10_taken 25 = .ok (.iload_n 1, 1) := by decide +kernel
theorem dX10_taken_26 : decode cX10_taken 26 = .ok (.iaload, 1) := by decide +kernel
theorem dX10_taken_27 : decode cX10_taken 27 = .ok (.ifCond .ge 6, 3) := by decide +kernel
theorem dX10_taken_30 : decode cX10_taken 30 = .ok (.bipush (-11), 2) := by decide +kernel
theorem dX10_taken_32 : decode cX10_taken 32 = .ok (.ireturn, 1) := by decide +kernel
theorem dX10_taken_33 : decode cX10_taken 33 = .ok (.aload_n 0, 1) := by decide +kernel
theorem dX10_taken_34 : decode cX10_taken 34 = .ok (.getfield 83, 3) := by decide +kernel
theorem dX10_taken_37 : decode cX10_taken 37 = .ok (.iload_n 1, 1) := by decide +kernel
theorem dX10_taken_38 : decode cX10_taken 38 = .ok (.iaload, 1) := by decide +kernel
theorem dX10_taken_39 : decode cX10_taken 39 = .ok (.bipush 50, 2) := by decide +kernel
theorem dX10_taken_41 : decode cX10_taken 41 = .ok (.if_icmp .lt 6, 3) := by decide +kernel
theorem dX10_taken_44 : decode cX10_taken 44 = .ok (.bipush (-12), 2) := by decide +kernel
theorem dX10_taken_46 : decode cX10_taken 46 = .ok (.ireturn, 1) := by decide +kernel
theorem dX10_taken_47 : decode cX10_taken 47 = .ok (.aload_n 0, 1) := by decide +kernel
theorem dX10_taken_48 : decode cX10_taken 48 = .ok (.aload_n 0, 1) := by decide +kernel
theorem dX10_taken_49 : decode cX10_taken 49 = .ok (.getfield 83, 3) := by decide +kernel
theorem dX10_taken_52 : decode cX10_taken 52 = .ok (.iload_n 1, 1) := by decide +kernel
theorem dX10_taken_53 : decode cX10_taken 53 = .ok (.iaload, 1) := by decide +kernel
theorem dX10_taken_54 : decode cX10_taken 54 = .ok (.invokevirtual 372, 3) := by decide +kernel
theorem dX10_taken_57 : decode cX10_taken 57 = .ok (.istore_n 3, 1) := by decide +kernel
theorem dX10_taken_58 : decode cX10_taken 58 = .ok (.iload_n 3, 1) := by decide +kernel
theorem dX10_taken_59 : decode cX10_taken 59 = .ok (.iload_n 2, 1) := by decide +kernel
theorem dX10_taken_60 : decode cX10_taken 60 = .ok (.if_icmp .eq 15, 3) := by decide +kernel
theorem dX10_taken_63 : decode cX10_taken 63 = .ok (.iload_n 3, 1) := by decide +kernel
theorem dX10_taken_64 : decode cX10_taken 64 = .ok (.ifCond .le 11, 3) := by decide +kernel
theorem dX10_taken_67 : decode cX10_taken 67 = .ok (.iload_n 3, 1) := by decide +kernel
theorem dX10_taken_68 : decode cX10_taken 68 = .ok (.invokestatic 375, 3) := by decide +kernel
theorem dX10_taken_71 : decode cX10_taken 71 = .ok (.istore_n 3, 1) := by decide +kernel
theorem dX10_taken_72 : decode cX10_taken 72 = .ok (.goto (-14), 3) := by decide +kernel
theorem dX10_taken_75 : decode cX10_taken 75 = .ok (.iload_n 3, 1) := by decide +kernel
theorem dX10_taken_76 : decode cX10_taken 76 = .ok (.iload_n 2, 1) := by decide +kernel
theorem dX10_taken_77 : decode cX10_taken 77 = .ok (.if_icmp .ne 16, 3) := by decide +kernel
theorem dX10_taken_80 : decode cX10_taken 80 = .ok (.aload_n 0, 1) := by decide +kernel
theorem dX10_taken_81 : decode cX10_taken 81 = .ok (.aload_n 0, 1) := by decide +kernel
theorem dX10_taken_82 : decode cX10_taken 82 = .ok (.getfield 83, 3) := by decide +kernel
theorem dX10_taken_85 : decode cX10_taken 85 = .ok (.iload_n 1, 1) := by decide +kernel
theorem dX10_taken_86 : decode cX10_taken 86 = .ok (.iaload, 1) := by decide +kernel
theorem dX10_taken_87 : decode cX10_taken 87 = .ok (.invokevirtual 372, 3) := by decide +kernel
theorem dX10_taken_90 : decode cX10_taken 90 = .ok (.goto 5, 3) := by decide +kernel
theorem dX10_taken_93 : decode cX10_taken 93 = .ok (.bipush (-12), 2) := by decide +kernel
theorem dX10_taken_95 : decode cX10_taken 95 = .ok (.ireturn, 1) := by decide +kernel
theorem dX10_count_0 : decode cX10_count 0 = .ok (.iload_n 1, 1) := by decide +kernel
theorem dX10_count_1 : decode cX10_count 1 = .ok (.tableswitch 78 0 6 #[43, 48, 53, 58, 63, 68, 73], 43) := by decide +kernel
theorem dX10_count_44 : decode cX10_count 44 = .ok (.aload_n 0, 1) := by decide +kernel
theorem dX10_count_45 : decode cX10_count 45 = .ok (.getfield 102, 3) := by decide +kernel
theorem dX10_count_48 : decode cX10_count 48 = .ok (.ireturn, 1) := by decide +kernel
theorem dX10_count_49 : decode cX10_count 49 = .ok (.aload_n 0, 1) := by decide +kernel
theorem dX10_count_50 : decode cX10_count 50 = .ok (.getfield 109, 3) := by decide +kernel
theorem dX10_count_53 : decode cX10_count 53 = .ok (.ireturn, 1) := by decide +kernel
theorem dX10_count_54 : decode cX10_count 54 = .ok (.aload_n 0, 1) := by decide +kernel
theorem dX10_count_55 : decode cX10_count 55 = .ok (.getfield 141, 3) := by decide +kernel
theorem dX10_count_58 : decode cX10_count 58 = .ok (.ireturn, 1) := by decide +kernel
theorem dX10_count_59 : decode cX10_count 59 = .ok (.aload_n 0, 1) := by decide +kernel
theorem dX10_count_60 : decode cX10_count 60 = .ok (.getfield 158, 3) := by decide +kernel
theorem dX10_count_63 : decode cX10_count 63 = .ok (.ireturn, 1) := by decide +kernel
theorem dX10_count_64 : decode cX10_count 64 = .ok (.aload_n 0, 1) := by decide +kernel
theorem dX10_count_65 : decode cX10_count 65 = .ok (.getfield 96, 3) := by decide +kernel
theorem dX10_count_68 : decode cX10_count 68 = .ok (.ireturn, 1) := by decide +kernel
theorem dX10_count_69 : decode cX10_count 69 = .ok (.aload_n 0, 1) := by decide +kernel
theorem dX10_count_70 : decode cX10_count 70 = .ok (.getfield 327, 3) := by decide +kernel
theorem dX10_count_73 : decode cX10_count 73 = .ok (.ireturn, 1) := by decide +kernel
theorem dX10_count_74 : decode cX10_count 74 = .ok (.aload_n 0, 1) := by decide +kernel
theorem dX10_count_75 : decode cX10_count 75 = .ok (.getfield 332, 3) := by decide +kernel
theorem dX10_count_78 : decode cX10_count 78 = .ok (.ireturn, 1) := by decide +kernel
theorem dX10_count_79 : decode cX10_count 79 = .ok (.iconst (-1), 1) := by decide +kernel
theorem dX10_count_80 : decode cX10_count 80 = .ok (.ireturn, 1) := by decide +kernel
end
section
theorem dL_law_0 : decode cL_law 0 = .ok (.new 7, 3) := by decide +kernel
theorem dL_law_3 : decode cL_law 3 = .ok (.dup, 1) := by decide +kernel
theorem dL_law_4 : decode cL_law 4 = .ok (.invokespecial 9, 3) := by decide +kernel
theorem dL_law_7 : decode cL_law 7 = .ok (.astore_n 1, 1) := by decide +kernel
theorem dL_law_8 : decode cL_law 8 = .ok (.new 10, 3) := by decide +kernel
theorem dL_law_11 : decode cL_law 11 = .ok (.dup, 1) := by decide +kernel
theorem dL_law_12 : decode cL_law 12 = .ok (.invokespecial 12, 3) := by decide +kernel
theorem dL_law_15 : decode cL_law 15 = .ok (.astore_n 2, 1) := by decide +kernel
theorem dL_law_16 : decode cL_law 16 = .ok (.iconst 0, 1) := by decide +kernel
theorem dL_law_17 : decode cL_law 17 = .ok (.istore_n 3, 1) := by decide +kernel
theorem dL_law_18 : decode cL_law 18 = .ok (.iload_n 3, 1) := by decide +kernel
theorem dL_law_19 : decode cL_law 19 = .ok (.aload_n 0, 1) := by decide +kernel
theorem dL_law_20 : decode cL_law 20 = .ok (.arraylength, 1) := by decide +kernel
theorem dL_law_21 : decode cL_law 21 = .ok (.bipush 6, 2) := by decide +kernel
theorem dL_law_23 : decode cL_law 23 = .ok (.isub, 1) := by decide +kernel
theorem dL_law_24 : decode cL_law 24 = .ok (.if_icmp .gt 1444, 3) := by decide +kernel
theorem dL_law_27 : decode cL_law 27 = .ok (.aload_n 0, 1) := by decide +kernel
theorem dL_law_28 : decode cL_law 28 = .ok (.iload_n 3, 1) := by decide +kernel
theorem dL_law_29 : decode cL_law 29 = .ok (.iaload, 1) := by decide +kernel
theorem dL_law_30 : decode cL_law 30 = .ok (.bipush 63, 2) := by decide +kernel
theorem dL_law_32 : decode cL_law 32 = .ok (.iand, 1) := by decide +kernel
theorem dL_law_33 : decode cL_law 33 = .ok (.tableswitch 1429 0 38 #[171, 214, 257, 300, 343, 386, 419, 452, 465, 498, 531, 564, 597, 630, 653, 686, 699, 742, 755, 798, 831, 854, 867, 890, 943, 966, 989, 1012, 1025, 1038, 1061, 1104, 1127, 1160, 1203, 1276, 1310, 1373, 1406], 171) := by decide +kernel
theorem dL_law_204 : decode cL_law 204 = .ok (.aload_n 1, 1) := by decide +kernel
theorem dL_law_205 : decode cL_law 205 = .ok (.aload_n 0, 1) := by decide +kernel
theorem dL_law_206 : decode cL_law 206 = .ok (.iload_n 3, 1) := by decide +kernel
theorem dL_law_207 : decode cL_law 207 = .ok (.iconst 1, 1) := by decide +kernel
theorem dL_law_208 : decode cL_law 208 = .ok (.iadd, 1) := by decide +kernel
theorem dL_law_209 : decode cL_law 209 = .ok (.iaload, 1) := by decide +kernel
theorem dL_law_210 : decode cL_law 210 = .ok (.aload_n 0, 1) := by decide +kernel
theorem dL_law_211 : decode cL_law 211 = .ok (.iload_n 3, 1) := by decide +kernel
theorem dL_law_212 : decode cL_law 212 = .ok (.iconst 2, 1) := by decide +kernel
theorem dL_law_213 : decode cL_law 213 = .ok (.iadd, 1) := by decide +kernel
theorem dL_law_214 : decode cL_law 214 = .ok (.iaload, 1) := by decide +kernel
theorem dL_law_215 : decode cL_law 215 = .ok (.aload_n 0, 1) := by decide +kernel
theorem dL_law_216 : decode cL_law 216 = .ok (.iload_n 3, 1) := by decide +kernel
theorem dL_law_217 : decode cL_law 217 = .ok (.iconst 3, 1) := by decide +kernel
theorem dL_law_218 : decode cL_law 218 = .ok (.iadd, 1) := by decide +kernel
theorem dL_law_219 : decode cL_law 219 = .ok (.iaload, 1) := by decide +kernel
theorem dL_law_220 : decode cL_law 220 = .ok (.invokevirtual 13, 3) := by decide +kernel
theorem dL_law_223 : decode cL_law 223 = .ok (.aload_n 2, 1) := by decide +kernel
theorem dL_law_224 : decode cL_law 224 = .ok (.aload_n 0, 1) := by decide +kernel
theorem dL_law_225 : decode cL_law 225 = .ok (.iload_n 3, 1) := by decide +kernel
theorem dL_law_226 : decode cL_law 226 = .ok (.iconst 1, 1) := by decide +kernel
theorem dL_law_227 : decode cL_law 227 = .ok (.iadd, 1) := by decide +kernel
theorem dL_law_228 : decode cL_law 228 = .ok (.iaload, 1) := by decide +kernel
theorem dL_law_229 : decode cL_law 229 = .ok (.aload_n 0, 1) := by decide +kernel
theorem dL_law_230 : decode cL_law 230 = .ok (.iload_n 3, 1) := by decide +kernel
theorem dL_law_231 : decode cL_law 231 = .ok (.iconst 2, 1) := by decide +kernel
theorem dL_law_232 : decode cL_law 232 = .ok (.iadd, 1) := by decide +kernel
theorem dL_law_233 : decode cL_law 233 = .ok (.iaload, 1) := by decide +kernel
theorem dL_law_234 : decode cL_law 234 = .ok (.aload_n 0, 1) := by decide +kernel
theorem dL_law_235 : decode cL_law 235 = .ok (.iload_n 3, 1) := by decide +kernel
theorem dL_law_236 : decode cL_law 236 = .ok (.iconst 3, 1) := by decide +kernel
theorem dL_law_237 : decode cL_law 237 = .ok (.iadd, 1) := by decide +kernel
theorem dL_law_238 : decode cL_law 238 = .ok (.iaload, 1) := by decide +kernel
theorem dL_law_239 : decode cL_law 239 = .ok (.invokevirtual 17, 3) := by decide +kernel
theorem dL_law_242 : decode cL_law 242 = .ok (.if_icmp .eq 1220, 3) := by decide +kernel
theorem dL_law_245 : decode cL_law 245 = .ok (.iconst 0, 1) := by decide +kernel
theorem dL_law_246 : decode cL_law 246 = .ok (.ireturn, 1) := by decide +kernel
theorem dL_law_247 : decode cL_law 247 = .ok (.aload_n 1, 1) := by decide +kernel
theorem dL_law_248 : decode cL_law 248 = .ok (.aload_n 0, 1) := by decide +kernel
theorem dL_law_249 : decode cL_law 249 = .ok (.iload_n 3, 1) := by decide +kernel
theorem dL_law_250 : decode cL_law 250 = .ok (.iconst 1, 1) := by decide +kernel
theorem dL_law_251 : decode cL_law 251 = .ok (.iadd, 1) := by decide +kernel
theorem dL_law_252 : decode cL_law 252 = .ok (.iaload, 1) := by decide +kernel
theorem dL_law_253 : decode cL_law 253 = .ok (.aload_n 0, 1) := by decide +kernel
theorem dL_law_254 : decode cL_law 254 = .ok (.iload_n 3, 1) := by decide +kernel
theorem dL_law_255 : decode cL_law 255 = .ok (.iconst 2, 1) := by decide +kernel
theorem dL_law_256 : decode cL_law 256 = .ok (.iadd, 1) := by decide +kernel
theorem dL_law_257 : decode cL_law 257 = .ok (.iaload, 1) := by decide +kernel
theorem dL_law_258 : decode cL_law 258 = .ok (.aload_n 0, 1) := by decide +kernel
theorem dL_law_259 : decode cL_law 259 = .ok (.iload_n 3, 1) := by decide +kernel
theorem dL_law_260 : decode cL_law 260 = .ok (.iconst 3, 1) := by decide +kernel
theorem dL_law_261 : decode cL_law 261 = .ok (.iadd, 1) := by decide +kernel
theorem dL_law_262 : decode cL_law 262 = .ok (.iaload, 1) := by decide +kernel
theorem dL_law_263 : decode cL_law 263 = .ok (.invokevirtual 18, 3) := by decide +kernel
theorem dL_law_266 : decode cL_law 266 = .ok (.aload_n 2, 1) := by decide +kernel
theorem dL_law_267 : decode cL_law 267 = .ok (.aload_n 0, 1) := by decide +kernel
theorem dL_law_268 : decode cL_law 268 = .ok (.iload_n 3, 1) := by decide +kernel
theorem dL_law_269 : decode cL_law 269 = .ok (.iconst 1, 1) := by decide +kernel
theorem dL_law_270 : decode cL_law 270 = .ok (.iadd, 1) := by decide +kernel
theorem dL_law_271 : decode cL_law 271 = .ok (.iaload, 1) := by decide +kernel
theorem dL_law_272 : decode cL_law 272 = .ok (.aload_n 0, 1) := by decide +kernel
theorem dL_law_273 : decode cL_law 273 = .ok (.iload_n 3, 1) := by decide +kernel
theorem dL_law_274 : decode cL_law 274 = .ok (.iconst 2, 1) := by decide +kernel
theorem dL_law_275 : decode cL_law 275 = .ok (.iadd, 1) := by decide +kernel
theorem dL_law_276 : decode cL_law 276 = .ok (.iaload, 1) := by decide +kernel
theorem dL_law_277 : decode cL_law 277 = .ok (.aload_n 0, 1) := by decide +kernel
theorem dL_law_278 : decode cL_law 278 = .ok (.iload_n 3, 1) := by decide +kernel
theorem dL_law_279 : decode cL_law 279 = .ok (.iconst 3, 1) := by decide +kernel
theorem dL_law_280 : decode cL_law 280 = .ok (.iadd, 1) := by decide +kernel
theorem dL_law_281 : decode cL_law 281 = .ok (.iaload, 1) := by decide +kernel
theorem dL_law_282 : decode cL_law 282 = .ok (.invokevirtual 21, 3) := by decide +kernel
theorem dL_law_285 : decode cL_law 285 = .ok (.if_icmp .eq 1177, 3) := by decide +kernel
theorem dL_law_288 : decode cL_law 288 = .ok (.iconst 0, 1) := by decide +kernel
theorem dL_law_289 : decode cL_law 289 = .ok (.ireturn, 1) := by decide +kernel
theorem dL_law_290 : decode cL_law 290 = .ok (.aload_n 1, 1) := by decide +kernel
theorem dL_law_291 : decode cL_law 291 = .ok (.aload_n 0, 1) := by decide +kernel
theorem dL_law_292 : decode cL_law 292 = .ok (.iload_n 3, 1) := by decide +kernel
theorem dL_law_293 : decode cL_law 293 = .ok (.iconst 1, 1) := by decide +kernel
theorem dL_law_294 : decode cL_law 294 = .ok (.iadd, 1) := by decide +kernel
theorem dL_law_295 : decode cL_law 295 = .ok (.iaload, 1) := by decide +kernel
theorem dL_law_296 : decode cL_law 296 = .ok (.aload_n 0, 1) := by decide +kernel
theorem dL_law_297 : decode cL_law 297 = .ok (.iload_n 3, 1) := by decide +kernel
theorem dL_law_298 : decode cL_law 298 = .ok (.iconst 2, 1) := by decide +kernel
theorem dL_law_299 : decode cL_law 299 = .ok (.iadd, 1) := by decide +kernel
theorem dL_law_300 : decode cL_law 300 = .ok (.iaload, 1) := by decide +kernel
theorem dL_law_301 : decode cL_law 301 = .ok (.aload_n 0, 1) := by decide +kernel
theorem dL_law_302 : decode cL_law 302 = .ok (.iload_n 3, 1) := by decide +kernel
theorem dL_law_303 : decode cL_law 303 = .ok (.iconst 3, 1) := by decide +kernel
theorem dL_law_304 : decode cL_law 304 = .ok (.iadd, 1) := by decide +kernel
theorem dL_law_305 : decode cL_law 305 = .ok (.iaload, 1) := by decide +kernel
theorem dL_law_306 : decode cL_law 306 = .ok (.invokevirtual 22, 3) := by decide +kernel
theorem dL_law_309 : decode cL_law 309 = .ok (.aload_n 2, 1) := by decide +kernel
theorem dL_law_310 : decode cL_law 310 = .ok (.aload_n 0, 1) := by decide +kernel
theorem dL_law_311 : decode cL_law 311 = .ok (.iload_n 3, 1) := by decide +kernel
theorem dL_law_312 : decode cL_law 312 = .ok (.iconst 1, 1) := by decide +kernel
theorem dL_law_313 : decode cL_law 313 = .ok (.iadd, 1) := by decide +kernel
theorem dL_law_314 : decode cL_law 314 = .ok (.iaload, 1) := by decide +kernel
theorem dL_law_315 : decode cL_law 315 = .ok (.aload_n 0, 1) := by decide +kernel
theorem dL_law_316 : decode cL_law 316 = .ok (.iload_n 3, 1) := by decide +kernel
theorem dL_law_317 : decode cL_law 317 = .ok (.iconst 2, 1) := by decide +kernel
theorem dL_law_318 : decode cL_law 318 = .ok (.iadd, 1) := by decide +kernel
theorem dL_law_319 : decode cL_law 319 = .ok (.iaload, 1) := by decide +kernel
theorem dL_law_320 : decode cL_law 320 = .ok (.aload_n 0, 1) := by decide +kernel
theorem dL_law_321 : decode cL_law 321 = .ok (.iload_n 3, 1) := by decide +kernel
theorem dL_law_322 : decode cL_law 322 = .ok (.iconst 3, 1) := by decide +kernel
theorem dL_law_323 : decode cL_law 323 = .ok (.iadd, 1) := by decide +kernel
theorem dL_law_324 : decode cL_law 324 = .ok (.iaload, 1) := by decide +kernel
theorem dL_law_325 : decode cL_law 325 = .ok (.invokevirtual 25, 3) := by decide +kernel
theorem dL_law_328 : decode cL_law 328 = .ok (.if_icmp .eq 1134, 3) := by decide +kernel
theorem dL_law_331 : decode cL_law 331 = .ok (.iconst 0, 1) := by decide +kernel
theorem dL_law_332 : decode cL_law 332 = .ok (.ireturn, 1) := by decide +kernel
theorem dL_law_333 : decode cL_law 333 = .ok (.aload_n 1, 1) := by decide +kernel
theorem dL_law_334 : decode cL_law 334 = .ok (.aload_n 0, 1) := by decide +kernel
theorem dL_law_335 : decode cL_law 335 = .ok (.iload_n 3, 1) := by decide +kernel
theorem dL_law_336 : decode cL_law 336 = .ok (.iconst 1, 1) := by decide +kernel
theorem dL_law_337 : decode cL_law 337 = .ok (.iadd, 1) := by decide +kernel
theorem dL_law_338 : decode cL_law 338 = .ok (.iaload, 1) := by decide +kernel
theorem dL_law_339 : decode cL_law 339 = .ok (.aload_n 0, 1) := by decide +kernel
theorem dL_law_340 : decode cL_law 340 = .ok (.iload_n 3, 1) := by decide +kernel
theorem dL_law_341 : decode cL_law 341 = .ok (.iconst 2, 1) := by decide +kernel
theorem dL_law_342 : decode cL_law 342 = .ok (.iadd, 1) := by decide +kernel
theorem dL_law_343 : decode cL_law 343 = .ok (.iaload, 1) := by decide +kernel
theorem dL_law_344 : decode cL_law 344 = .ok (.aload_n 0, 1) := by decide +kernel
theorem dL_law_345 : decode cL_law 345 = .ok (.iload_n 3, 1) := by decide +kernel
theorem dL_law_346 : decode cL_law 346 = .ok (.iconst 3, 1) := by decide +kernel
theorem dL_law_347 : decode cL_law 347 = .ok (.iadd, 1) := by decide +kernel
theorem dL_law_348 : decode cL_law 348 = .ok (.iaload, 1) := by decide +kernel
theorem dL_law_349 : decode cL_law 349 = .ok (.invokevirtual 26, 3) := by decide +kernel
theorem dL_law_352 : decode cL_law 352 = .ok (.aload_n 2, 1) := by decide +kernel
theorem dL_law_353 : decode cL_law 353 = .ok (.aload_n 0, 1) := by decide +kernel
theorem dL_law_354 : decode cL_law 354 = .ok (.iload_n 3, 1) := by decide +kernel
theorem dL_law_355 : decode cL_law 355 = .ok (.iconst 1, 1) := by decide +kernel
theorem dL_law_356 : decode cL_law 356 = .ok (.iadd, 1) := by decide +kernel
theorem dL_law_357 : decode cL_law 357 = .ok (.iaload, 1) := by decide +kernel
theorem dL_law_358 : decode cL_law 358 = .ok (.aload_n 0, 1) := by decide +kernel
theorem dL_law_359 : decode cL_law 359 = .ok (.iload_n 3, 1) := by decide +kernel
theorem dL_law_360 : decode cL_law 360 = .ok (.iconst 2, 1) := by decide +kernel
theorem dL_law_361 : decode cL_law 361 = .ok (.iadd, 1) := by decide +kernel
theorem dL_law_362 : decode cL_law 362 = .ok (.iaload, 1) := by decide +kernel
theorem dL_law_363 : decode cL_law 363 = .ok (.aload_n 0, 1) := by decide +kernel
theorem dL_law_364 : decode cL_law 364 = .ok (.iload_n 3, 1) := by decide +kernel
theorem dL_law_365 : decode cL_law 365 = .ok (.iconst 3, 1) := by decide +kernel
theorem dL_law_366 : decode cL_law 366 = .ok (.iadd, 1) := by decide +kernel
theorem dL_law_367 : decode cL_law 367 = .ok (.iaload, 1) := by decide +kernel
theorem dL_law_368 : decode cL_law 368 = .ok (.invokevirtual 29, 3) := by decide +kernel
theorem dL_law_371 : decode cL_law 371 = .ok (.if_icmp .eq 1091, 3) := by decide +kernel
theorem dL_law_374 : decode cL_law 374 = .ok (.iconst 0, 1) := by decide +kernel
theorem dL_law_375 : decode cL_law 375 = .ok (.ireturn, 1) := by decide +kernel
theorem dL_law_376 : decode cL_law 376 = .ok (.aload_n 1, 1) := by decide +kernel
theorem dL_law_377 : decode cL_law 377 = .ok (.aload_n 0, 1) := by decide +kernel
theorem dL_law_378 : decode cL_law 378 = .ok (.iload_n 3, 1) := by decide +kernel
theorem dL_law_379 : decode cL_law 379 = .ok (.iconst 1, 1) := by decide +kernel
theorem dL_law_380 : decode cL_law 380 = .ok (.iadd, 1) := by decide +kernel
theorem dL_law_381 : decode cL_law 381 = .ok (.iaload, 1) := by decide +kernel
theorem dL_law_382 : decode cL_law 382 = .ok (.aload_n 0, 1) := by decide +kernel
theorem dL_law_383 : decode cL_law 383 = .ok (.iload_n 3, 1) := by decide +kernel
theorem dL_law_384 : decode cL_law 384 = .ok (.iconst 2, 1) := by decide +kernel
theorem dL_law_385 : decode cL_law 385 = .ok (.iadd, 1) := by decide +kernel
theorem dL_law_386 : decode cL_law 386 = .ok (.iaload, 1) := by decide +kernel
theorem dL_law_387 : decode cL_law 387 = .ok (.aload_n 0, 1) := by decide +kernel
theorem dL_law_388 : decode cL_law 388 = .ok (.iload_n 3, 1) := by decide +kernel
theorem dL_law_389 : decode cL_law 389 = .ok (.iconst 3, 1) := by decide +kernel
theorem dL_law_390 : decode cL_law 390 = .ok (.iadd, 1) := by decide +kernel
theorem dL_law_391 : decode cL_law 391 = .ok (.iaload, 1) := by decide +kernel
theorem dL_law_392 : decode cL_law 392 = .ok (.invokevirtual 30, 3) := by decide +kernel
theorem dL_law_395 : decode cL_law 395 = .ok (.aload_n 2, 1) := by decide +kernel
theorem dL_law_396 : decode cL_law 396 = .ok (.aload_n 0, 1) := by decide +kernel
theorem dL_law_397 : decode cL_law 397 = .ok (.iload_n 3, 1) := by decide +kernel
theorem dL_law_398 : decode cL_law 398 = .ok (.iconst 1, 1) := by decide +kernel
theorem dL_law_399 : decode cL_law 399 = .ok (.iadd, 1) := by decide +kernel
theorem dL_law_400 : decode cL_law 400 = .ok (.iaload, 1) := by decide +kernel
theorem dL_law_401 : decode cL_law 401 = .ok (.aload_n 0, 1) := by decide +kernel
theorem dL_law_402 : decode cL_law 402 = .ok (.iload_n 3, 1) := by decide +kernel
theorem dL_law_403 : decode cL_law 403 = .ok (.iconst 2, 1) := by decide +kernel
theorem dL_law_404 : decode cL_law 404 = .ok (.iadd, 1) := by decide +kernel
theorem dL_law_405 : decode cL_law 405 = .ok (.iaload, 1) := by decide +kernel
theorem dL_law_406 : decode cL_law 406 = .ok (.aload_n 0, 1) := by decide +kernel
theorem dL_law_407 : decode cL_law 407 = .ok (.iload_n 3, 1) := by decide +kernel
theorem dL_law_408 : decode cL_law 408 = .ok (.iconst 3, 1) := by decide +kernel
theorem dL_law_409 : decode cL_law 409 = .ok (.iadd, 1) := by decide +kernel
theorem dL_law_410 : decode cL_law 410 = .ok (.iaload, 1) := by decide +kernel
theorem dL_law_411 : decode cL_law 411 = .ok (.invokevirtual 33, 3) := by decide +kernel
theorem dL_law_414 : decode cL_law 414 = .ok (.if_icmp .eq 1048, 3) := by decide +kernel
theorem dL_law_417 : decode cL_law 417 = .ok (.iconst 0, 1) := by decide +kernel
theorem dL_law_418 : decode cL_law 418 = .ok (.ireturn, 1) := by decide +kernel
theorem dL_law_419 : decode cL_law 419 = .ok (.aload_n 1, 1) := by decide +kernel
theorem dL_law_420 : decode cL_law 420 = .ok (.aload_n 0, 1) := by decide +kernel
theorem dL_law_421 : decode cL_law 421 = .ok (.iload_n 3, 1) := by decide +kernel
theorem dL_law_422 : decode cL_law 422 = .ok (.iconst 1, 1) := by decide +kernel
theorem dL_law_423 : decode cL_law 423 = .ok (.iadd, 1) := by decide +kernel
theorem dL_law_424 : decode cL_law 424 = .ok (.iaload, 1) := by decide +kernel
theorem dL_law_425 : decode cL_law 425 = .ok (.aload_n 0, 1) := by decide +kernel
theorem dL_law_426 : decode cL_law 426 = .ok (.iload_n 3, 1) := by decide +kernel
theorem dL_law_427 : decode cL_law 427 = .ok (.iconst 2, 1) := by decide +kernel
theorem dL_law_428 : decode cL_law 428 = .ok (.iadd, 1) := by decide +kernel
theorem dL_law_429 : decode cL_law 429 = .ok (.iaload, 1) := by decide +kernel
theorem dL_law_430 : decode cL_law 430 = .ok (.invokevirtual 34, 3) := by decide +kernel
theorem dL_law_433 : decode cL_law 433 = .ok (.aload_n 2, 1) := by decide +kernel
theorem dL_law_434 : decode cL_law 434 = .ok (.aload_n 0, 1) := by decide +kernel
theorem dL_law_435 : decode cL_law 435 = .ok (.iload_n 3, 1) := by decide +kernel
theorem dL_law_436 : decode cL_law 436 = .ok (.iconst 1, 1) := by decide +kernel
theorem dL_law_437 : decode cL_law 437 = .ok (.iadd, 1) := by decide +kernel
theorem dL_law_438 : decode cL_law 438 = .ok (.iaload, 1) := by decide +kernel
theorem dL_law_439 : decode cL_law 439 = .ok (.aload_n 0, 1) := by decide +kernel
theorem dL_law_440 : decode cL_law 440 = .ok (.iload_n 3, 1) := by decide +kernel
theorem dL_law_441 : decode cL_law 441 = .ok (.iconst 2, 1) := by decide +kernel
theorem dL_law_442 : decode cL_law 442 = .ok (.iadd, 1) := by decide +kernel
theorem dL_law_443 : decode cL_law 443 = .ok (.iaload, 1) := by decide +kernel
theorem dL_law_444 : decode cL_law 444 = .ok (.invokevirtual 38, 3) := by decide +kernel
theorem dL_law_447 : decode cL_law 447 = .ok (.if_icmp .eq 1015, 3) := by decide +kernel
theorem dL_law_450 : decode cL_law 450 = .ok (.iconst 0, 1) := by decide +kernel
theorem dL_law_451 : decode cL_law 451 = .ok (.ireturn, 1) := by decide +kernel
theorem dL_law_452 : decode cL_law 452 = .ok (.aload_n 1, 1) := by decide +kernel
theorem dL_law_453 : decode cL_law 453 = .ok (.aload_n 0, 1) := by decide +kernel
theorem dL_law_454 : decode cL_law 454 = .ok (.iload_n 3, 1) := by decide +kernel
theorem dL_law_455 : decode cL_law 455 = .ok (.iconst 1, 1) := by decide +kernel
theorem dL_law_456 : decode cL_law 456 = .ok (.iadd, 1) := by decide +kernel
theorem dL_law_457 : decode cL_law 457 = .ok (.iaload, 1) := by decide +kernel
theorem dL_law_458 : decode cL_law 458 = .ok (.aload_n 0, 1) := by decide +kernel
theorem dL_law_459 : decode cL_law 459 = .ok (.iload_n 3, 1) := by decide +kernel
theorem dL_law_460 : decode cL_law 460 = .ok (.iconst 2, 1) := by decide +kernel
theorem dL_law_461 : decode cL_law 461 = .ok (.iadd, 1) := by decide +kernel
theorem dL_law_462 : decode cL_law 462 = .ok (.iaload, 1) := by decide +kernel
theorem dL_law_463 : decode cL_law 463 = .ok (.invokevirtual 39, 3) := by decide +kernel
theorem dL_law_466 : decode cL_law 466 = .ok (.aload_n 2, 1) := by decide +kernel
theorem dL_law_467 : decode cL_law 467 = .ok (.aload_n 0, 1) := by decide +kernel
theorem dL_law_468 : decode cL_law 468 = .ok (.iload_n 3, 1) := by decide +kernel
theorem dL_law_469 : decode cL_law 469 = .ok (.iconst 1, 1) := by decide +kernel
theorem dL_law_470 : decode cL_law 470 = .ok (.iadd, 1) := by decide +kernel
theorem dL_law_471 : decode cL_law 471 = .ok (.iaload, 1) := by decide +kernel
theorem dL_law_472 : decode cL_law 472 = .ok (.aload_n 0, 1) := by decide +kernel
theorem dL_law_473 : decode cL_law 473 = .ok (.iload_n 3, 1) := by decide +kernel
theorem dL_law_474 : decode cL_law 474 = .ok (.iconst 2, 1) := by decide +kernel
theorem dL_law_475 : decode cL_law 475 = .ok (.iadd, 1) := by decide +kernel
theorem dL_law_476 : decode cL_law 476 = .ok (.iaload, 1) := by decide +kernel
theorem dL_law_477 : decode cL_law 477 = .ok (.invokevirtual 42, 3) := by decide +kernel
theorem dL_law_480 : decode cL_law 480 = .ok (.if_icmp .eq 982, 3) := by decide +kernel
theorem dL_law_483 : decode cL_law 483 = .ok (.iconst 0, 1) := by decide +kernel
theorem dL_law_484 : decode cL_law 484 = .ok (.ireturn, 1) := by decide +kernel
theorem dL_law_485 : decode cL_law 485 = .ok (.aload_n 1, 1) := by decide +kernel
theorem dL_law_486 : decode cL_law 486 = .ok (.invokevirtual 43, 3) := by decide +kernel
theorem dL_law_489 : decode cL_law 489 = .ok (.aload_n 2, 1) := by decide +kernel
theorem dL_law_490 : decode cL_law 490 = .ok (.invokevirtual 47, 3) := by decide +kernel
theorem dL_law_493 : decode cL_law 493 = .ok (.if_icmp .eq 969, 3) := by decide +kernel
theorem dL_law_496 : decode cL_law 496 = .ok (.iconst 0, 1) := by decide +kernel
theorem dL_law_497 : decode cL_law 497 = .ok (.ireturn, 1) := by decide +kernel
theorem dL_law_498 : decode cL_law 498 = .ok (.aload_n 1, 1) := by decide +kernel
theorem dL_law_499 : decode cL_law 499 = .ok (.aload_n 0, 1) := by decide +kernel
theorem dL_law_500 : decode cL_law 500 = .ok (.iload_n 3, 1) := by decide +kernel
theorem dL_law_501 : decode cL_law 501 = .ok (.iconst 1, 1) := by decide +kernel
theorem dL_law_502 : decode cL_law 502 = .ok (.iadd, 1) := by decide +kernel
theorem dL_law_503 : decode cL_law 503 = .ok (.iaload, 1) := by decide +kernel
theorem dL_law_504 : decode cL_law 504 = .ok (.aload_n 0, 1) := by decide +kernel
theorem dL_law_505 : decode cL_law 505 = .ok (.iload_n 3, 1) := by decide +kernel
theorem dL_law_506 : decode cL_law 506 = .ok (.iconst 2, 1) := by decide +kernel
theorem dL_law_507 : decode cL_law 507 = .ok (.iadd, 1) := by decide +kernel
theorem dL_law_508 : decode cL_law 508 = .ok (.iaload, 1) := by decide +kernel
theorem dL_law_509 : decode cL_law 509 = .ok (.invokevirtual 48, 3) := by decide +kernel
theorem dL_law_512 : decode cL_law 512 = .ok (.aload_n 2, 1) := by decide +kernel
theorem dL_law_513 : decode cL_law 513 = .ok (.aload_n 0, 1) := by decide +kernel
theorem dL_law_514 : decode cL_law 514 = .ok (.iload_n 3, 1) := by decide +kernel
theorem dL_law_515 : decode cL_law 515 = .ok (.iconst 1, 1) := by decide +kernel
theorem dL_law_516 : decode cL_law 516 = .ok (.iadd, 1) := by decide +kernel
theorem dL_law_517 : decode cL_law 517 = .ok (.iaload, 1) := by decide +kernel
theorem dL_law_518 : decode cL_law 518 = .ok (.aload_n 0, 1) := by decide +kernel
theorem dL_law_519 : decode cL_law 519 = .ok (.iload_n 3, 1) := by decide +kernel
theorem dL_law_520 : decode cL_law 520 = .ok (.iconst 2, 1) := by decide +kernel
theorem dL_law_521 : decode cL_law 521 = .ok (.iadd, 1) := by decide +kernel
theorem dL_law_522 : decode cL_law 522 = .ok (.iaload, 1) := by decide +kernel
theorem dL_law_523 : decode cL_law 523 = .ok (.invokevirtual 51, 3) := by decide +kernel
theorem dL_law_526 : decode cL_law 526 = .ok (.if_icmp .eq 936, 3) := by decide +kernel
theorem dL_law_529 : decode cL_law 529 = .ok (.iconst 0, 1) := by decide +kernel
theorem dL_law_530 : decode cL_law 530 = .ok (.ireturn, 1) := by decide +kernel
theorem dL_law_531 : decode cL_law 531 = .ok (.aload_n 1, 1) := by decide +kernel
theorem dL_law_532 : decode cL_law 532 = .ok (.aload_n 0, 1) := by decide +kernel
theorem dL_law_533 : decode cL_law 533 = .ok (.iload_n 3, 1) := by decide +kernel
theorem dL_law_534 : decode cL_law 534 = .ok (.iconst 1, 1) := by decide +kernel
theorem dL_law_535 : decode cL_law 535 = .ok (.iadd, 1) := by decide +kernel
theorem dL_law_536 : decode cL_law 536 = .ok (.iaload, 1) := by decide +kernel
theorem dL_law_537 : decode cL_law 537 = .ok (.aload_n 0, 1) := by decide +kernel
theorem dL_law_538 : decode cL_law 538 = .ok (.iload_n 3, 1) := by decide +kernel
theorem dL_law_539 : decode cL_law 539 = .ok (.iconst 2, 1) := by decide +kernel
theorem dL_law_540 : decode cL_law 540 = .ok (.iadd, 1) := by decide +kernel
theorem dL_law_541 : decode cL_law 541 = .ok (.iaload, 1) := by decide +kernel
theorem dL_law_542 : decode cL_law 542 = .ok (.invokevirtual 52, 3) := by decide +kernel
theorem dL_law_545 : decode cL_law 545 = .ok (.aload_n 2, 1) := by decide +kernel
theorem dL_law_546 : decode cL_law 546 = .ok (.aload_n 0, 1) := by decide +kernel
theorem dL_law_547 : decode cL_law 547 = .ok (.iload_n 3, 1) := by decide +kernel
theorem dL_law_548 : decode cL_law 548 = .ok (.iconst 1, 1) := by decide +kernel
theorem dL_law_549 : decode cL_law 549 = .ok (.iadd, 1) := by decide +kernel
theorem dL_law_550 : decode cL_law 550 = .ok (.iaload, 1) := by decide +kernel
theorem dL_law_551 : decode cL_law 551 = .ok (.aload_n 0, 1) := by decide +kernel
theorem dL_law_552 : decode cL_law 552 = .ok (.iload_n 3, 1) := by decide +kernel
theorem dL_law_553 : decode cL_law 553 = .ok (.iconst 2, 1) := by decide +kernel
theorem dL_law_554 : decode cL_law 554 = .ok (.iadd, 1) := by decide +kernel
theorem dL_law_555 : decode cL_law 555 = .ok (.iaload, 1) := by decide +kernel
theorem dL_law_556 : decode cL_law 556 = .ok (.invokevirtual 55, 3) := by decide +kernel
theorem dL_law_559 : decode cL_law 559 = .ok (.if_icmp .eq 903, 3) := by decide +kernel
theorem dL_law_562 : decode cL_law 562 = .ok (.iconst 0, 1) := by decide +kernel
theorem dL_law_563 : decode cL_law 563 = .ok (.ireturn, 1) := by decide +kernel
theorem dL_law_564 : decode cL_law 564 = .ok (.aload_n 1, 1) := by decide +kernel
theorem dL_law_565 : decode cL_law 565 = .ok (.aload_n 0, 1) := by decide +kernel
theorem dL_law_566 : decode cL_law 566 = .ok (.iload_n 3, 1) := by decide +kernel
theorem dL_law_567 : decode cL_law 567 = .ok (.iconst 1, 1) := by decide +kernel
theorem dL_law_568 : decode cL_law 568 = .ok (.iadd, 1) := by decide +kernel
theorem dL_law_569 : decode cL_law 569 = .ok (.iaload, 1) := by decide +kernel
theorem dL_law_570 : decode cL_law 570 = .ok (.aload_n 0, 1) := by decide +kernel
theorem dL_law_571 : decode cL_law 571 = .ok (.iload_n 3, 1) := by decide +kernel
theorem dL_law_572 : decode cL_law 572 = .ok (.iconst 2, 1) := by decide +kernel
theorem dL_law_573 : decode cL_law 573 = .ok (.iadd, 1) := by decide +kernel
theorem dL_law_574 : decode cL_law 574 = .ok (.iaload, 1) := by decide +kernel
theorem dL_law_575 : decode cL_law 575 = .ok (.invokevirtual 56, 3) := by decide +kernel
theorem dL_law_578 : decode cL_law 578 = .ok (.aload_n 2, 1) := by decide +kernel
theorem dL_law_579 : decode cL_law 579 = .ok (.aload_n 0, 1) := by decide +kernel
theorem dL_law_580 : decode cL_law 580 = .ok (.iload_n 3, 1) := by decide +kernel
theorem dL_law_581 : decode cL_law 581 = .ok (.iconst 1, 1) := by decide +kernel
theorem dL_law_582 : decode cL_law 582 = .ok (.iadd, 1) := by decide +kernel
theorem dL_law_583 : decode cL_law 583 = .ok (.iaload, 1) := by decide +kernel
theorem dL_law_584 : decode cL_law 584 = .ok (.aload_n 0, 1) := by decide +kernel
theorem dL_law_585 : decode cL_law 585 = .ok (.iload_n 3, 1) := by decide +kernel
theorem dL_law_586 : decode cL_law 586 = .ok (.iconst 2, 1) := by decide +kernel
theorem dL_law_587 : decode cL_law 587 = .ok (.iadd, 1) := by decide +kernel
theorem dL_law_588 : decode cL_law 588 = .ok (.iaload, 1) := by decide +kernel
theorem dL_law_589 : decode cL_law 589 = .ok (.invokevirtual 59, 3) := by decide +kernel
theorem dL_law_592 : decode cL_law 592 = .ok (.if_icmp .eq 870, 3) := by decide +kernel
theorem dL_law_595 : decode cL_law 595 = .ok (.iconst 0, 1) := by decide +kernel
theorem dL_law_596 : decode cL_law 596 = .ok (.ireturn, 1) := by decide +kernel
theorem dL_law_597 : decode cL_law 597 = .ok (.aload_n 1, 1) := by decide +kernel
theorem dL_law_598 : decode cL_law 598 = .ok (.aload_n 0, 1) := by decide +kernel
theorem dL_law_599 : decode cL_law 599 = .ok (.iload_n 3, 1) := by decide +kernel
theorem dL_law_600 : decode cL_law 600 = .ok (.iconst 1, 1) := by decide +kernel
theorem dL_law_601 : decode cL_law 601 = .ok (.iadd, 1) := by decide +kernel
theorem dL_law_602 : decode cL_law 602 = .ok (.iaload, 1) := by decide +kernel
theorem dL_law_603 : decode cL_law 603 = .ok (.aload_n 0, 1) := by decide +kernel
theorem dL_law_604 : decode cL_law 604 = .ok (.iload_n 3, 1) := by decide +kernel
theorem dL_law_605 : decode cL_law 605 = .ok (.iconst 2, 1) := by decide +kernel
theorem dL_law_606 : decode cL_law 606 = .ok (.iadd, 1) := by decide +kernel
theorem dL_law_607 : decode cL_law 607 = .ok (.iaload, 1) := by decide +kernel
theorem dL_law_608 : decode cL_law 608 = .ok (.invokevirtual 60, 3) := by decide +kernel
theorem dL_law_611 : decode cL_law 611 = .ok (.aload_n 2, 1) := by decide +kernel
theorem dL_law_612 : decode cL_law 612 = .ok (.aload_n 0, 1) := by decide +kernel
theorem dL_law_613 : decode cL_law 613 = .ok (.iload_n 3, 1) := by decide +kernel
theorem dL_law_614 : decode cL_law 614 = .ok (.iconst 1, 1) := by decide +kernel
theorem dL_law_615 : decode cL_law 615 = .ok (.iadd, 1) := by decide +kernel
theorem dL_law_616 : decode cL_law 616 = .ok (.iaload, 1) := by decide +kernel
theorem dL_law_617 : decode cL_law 617 = .ok (.aload_n 0, 1) := by decide +kernel
theorem dL_law_618 : decode cL_law 618 = .ok (.iload_n 3, 1) := by decide +kernel
theorem dL_law_619 : decode cL_law 619 = .ok (.iconst 2, 1) := by decide +kernel
theorem dL_law_620 : decode cL_law 620 = .ok (.iadd, 1) := by decide +kernel
theorem dL_law_621 : decode cL_law 621 = .ok (.iaload, 1) := by decide +kernel
theorem dL_law_622 : decode cL_law 622 = .ok (.invokevirtual 63, 3) := by decide +kernel
theorem dL_law_625 : decode cL_law 625 = .ok (.if_icmp .eq 837, 3) := by decide +kernel
theorem dL_law_628 : decode cL_law 628 = .ok (.iconst 0, 1) := by decide +kernel
theorem dL_law_629 : decode cL_law 629 = .ok (.ireturn, 1) := by decide +kernel
theorem dL_law_630 : decode cL_law 630 = .ok (.aload_n 1, 1) := by decide +kernel
theorem dL_law_631 : decode cL_law 631 = .ok (.aload_n 0, 1) := by decide +kernel
theorem dL_law_632 : decode cL_law 632 = .ok (.iload_n 3, 1) := by decide +kernel
theorem dL_law_633 : decode cL_law 633 = .ok (.iconst 1, 1) := by decide +kernel
theorem dL_law_634 : decode cL_law 634 = .ok (.iadd, 1) := by decide +kernel
theorem dL_law_635 : decode cL_law 635 = .ok (.iaload, 1) := by decide +kernel
theorem dL_law_636 : decode cL_law 636 = .ok (.aload_n 0, 1) := by decide +kernel
theorem dL_law_637 : decode cL_law 637 = .ok (.iload_n 3, 1) := by decide +kernel
theorem dL_law_638 : decode cL_law 638 = .ok (.iconst 2, 1) := by decide +kernel
theorem dL_law_639 : decode cL_law 639 = .ok (.iadd, 1) := by decide +kernel
theorem dL_law_640 : decode cL_law 640 = .ok (.iaload, 1) := by decide +kernel
theorem dL_law_641 : decode cL_law 641 = .ok (.invokevirtual 64, 3) := by decide +kernel
theorem dL_law_644 : decode cL_law 644 = .ok (.aload_n 2, 1) := by decide +kernel
theorem dL_law_645 : decode cL_law 645 = .ok (.aload_n 0, 1) := by decide +kernel
theorem dL_law_646 : decode cL_law 646 = .ok (.iload_n 3, 1) := by decide +kernel
theorem dL_law_647 : decode cL_law 647 = .ok (.iconst 1, 1) := by decide +kernel
theorem dL_law_648 : decode cL_law 648 = .ok (.iadd, 1) := by decide +kernel
theorem dL_law_649 : decode cL_law 649 = .ok (.iaload, 1) := by decide +kernel
theorem dL_law_650 : decode cL_law 650 = .ok (.aload_n 0, 1) := by decide +kernel
theorem dL_law_651 : decode cL_law 651 = .ok (.iload_n 3, 1) := by decide +kernel
theorem dL_law_652 : decode cL_law 652 = .ok (.iconst 2, 1) := by decide +kernel
theorem dL_law_653 : decode cL_law 653 = .ok (.iadd, 1) := by decide +kernel
theorem dL_law_654 : decode cL_law 654 = .ok (.iaload, 1) := by decide +kernel
theorem dL_law_655 : decode cL_law 655 = .ok (.invokevirtual 67, 3) := by decide +kernel
theorem dL_law_658 : decode cL_law 658 = .ok (.if_icmp .eq 804, 3) := by decide +kernel
theorem dL_law_661 : decode cL_law 661 = .ok (.iconst 0, 1) := by decide +kernel
theorem dL_law_662 : decode cL_law 662 = .ok (.ireturn, 1) := by decide +kernel
theorem dL_law_663 : decode cL_law 663 = .ok (.aload_n 1, 1) := by decide +kernel
theorem dL_law_664 : decode cL_law 664 = .ok (.aload_n 0, 1) := by decide +kernel
theorem dL_law_665 : decode cL_law 665 = .ok (.iload_n 3, 1) := by decide +kernel
theorem dL_law_666 : decode cL_law 666 = .ok (.iconst 1, 1) := by decide +kernel
theorem dL_law_667 : decode cL_law 667 = .ok (.iadd, 1) := by decide +kernel
theorem dL_law_668 : decode cL_law 668 = .ok (.iaload, 1) := by decide +kernel
theorem dL_law_669 : decode cL_law 669 = .ok (.invokevirtual 68, 3) := by decide +kernel
theorem dL_law_672 : decode cL_law 672 = .ok (.aload_n 2, 1) := by decide +kernel
theorem dL_law_673 : decode cL_law 673 = .ok (.aload_n 0, 1) := by decide +kernel
theorem dL_law_674 : decode cL_law 674 = .ok (.iload_n 3, 1) := by decide +kernel
theorem dL_law_675 : decode cL_law 675 = .ok (.iconst 1, 1) := by decide +kernel
theorem dL_law_676 : decode cL_law 676 = .ok (.iadd, 1) := by decide +kernel
theorem dL_law_677 : decode cL_law 677 = .ok (.iaload, 1) := by decide +kernel
theorem dL_law_678 : decode cL_law 678 = .ok (.invokevirtual 72, 3) := by decide +kernel
theorem dL_law_681 : decode cL_law 681 = .ok (.if_icmp .eq 781, 3) := by decide +kernel
theorem dL_law_684 : decode cL_law 684 = .ok (.iconst 0, 1) := by decide +kernel
theorem dL_law_685 : decode cL_law 685 = .ok (.ireturn, 1) := by decide +kernel
theorem dL_law_686 : decode cL_law 686 = .ok (.aload_n 1, 1) := by decide +kernel
theorem dL_law_687 : decode cL_law 687 = .ok (.aload_n 0, 1) := by decide +kernel
theorem dL_law_688 : decode cL_law 688 = .ok (.iload_n 3, 1) := by decide +kernel
theorem dL_law_689 : decode cL_law 689 = .ok (.iconst 1, 1) := by decide +kernel
theorem dL_law_690 : decode cL_law 690 = .ok (.iadd, 1) := by decide +kernel
theorem dL_law_691 : decode cL_law 691 = .ok (.iaload, 1) := by decide +kernel
theorem dL_law_692 : decode cL_law 692 = .ok (.aload_n 0, 1) := by decide +kernel
theorem dL_law_693 : decode cL_law 693 = .ok (.iload_n 3, 1) := by decide +kernel
theorem dL_law_694 : decode cL_law 694 = .ok (.iconst 2, 1) := by decide +kernel
theorem dL_law_695 : decode cL_law 695 = .ok (.iadd, 1) := by decide +kernel
theorem dL_law_696 : decode cL_law 696 = .ok (.iaload, 1) := by decide +kernel
theorem dL_law_697 : decode cL_law 697 = .ok (.invokevirtual 73, 3) := by decide +kernel
theorem dL_law_700 : decode cL_law 700 = .ok (.aload_n 2, 1) := by decide +kernel
theorem dL_law_701 : decode cL_law 701 = .ok (.aload_n 0, 1) := by decide +kernel
theorem dL_law_702 : decode cL_law 702 = .ok (.iload_n 3, 1) := by decide +kernel
theorem dL_law_703 : decode cL_law 703 = .ok (.iconst 1, 1) := by decide +kernel
theorem dL_law_704 : decode cL_law 704 = .ok (.iadd, 1) := by decide +kernel
theorem dL_law_705 : decode cL_law 705 = .ok (.iaload, 1) := by decide +kernel
theorem dL_law_706 : decode cL_law 706 = .ok (.aload_n 0, 1) := by decide +kernel
theorem dL_law_707 : decode cL_law 707 = .ok (.iload_n 3, 1) := by decide +kernel
theorem dL_law_708 : decode cL_law 708 = .ok (.iconst 2, 1) := by decide +kernel
theorem dL_law_709 : decode cL_law 709 = .ok (.iadd, 1) := by decide +kernel
theorem dL_law_710 : decode cL_law 710 = .ok (.iaload, 1) := by decide +kernel
theorem dL_law_711 : decode cL_law 711 = .ok (.invokevirtual 76, 3) := by decide +kernel
theorem dL_law_714 : decode cL_law 714 = .ok (.if_icmp .eq 748, 3) := by decide +kernel
theorem dL_law_717 : decode cL_law 717 = .ok (.iconst 0, 1) := by decide +kernel
theorem dL_law_718 : decode cL_law 718 = .ok (.ireturn, 1) := by decide +kernel
theorem dL_law_719 : decode cL_law 719 = .ok (.aload_n 1, 1) := by decide +kernel
theorem dL_law_720 : decode cL_law 720 = .ok (.invokevirtual 77, 3) := by decide +kernel
theorem dL_law_723 : decode cL_law 723 = .ok (.aload_n 2, 1) := by decide +kernel
theorem dL_law_724 : decode cL_law 724 = .ok (.invokevirtual 80, 3) := by decide +kernel
theorem dL_law_727 : decode cL_law 727 = .ok (.if_icmp .eq 735, 3) := by decide +kernel
theorem dL_law_730 : decode cL_law 730 = .ok (.iconst 0, 1) := by decide +kernel
theorem dL_law_731 : decode cL_law 731 = .ok (.ireturn, 1) := by decide +kernel
theorem dL_law_732 : decode cL_law 732 = .ok (.aload_n 1, 1) := by decide +kernel
theorem dL_law_733 : decode cL_law 733 = .ok (.aload_n 0, 1) := by decide +kernel
theorem dL_law_734 : decode cL_law 734 = .ok (.iload_n 3, 1) := by decide +kernel
theorem dL_law_735 : decode cL_law 735 = .ok (.iconst 1, 1) := by decide +kernel
theorem dL_law_736 : decode cL_law 736 = .ok (.iadd, 1) := by decide +kernel
theorem dL_law_737 : decode cL_law 737 = .ok (.iaload, 1) := by decide +kernel
theorem dL_law_738 : decode cL_law 738 = .ok (.aload_n 0, 1) := by decide +kernel
theorem dL_law_739 : decode cL_law 739 = .ok (.iload_n 3, 1) := by decide +kernel
theorem dL_law_740 : decode cL_law 740 = .ok (.iconst 2, 1) := by decide +kernel
theorem dL_law_741 : decode cL_law 741 = .ok (.iadd, 1) := by decide +kernel
theorem dL_law_742 : decode cL_law 742 = .ok (.iaload, 1) := by decide +kernel
theorem dL_law_743 : decode cL_law 743 = .ok (.aload_n 0, 1) := by decide +kernel
theorem dL_law_744 : decode cL_law 744 = .ok (.iload_n 3, 1) := by decide +kernel
theorem dL_law_745 : decode cL_law 745 = .ok (.iconst 3, 1) := by decide +kernel
theorem dL_law_746 : decode cL_law 746 = .ok (.iadd, 1) := by decide +kernel
theorem dL_law_747 : decode cL_law 747 = .ok (.iaload, 1) := by decide +kernel
theorem dL_law_748 : decode cL_law 748 = .ok (.invokevirtual 81, 3) := by decide +kernel
theorem dL_law_751 : decode cL_law 751 = .ok (.aload_n 2, 1) := by decide +kernel
theorem dL_law_752 : decode cL_law 752 = .ok (.aload_n 0, 1) := by decide +kernel
theorem dL_law_753 : decode cL_law 753 = .ok (.iload_n 3, 1) := by decide +kernel
theorem dL_law_754 : decode cL_law 754 = .ok (.iconst 1, 1) := by decide +kernel
theorem dL_law_755 : decode cL_law 755 = .ok (.iadd, 1) := by decide +kernel
theorem dL_law_756 : decode cL_law 756 = .ok (.iaload, 1) := by decide +kernel
theorem dL_law_757 : decode cL_law 757 = .ok (.aload_n 0, 1) := by decide +kernel
theorem dL_law_758 : decode cL_law 758 = .ok (.iload_n 3, 1) := by decide +kernel
theorem dL_law_759 : decode cL_law 759 = .ok (.iconst 2, 1) := by decide +kernel
theorem dL_law_760 : decode cL_law 760 = .ok (.iadd, 1) := by decide +kernel
theorem dL_law_761 : decode cL_law 761 = .ok (.iaload, 1) := by decide +kernel
theorem dL_law_762 : decode cL_law 762 = .ok (.aload_n 0, 1) := by decide +kernel
theorem dL_law_763 : decode cL_law 763 = .ok (.iload_n 3, 1) := by decide +kernel
theorem dL_law_764 : decode cL_law 764 = .ok (.iconst 3, 1) := by decide +kernel
theorem dL_law_765 : decode cL_law 765 = .ok (.iadd, 1) := by decide +kernel
theorem dL_law_766 : decode cL_law 766 = .ok (.iaload, 1) := by decide +kernel
theorem dL_law_767 : decode cL_law 767 = .ok (.invokevirtual 84, 3) := by decide +kernel
theorem dL_law_770 : decode cL_law 770 = .ok (.if_icmp .eq 692, 3) := by decide +kernel
theorem dL_law_773 : decode cL_law 773 = .ok (.iconst 0, 1) := by decide +kernel
theorem dL_law_774 : decode cL_law 774 = .ok (.ireturn, 1) := by decide +kernel
theorem dL_law_775 : decode cL_law 775 = .ok (.aload_n 1, 1) := by decide +kernel
theorem dL_law_776 : decode cL_law 776 = .ok (.invokevirtual 85, 3) := by decide +kernel
theorem dL_law_779 : decode cL_law 779 = .ok (.aload_n 2, 1) := by decide +kernel
theorem dL_law_780 : decode cL_law 780 = .ok (.invokevirtual 88, 3) := by decide +kernel
theorem dL_law_783 : decode cL_law 783 = .ok (.if_icmp .eq 679, 3) := by decide +kernel
theorem dL_law_786 : decode cL_law 786 = .ok (.iconst 0, 1) := by decide +kernel
theorem dL_law_787 : decode cL_law 787 = .ok (.ireturn, 1) := by decide +kernel
theorem dL_law_788 : decode cL_law 788 = .ok (.aload_n 1, 1) := by decide +kernel
theorem dL_law_789 : decode cL_law 789 = .ok (.aload_n 0, 1) := by decide +kernel
theorem dL_law_790 : decode cL_law 790 = .ok (.iload_n 3, 1) := by decide +kernel
theorem dL_law_791 : decode cL_law 791 = .ok (.iconst 1, 1) := by decide +kernel
theorem dL_law_792 : decode cL_law 792 = .ok (.iadd, 1) := by decide +kernel
theorem dL_law_793 : decode cL_law 793 = .ok (.iaload, 1) := by decide +kernel
theorem dL_law_794 : decode cL_law 794 = .ok (.aload_n 0, 1) := by decide +kernel
theorem dL_law_795 : decode cL_law 795 = .ok (.iload_n 3, 1) := by decide +kernel
theorem dL_law_796 : decode cL_law 796 = .ok (.iconst 2, 1) := by decide +kernel
theorem dL_law_797 : decode cL_law 797 = .ok (.iadd, 1) := by decide +kernel
theorem dL_law_798 : decode cL_law 798 = .ok (.iaload, 1) := by decide +kernel
theorem dL_law_799 : decode cL_law 799 = .ok (.aload_n 0, 1) := by decide +kernel
theorem dL_law_800 : decode cL_law 800 = .ok (.iload_n 3, 1) := by decide +kernel
theorem dL_law_801 : decode cL_law 801 = .ok (.iconst 3, 1) := by decide +kernel
theorem dL_law_802 : decode cL_law 802 = .ok (.iadd, 1) := by decide +kernel
theorem dL_law_803 : decode cL_law 803 = .ok (.iaload, 1) := by decide +kernel
theorem dL_law_804 : decode cL_law 804 = .ok (.invokevirtual 89, 3) := by decide +kernel
theorem dL_law_807 : decode cL_law 807 = .ok (.aload_n 2, 1) := by decide +kernel
theorem dL_law_808 : decode cL_law 808 = .ok (.aload_n 0, 1) := by decide +kernel
theorem dL_law_809 : decode cL_law 809 = .ok (.iload_n 3, 1) := by decide +kernel
theorem dL_law_810 : decode cL_law 810 = .ok (.iconst 1, 1) := by decide +kernel
theorem dL_law_811 : decode cL_law 811 = .ok (.iadd, 1) := by decide +kernel
theorem dL_law_812 : decode cL_law 812 = .ok (.iaload, 1) := by decide +kernel
theorem dL_law_813 : decode cL_law 813 = .ok (.aload_n 0, 1) := by decide +kernel
theorem dL_law_814 : decode cL_law 814 = .ok (.iload_n 3, 1) := by decide +kernel
theorem dL_law_815 : decode cL_law 815 = .ok (.iconst 2, 1) := by decide +kernel
theorem dL_law_816 : decode cL_law 816 = .ok (.iadd, 1) := by decide +kernel
theorem dL_law_817 : decode cL_law 817 = .ok (.iaload, 1) := by decide +kernel
theorem dL_law_818 : decode cL_law 818 = .ok (.aload_n 0, 1) := by decide +kernel
theorem dL_law_819 : decode cL_law 819 = .ok (.iload_n 3, 1) := by decide +kernel
theorem dL_law_820 : decode cL_law 820 = .ok (.iconst 3, 1) := by decide +kernel
theorem dL_law_821 : decode cL_law 821 = .ok (.iadd, 1) := by decide +kernel
theorem dL_law_822 : decode cL_law 822 = .ok (.iaload, 1) := by decide +kernel
theorem dL_law_823 : decode cL_law 823 = .ok (.invokevirtual 92, 3) := by decide +kernel
theorem dL_law_826 : decode cL_law 826 = .ok (.if_icmp .eq 636, 3) := by decide +kernel
theorem dL_law_829 : decode cL_law 829 = .ok (.iconst 0, 1) := by decide +kernel
theorem dL_law_830 : decode cL_law 830 = .ok (.ireturn, 1) := by decide +kernel
theorem dL_law_831 : decode cL_law 831 = .ok (.aload_n 1, 1) := by decide +kernel
theorem dL_law_832 : decode cL_law 832 = .ok (.aload_n 0, 1) := by decide +kernel
theorem dL_law_833 : decode cL_law 833 = .ok (.iload_n 3, 1) := by decide +kernel
theorem dL_law_834 : decode cL_law 834 = .ok (.iconst 1, 1) := by decide +kernel
theorem dL_law_835 : decode cL_law 835 = .ok (.iadd, 1) := by decide +kernel
theorem dL_law_836 : decode cL_law 836 = .ok (.iaload, 1) := by decide +kernel
theorem dL_law_837 : decode cL_law 837 = .ok (.aload_n 0, 1) := by decide +kernel
theorem dL_law_838 : decode cL_law 838 = .ok (.iload_n 3, 1) := by decide +kernel
theorem dL_law_839 : decode cL_law 839 = .ok (.iconst 2, 1) := by decide +kernel
theorem dL_law_840 : decode cL_law 840 = .ok (.iadd, 1) := by decide +kernel
theorem dL_law_841 : decode cL_law 841 = .ok (.iaload, 1) := by decide +kernel
theorem dL_law_842 : decode cL_law 842 = .ok (.invokevirtual 93, 3) := by decide +kernel
theorem dL_law_845 : decode cL_law 845 = .ok (.aload_n 2, 1) := by decide +kernel
theorem dL_law_846 : decode cL_law 846 = .ok (.aload_n 0, 1) := by decide +kernel
theorem dL_law_847 : decode cL_law 847 = .ok (.iload_n 3, 1) := by decide +kernel
theorem dL_law_848 : decode cL_law 848 = .ok (.iconst 1, 1) := by decide +kernel
theorem dL_law_849 : decode cL_law 849 = .ok (.iadd, 1) := by decide +kernel
theorem dL_law_850 : decode cL_law 850 = .ok (.iaload, 1) := by decide +kernel
theorem dL_law_851 : decode cL_law 851 = .ok (.aload_n 0, 1) := by decide +kernel
theorem dL_law_852 : decode cL_law 852 = .ok (.iload_n 3, 1) := by decide +kernel
theorem dL_law_853 : decode cL_law 853 = .ok (.iconst 2, 1) := by decide +kernel
theorem dL_law_854 : decode cL_law 854 = .ok (.iadd, 1) := by decide +kernel
theorem dL_law_855 : decode cL_law 855 = .ok (.iaload, 1) := by decide +kernel
theorem dL_law_856 : decode cL_law 856 = .ok (.invokevirtual 96, 3) := by decide +kernel
theorem dL_law_859 : decode cL_law 859 = .ok (.if_icmp .eq 603, 3) := by decide +kernel
theorem dL_law_862 : decode cL_law 862 = .ok (.iconst 0, 1) := by decide +kernel
theorem dL_law_863 : decode cL_law 863 = .ok (.ireturn, 1) := by decide +kernel
theorem dL_law_864 : decode cL_law 864 = .ok (.aload_n 1, 1) := by decide +kernel
theorem dL_law_865 : decode cL_law 865 = .ok (.aload_n 0, 1) := by decide +kernel
theorem dL_law_866 : decode cL_law 866 = .ok (.iload_n 3, 1) := by decide +kernel
theorem dL_law_867 : decode cL_law 867 = .ok (.iconst 1, 1) := by decide +kernel
theorem dL_law_868 : decode cL_law 868 = .ok (.iadd, 1) := by decide +kernel
theorem dL_law_869 : decode cL_law 869 = .ok (.iaload, 1) := by decide +kernel
theorem dL_law_870 : decode cL_law 870 = .ok (.invokevirtual 97, 3) := by decide +kernel
theorem dL_law_873 : decode cL_law 873 = .ok (.aload_n 2, 1) := by decide +kernel
theorem dL_law_874 : decode cL_law 874 = .ok (.aload_n 0, 1) := by decide +kernel
theorem dL_law_875 : decode cL_law 875 = .ok (.iload_n 3, 1) := by decide +kernel
theorem dL_law_876 : decode cL_law 876 = .ok (.iconst 1, 1) := by decide +kernel
theorem dL_law_877 : decode cL_law 877 = .ok (.iadd, 1) := by decide +kernel
theorem dL_law_878 : decode cL_law 878 = .ok (.iaload, 1) := by decide +kernel
theorem dL_law_879 : decode cL_law 879 = .ok (.invokevirtual 100, 3) := by decide +kernel
theorem dL_law_882 : decode cL_law 882 = .ok (.if_icmp .eq 580, 3) := by decide +kernel
theorem dL_law_885 : decode cL_law 885 = .ok (.iconst 0, 1) := by decide +kernel
theorem dL_law_886 : decode cL_law 886 = .ok (.ireturn, 1) := by decide +kernel
theorem dL_law_887 : decode cL_law 887 = .ok (.aload_n 1, 1) := by decide +kernel
theorem dL_law_888 : decode cL_law 888 = .ok (.invokevirtual 101, 3) := by decide +kernel
theorem dL_law_891 : decode cL_law 891 = .ok (.aload_n 2, 1) := by decide +kernel
theorem dL_law_892 : decode cL_law 892 = .ok (.invokevirtual 104, 3) := by decide +kernel
theorem dL_law_895 : decode cL_law 895 = .ok (.if_icmp .eq 567, 3) := by decide +kernel
theorem dL_law_898 : decode cL_law 898 = .ok (.iconst 0, 1) := by decide +kernel
theorem dL_law_899 : decode cL_law 899 = .ok (.ireturn, 1) := by decide +kernel
theorem dL_law_900 : decode cL_law 900 = .ok (.aload_n 1, 1) := by decide +kernel
theorem dL_law_901 : decode cL_law 901 = .ok (.aload_n 0, 1) := by decide +kernel
theorem dL_law_902 : decode cL_law 902 = .ok (.iload_n 3, 1) := by decide +kernel
theorem dL_law_903 : decode cL_law 903 = .ok (.iconst 1, 1) := by decide +kernel
theorem dL_law_904 : decode cL_law 904 = .ok (.iadd, 1) := by decide +kernel
theorem dL_law_905 : decode cL_law 905 = .ok (.iaload, 1) := by decide +kernel
theorem dL_law_906 : decode cL_law 906 = .ok (.invokevirtual 105, 3) := by decide +kernel
theorem dL_law_909 : decode cL_law 909 = .ok (.aload_n 2, 1) := by decide +kernel
theorem dL_law_910 : decode cL_law 910 = .ok (.aload_n 0, 1) := by decide +kernel
theorem dL_law_911 : decode cL_law 911 = .ok (.iload_n 3, 1) := by decide +kernel
theorem dL_law_912 : decode cL_law 912 = .ok (.iconst 1, 1) := by decide +kernel
theorem dL_law_913 : decode cL_law 913 = .ok (.iadd, 1) := by decide +kernel
theorem dL_law_914 : decode cL_law 914 = .ok (.iaload, 1) := by decide +kernel
theorem dL_law_915 : decode cL_law 915 = .ok (.invokevirtual 108, 3) := by decide +kernel
theorem dL_law_918 : decode cL_law 918 = .ok (.if_icmp .eq 544, 3) := by decide +kernel
theorem dL_law_921 : decode cL_law 921 = .ok (.iconst 0, 1) := by decide +kernel
theorem dL_law_922 : decode cL_law 922 = .ok (.ireturn, 1) := by decide +kernel
theorem dL_law_923 : decode cL_law 923 = .ok (.aload_n 1, 1) := by decide +kernel
theorem dL_law_924 : decode cL_law 924 = .ok (.aload_n 0, 1) := by decide +kernel
theorem dL_law_925 : decode cL_law 925 = .ok (.iload_n 3, 1) := by decide +kernel
theorem dL_law_926 : decode cL_law 926 = .ok (.iconst 1, 1) := by decide +kernel
theorem dL_law_927 : decode cL_law 927 = .ok (.iadd, 1) := by decide +kernel
theorem dL_law_928 : decode cL_law 928 = .ok (.iaload, 1) := by decide +kernel
theorem dL_law_929 : decode cL_law 929 = .ok (.aload_n 0, 1) := by decide +kernel
theorem dL_law_930 : decode cL_law 930 = .ok (.iload_n 3, 1) := by decide +kernel
theorem dL_law_931 : decode cL_law 931 = .ok (.iconst 2, 1) := by decide +kernel
theorem dL_law_932 : decode cL_law 932 = .ok (.iadd, 1) := by decide +kernel
theorem dL_law_933 : decode cL_law 933 = .ok (.iaload, 1) := by decide +kernel
theorem dL_law_934 : decode cL_law 934 = .ok (.aload_n 0, 1) := by decide +kernel
theorem dL_law_935 : decode cL_law 935 = .ok (.iload_n 3, 1) := by decide +kernel
theorem dL_law_936 : decode cL_law 936 = .ok (.iconst 3, 1) := by decide +kernel
theorem dL_law_937 : decode cL_law 937 = .ok (.iadd, 1) := by decide +kernel
theorem dL_law_938 : decode cL_law 938 = .ok (.iaload, 1) := by decide +kernel
theorem dL_law_939 : decode cL_law 939 = .ok (.aload_n 0, 1) := by decide +kernel
theorem dL_law_940 : decode cL_law 940 = .ok (.iload_n 3, 1) := by decide +kernel
theorem dL_law_941 : decode cL_law 941 = .ok (.iconst 4, 1) := by decide +kernel
theorem dL_law_942 : decode cL_law 942 = .ok (.iadd, 1) := by decide +kernel
theorem dL_law_943 : decode cL_law 943 = .ok (.iaload, 1) := by decide +kernel
theorem dL_law_944 : decode cL_law 944 = .ok (.invokevirtual 109, 3) := by decide +kernel
theorem dL_law_947 : decode cL_law 947 = .ok (.aload_n 2, 1) := by decide +kernel
theorem dL_law_948 : decode cL_law 948 = .ok (.aload_n 0, 1) := by decide +kernel
theorem dL_law_949 : decode cL_law 949 = .ok (.iload_n 3, 1) := by decide +kernel
theorem dL_law_950 : decode cL_law 950 = .ok (.iconst 1, 1) := by decide +kernel
theorem dL_law_951 : decode cL_law 951 = .ok (.iadd, 1) := by decide +kernel
theorem dL_law_952 : decode cL_law 952 = .ok (.iaload, 1) := by decide +kernel
theorem dL_law_953 : decode cL_law 953 = .ok (.aload_n 0, 1) := by decide +kernel
theorem dL_law_954 : decode cL_law 954 = .ok (.iload_n 3, 1) := by decide +kernel
theorem dL_law_955 : decode cL_law 955 = .ok (.iconst 2, 1) := by decide +kernel
theorem dL_law_956 : decode cL_law 956 = .ok (.iadd, 1) := by decide +kernel
theorem dL_law_957 : decode cL_law 957 = .ok (.iaload, 1) := by decide +kernel
theorem dL_law_958 : decode cL_law 958 = .ok (.aload_n 0, 1) := by decide +kernel
theorem dL_law_959 : decode cL_law 959 = .ok (.iload_n 3, 1) := by decide +kernel
theorem dL_law_960 : decode cL_law 960 = .ok (.iconst 3, 1) := by decide +kernel
theorem dL_law_961 : decode cL_law 961 = .ok (.iadd, 1) := by decide +kernel
theorem dL_law_962 : decode cL_law 962 = .ok (.iaload, 1) := by decide +kernel
theorem dL_law_963 : decode cL_law 963 = .ok (.aload_n 0, 1) := by decide +kernel
theorem dL_law_964 : decode cL_law 964 = .ok (.iload_n 3, 1) := by decide +kernel
theorem dL_law_965 : decode cL_law 965 = .ok (.iconst 4, 1) := by decide +kernel
theorem dL_law_966 : decode cL_law 966 = .ok (.iadd, 1) := by decide +kernel
theorem dL_law_967 : decode cL_law 967 = .ok (.iaload, 1) := by decide +kernel
theorem dL_law_968 : decode cL_law 968 = .ok (.invokevirtual 113, 3) := by decide +kernel
theorem dL_law_971 : decode cL_law 971 = .ok (.if_icmp .eq 491, 3) := by decide +kernel
theorem dL_law_974 : decode cL_law 974 = .ok (.iconst 0, 1) := by decide +kernel
theorem dL_law_975 : decode cL_law 975 = .ok (.ireturn, 1) := by decide +kernel
theorem dL_law_976 : decode cL_law 976 = .ok (.aload_n 1, 1) := by decide +kernel
theorem dL_law_977 : decode cL_law 977 = .ok (.aload_n 0, 1) := by decide +kernel
theorem dL_law_978 : decode cL_law 978 = .ok (.iload_n 3, 1) := by decide +kernel
theorem dL_law_979 : decode cL_law 979 = .ok (.iconst 1, 1) := by decide +kernel
theorem dL_law_980 : decode cL_law 980 = .ok (.iadd, 1) := by decide +kernel
theorem dL_law_981 : decode cL_law 981 = .ok (.iaload, 1) := by decide +kernel
theorem dL_law_982 : decode cL_law 982 = .ok (.invokevirtual 114, 3) := by decide +kernel
theorem dL_law_985 : decode cL_law 985 = .ok (.aload_n 2, 1) := by decide +kernel
theorem dL_law_986 : decode cL_law 986 = .ok (.aload_n 0, 1) := by decide +kernel
theorem dL_law_987 : decode cL_law 987 = .ok (.iload_n 3, 1) := by decide +kernel
theorem dL_law_988 : decode cL_law 988 = .ok (.iconst 1, 1) := by decide +kernel
theorem dL_law_989 : decode cL_law 989 = .ok (.iadd, 1) := by decide +kernel
theorem dL_law_990 : decode cL_law 990 = .ok (.iaload, 1) := by decide +kernel
theorem dL_law_991 : decode cL_law 991 = .ok (.invokevirtual 117, 3) := by decide +kernel
theorem dL_law_994 : decode cL_law 994 = .ok (.if_icmp .eq 468, 3) := by decide +kernel
theorem dL_law_997 : decode cL_law 997 = .ok (.iconst 0, 1) := by decide +kernel
theorem dL_law_998 : decode cL_law 998 = .ok (.ireturn, 1) := by decide +kernel
theorem dL_law_999 : decode cL_law 999 = .ok (.aload_n 1, 1) := by decide +kernel
theorem dL_law_1000 : decode cL_law 1000 = .ok (.aload_n 0, 1) := by decide +kernel
theorem dL_law_1001 : decode cL_law 1001 = .ok (.iload_n 3, 1) := by decide +kernel
theorem dL_law_1002 : decode cL_law 1002 = .ok (.iconst 1, 1) := by decide +kernel
theorem dL_law_1003 : decode cL_law 1003 = .ok (.iadd, 1) := by decide +kernel
theorem dL_law_1004 : decode cL_law 1004 = .ok (.iaload, 1) := by decide +kernel
theorem dL_law_1005 : decode cL_law 1005 = .ok (.invokevirtual 118, 3) := by decide +kernel
theorem dL_law_1008 : decode cL_law 1008 = .ok (.aload_n 2, 1) := by decide +kernel
theorem dL_law_1009 : decode cL_law 1009 = .ok (.aload_n 0, 1) := by decide +kernel
theorem dL_law_1010 : decode cL_law 1010 = .ok (.iload_n 3, 1) := by decide +kernel
theorem dL_law_1011 : decode cL_law 1011 = .ok (.iconst 1, 1) := by decide +kernel
theorem dL_law_1012 : decode cL_law 1012 = .ok (.iadd, 1) := by decide +kernel
theorem dL_law_1013 : decode cL_law 1013 = .ok (.iaload, 1) := by decide +kernel
theorem dL_law_1014 : decode cL_law 1014 = .ok (.invokevirtual 121, 3) := by decide +kernel
theorem dL_law_1017 : decode cL_law 1017 = .ok (.if_icmp .eq 445, 3) := by decide +kernel
theorem dL_law_1020 : decode cL_law 1020 = .ok (.iconst 0, 1) := by decide +kernel
theorem dL_law_1021 : decode cL_law 1021 = .ok (.ireturn, 1) := by decide +kernel
theorem dL_law_1022 : decode cL_law 1022 = .ok (.aload_n 1, 1) := by decide +kernel
theorem dL_law_1023 : decode cL_law 1023 = .ok (.aload_n 0, 1) := by decide +kernel
theorem dL_law_1024 : decode cL_law 1024 = .ok (.iload_n 3, 1) := by decide +kernel
theorem dL_law_1025 : decode cL_law 1025 = .ok (.iconst 1, 1) := by decide +kernel
theorem dL_law_1026 : decode cL_law 1026 = .ok (.iadd, 1) := by decide +kernel
theorem dL_law_1027 : decode cL_law 1027 = .ok (.iaload, 1) := by decide +kernel
theorem dL_law_1028 : decode cL_law 1028 = .ok (.invokevirtual 122, 3) := by decide +kernel
theorem dL_law_1031 : decode cL_law 1031 = .ok (.aload_n 2, 1) := by decide +kernel
theorem dL_law_1032 : decode cL_law 1032 = .ok (.aload_n 0, 1) := by decide +kernel
theorem dL_law_1033 : decode cL_law 1033 = .ok (.iload_n 3, 1) := by decide +kernel
theorem dL_law_1034 : decode cL_law 1034 = .ok (.iconst 1, 1) := by decide +kernel
theorem dL_law_1035 : decode cL_law 1035 = .ok (.iadd, 1) := by decide +kernel
theorem dL_law_1036 : decode cL_law 1036 = .ok (.iaload, 1) := by decide +kernel
theorem dL_law_1037 : decode cL_law 1037 = .ok (.invokevirtual 125, 3) := by decide +kernel
theorem dL_law_1040 : decode cL_law 1040 = .ok (.if_icmp .eq 422, 3) := by decide +kernel
theorem dL_law_1043 : decode cL_law 1043 = .ok (.iconst 0, 1) := by decide +kernel
theorem dL_law_1044 : decode cL_law 1044 = .ok (.ireturn, 1) := by decide +kernel
theorem dL_law_1045 : decode cL_law 1045 = .ok (.aload_n 1, 1) := by decide +kernel
theorem dL_law_1046 : decode cL_law 1046 = .ok (.invokevirtual 126, 3) := by decide +kernel
theorem dL_law_1049 : decode cL_law 1049 = .ok (.aload_n 2, 1) := by decide +kernel
theorem dL_law_1050 : decode cL_law 1050 = .ok (.invokevirtual 129, 3) := by decide +kernel
theorem dL_law_1053 : decode cL_law 1053 = .ok (.if_icmp .eq 409, 3) := by decide +kernel
theorem dL_law_1056 : decode cL_law 1056 = .ok (.iconst 0, 1) := by decide +kernel
theorem dL_law_1057 : decode cL_law 1057 = .ok (.ireturn, 1) := by decide +kernel
theorem dL_law_1058 : decode cL_law 1058 = .ok (.aload_n 1, 1) := by decide +kernel
theorem dL_law_1059 : decode cL_law 1059 = .ok (.invokevirtual 130, 3) := by decide +kernel
theorem dL_law_1062 : decode cL_law 1062 = .ok (.aload_n 2, 1) := by decide +kernel
theorem dL_law_1063 : decode cL_law 1063 = .ok (.invokevirtual 133, 3) := by decide +kernel
theorem dL_law_1066 : decode cL_law 1066 = .ok (.if_icmp .eq 396, 3) := by decide +kernel
theorem dL_law_1069 : decode cL_law 1069 = .ok (.iconst 0, 1) := by decide +kernel
theorem dL_law_1070 : decode cL_law 1070 = .ok (.ireturn, 1) := by decide +kernel
theorem dL_law_1071 : decode cL_law 1071 = .ok (.aload_n 1, 1) := by decide +kernel
theorem dL_law_1072 : decode cL_law 1072 = .ok (.aload_n 0, 1) := by decide +kernel
theorem dL_law_1073 : decode cL_law 1073 = .ok (.iload_n 3, 1) := by decide +kernel
theorem dL_law_1074 : decode cL_law 1074 = .ok (.iconst 1, 1) := by decide +kernel
theorem dL_law_1075 : decode cL_law 1075 = .ok (.iadd, 1) := by decide +kernel
theorem dL_law_1076 : decode cL_law 1076 = .ok (.iaload, 1) := by decide +kernel
theorem dL_law_1077 : decode cL_law 1077 = .ok (.invokevirtual 134, 3) := by decide +kernel
theorem dL_law_1080 : decode cL_law 1080 = .ok (.aload_n 2, 1) := by decide +kernel
theorem dL_law_1081 : decode cL_law 1081 = .ok (.aload_n 0, 1) := by decide +kernel
theorem dL_law_1082 : decode cL_law 1082 = .ok (.iload_n 3, 1) := by decide +kernel
theorem dL_law_1083 : decode cL_law 1083 = .ok (.iconst 1, 1) := by decide +kernel
theorem dL_law_1084 : decode cL_law 1084 = .ok (.iadd, 1) := by decide +kernel
theorem dL_law_1085 : decode cL_law 1085 = .ok (.iaload, 1) := by decide +kernel
theorem dL_law_1086 : decode cL_law 1086 = .ok (.invokevirtual 137, 3) := by decide +kernel
theorem dL_law_1089 : decode cL_law 1089 = .ok (.if_icmp .eq 373, 3) := by decide +kernel
theorem dL_law_1092 : decode cL_law 1092 = .ok (.iconst 0, 1) := by decide +kernel
theorem dL_law_1093 : decode cL_law 1093 = .ok (.ireturn, 1) := by decide +kernel
theorem dL_law_1094 : decode cL_law 1094 = .ok (.aload_n 1, 1) := by decide +kernel
theorem dL_law_1095 : decode cL_law 1095 = .ok (.aload_n 0, 1) := by decide +kernel
theorem dL_law_1096 : decode cL_law 1096 = .ok (.iload_n 3, 1) := by decide +kernel
theorem dL_law_1097 : decode cL_law 1097 = .ok (.iconst 1, 1) := by decide +kernel
theorem dL_law_1098 : decode cL_law 1098 = .ok (.iadd, 1) := by decide +kernel
theorem dL_law_1099 : decode cL_law 1099 = .ok (.iaload, 1) := by decide +kernel
theorem dL_law_1100 : decode cL_law 1100 = .ok (.aload_n 0, 1) := by decide +kernel
theorem dL_law_1101 : decode cL_law 1101 = .ok (.iload_n 3, 1) := by decide +kernel
theorem dL_law_1102 : decode cL_law 1102 = .ok (.iconst 2, 1) := by decide +kernel
theorem dL_law_1103 : decode cL_law 1103 = .ok (.iadd, 1) := by decide +kernel
theorem dL_law_1104 : decode cL_law 1104 = .ok (.iaload, 1) := by decide +kernel
theorem dL_law_1105 : decode cL_law 1105 = .ok (.aload_n 0, 1) := by decide +kernel
theorem dL_law_1106 : decode cL_law 1106 = .ok (.iload_n 3, 1) := by decide +kernel
theorem dL_law_1107 : decode cL_law 1107 = .ok (.iconst 3, 1) := by decide +kernel
theorem dL_law_1108 : decode cL_law 1108 = .ok (.iadd, 1) := by decide +kernel
theorem dL_law_1109 : decode cL_law 1109 = .ok (.iaload, 1) := by decide +kernel
theorem dL_law_1110 : decode cL_law 1110 = .ok (.invokevirtual 138, 3) := by decide +kernel
theorem dL_law_1113 : decode cL_law 1113 = .ok (.aload_n 2, 1) := by decide +kernel
theorem dL_law_1114 : decode cL_law 1114 = .ok (.aload_n 0, 1) := by decide +kernel
theorem dL_law_1115 : decode cL_law 1115 = .ok (.iload_n 3, 1) := by decide +kernel
theorem dL_law_1116 : decode cL_law 1116 = .ok (.iconst 1, 1) := by decide +kernel
theorem dL_law_1117 : decode cL_law 1117 = .ok (.iadd, 1) := by decide +kernel
theorem dL_law_1118 : decode cL_law 1118 = .ok (.iaload, 1) := by decide +kernel
theorem dL_law_1119 : decode cL_law 1119 = .ok (.aload_n 0, 1) := by decide +kernel
theorem dL_law_1120 : decode cL_law 1120 = .ok (.iload_n 3, 1) := by decide +kernel
theorem dL_law_1121 : decode cL_law 1121 = .ok (.iconst 2, 1) := by decide +kernel
theorem dL_law_1122 : decode cL_law 1122 = .ok (.iadd, 1) := by decide +kernel
theorem dL_law_1123 : decode cL_law 1123 = .ok (.iaload, 1) := by decide +kernel
theorem dL_law_1124 : decode cL_law 1124 = .ok (.aload_n 0, 1) := by decide +kernel
theorem dL_law_1125 : decode cL_law 1125 = .ok (.iload_n 3, 1) := by decide +kernel
theorem dL_law_1126 : decode cL_law 1126 = .ok (.iconst 3, 1) := by decide +kernel
theorem dL_law_1127 : decode cL_law 1127 = .ok (.iadd, 1) := by decide +kernel
theorem dL_law_1128 : decode cL_law 1128 = .ok (.iaload, 1) := by decide +kernel
theorem dL_law_1129 : decode cL_law 1129 = .ok (.invokevirtual 141, 3) := by decide +kernel
theorem dL_law_1132 : decode cL_law 1132 = .ok (.if_icmp .eq 330, 3) := by decide +kernel
theorem dL_law_1135 : decode cL_law 1135 = .ok (.iconst 0, 1) := by decide +kernel
theorem dL_law_1136 : decode cL_law 1136 = .ok (.ireturn, 1) := by decide +kernel
theorem dL_law_1137 : decode cL_law 1137 = .ok (.aload_n 1, 1) := by decide +kernel
theorem dL_law_1138 : decode cL_law 1138 = .ok (.aload_n 0, 1) := by decide +kernel
theorem dL_law_1139 : decode cL_law 1139 = .ok (.iload_n 3, 1) := by decide +kernel
theorem dL_law_1140 : decode cL_law 1140 = .ok (.iconst 1, 1) := by decide +kernel
theorem dL_law_1141 : decode cL_law 1141 = .ok (.iadd, 1) := by decide +kernel
theorem dL_law_1142 : decode cL_law 1142 = .ok (.iaload, 1) := by decide +kernel
theorem dL_law_1143 : decode cL_law 1143 = .ok (.invokevirtual 142, 3) := by decide +kernel
theorem dL_law_1146 : decode cL_law 1146 = .ok (.aload_n 2, 1) := by decide +kernel
theorem dL_law_1147 : decode cL_law 1147 = .ok (.aload_n 0, 1) := by decide +kernel
theorem dL_law_1148 : decode cL_law 1148 = .ok (.iload_n 3, 1) := by decide +kernel
theorem dL_law_1149 : decode cL_law 1149 = .ok (.iconst 1, 1) := by decide +kernel
theorem dL_law_1150 : decode cL_law 1150 = .ok (.iadd, 1) := by decide +kernel
theorem dL_law_1151 : decode cL_law 1151 = .ok (.iaload, 1) := by decide +kernel
theorem dL_law_1152 : decode cL_law 1152 = .ok (.invokevirtual 145, 3) := by decide +kernel
theorem dL_law_1155 : decode cL_law 1155 = .ok (.if_icmp .eq 307, 3) := by decide +kernel
theorem dL_law_1158 : decode cL_law 1158 = .ok (.iconst 0, 1) := by decide +kernel
theorem dL_law_1159 : decode cL_law 1159 = .ok (.ireturn, 1) := by decide +kernel
theorem dL_law_1160 : decode cL_law 1160 = .ok (.aload_n 1, 1) := by decide +kernel
theorem dL_law_1161 : decode cL_law 1161 = .ok (.aload_n 0, 1) := by decide +kernel
theorem dL_law_1162 : decode cL_law 1162 = .ok (.iload_n 3, 1) := by decide +kernel
theorem dL_law_1163 : decode cL_law 1163 = .ok (.iconst 1, 1) := by decide +kernel
theorem dL_law_1164 : decode cL_law 1164 = .ok (.iadd, 1) := by decide +kernel
theorem dL_law_1165 : decode cL_law 1165 = .ok (.iaload, 1) := by decide +kernel
theorem dL_law_1166 : decode cL_law 1166 = .ok (.aload_n 0, 1) := by decide +kernel
theorem dL_law_1167 : decode cL_law 1167 = .ok (.iload_n 3, 1) := by decide +kernel
theorem dL_law_1168 : decode cL_law 1168 = .ok (.iconst 2, 1) := by decide +kernel
theorem dL_law_1169 : decode cL_law 1169 = .ok (.iadd, 1) := by decide +kernel
theorem dL_law_1170 : decode cL_law 1170 = .ok (.iaload, 1) := by decide +kernel
theorem dL_law_1171 : decode cL_law 1171 = .ok (.invokevirtual 146, 3) := by decide +kernel
theorem dL_law_1174 : decode cL_law 1174 = .ok (.aload_n 2, 1) := by decide +kernel
theorem dL_law_1175 : decode cL_law 1175 = .ok (.aload_n 0, 1) := by decide +kernel
theorem dL_law_1176 : decode cL_law 1176 = .ok (.iload_n 3, 1) := by decide +kernel
theorem dL_law_1177 : decode cL_law 1177 = .ok (.iconst 1, 1) := by decide +kernel
theorem dL_law_1178 : decode cL_law 1178 = .ok (.iadd, 1) := by decide +kernel
theorem dL_law_1179 : decode cL_law 1179 = .ok (.iaload, 1) := by decide +kernel
theorem dL_law_1180 : decode cL_law 1180 = .ok (.aload_n 0, 1) := by decide +kernel
theorem dL_law_1181 : decode cL_law 1181 = .ok (.iload_n 3, 1) := by decide +kernel
theorem dL_law_1182 : decode cL_law 1182 = .ok (.iconst 2, 1) := by decide +kernel
theorem dL_law_1183 : decode cL_law 1183 = .ok (.iadd, 1) := by decide +kernel
theorem dL_law_1184 : decode cL_law 1184 = .ok (.iaload, 1) := by decide +kernel
theorem dL_law_1185 : decode cL_law 1185 = .ok (.invokevirtual 149, 3) := by decide +kernel
theorem dL_law_1188 : decode cL_law 1188 = .ok (.if_icmp .eq 274, 3) := by decide +kernel
theorem dL_law_1191 : decode cL_law 1191 = .ok (.iconst 0, 1) := by decide +kernel
theorem dL_law_1192 : decode cL_law 1192 = .ok (.ireturn, 1) := by decide +kernel
theorem dL_law_1193 : decode cL_law 1193 = .ok (.aload_n 1, 1) := by decide +kernel
theorem dL_law_1194 : decode cL_law 1194 = .ok (.aload_n 0, 1) := by decide +kernel
theorem dL_law_1195 : decode cL_law 1195 = .ok (.iload_n 3, 1) := by decide +kernel
theorem dL_law_1196 : decode cL_law 1196 = .ok (.iconst 1, 1) := by decide +kernel
theorem dL_law_1197 : decode cL_law 1197 = .ok (.iadd, 1) := by decide +kernel
theorem dL_law_1198 : decode cL_law 1198 = .ok (.iaload, 1) := by decide +kernel
theorem dL_law_1199 : decode cL_law 1199 = .ok (.aload_n 0, 1) := by decide +kernel
theorem dL_law_1200 : decode cL_law 1200 = .ok (.iload_n 3, 1) := by decide +kernel
theorem dL_law_1201 : decode cL_law 1201 = .ok (.iconst 2, 1) := by decide +kernel
theorem dL_law_1202 : decode cL_law 1202 = .ok (.iadd, 1) := by decide +kernel
theorem dL_law_1203 : decode cL_law 1203 = .ok (.iaload, 1) := by decide +kernel
theorem dL_law_1204 : decode cL_law 1204 = .ok (.aload_n 0, 1) := by decide +kernel
theorem dL_law_1205 : decode cL_law 1205 = .ok (.iload_n 3, 1) := by decide +kernel
theorem dL_law_1206 : decode cL_law 1206 = .ok (.iconst 3, 1) := by decide +kernel
theorem dL_law_1207 : decode cL_law 1207 = .ok (.iadd, 1) := by decide +kernel
theorem dL_law_1208 : decode cL_law 1208 = .ok (.iaload, 1) := by decide +kernel
theorem dL_law_1209 : decode cL_law 1209 = .ok (.invokevirtual 150, 3) := by decide +kernel
theorem dL_law_1212 : decode cL_law 1212 = .ok (.aload_n 2, 1) := by decide +kernel
theorem dL_law_1213 : decode cL_law 1213 = .ok (.aload_n 0, 1) := by decide +kernel
theorem dL_law_1214 : decode cL_law 1214 = .ok (.iload_n 3, 1) := by decide +kernel
theorem dL_law_1215 : decode cL_law 1215 = .ok (.iconst 1, 1) := by decide +kernel
theorem dL_law_1216 : decode cL_law 1216 = .ok (.iadd, 1) := by decide +kernel
theorem dL_law_1217 : decode cL_law 1217 = .ok (.iaload, 1) := by decide +kernel
theorem dL_law_1218 : decode cL_law 1218 = .ok (.aload_n 0, 1) := by decide +kernel
theorem dL_law_1219 : decode cL_law 1219 = .ok (.iload_n 3, 1) := by decide +kernel
theorem dL_law_1220 : decode cL_law 1220 = .ok (.iconst 2, 1) := by decide +kernel
theorem dL_law_1221 : decode cL_law 1221 = .ok (.iadd, 1) := by decide +kernel
theorem dL_law_1222 : decode cL_law 1222 = .ok (.iaload, 1) := by decide +kernel
theorem dL_law_1223 : decode cL_law 1223 = .ok (.aload_n 0, 1) := by decide +kernel
theorem dL_law_1224 : decode cL_law 1224 = .ok (.iload_n 3, 1) := by decide +kernel
theorem dL_law_1225 : decode cL_law 1225 = .ok (.iconst 3, 1) := by decide +kernel
theorem dL_law_1226 : decode cL_law 1226 = .ok (.iadd, 1) := by decide +kernel
theorem dL_law_1227 : decode cL_law 1227 = .ok (.iaload, 1) := by decide +kernel
theorem dL_law_1228 : decode cL_law 1228 = .ok (.invokevirtual 153, 3) := by decide +kernel
theorem dL_law_1231 : decode cL_law 1231 = .ok (.if_icmp .eq 231, 3) := by decide +kernel
theorem dL_law_1234 : decode cL_law 1234 = .ok (.iconst 0, 1) := by decide +kernel
theorem dL_law_1235 : decode cL_law 1235 = .ok (.ireturn, 1) := by decide +kernel
theorem dL_law_1236 : decode cL_law 1236 = .ok (.aload_n 1, 1) := by decide +kernel
theorem dL_law_1237 : decode cL_law 1237 = .ok (.aload_n 0, 1) := by decide +kernel
theorem dL_law_1238 : decode cL_law 1238 = .ok (.iload_n 3, 1) := by decide +kernel
theorem dL_law_1239 : decode cL_law 1239 = .ok (.iconst 1, 1) := by decide +kernel
theorem dL_law_1240 : decode cL_law 1240 = .ok (.iadd, 1) := by decide +kernel
theorem dL_law_1241 : decode cL_law 1241 = .ok (.iaload, 1) := by decide +kernel
theorem dL_law_1242 : decode cL_law 1242 = .ok (.aload_n 0, 1) := by decide +kernel
theorem dL_law_1243 : decode cL_law 1243 = .ok (.iload_n 3, 1) := by decide +kernel
theorem dL_law_1244 : decode cL_law 1244 = .ok (.iconst 2, 1) := by decide +kernel
theorem dL_law_1245 : decode cL_law 1245 = .ok (.iadd, 1) := by decide +kernel
theorem dL_law_1246 : decode cL_law 1246 = .ok (.iaload, 1) := by decide +kernel
theorem dL_law_1247 : decode cL_law 1247 = .ok (.aload_n 0, 1) := by decide +kernel
theorem dL_law_1248 : decode cL_law 1248 = .ok (.iload_n 3, 1) := by decide +kernel
theorem dL_law_1249 : decode cL_law 1249 = .ok (.iconst 3, 1) := by decide +kernel
theorem dL_law_1250 : decode cL_law 1250 = .ok (.iadd, 1) := by decide +kernel
theorem dL_law_1251 : decode cL_law 1251 = .ok (.iaload, 1) := by decide +kernel
theorem dL_law_1252 : decode cL_law 1252 = .ok (.i2l, 1) := by decide +kernel
theorem dL_law_1253 : decode cL_law 1253 = .ok (.bipush 32, 2) := by decide +kernel
theorem dL_law_1255 : decode cL_law 1255 = .ok (.lshl, 1) := by decide +kernel
theorem dL_law_1256 : decode cL_law 1256 = .ok (.aload_n 0, 1) := by decide +kernel
theorem dL_law_1257 : decode cL_law 1257 = .ok (.iload_n 3, 1) := by decide +kernel
theorem dL_law_1258 : decode cL_law 1258 = .ok (.iconst 4, 1) := by decide +kernel
theorem dL_law_1259 : decode cL_law 1259 = .ok (.iadd, 1) := by decide +kernel
theorem dL_law_1260 : decode cL_law 1260 = .ok (.iaload, 1) := by decide +kernel
theorem dL_law_1261 : decode cL_law 1261 = .ok (.i2l, 1) := by decide +kernel
theorem dL_law_1262 : decode cL_law 1262 = .ok (.ldc2_w 154, 3) := by decide +kernel
theorem dL_law_1265 : decode cL_law 1265 = .ok (.land, 1) := by decide +kernel
theorem dL_law_1266 : decode cL_law 1266 = .ok (.lor, 1) := by decide +kernel
theorem dL_law_1267 : decode cL_law 1267 = .ok (.invokevirtual 156, 3) := by decide +kernel
theorem dL_law_1270 : decode cL_law 1270 = .ok (.aload_n 2, 1) := by decide +kernel
theorem dL_law_1271 : decode cL_law 1271 = .ok (.aload_n 0, 1) := by decide +kernel
theorem dL_law_1272 : decode cL_law 1272 = .ok (.iload_n 3, 1) := by decide +kernel
theorem dL_law_1273 : decode cL_law 1273 = .ok (.iconst 1, 1) := by decide +kernel
theorem dL_law_1274 : decode cL_law 1274 = .ok (.iadd, 1) := by decide +kernel
theorem dL_law_1275 : decode cL_law 1275 = .ok (.iaload, 1) := by decide +kernel
theorem dL_law_1276 : decode cL_law 1276 = .ok (.aload_n 0, 1) := by decide +kernel
theorem dL_law_1277 : decode cL_law 1277 = .ok (.iload_n 3, 1) := by decide +kernel
theorem dL_law_1278 : decode cL_law 1278 = .ok (.iconst 2, 1) := by decide +kernel
theorem dL_law_1279 : decode cL_law 1279 = .ok (.iadd, 1) := by decide +kernel
theorem dL_law_1280 : decode cL_law 1280 = .ok (.iaload, 1) := by decide +kernel
theorem dL_law_1281 : decode cL_law 1281 = .ok (.aload_n 0, 1) := by decide +kernel
theorem dL_law_1282 : decode cL_law 1282 = .ok (.iload_n 3, 1) := by decide +kernel
theorem dL_law_1283 : decode cL_law 1283 = .ok (.iconst 3, 1) := by decide +kernel
theorem dL_law_1284 : decode cL_law 1284 = .ok (.iadd, 1) := by decide +kernel
theorem dL_law_1285 : decode cL_law 1285 = .ok (.iaload, 1) := by decide +kernel
theorem dL_law_1286 : decode cL_law 1286 = .ok (.i2l, 1) := by decide +kernel
theorem dL_law_1287 : decode cL_law 1287 = .ok (.bipush 32, 2) := by decide +kernel
theorem dL_law_1289 : decode cL_law 1289 = .ok (.lshl, 1) := by decide +kernel
theorem dL_law_1290 : decode cL_law 1290 = .ok (.aload_n 0, 1) := by decide +kernel
theorem dL_law_1291 : decode cL_law 1291 = .ok (.iload_n 3, 1) := by decide +kernel
theorem dL_law_1292 : decode cL_law 1292 = .ok (.iconst 4, 1) := by decide +kernel
theorem dL_law_1293 : decode cL_law 1293 = .ok (.iadd, 1) := by decide +kernel
theorem dL_law_1294 : decode cL_law 1294 = .ok (.iaload, 1) := by decide +kernel
theorem dL_law_1295 : decode cL_law 1295 = .ok (.i2l, 1) := by decide +kernel
theorem dL_law_1296 : decode cL_law 1296 = .ok (.ldc2_w 154, 3) := by decide +kernel
theorem dL_law_1299 : decode cL_law 1299 = .ok (.land, 1) := by decide +kernel
theorem dL_law_1300 : decode cL_law 1300 = .ok (.lor, 1) := by decide +kernel
theorem dL_law_1301 : decode cL_law 1301 = .ok (.invokevirtual 160, 3) := by decide +kernel
theorem dL_law_1304 : decode cL_law 1304 = .ok (.if_icmp .eq 158, 3) := by decide +kernel
theorem dL_law_1307 : decode cL_law 1307 = .ok (.iconst 0, 1) := by decide +kernel
theorem dL_law_1308 : decode cL_law 1308 = .ok (.ireturn, 1) := by decide +kernel
theorem dL_law_1309 : decode cL_law 1309 = .ok (.aload_n 1, 1) := by decide +kernel
theorem dL_law_1310 : decode cL_law 1310 = .ok (.aload_n 0, 1) := by decide +kernel
theorem dL_law_1311 : decode cL_law 1311 = .ok (.iload_n 3, 1) := by decide +kernel
theorem dL_law_1312 : decode cL_law 1312 = .ok (.iconst 1, 1) := by decide +kernel
theorem dL_law_1313 : decode cL_law 1313 = .ok (.iadd, 1) := by decide +kernel
theorem dL_law_1314 : decode cL_law 1314 = .ok (.iaload, 1) := by decide +kernel
theorem dL_law_1315 : decode cL_law 1315 = .ok (.aload_n 0, 1) := by decide +kernel
theorem dL_law_1316 : decode cL_law 1316 = .ok (.iload_n 3, 1) := by decide +kernel
theorem dL_law_1317 : decode cL_law 1317 = .ok (.iconst 2, 1) := by decide +kernel
theorem dL_law_1318 : decode cL_law 1318 = .ok (.iadd, 1) := by decide +kernel
theorem dL_law_1319 : decode cL_law 1319 = .ok (.iaload, 1) := by decide +kernel
theorem dL_law_1320 : decode cL_law 1320 = .ok (.invokevirtual 161, 3) := by decide +kernel
theorem dL_law_1323 : decode cL_law 1323 = .ok (.aload_n 2, 1) := by decide +kernel
theorem dL_law_1324 : decode cL_law 1324 = .ok (.aload_n 0, 1) := by decide +kernel
theorem dL_law_1325 : decode cL_law 1325 = .ok (.iload_n 3, 1) := by decide +kernel
theorem dL_law_1326 : decode cL_law 1326 = .ok (.iconst 1, 1) := by decide +kernel
theorem dL_law_1327 : decode cL_law 1327 = .ok (.iadd, 1) := by decide +kernel
theorem dL_law_1328 : decode cL_law 1328 = .ok (.iaload, 1) := by decide +kernel
theorem dL_law_1329 : decode cL_law 1329 = .ok (.aload_n 0, 1) := by decide +kernel
theorem dL_law_1330 : decode cL_law 1330 = .ok (.iload_n 3, 1) := by decide +kernel
theorem dL_law_1331 : decode cL_law 1331 = .ok (.iconst 2, 1) := by decide +kernel
theorem dL_law_1332 : decode cL_law 1332 = .ok (.iadd, 1) := by decide +kernel
theorem dL_law_1333 : decode cL_law 1333 = .ok (.iaload, 1) := by decide +kernel
theorem dL_law_1334 : decode cL_law 1334 = .ok (.invokevirtual 165, 3) := by decide +kernel
theorem dL_law_1337 : decode cL_law 1337 = .ok (.lcmp, 1) := by decide +kernel
theorem dL_law_1338 : decode cL_law 1338 = .ok (.ifCond .eq 124, 3) := by decide +kernel
theorem dL_law_1341 : decode cL_law 1341 = .ok (.iconst 0, 1) := by decide +kernel
theorem dL_law_1342 : decode cL_law 1342 = .ok (.ireturn, 1) := by decide +kernel
theorem dL_law_1343 : decode cL_law 1343 = .ok (.aload_n 1, 1) := by decide +kernel
theorem dL_law_1344 : decode cL_law 1344 = .ok (.aload_n 0, 1) := by decide +kernel
theorem dL_law_1345 : decode cL_law 1345 = .ok (.iload_n 3, 1) := by decide +kernel
theorem dL_law_1346 : decode cL_law 1346 = .ok (.iconst 1, 1) := by decide +kernel
theorem dL_law_1347 : decode cL_law 1347 = .ok (.iadd, 1) := by decide +kernel
theorem dL_law_1348 : decode cL_law 1348 = .ok (.iaload, 1) := by decide +kernel
theorem dL_law_1349 : decode cL_law 1349 = .ok (.aload_n 0, 1) := by decide +kernel
theorem dL_law_1350 : decode cL_law 1350 = .ok (.iload_n 3, 1) := by decide +kernel
theorem dL_law_1351 : decode cL_law 1351 = .ok (.iconst 2, 1) := by decide +kernel
theorem dL_law_1352 : decode cL_law 1352 = .ok (.iadd, 1) := by decide +kernel
theorem dL_law_1353 : decode cL_law 1353 = .ok (.iaload, 1) := by decide +kernel
theorem dL_law_1354 : decode cL_law 1354 = .ok (.aload_n 0, 1) := by decide +kernel
theorem dL_law_1355 : decode cL_law 1355 = .ok (.iload_n 3, 1) := by decide +kernel
theorem dL_law_1356 : decode cL_law 1356 = .ok (.iconst 3, 1) := by decide +kernel
theorem dL_law_1357 : decode cL_law 1357 = .ok (.iadd, 1) := by decide +kernel
theorem dL_law_1358 : decode cL_law 1358 = .ok (.iaload, 1) := by decide +kernel
theorem dL_law_1359 : decode cL_law 1359 = .ok (.aload_n 0, 1) := by decide +kernel
theorem dL_law_1360 : decode cL_law 1360 = .ok (.iload_n 3, 1) := by decide +kernel
theorem dL_law_1361 : decode cL_law 1361 = .ok (.iconst 4, 1) := by decide +kernel
theorem dL_law_1362 : decode cL_law 1362 = .ok (.iadd, 1) := by decide +kernel
theorem dL_law_1363 : decode cL_law 1363 = .ok (.iaload, 1) := by decide +kernel
theorem dL_law_1364 : decode cL_law 1364 = .ok (.aload_n 0, 1) := by decide +kernel
theorem dL_law_1365 : decode cL_law 1365 = .ok (.iload_n 3, 1) := by decide +kernel
theorem dL_law_1366 : decode cL_law 1366 = .ok (.iconst 5, 1) := by decide +kernel
theorem dL_law_1367 : decode cL_law 1367 = .ok (.iadd, 1) := by decide +kernel
theorem dL_law_1368 : decode cL_law 1368 = .ok (.iaload, 1) := by decide +kernel
theorem dL_law_1369 : decode cL_law 1369 = .ok (.invokevirtual 166, 3) := by decide +kernel
theorem dL_law_1372 : decode cL_law 1372 = .ok (.aload_n 2, 1) := by decide +kernel
theorem dL_law_1373 : decode cL_law 1373 = .ok (.aload_n 0, 1) := by decide +kernel
theorem dL_law_1374 : decode cL_law 1374 = .ok (.iload_n 3, 1) := by decide +kernel
theorem dL_law_1375 : decode cL_law 1375 = .ok (.iconst 1, 1) := by decide +kernel
theorem dL_law_1376 : decode cL_law 1376 = .ok (.iadd, 1) := by decide +kernel
theorem dL_law_1377 : decode cL_law 1377 = .ok (.iaload, 1) := by decide +kernel
theorem dL_law_1378 : decode cL_law 1378 = .ok (.aload_n 0, 1) := by decide +kernel
theorem dL_law_1379 : decode cL_law 1379 = .ok (.iload_n 3, 1) := by decide +kernel
theorem dL_law_1380 : decode cL_law 1380 = .ok (.iconst 2, 1) := by decide +kernel
theorem dL_law_1381 : decode cL_law 1381 = .ok (.iadd, 1) := by decide +kernel
theorem dL_law_1382 : decode cL_law 1382 = .ok (.iaload, 1) := by decide +kernel
theorem dL_law_1383 : decode cL_law 1383 = .ok (.aload_n 0, 1) := by decide +kernel
theorem dL_law_1384 : decode cL_law 1384 = .ok (.iload_n 3, 1) := by decide +kernel
theorem dL_law_1385 : decode cL_law 1385 = .ok (.iconst 3, 1) := by decide +kernel
theorem dL_law_1386 : decode cL_law 1386 = .ok (.iadd, 1) := by decide +kernel
theorem dL_law_1387 : decode cL_law 1387 = .ok (.iaload, 1) := by decide +kernel
theorem dL_law_1388 : decode cL_law 1388 = .ok (.aload_n 0, 1) := by decide +kernel
theorem dL_law_1389 : decode cL_law 1389 = .ok (.iload_n 3, 1) := by decide +kernel
theorem dL_law_1390 : decode cL_law 1390 = .ok (.iconst 4, 1) := by decide +kernel
theorem dL_law_1391 : decode cL_law 1391 = .ok (.iadd, 1) := by decide +kernel
theorem dL_law_1392 : decode cL_law 1392 = .ok (.iaload, 1) := by decide +kernel
theorem dL_law_1393 : decode cL_law 1393 = .ok (.aload_n 0, 1) := by decide +kernel
theorem dL_law_1394 : decode cL_law 1394 = .ok (.iload_n 3, 1) := by decide +kernel
theorem dL_law_1395 : decode cL_law 1395 = .ok (.iconst 5, 1) := by decide +kernel
theorem dL_law_1396 : decode cL_law 1396 = .ok (.iadd, 1) := by decide +kernel
theorem dL_law_1397 : decode cL_law 1397 = .ok (.iaload, 1) := by decide +kernel
theorem dL_law_1398 : decode cL_law 1398 = .ok (.invokevirtual 170, 3) := by decide +kernel
theorem dL_law_1401 : decode cL_law 1401 = .ok (.if_icmp .eq 61, 3) := by decide +kernel
theorem dL_law_1404 : decode cL_law 1404 = .ok (.iconst 0, 1) := by decide +kernel
theorem dL_law_1405 : decode cL_law 1405 = .ok (.ireturn, 1) := by decide +kernel
theorem dL_law_1406 : decode cL_law 1406 = .ok (.aload_n 1, 1) := by decide +kernel
theorem dL_law_1407 : decode cL_law 1407 = .ok (.aload_n 0, 1) := by decide +kernel
theorem dL_law_1408 : decode cL_law 1408 = .ok (.iload_n 3, 1) := by decide +kernel
theorem dL_law_1409 : decode cL_law 1409 = .ok (.iconst 1, 1) := by decide +kernel
theorem dL_law_1410 : decode cL_law 1410 = .ok (.iadd, 1) := by decide +kernel
theorem dL_law_1411 : decode cL_law 1411 = .ok (.iaload, 1) := by decide +kernel
theorem dL_law_1412 : decode cL_law 1412 = .ok (.aload_n 0, 1) := by decide +kernel
theorem dL_law_1413 : decode cL_law 1413 = .ok (.iload_n 3, 1) := by decide +kernel
theorem dL_law_1414 : decode cL_law 1414 = .ok (.iconst 2, 1) := by decide +kernel
theorem dL_law_1415 : decode cL_law 1415 = .ok (.iadd, 1) := by decide +kernel
theorem dL_law_1416 : decode cL_law 1416 = .ok (.iaload, 1) := by decide +kernel
theorem dL_law_1417 : decode cL_law 1417 = .ok (.invokevirtual 171, 3) := by decide +kernel
theorem dL_law_1420 : decode cL_law 1420 = .ok (.aload_n 2, 1) := by decide +kernel
theorem dL_law_1421 : decode cL_law 1421 = .ok (.aload_n 0, 1) := by decide +kernel
theorem dL_law_1422 : decode cL_law 1422 = .ok (.iload_n 3, 1) := by decide +kernel
theorem dL_law_1423 : decode cL_law 1423 = .ok (.iconst 1, 1) := by decide +kernel
theorem dL_law_1424 : decode cL_law 1424 = .ok (.iadd, 1) := by decide +kernel
theorem dL_law_1425 : decode cL_law 1425 = .ok (.iaload, 1) := by decide +kernel
theorem dL_law_1426 : decode cL_law 1426 = .ok (.aload_n 0, 1) := by decide +kernel
theorem dL_law_1427 : decode cL_law 1427 = .ok (.iload_n 3, 1) := by decide +kernel
theorem dL_law_1428 : decode cL_law 1428 = .ok (.iconst 2, 1) := by decide +kernel
theorem dL_law_1429 : decode cL_law 1429 = .ok (.iadd, 1) := by decide +kernel
theorem dL_law_1430 : decode cL_law 1430 = .ok (.iaload, 1) := by decide +kernel
theorem dL_law_1431 : decode cL_law 1431 = .ok (.invokevirtual 174, 3) := by decide +kernel
theorem dL_law_1434 : decode cL_law 1434 = .ok (.if_icmp .eq 28, 3) := by decide +kernel
theorem dL_law_1437 : decode cL_law 1437 = .ok (.iconst 0, 1) := by decide +kernel
theorem dL_law_1438 : decode cL_law 1438 = .ok (.ireturn, 1) := by decide +kernel
theorem dL_law_1439 : decode cL_law 1439 = .ok (.aload_n 1, 1) := by decide +kernel
theorem dL_law_1440 : decode cL_law 1440 = .ok (.aload_n 0, 1) := by decide +kernel
theorem dL_law_1441 : decode cL_law 1441 = .ok (.iload_n 3, 1) := by decide +kernel
theorem dL_law_1442 : decode cL_law 1442 = .ok (.iconst 1, 1) := by decide +kernel
theorem dL_law_1443 : decode cL_law 1443 = .ok (.iadd, 1) := by decide +kernel
theorem dL_law_1444 : decode cL_law 1444 = .ok (.iaload, 1) := by decide +kernel
theorem dL_law_1445 : decode cL_law 1445 = .ok (.invokevirtual 175, 3) := by decide +kernel
theorem dL_law_1448 : decode cL_law 1448 = .ok (.aload_n 2, 1) := by decide +kernel
theorem dL_law_1449 : decode cL_law 1449 = .ok (.aload_n 0, 1) := by decide +kernel
theorem dL_law_1450 : decode cL_law 1450 = .ok (.iload_n 3, 1) := by decide +kernel
theorem dL_law_1451 : decode cL_law 1451 = .ok (.iconst 1, 1) := by decide +kernel
theorem dL_law_1452 : decode cL_law 1452 = .ok (.iadd, 1) := by decide +kernel
theorem dL_law_1453 : decode cL_law 1453 = .ok (.iaload, 1) := by decide +kernel
theorem dL_law_1454 : decode cL_law 1454 = .ok (.invokevirtual 178, 3) := by decide +kernel
theorem dL_law_1457 : decode cL_law 1457 = .ok (.if_icmp .eq 5, 3) := by decide +kernel
theorem dL_law_1460 : decode cL_law 1460 = .ok (.iconst 0, 1) := by decide +kernel
theorem dL_law_1461 : decode cL_law 1461 = .ok (.ireturn, 1) := by decide +kernel
theorem dL_law_1462 : decode cL_law 1462 = .ok (.iinc 3 6, 3) := by decide +kernel
theorem dL_law_1465 : decode cL_law 1465 = .ok (.goto (-1447), 3) := by decide +kernel
theorem dL_law_1468 : decode cL_law 1468 = .ok (.iconst 1, 1) := by decide +kernel
theorem dL_law_1469 : decode cL_law 1469 = .ok (.ireturn, 1) := by decide +kernel
end
section
/-! the abstract layer: one world of named cells (class, reference), a memory of numbers, and rules that run one instruction over it -/
abbrev am_M : Type := (Nat → Nat → Nat → Int32) × (Nat → Nat → Nat → Int64)
def am_ui (μ : am_M) (k r i : Nat) (x : Int32) : am_M := (fun a b j => if a = k ∧ b = r ∧ j = i then x else μ.1 a b j, μ.2)
def am_ul (μ : am_M) (k r i : Nat) (x : Int64) : am_M := (μ.1, fun a b j => if a = k ∧ b = r ∧ j = i then x else μ.2 a b j)
def am_nm {β γ : Type} (v : β) (k : β → γ) : γ := k v
def am_bd {β γ : Type} (o : Option (β × am_M)) (k : β → am_M → Option γ) : Option γ := match o with
  | none => none
  | some x => k x.1 x.2
def am_gd {γ : Type} (i : Int32) (n : Nat) (k : Nat → Option γ) : Option γ := if i < 0 then none else if i.toNatClampNeg < n then k i.toNatClampNeg else none
def am_dv {γ : Type} (y : Int32) (o : Option γ) : Option γ := if y = 0 then none else o
def am_z (x : Int32) (μ : am_M) : Option (Int32 × am_M) := if x = 0 ∨ x = 1 then some (x, μ) else none
def am_rem (x y : Int32) : Int32 := x - x / y * y
/-- a cell: its number, its kind (0 an object, 1 ints, 2 longs, 3 rows of ints, 4 rows of longs), class or size, how many rows, fields or where the rows are -/
abbrev am_Q : Type := Nat × (Nat × (Nat × (Nat × List (Option Nat))))
abbrev am_G : Type := va_G × ((Nat → Nat → Nat) × ((Nat → ClassId) × ((Nat → Prop) × (Nat × (Nat × (Nat → Int32))))))
abbrev am_ad (G : am_G) : Nat → Nat → Nat := G.2.1
abbrev am_cT (G : am_G) : Nat → ClassId := G.2.2.1
abbrev am_A (G : am_G) : Nat → Prop := G.2.2.2.1
abbrev am_b (G : am_G) : Nat := G.2.2.2.2.1
abbrev am_L (G : am_G) : Nat := G.2.2.2.2.2.1
abbrev am_xs (G : am_G) : Nat → Int32 := G.2.2.2.2.2.2
def am_fs (ad : Nat → Nat → Nat) (μ : am_M) (k r : Nat) : Nat → List (Option Nat) → List Value
  | _, [] => []
  | i, f :: fs => (match f with | none => Value.int (μ.1 k r i) | some j => Value.ref (ad j 0)) :: am_fs ad μ k r (i + 1) fs
def am_ce (G : am_G) (q : am_Q) (r : Nat) (μ : am_M) : va_E := match q.2.1 with
  | 0 => .inr (q.2.2.1, am_fs (am_ad G) μ q.1 r 0 q.2.2.2.2)
  | 1 => .inl (am_cT G 1, (q.2.2.1, .inl (μ.1 q.1 r)))
  | 2 => .inl (am_cT G 2, (q.2.2.1, .inr (.inl (μ.2 q.1 r))))
  | t + 3 => .inl (am_cT G (t + 3), (q.2.2.1, .inr (.inr (.inr (.inr (fun i => some (am_ad G ((q.2.2.2.2.headD none).getD 0) i)))))))
def am_ly : List am_Q := [(0, 0, 9, 1, [some 1, some 2, some 3, some 4, some 5, some 6, some 7, some 8, some 9]), (1, 0, 5, 1, [some 16, none, none]), (2, 0, 1, 1, [some 1, some 33, some 34, some 35, some 36, none, none]), (3, 0, 6, 1, [some 48, none, none, some 51, none]), (4, 0, 8, 1, [some 64, some 65, none, some 67, some 68, none]), (5, 0, 7, 1, [some 1, some 4, some 82, some 83, some 84, some 85, none, none, none, none, none, none, none]), (6, 0, 2, 1, [some 1, some 5, some 98, some 99, some 100, none, none, none]), (7, 0, 0, 1, [some 1, some 5, some 114, none, none]), (8, 0, 3, 1, [some 128, none, some 130, none, none, none]), (9, 0, 4, 1, [some 144, some 145, some 146]), (10, 0, 10, 1, [some 160, some 161, some 162, some 163, none, none, none, some 167, none, some 169, some 170, some 171, some 172, some 173, none, none, some 176, some 177, none, none, none, none, none, some 183, some 184, some 185, none, none, none, none, none, none, none, some 193, some 194, none, none, none, none, some 199, some 200, some 201, none, none, some 204, none, some 206, some 207, none, none, none, some 211, some 212, some 213, some 214]), (16, 3, 9, 1, [some 316]), (316, 1, 6, 9, []), (33, 1, 40, 1, []), (34, 1, 40, 1, []), (35, 1, 40, 1, []), (36, 1, 40, 1, []), (48, 1, 120, 1, []), (51, 1, 121, 1, []), (64, 3, 4, 1, [some 364]), (364, 1, 121, 4, []), (65, 1, 4, 1, []), (67, 1, 128, 1, []), (68, 1, 121, 1, []), (82, 1, 6, 1, []), (83, 1, 6, 1, []), (84, 3, 6, 1, [some 384]), (384, 1, 4, 6, []), (85, 1, 7, 1, []), (98, 1, 6, 1, []), (99, 1, 5, 1, []), (100, 1, 6, 1, []), (114, 1, 259, 1, []), (128, 1, 50, 1, []), (130, 1, 24, 1, []), (144, 1, 6, 1, []), (145, 1, 6, 1, []), (146, 4, 6, 1, [some 446]), (446, 2, 60, 6, []), (160, 1, 28, 1, []), (161, 1, 40, 1, []), (162, 1, 40, 1, []), (163, 1, 40, 1, []), (167, 1, 6, 1, []), (169, 1, 5, 1, []), (170, 1, 5, 1, []), (171, 1, 5, 1, []), (172, 1, 5, 1, []), (173, 1, 120, 1, []), (176, 1, 480, 1, []), (177, 1, 4, 1, []), (183, 1, 7, 1, []), (184, 1, 24, 1, []), (185, 1, 6, 1, []), (193, 1, 6, 1, []), (194, 1, 30, 1, []), (199, 1, 6, 1, []), (200, 1, 6, 1, []), (201, 1, 6, 1, []), (204, 1, 1783, 1, []), (206, 1, 50, 1, []), (207, 1, 24, 1, []), (211, 1, 6, 1, []), (212, 1, 6, 1, []), (213, 2, 360, 1, []), (214, 2, 60, 1, [])]
def am_pr : List (am_Q × Nat) := am_ly.flatMap (fun q => (List.range q.2.2.2.1).map fun r => (q, r))
def am_wl (G : am_G) (μ : am_M) : va_W := am_pr.map (fun x => (am_ad G x.1.1 x.2, am_ce G x.1 x.2 μ))
def am_W (G : am_G) (μ : am_M) (H : Heap) : Prop := va_P G.1 vwCl (am_wl G μ) H
def am_ok (G : am_G) : Prop := (∀ (i j : Nat) (x y : am_Q × Nat), am_pr[i]? = some x → am_pr[j]? = some y → am_ad G x.1.1 x.2 = am_ad G y.1.1 y.2 → i = j) ∧ ∀ (i : Nat) (x : am_Q × Nat), am_pr[i]? = some x → am_A G (am_ad G x.1.1 x.2)
def am_ty (G : am_G) : List (ClassId × FieldType) := [(am_cT G 1, .int), (am_cT G 2, .long), (am_cT G 3, .array .int), (am_cT G 4, .array .long)]
def am_st : List (String × List Int32) := [("BUYS", [1, 20, 0, 0, 0, 60, 70, 0]), ("KEEPS", [10, 0, 30, 0, 0, 0, 0, 80]), ("LENDS", [11, 0, 0, 40, 50, 0, 0, 0]), ("TELLS", [2, 0, 0, 0, 0, 61, 0, 81]), ("ABOVE", [-1, 0, 0, 2, 2, 3, 0, 4])]
def am_T (G : am_G) (U : State) (H : Heap) : Prop := ∀ (j : Nat) (q : String × List Int32), am_st[j]? = some q → va_Z "PointsForAll$Purses" q.1 "[I" (.ref (am_ad G (900 + j) 0)) (am_A G) U H ∧ va_T .int (am_ad G (900 + j) 0) 8 (fun i => .int (q.2.getD i 0)) (am_A G) U H
def am_tb : List Cond := lw_tbl.filter goodWord
theorem am_g {w : Cond} (h : w ∈ lw_tbl) (hg : goodWord w = true) : w ∈ am_tb := List.mem_filter.mpr ⟨h, hg⟩
def am_N (U : State) : Prop := ∀ (own : String) (i : Nat) (x : MethodName) (h : String), Cond.methodLinkNest own i x h ∈ lw_tbl → va_Nw (.methodLinkNest own i x h) U
def am_S (G : am_G) (U : State) (H : Heap) : Prop := am_ok G ∧ va_K G.1 vwCl (am_ty G) U ∧ am_T G U H ∧ va_X (am_b G) (am_L G) (am_xs G) U H ∧ am_b G < H.size ∧ ¬ am_A G (am_b G) ∧ am_N U
theorem am_S.moved {G : am_G} {u U : State} {H : Heap} (hW : u.WarmedH U.vm) (h : am_S G u H) : am_S G U H :=
  ⟨h.1, va_K.moved hW.alike h.2.1, fun j q hq => ⟨va_Z.moved hW.alike (h.2.2.1 j q hq).1, va_T.moved hW.alike (h.2.2.1 j q hq).2⟩, va_X.moved hW.alike h.2.2.2.1, h.2.2.2.2.1, h.2.2.2.2.2.1, fun own i x z hz => va_Nw.warmM hW (h.2.2.2.2.2.2 own i x z hz)⟩
theorem am_S.kept {G : am_G} {U : State} {H H1 : Heap} (h : am_S G U H) (hs : H.size ≤ H1.size) (hq : ∀ a : Nat, a < H.size → ¬ am_A G a → H1[a]? = H[a]?) : am_S G U H1 :=
  ⟨h.1, h.2.1, fun j q hj => ⟨va_Z.kept (h.2.2.1 j q hj).1 hq, va_T.kept (h.2.2.1 j q hj).2 hq⟩, va_X.kept h.2.2.2.1 (hq _ h.2.2.2.2.1 h.2.2.2.2.2.1), Nat.lt_of_lt_of_le h.2.2.2.2.1 hs, h.2.2.2.2.2⟩
theorem am_at {q : am_Q} {r : Nat} (hq : q ∈ am_ly) (hr : r < q.2.2.2.1) : ∃ i : Nat, am_pr[i]? = some (q, r) := by
  refine List.getElem?_of_mem ?_
  unfold am_pr
  exact List.mem_flatMap.mpr ⟨q, hq, List.mem_map.mpr ⟨r, List.mem_range.mpr hr, rfl⟩⟩
theorem am_wat {G : am_G} {μ : am_M} {i : Nat} {x : am_Q × Nat} (h : am_pr[i]? = some x) : (am_wl G μ)[i]? = some (am_ad G x.1.1 x.2, am_ce G x.1 x.2 μ) := by
  unfold am_wl
  rw [List.getElem?_map, h]
  rfl
theorem am_wof {G : am_G} {μ : am_M} {i : Nat} {z : Nat × va_E} (h : (am_wl G μ)[i]? = some z) : ∃ x, am_pr[i]? = some x ∧ z = (am_ad G x.1.1 x.2, am_ce G x.1 x.2 μ) := by
  unfold am_wl at h
  rw [List.getElem?_map] at h
  cases hx : am_pr[i]? with
  | none => rw [hx] at h; cases h
  | some x => rw [hx] at h; exact ⟨x, rfl, (Option.some.inj h).symm⟩
theorem am_apart {G : am_G} {μ : am_M} (h : am_ok G) : va_D (am_A G) (am_wl G μ) := by
  refine ⟨fun i j p q hp hq e => ?_, fun k q hq => ?_⟩
  · obtain ⟨x, hx, rfl⟩ := am_wof hp
    obtain ⟨y, hy, rfl⟩ := am_wof hq
    exact h.1 i j x y hx hy e
  · obtain ⟨x, hx, rfl⟩ := am_wof hq
    exact h.2 k x hx
theorem am_fs_congr {ad : Nat → Nat → Nat} {μ μ' : am_M} {k r : Nat} (h : ∀ i, μ'.1 k r i = μ.1 k r i) : ∀ (fs : List (Option Nat)) (i : Nat), am_fs ad μ' k r i fs = am_fs ad μ k r i fs
  | [], _ => rfl
  | f :: fs, i => by
    unfold am_fs
    rw [am_fs_congr h fs (i + 1)]
    cases f with
    | none => simp only [h]
    | some j => rfl
theorem am_ce_congr {G : am_G} {q : am_Q} {r : Nat} {μ μ' : am_M} (h1 : ∀ i, μ'.1 q.1 r i = μ.1 q.1 r i) (h2 : ∀ i, μ'.2 q.1 r i = μ.2 q.1 r i) : am_ce G q r μ' = am_ce G q r μ := by
  obtain ⟨k, t, n, rows, fs⟩ := q
  have e1 : μ'.1 k r = μ.1 k r := funext h1
  have e2 : μ'.2 k r = μ.2 k r := funext h2
  match t with
  | 0 => simp only [am_ce]; rw [am_fs_congr h1]
  | 1 => simp only [am_ce]; rw [e1]
  | 2 => simp only [am_ce]; rw [e2]
  | t + 3 => rfl
/-- one cell has changed -/
theorem am_set {G : am_G} {μ μ' : am_M} {H1 : Heap} {i0 : Nat} {q0 : am_Q} {r0 : Nat} {e' : va_E} (hok : am_ok G) (h0 : am_pr[i0]? = some (q0, r0)) (hP : va_P G.1 vwCl ((am_wl G μ).set i0 (am_ad G q0.1 r0, e')) H1)
    (he : am_ce G q0 r0 μ' = e') (h1 : ∀ a b j, ¬ (a = q0.1 ∧ b = r0) → μ'.1 a b j = μ.1 a b j) (h2 : ∀ a b j, ¬ (a = q0.1 ∧ b = r0) → μ'.2 a b j = μ.2 a b j) : am_W G μ' H1 := by
  intro i z hz
  obtain ⟨x, hx, rfl⟩ := am_wof hz
  by_cases hi : i = i0
  · subst hi
    cases h0.symm.trans hx
    refine hP i _ ?_
    have hlt : i < (am_wl G μ).length := (List.getElem?_eq_some_iff.mp (am_wat (G := G) (μ := μ) h0)).1
    rw [List.getElem?_set_self hlt, he]
  · have hne : ¬ (x.1.1 = q0.1 ∧ x.2 = r0) := fun hh => hi (hok.1 i i0 x (q0, r0) hx h0 (by rw [hh.1, hh.2]))
    refine hP i _ ?_
    rw [List.getElem?_set_ne (fun h => hi h.symm), am_wat hx, am_ce_congr (fun j => h1 _ _ j hne) (fun j => h2 _ _ j hne)]
theorem am_fs_get {ad : Nat → Nat → Nat} {μ : am_M} {k r : Nat} : ∀ (fs : List (Option Nat)) (i j : Nat) (f : Option Nat), fs[j]? = some f → (am_fs ad μ k r i fs)[j]? = some (match f with | none => Value.int (μ.1 k r (i + j)) | some j' => Value.ref (ad j' 0))
  | [], _, _, _, h => by simp at h
  | g :: fs, i, 0, f, h => by
    have e : g = f := by simpa using h
    subst e
    rfl
  | g :: fs, i, j + 1, f, h => by
    have h' : fs[j]? = some f := by simpa using h
    have e := am_fs_get (ad := ad) (μ := μ) (k := k) (r := r) fs (i + 1) j f h'
    rw [show i + 1 + j = i + (j + 1) by omega] at e
    show ((_ :: am_fs ad μ k r (i + 1) fs) : List Value)[j + 1]? = _
    rw [List.getElem?_cons_succ]
    exact e
theorem am_fs_len {ad : Nat → Nat → Nat} {μ : am_M} {k r : Nat} : ∀ (fs : List (Option Nat)) (i : Nat), (am_fs ad μ k r i fs).length = fs.length
  | [], _ => rfl
  | f :: fs, i => by
    show (am_fs ad μ k r (i + 1) fs).length + 1 = fs.length + 1
    rw [am_fs_len fs (i + 1)]
theorem am_fs_set {ad : Nat → Nat → Nat} {μ : am_M} {k r : Nat} {x : Int32} : ∀ (fs : List (Option Nat)) (i j : Nat), fs[j]? = some none → am_fs ad (am_ui μ k r (i + j) x) k r i fs = (am_fs ad μ k r i fs).set j (.int x)
  | [], _, _, h => by simp at h
  | g :: fs, i, 0, h => by
    have e : g = none := by simpa using h
    subst e
    have e2 : am_fs ad (am_ui μ k r (i + 0) x) k r (i + 1) fs = am_fs ad μ k r (i + 1) fs := by
      have : ∀ (fs : List (Option Nat)) (j : Nat), i + 0 < j → am_fs ad (am_ui μ k r (i + 0) x) k r j fs = am_fs ad μ k r j fs := by
        intro fs
        induction fs with
        | nil => intro j _; rfl
        | cons f fs ih =>
          intro j hj
          unfold am_fs
          rw [ih (j + 1) (by omega)]
          cases f with
          | none => simp only [am_ui]; rw [if_neg (fun h => by omega)]
          | some _ => rfl
      exact this fs (i + 1) (by omega)
    show (_ :: am_fs ad (am_ui μ k r (i + 0) x) k r (i + 1) fs : List Value) = _ :: am_fs ad μ k r (i + 1) fs
    rw [e2]
    simp [am_ui]
  | g :: fs, i, j + 1, h => by
    have h' : fs[j]? = some none := by simpa using h
    have e := am_fs_set (ad := ad) (μ := μ) (k := k) (r := r) (x := x) fs (i + 1) j h'
    rw [show i + 1 + j = i + (j + 1) by omega] at e
    show (_ :: am_fs ad (am_ui μ k r (i + (j + 1)) x) k r (i + 1) fs : List Value) = (_ :: am_fs ad μ k r (i + 1) fs).set (j + 1) (.int x)
    rw [e, List.set_cons_succ]
    congr 1
    cases g with
    | none => simp only [am_ui]; rw [if_neg (fun h => by omega)]
    | some _ => rfl
/-- a method: name, bytes, how many locals, what it returns -/
abbrev am_Me : Type := MethodName × (ByteArray × (Nat × Option FieldType))
def am_B (G : am_G) (mi : am_Me) (p : Program) (s : State) (m : MethodId) (args : Array Value) (meth : Method) (c : Code) : Prop :=
  p.tables.exec = Jvm.exec ∧ c.code = mi.2.1 ∧ c.maxLocals = mi.2.2.1 ∧ meth.sig.returnType = mi.2.2.2 ∧ s.vm.findClass mi.1.cls = some m.cls ∧ (∀ w ∈ am_tb, w.before args s = true) ∧ meth.locks = false ∧ am_S G s s.heap
def am_Qc {α : Type} (G : am_G) (cv : α → Option Value) (a : α) (μ : am_M) : Array Value → State → Outcome → State → Prop := fun _ st oc t => oc = .returned (cv a) ∧ am_W G μ t.heap ∧ va_F (am_A G) st t
def sm_P {α : Type} (G : am_G) (l : Launch) (cv : α → Option Value) (d : Nat) (mi : am_Me) (pc : Nat) (lv : List (Nat × Value)) (st : List Value) (μ : am_M) (o : Option (α × am_M)) : Prop :=
  ∀ (a : α) (μ1 : am_M), o = some (a, μ1) → ∀ (p : Program) (e : Env) (R : Room) (s : State) (m : MethodId) (args : Array Value) (below : List Frame) (meth : Method) (c : Code) (H : Heap) (locs : List Loc) (cells slots : Nat) (ls : Array Slot), d ≤ R.frames → 64 * d ≤ R.locals → cells ≤ R.cells → slots ≤ R.slots → am_B G mi p s m args meth c → am_W G μ H → va_S (am_A G) s.heap H locs → lv_has ls mi.2.2.1 lv →
    W p l e R s m args below meth c H locs cells slots (MQ below (am_Qc G cv a μ1) args s cells slots (am_A G)) (F0 m pc ls st)
def am_ws (mi : am_Me) : List Cond := .code mi.1 mi.2.1 mi.2.2.1 mi.2.2.2 :: am_tb
def am_rm (d : Nat) : Room := { frames := d, cells := 0, slots := 0, locals := 64 * d }
def ct_P {α : Type} (G : am_G) (l : Launch) (cv : α → Option Value) (d : Nat) (mi : am_Me) (As : List Value) (μ : am_M) (o : Option (α × am_M)) : Prop :=
  ∀ (a : α) (μ1 : am_M), o = some (a, μ1) → ∀ d', d ≤ d' → Met l mi.1 (am_ws mi) (am_rm d') (va_Pc As (fun U => am_W G μ U.heap ∧ am_S G U U.heap)) (am_Qc G cv a μ1) 0 0 (am_A G)
def am_ci (x : Int32) : Option Value := some (.int x)
def am_cl (x : Int64) : Option Value := some (.long x)
def am_cu (_ : Unit) : Option Value := none
section SMA
variable {α : Type} {G : am_G} {l : Launch} {cv : α → Option Value} {d : Nat} {mi : am_Me} {pc : Nat} {lv : List (Nat × Value)} {st : List Value} {μ : am_M} {o : Option (α × am_M)}
set_option maxHeartbeats 1000000 in
theorem ct_of {As : List Value} (hp : plainName mi.1.cls = true) (hn : (lg_sl As).length ≤ mi.2.2.1) (hlv : lv_args 0 As = lv) (k : sm_P G l cv d mi 0 lv [] μ o) : ct_P G l cv d mi As μ o := by
  intro a μ1 ho d' hd
  refine Met.ofW (cc := mi.2.1) (maxL := mi.2.2.1) (ret := mi.2.2.2) hp rfl ?_
  intro p e s m args below meth c s₁ B hml hv
  obtain ⟨rfl, hW, hSt⟩ := hv
  have hts := atoms_spec (ws := am_ws mi) B.pre
  rw [lg_entry_eq]
  have hl := lv_entry As hn
  rw [hlv] at hl
  exact k a μ1 ho p e (am_rm d') s m As.toArray below meth c s.heap [] 0 0 _ hd (Nat.mul_le_mul_left 64 hd) (Nat.zero_le _) (Nat.zero_le _) ⟨B.exec, B.bytes, hml, B.returns, findClass_of_methodNamed B.named, fun w hw => hts w (List.mem_cons_of_mem _ hw), B.notSynchronized, hSt⟩ hW va_S.rf hl
theorem sm_one {pc' : Nat} {st' : List Value} (h : ∀ (p : Program) (e : Env) (R : Room) (s : State) (m : MethodId) (args : Array Value) (below : List Frame) (meth : Method) (c : Code) (H : Heap) (locs : List Loc) (cells slots : Nat) (Q : State → Prop) (ls : Array Slot), p.tables.exec = Jvm.exec → c.code = mi.2.1 → s.vm.findClass mi.1.cls = some m.cls → (∀ w ∈ am_tb, w.before args s = true) → lv_has ls mi.2.2.1 lv → W p l e R s m args below meth c H locs cells slots Q (F0 m pc' ls st') → W p l e R s m args below meth c H locs cells slots Q (F0 m pc ls st)) (k : sm_P G l cv d mi pc' lv st' μ o) : sm_P G l cv d mi pc lv st μ o := by
  intro a μ1 ho p e R s m args below meth c H locs cells slots ls h1 h2 h3 h4 B hW hS hl
  exact h p e R s m args below meth c H locs cells slots _ ls B.1 B.2.1 B.2.2.2.2.1 B.2.2.2.2.2.1 hl (k a μ1 ho p e R s m args below meth c H locs cells slots ls h1 h2 h3 h4 B hW hS hl)
theorem sm_sub {lv' : List (Nat × Value)} (ks : List Nat) (h : lv_pick lv ks = lv') (k : sm_P G l cv d mi pc lv' st μ o) : sm_P G l cv d mi pc lv st μ o :=
  fun a μ1 ho p e R s m args below meth c H locs cells slots ls h1 h2 h3 h4 B hW hS hl => k a μ1 ho p e R s m args below meth c H locs cells slots ls h1 h2 h3 h4 B hW hS (lv_sub hl ks h)
theorem sm_nmM {k : am_M → Option (α × am_M)} (h : ∀ μ', sm_P G l cv d mi pc lv st μ' (k μ')) : sm_P G l cv d mi pc lv st μ (am_nm μ k) := h μ
theorem sm_nmI {x : Int32} {k : Int32 → Option (α × am_M)} (h : ∀ y, sm_P G l cv d mi pc lv (.int y :: st) μ (k y)) : sm_P G l cv d mi pc lv (.int x :: st) μ (am_nm x k) := h x
theorem sm_nmL {x : Int64} {k : Int64 → Option (α × am_M)} (h : ∀ y, sm_P G l cv d mi pc lv (.long y :: st) μ (k y)) : sm_P G l cv d mi pc lv (.long x :: st) μ (am_nm x k) := h x
theorem sm_ite {c1 : Prop} [Decidable c1] {A B : Option (α × am_M)} (h1 : c1 → sm_P G l cv d mi pc lv st μ A) (h2 : ¬ c1 → sm_P G l cv d mi pc lv st μ B) : sm_P G l cv d mi pc lv st μ (if c1 then A else B) := by
  by_cases h : c1
  · rw [if_pos h]; exact h1 h
  · rw [if_neg h]; exact h2 h
theorem sm_up {d' : Nat} (h : d' ≤ d) (k : sm_P G l cv d' mi pc lv st μ o) : sm_P G l cv d mi pc lv st μ o :=
  fun a μ1 ho p e R s m args below meth c H locs cells slots ls h1 h2 h3 h4 B hW hS hl => k a μ1 ho p e R s m args below meth c H locs cells slots ls (Nat.le_trans h h1) (Nat.le_trans (Nat.mul_le_mul_left 64 h) h2) h3 h4 B hW hS hl
theorem sm_none : sm_P G l cv d mi pc lv st μ none := fun a μ1 ho => by cases ho
theorem sm_iconst {n : Int} {v : Int32} (hd : decode mi.2.1 pc = .ok (.iconst n, 1)) (hv : Int32.ofInt n = v) (k : sm_P G l cv d mi (pc + 1) lv (.int v :: st) μ o) : sm_P G l cv d mi pc lv (st) μ o := sm_one (fun p e R s m args below meth c H locs cells slots Q ls hx hb hown hts hl w => lv_iconst hx hb hd hv w) k
theorem sm_bipush {n : Int} {v : Int32} (hd : decode mi.2.1 pc = .ok (.bipush n, 2)) (hv : (Int8.ofInt n).toInt32 = v) (k : sm_P G l cv d mi (pc + 2) lv (.int v :: st) μ o) : sm_P G l cv d mi pc lv (st) μ o := sm_one (fun p e R s m args below meth c H locs cells slots Q ls hx hb hown hts hl w => lv_bipush hx hb hd hv w) k
theorem sm_sipush {n : Int} {v : Int32} (hd : decode mi.2.1 pc = .ok (.sipush n, 3)) (hv : (Int16.ofInt n).toInt32 = v) (k : sm_P G l cv d mi (pc + 3) lv (.int v :: st) μ o) : sm_P G l cv d mi pc lv (st) μ o := sm_one (fun p e R s m args below meth c H locs cells slots Q ls hx hb hown hts hl w => lv_sipush hx hb hd hv w) k
theorem sm_lconst {n : Fin 2} {v : Int64} (hd : decode mi.2.1 pc = .ok (.lconst n, 1)) (hv : Int64.ofNat (n : Nat) = v) (k : sm_P G l cv d mi (pc + 1) lv (.long v :: st) μ o) : sm_P G l cv d mi pc lv (st) μ o := sm_one (fun p e R s m args below meth c H locs cells slots Q ls hx hb hown hts hl w => lv_lconst hx hb hd hv w) k
theorem sm_iload_n {k : Fin 4} {i : Nat} {x : Int32} (hd : decode mi.2.1 pc = .ok (.iload_n k, 1)) (hi : (k : Nat) = i) (q : Nat) (hq : lv[q]? = some (i, .int x)) (k : sm_P G l cv d mi (pc + 1) lv (.int x :: st) μ o) : sm_P G l cv d mi pc lv (st) μ o := sm_one (fun p e R s m args below meth c H locs cells slots Q ls hx hb hown hts hl w => lv_iload_n hx hb hd hi (lv_at hl q hq) w) k
theorem sm_iload {i : Nat} {x : Int32} (hd : decode mi.2.1 pc = .ok (.iload i, 2)) (q : Nat) (hq : lv[q]? = some (i, .int x)) (k : sm_P G l cv d mi (pc + 2) lv (.int x :: st) μ o) : sm_P G l cv d mi pc lv (st) μ o := sm_one (fun p e R s m args below meth c H locs cells slots Q ls hx hb hown hts hl w => lv_iload hx hb hd (lv_at hl q hq) w) k
theorem sm_lload_n {k : Fin 4} {i : Nat} {x : Int64} (hd : decode mi.2.1 pc = .ok (.lload_n k, 1)) (hi : (k : Nat) = i) (q : Nat) (hq : lv[q]? = some (i, .long x)) (k : sm_P G l cv d mi (pc + 1) lv (.long x :: st) μ o) : sm_P G l cv d mi pc lv (st) μ o := sm_one (fun p e R s m args below meth c H locs cells slots Q ls hx hb hown hts hl w => lv_lload_n hx hb hd hi (lv_at hl q hq) w) k
theorem sm_lload {i : Nat} {x : Int64} (hd : decode mi.2.1 pc = .ok (.lload i, 2)) (q : Nat) (hq : lv[q]? = some (i, .long x)) (k : sm_P G l cv d mi (pc + 2) lv (.long x :: st) μ o) : sm_P G l cv d mi pc lv (st) μ o := sm_one (fun p e R s m args below meth c H locs cells slots Q ls hx hb hown hts hl w => lv_lload hx hb hd (lv_at hl q hq) w) k
theorem sm_aload_n {k : Fin 4} {i : Nat} {x : Nat} (hd : decode mi.2.1 pc = .ok (.aload_n k, 1)) (hi : (k : Nat) = i) (q : Nat) (hq : lv[q]? = some (i, .ref x)) (k : sm_P G l cv d mi (pc + 1) lv (.ref x :: st) μ o) : sm_P G l cv d mi pc lv (st) μ o := sm_one (fun p e R s m args below meth c H locs cells slots Q ls hx hb hown hts hl w => lv_aload_n hx hb hd hi (lv_at hl q hq) w) k
theorem sm_iadd {x y : Int32} (hd : decode mi.2.1 pc = .ok (.iadd, 1)) (k : sm_P G l cv d mi (pc + 1) lv (.int (x + y) :: st) μ o) : sm_P G l cv d mi pc lv (.int y :: .int x :: st) μ o := sm_one (fun p e R s m args below meth c H locs cells slots Q ls hx hb hown hts hl w => lv_iadd hx hb hd w) k
theorem sm_isub {x y : Int32} (hd : decode mi.2.1 pc = .ok (.isub, 1)) (k : sm_P G l cv d mi (pc + 1) lv (.int (x - y) :: st) μ o) : sm_P G l cv d mi pc lv (.int y :: .int x :: st) μ o := sm_one (fun p e R s m args below meth c H locs cells slots Q ls hx hb hown hts hl w => lv_isub hx hb hd w) k
theorem sm_imul {x y : Int32} (hd : decode mi.2.1 pc = .ok (.imul, 1)) (k : sm_P G l cv d mi (pc + 1) lv (.int (x * y) :: st) μ o) : sm_P G l cv d mi pc lv (.int y :: .int x :: st) μ o := sm_one (fun p e R s m args below meth c H locs cells slots Q ls hx hb hown hts hl w => lv_imul hx hb hd w) k
theorem sm_iand {x y : Int32} (hd : decode mi.2.1 pc = .ok (.iand, 1)) (k : sm_P G l cv d mi (pc + 1) lv (.int (x &&& y) :: st) μ o) : sm_P G l cv d mi pc lv (.int y :: .int x :: st) μ o := sm_one (fun p e R s m args below meth c H locs cells slots Q ls hx hb hown hts hl w => lv_iand hx hb hd w) k
theorem sm_ior {x y : Int32} (hd : decode mi.2.1 pc = .ok (.ior, 1)) (k : sm_P G l cv d mi (pc + 1) lv (.int (x ||| y) :: st) μ o) : sm_P G l cv d mi pc lv (.int y :: .int x :: st) μ o := sm_one (fun p e R s m args below meth c H locs cells slots Q ls hx hb hown hts hl w => lv_ior hx hb hd w) k
theorem sm_ixor {x y : Int32} (hd : decode mi.2.1 pc = .ok (.ixor, 1)) (k : sm_P G l cv d mi (pc + 1) lv (.int (x ^^^ y) :: st) μ o) : sm_P G l cv d mi pc lv (.int y :: .int x :: st) μ o := sm_one (fun p e R s m args below meth c H locs cells slots Q ls hx hb hown hts hl w => lv_ixor hx hb hd w) k
theorem sm_ishl {x y : Int32} (hd : decode mi.2.1 pc = .ok (.ishl, 1)) (k : sm_P G l cv d mi (pc + 1) lv (.int (x <<< (y &&& 31)) :: st) μ o) : sm_P G l cv d mi pc lv (.int y :: .int x :: st) μ o := sm_one (fun p e R s m args below meth c H locs cells slots Q ls hx hb hown hts hl w => lv_ishl hx hb hd w) k
theorem sm_ishr {x y : Int32} (hd : decode mi.2.1 pc = .ok (.ishr, 1)) (k : sm_P G l cv d mi (pc + 1) lv (.int (x >>> (y &&& 31)) :: st) μ o) : sm_P G l cv d mi pc lv (.int y :: .int x :: st) μ o := sm_one (fun p e R s m args below meth c H locs cells slots Q ls hx hb hown hts hl w => lv_ishr hx hb hd w) k
theorem sm_idivc {x y : Int32} (hd : decode mi.2.1 pc = .ok (.idiv, 1)) (hne : ¬ y = 0) (k : sm_P G l cv d mi (pc + 1) lv (.int (x / y) :: st) μ o) : sm_P G l cv d mi pc lv (.int y :: .int x :: st) μ o := sm_one (fun p e R s m args below meth c H locs cells slots Q ls hx hb hown hts hl w => lv_idiv hx hb hd hne w) k
theorem sm_iremc {x y : Int32} (hd : decode mi.2.1 pc = .ok (.irem, 1)) (hne : ¬ y = 0) (k : sm_P G l cv d mi (pc + 1) lv (.int (am_rem x y) :: st) μ o) : sm_P G l cv d mi pc lv (.int y :: .int x :: st) μ o := sm_one (fun p e R s m args below meth c H locs cells slots Q ls hx hb hown hts hl w => lv_irem hx hb hd hne w) k
theorem sm_idiv {x y : Int32} (hd : decode mi.2.1 pc = .ok (.idiv, 1)) (k : ¬ y = 0 → sm_P G l cv d mi (pc + 1) lv (.int (x / y) :: st) μ o) : sm_P G l cv d mi pc lv (.int y :: .int x :: st) μ (am_dv y o) := by
  unfold am_dv
  by_cases h : y = 0
  · rw [if_pos h]; exact sm_none
  · rw [if_neg h]; exact sm_idivc hd h (k h)
theorem sm_irem {x y : Int32} (hd : decode mi.2.1 pc = .ok (.irem, 1)) (k : ¬ y = 0 → sm_P G l cv d mi (pc + 1) lv (.int (am_rem x y) :: st) μ o) : sm_P G l cv d mi pc lv (.int y :: .int x :: st) μ (am_dv y o) := by
  unfold am_dv
  by_cases h : y = 0
  · rw [if_pos h]; exact sm_none
  · rw [if_neg h]; exact sm_iremc hd h (k h)
theorem sm_ineg {x : Int32} (hd : decode mi.2.1 pc = .ok (.ineg, 1)) (k : sm_P G l cv d mi (pc + 1) lv (.int (-x) :: st) μ o) : sm_P G l cv d mi pc lv (.int x :: st) μ o := sm_one (fun p e R s m args below meth c H locs cells slots Q ls hx hb hown hts hl w => lv_ineg hx hb hd w) k
theorem sm_land {x y : Int64} (hd : decode mi.2.1 pc = .ok (.land, 1)) (k : sm_P G l cv d mi (pc + 1) lv (.long (x &&& y) :: st) μ o) : sm_P G l cv d mi pc lv (.long y :: .long x :: st) μ o := sm_one (fun p e R s m args below meth c H locs cells slots Q ls hx hb hown hts hl w => lv_land hx hb hd w) k
theorem sm_lor {x y : Int64} (hd : decode mi.2.1 pc = .ok (.lor, 1)) (k : sm_P G l cv d mi (pc + 1) lv (.long (x ||| y) :: st) μ o) : sm_P G l cv d mi pc lv (.long y :: .long x :: st) μ o := sm_one (fun p e R s m args below meth c H locs cells slots Q ls hx hb hown hts hl w => lv_lor hx hb hd w) k
theorem sm_lshl {x : Int64} {y : Int32} (hd : decode mi.2.1 pc = .ok (.lshl, 1)) (k : sm_P G l cv d mi (pc + 1) lv (.long (x <<< (y.toInt64 &&& 63)) :: st) μ o) : sm_P G l cv d mi pc lv (.int y :: .long x :: st) μ o := sm_one (fun p e R s m args below meth c H locs cells slots Q ls hx hb hown hts hl w => lv_lshl hx hb hd rfl w) k
theorem sm_i2l {x : Int32} (hd : decode mi.2.1 pc = .ok (.i2l, 1)) (k : sm_P G l cv d mi (pc + 1) lv (.long x.toInt64 :: st) μ o) : sm_P G l cv d mi pc lv (.int x :: st) μ o := sm_one (fun p e R s m args below meth c H locs cells slots Q ls hx hb hown hts hl w => lv_i2l hx hb hd rfl w) k
theorem sm_l2i {x : Int64} (hd : decode mi.2.1 pc = .ok (.l2i, 1)) (k : sm_P G l cv d mi (pc + 1) lv (.int x.toInt32 :: st) μ o) : sm_P G l cv d mi pc lv (.long x :: st) μ o := sm_one (fun p e R s m args below meth c H locs cells slots Q ls hx hb hown hts hl w => lv_l2i hx hb hd rfl w) k
theorem sm_i2b {x : Int32} (hd : decode mi.2.1 pc = .ok (.i2b, 1)) (k : sm_P G l cv d mi (pc + 1) lv (.int x.toInt8.toInt32 :: st) μ o) : sm_P G l cv d mi pc lv (.int x :: st) μ o := sm_one (fun p e R s m args below meth c H locs cells slots Q ls hx hb hown hts hl w => lv_i2b hx hb hd rfl w) k
theorem sm_i2s {x : Int32} (hd : decode mi.2.1 pc = .ok (.i2s, 1)) (k : sm_P G l cv d mi (pc + 1) lv (.int x.toInt16.toInt32 :: st) μ o) : sm_P G l cv d mi pc lv (.int x :: st) μ o := sm_one (fun p e R s m args below meth c H locs cells slots Q ls hx hb hown hts hl w => lv_i2s hx hb hd rfl w) k
theorem sm_lcmp {x y : Int64} (hd : decode mi.2.1 pc = .ok (.lcmp, 1)) (k : sm_P G l cv d mi (pc + 1) lv (.int (lg_cmp x y) :: st) μ o) : sm_P G l cv d mi pc lv (.long y :: .long x :: st) μ o := sm_one (fun p e R s m args below meth c H locs cells slots Q ls hx hb hown hts hl w => W.lcmp hx hb hd w) k
theorem sm_dup {a : Value} (hd : decode mi.2.1 pc = .ok (.dup, 1)) (h1 : a.category = 1) (k : sm_P G l cv d mi (pc + 1) lv (a :: a :: st) μ o) : sm_P G l cv d mi pc lv (a :: st) μ o := sm_one (fun p e R s m args below meth c H locs cells slots Q ls hx hb hown hts hl w => lv_dup hx hb hd h1 w) k
theorem sm_pop {a : Value} (hd : decode mi.2.1 pc = .ok (.pop, 1)) (h1 : a.category = 1) (k : sm_P G l cv d mi (pc + 1) lv (st) μ o) : sm_P G l cv d mi pc lv (a :: st) μ o := sm_one (fun p e R s m args below meth c H locs cells slots Q ls hx hb hown hts hl w => lv_pop hx hb hd h1 w) k
theorem sm_dup_x1 {a b : Value} (hd : decode mi.2.1 pc = .ok (.dup_x1, 1)) (h1 : a.category = 1) (h2 : b.category = 1) (k : sm_P G l cv d mi (pc + 1) lv (a :: b :: a :: st) μ o) : sm_P G l cv d mi pc lv (a :: b :: st) μ o := sm_one (fun p e R s m args below meth c H locs cells slots Q ls hx hb hown hts hl w => lv_dup_x1 hx hb hd h1 h2 w) k
theorem sm_dup2 {a b : Value} (hd : decode mi.2.1 pc = .ok (.dup2, 1)) (h1 : a.category = 1) (h2 : b.category = 1) (k : sm_P G l cv d mi (pc + 1) lv (a :: b :: a :: b :: st) μ o) : sm_P G l cv d mi pc lv (a :: b :: st) μ o := sm_one (fun p e R s m args below meth c H locs cells slots Q ls hx hb hown hts hl w => lv_dup2_11 hx hb hd h1 h2 w) k
theorem sm_goto {off : Int} {tgt : Nat} (hd : decode mi.2.1 pc = .ok (.goto off, 3)) (ht : (pc : Int) + off = (tgt : Int)) (k : sm_P G l cv d mi (tgt) lv (st) μ o) : sm_P G l cv d mi pc lv (st) μ o := sm_one (fun p e R s m args below meth c H locs cells slots Q ls hx hb hown hts hl w => lv_goto hx hb hd ht w) k
theorem sm_ldc {i : Nat} {v : Int32} (hd : decode mi.2.1 pc = .ok (.ldc i, 2)) (hw : Cond.constant mi.1.cls i v ∈ lw_tbl) (k : sm_P G l cv d mi (pc + 2) lv (.int v :: st) μ o) : sm_P G l cv d mi pc lv (st) μ o := sm_one (fun p e R s m args below meth c H locs cells slots Q ls hx hb hown hts hl w => lv_ldc hx hb hown (hts _ (am_g hw rfl)) hd w) k
theorem sm_ldc2 {i : Nat} {v : Int64} (hd : decode mi.2.1 pc = .ok (.ldc2_w i, 3)) (hw : Cond.constantLong mi.1.cls i v ∈ lw_tbl) (k : sm_P G l cv d mi (pc + 3) lv (.long v :: st) μ o) : sm_P G l cv d mi pc lv (st) μ o := sm_one (fun p e R s m args below meth c H locs cells slots Q ls hx hb hown hts hl w => lv_ldc2 hx hb hown (hts _ (am_g hw rfl)) hd w) k
theorem sm_istore_n {k : Fin 4} {i : Nat} {x : Int32} {lv' : List (Nat × Value)} (hd : decode mi.2.1 pc = .ok (.istore_n k, 1)) (hi : (k : Nat) = i) (hn : i < mi.2.2.1) (hv : (i, Value.int x) :: lv.filter (fun q => !(q.1 == i) && !(q.1 + 1 == i && q.2.category == 2)) = lv') (k : sm_P G l cv d mi (pc + 1) lv' st μ o) : sm_P G l cv d mi pc lv (.int x :: st) μ o := by
  intro a μ1 ho p e R s m args below meth c H locs cells slots ls h1 h2 h3 h4 B hW hS hl
  exact lv_istore_n B.1 B.2.1 hd hi hl hn hv (fun ls hl => k a μ1 ho p e R s m args below meth c H locs cells slots ls h1 h2 h3 h4 B hW hS hl)
theorem sm_istore {i : Nat} {x : Int32} {lv' : List (Nat × Value)} (hd : decode mi.2.1 pc = .ok (.istore i, 2)) (hn : i < mi.2.2.1) (hv : (i, Value.int x) :: lv.filter (fun q => !(q.1 == i) && !(q.1 + 1 == i && q.2.category == 2)) = lv') (k : sm_P G l cv d mi (pc + 2) lv' st μ o) : sm_P G l cv d mi pc lv (.int x :: st) μ o := by
  intro a μ1 ho p e R s m args below meth c H locs cells slots ls h1 h2 h3 h4 B hW hS hl
  exact lv_istore B.1 B.2.1 hd hl hn hv (fun ls hl => k a μ1 ho p e R s m args below meth c H locs cells slots ls h1 h2 h3 h4 B hW hS hl)
theorem sm_iinc {i q : Nat} {n : Int} {x v : Int32} {lv' : List (Nat × Value)} (hd : decode mi.2.1 pc = .ok (.iinc i n, 3)) (q : Nat) (hq : lv[q]? = some (i, .int x)) (hv0 : x + Int32.ofInt n = v) (hn : i < mi.2.2.1) (hv : (i, Value.int v) :: lv.filter (fun q => !(q.1 == i) && !(q.1 + 1 == i && q.2.category == 2)) = lv') (k : sm_P G l cv d mi (pc + 3) lv' st μ o) : sm_P G l cv d mi pc lv st μ o := by
  intro a μ1 ho p e R s m args below meth c H locs cells slots ls h1 h2 h3 h4 B hW hS hl
  exact lv_iinc B.1 B.2.1 hd hl hq hv0 hn hv (fun ls hl => k a μ1 ho p e R s m args below meth c H locs cells slots ls h1 h2 h3 h4 B hW hS hl)
theorem sm_if_eq {x : Int32} {off : Int} {tgt : Nat} {A B : Option (α × am_M)} (hd : decode mi.2.1 pc = .ok (.ifCond .eq off, 3)) (ht : (pc : Int) + off = (tgt : Int)) (kt : sm_P G l cv d mi tgt lv st μ A) (kf : sm_P G l cv d mi (pc + 3) lv st μ B) : sm_P G l cv d mi pc lv (.int x :: st) μ (if x = 0 then A else B) := by
  intro a μ1 ho p e R s m args below meth c H locs cells slots ls h1 h2 h3 h4 B hW hS hl
  by_cases hc : x = 0
  · rw [if_pos hc] at ho
    exact lv_if_eq B.1 B.2.1 hd ht (fun _ => kt a μ1 ho p e R s m args below meth c H locs cells slots ls h1 h2 h3 h4 B hW hS hl) (fun q => absurd hc q)
  · rw [if_neg hc] at ho
    exact lv_if_eq B.1 B.2.1 hd ht (fun q => absurd q hc) (fun _ => kf a μ1 ho p e R s m args below meth c H locs cells slots ls h1 h2 h3 h4 B hW hS hl)
theorem sm_icmp_eq {x y : Int32} {off : Int} {tgt : Nat} {A B : Option (α × am_M)} (hd : decode mi.2.1 pc = .ok (.if_icmp .eq off, 3)) (ht : (pc : Int) + off = (tgt : Int)) (kt : sm_P G l cv d mi tgt lv st μ A) (kf : sm_P G l cv d mi (pc + 3) lv st μ B) : sm_P G l cv d mi pc lv (.int y :: .int x :: st) μ (if x = y then A else B) := by
  intro a μ1 ho p e R s m args below meth c H locs cells slots ls h1 h2 h3 h4 B hW hS hl
  by_cases hc : x = y
  · rw [if_pos hc] at ho
    exact lv_icmp_eq B.1 B.2.1 hd ht (fun _ => kt a μ1 ho p e R s m args below meth c H locs cells slots ls h1 h2 h3 h4 B hW hS hl) (fun q => absurd hc q)
  · rw [if_neg hc] at ho
    exact lv_icmp_eq B.1 B.2.1 hd ht (fun q => absurd q hc) (fun _ => kf a μ1 ho p e R s m args below meth c H locs cells slots ls h1 h2 h3 h4 B hW hS hl)
theorem sm_if_ne {x : Int32} {off : Int} {tgt : Nat} {A B : Option (α × am_M)} (hd : decode mi.2.1 pc = .ok (.ifCond .ne off, 3)) (ht : (pc : Int) + off = (tgt : Int)) (kt : sm_P G l cv d mi tgt lv st μ A) (kf : sm_P G l cv d mi (pc + 3) lv st μ B) : sm_P G l cv d mi pc lv (.int x :: st) μ (if x = 0 then B else A) := by
  intro a μ1 ho p e R s m args below meth c H locs cells slots ls h1 h2 h3 h4 B hW hS hl
  by_cases hc : x = 0
  · rw [if_pos hc] at ho
    exact lv_if_ne B.1 B.2.1 hd ht (fun q => absurd hc q) (fun _ => kf a μ1 ho p e R s m args below meth c H locs cells slots ls h1 h2 h3 h4 B hW hS hl)
  · rw [if_neg hc] at ho
    exact lv_if_ne B.1 B.2.1 hd ht (fun _ => kt a μ1 ho p e R s m args below meth c H locs cells slots ls h1 h2 h3 h4 B hW hS hl) (fun q => absurd q hc)
theorem sm_icmp_ne {x y : Int32} {off : Int} {tgt : Nat} {A B : Option (α × am_M)} (hd : decode mi.2.1 pc = .ok (.if_icmp .ne off, 3)) (ht : (pc : Int) + off = (tgt : Int)) (kt : sm_P G l cv d mi tgt lv st μ A) (kf : sm_P G l cv d mi (pc + 3) lv st μ B) : sm_P G l cv d mi pc lv (.int y :: .int x :: st) μ (if x = y then B else A) := by
  intro a μ1 ho p e R s m args below meth c H locs cells slots ls h1 h2 h3 h4 B hW hS hl
  by_cases hc : x = y
  · rw [if_pos hc] at ho
    exact lv_icmp_ne B.1 B.2.1 hd ht (fun q => absurd hc q) (fun _ => kf a μ1 ho p e R s m args below meth c H locs cells slots ls h1 h2 h3 h4 B hW hS hl)
  · rw [if_neg hc] at ho
    exact lv_icmp_ne B.1 B.2.1 hd ht (fun _ => kt a μ1 ho p e R s m args below meth c H locs cells slots ls h1 h2 h3 h4 B hW hS hl) (fun q => absurd q hc)
theorem sm_if_lt {x : Int32} {off : Int} {tgt : Nat} {A B : Option (α × am_M)} (hd : decode mi.2.1 pc = .ok (.ifCond .lt off, 3)) (ht : (pc : Int) + off = (tgt : Int)) (kt : sm_P G l cv d mi tgt lv st μ A) (kf : sm_P G l cv d mi (pc + 3) lv st μ B) : sm_P G l cv d mi pc lv (.int x :: st) μ (if x < 0 then A else B) := by
  intro a μ1 ho p e R s m args below meth c H locs cells slots ls h1 h2 h3 h4 B hW hS hl
  by_cases hc : x < 0
  · rw [if_pos hc] at ho
    exact lv_if_lt B.1 B.2.1 hd ht (fun _ => kt a μ1 ho p e R s m args below meth c H locs cells slots ls h1 h2 h3 h4 B hW hS hl) (fun q => absurd hc q)
  · rw [if_neg hc] at ho
    exact lv_if_lt B.1 B.2.1 hd ht (fun q => absurd q hc) (fun _ => kf a μ1 ho p e R s m args below meth c H locs cells slots ls h1 h2 h3 h4 B hW hS hl)
theorem sm_icmp_lt {x y : Int32} {off : Int} {tgt : Nat} {A B : Option (α × am_M)} (hd : decode mi.2.1 pc = .ok (.if_icmp .lt off, 3)) (ht : (pc : Int) + off = (tgt : Int)) (kt : sm_P G l cv d mi tgt lv st μ A) (kf : sm_P G l cv d mi (pc + 3) lv st μ B) : sm_P G l cv d mi pc lv (.int y :: .int x :: st) μ (if x < y then A else B) := by
  intro a μ1 ho p e R s m args below meth c H locs cells slots ls h1 h2 h3 h4 B hW hS hl
  by_cases hc : x < y
  · rw [if_pos hc] at ho
    exact lv_icmp_lt B.1 B.2.1 hd ht (fun _ => kt a μ1 ho p e R s m args below meth c H locs cells slots ls h1 h2 h3 h4 B hW hS hl) (fun q => absurd hc q)
  · rw [if_neg hc] at ho
    exact lv_icmp_lt B.1 B.2.1 hd ht (fun q => absurd q hc) (fun _ => kf a μ1 ho p e R s m args below meth c H locs cells slots ls h1 h2 h3 h4 B hW hS hl)
theorem sm_if_ge {x : Int32} {off : Int} {tgt : Nat} {A B : Option (α × am_M)} (hd : decode mi.2.1 pc = .ok (.ifCond .ge off, 3)) (ht : (pc : Int) + off = (tgt : Int)) (kt : sm_P G l cv d mi tgt lv st μ A) (kf : sm_P G l cv d mi (pc + 3) lv st μ B) : sm_P G l cv d mi pc lv (.int x :: st) μ (if 0 ≤ x then A else B) := by
  intro a μ1 ho p e R s m args below meth c H locs cells slots ls h1 h2 h3 h4 B hW hS hl
  by_cases hc : 0 ≤ x
  · rw [if_pos hc] at ho
    exact lv_if_ge B.1 B.2.1 hd ht (fun _ => kt a μ1 ho p e R s m args below meth c H locs cells slots ls h1 h2 h3 h4 B hW hS hl) (fun q => absurd hc q)
  · rw [if_neg hc] at ho
    exact lv_if_ge B.1 B.2.1 hd ht (fun q => absurd q hc) (fun _ => kf a μ1 ho p e R s m args below meth c H locs cells slots ls h1 h2 h3 h4 B hW hS hl)
theorem sm_icmp_ge {x y : Int32} {off : Int} {tgt : Nat} {A B : Option (α × am_M)} (hd : decode mi.2.1 pc = .ok (.if_icmp .ge off, 3)) (ht : (pc : Int) + off = (tgt : Int)) (kt : sm_P G l cv d mi tgt lv st μ A) (kf : sm_P G l cv d mi (pc + 3) lv st μ B) : sm_P G l cv d mi pc lv (.int y :: .int x :: st) μ (if y ≤ x then A else B) := by
  intro a μ1 ho p e R s m args below meth c H locs cells slots ls h1 h2 h3 h4 B hW hS hl
  by_cases hc : y ≤ x
  · rw [if_pos hc] at ho
    exact lv_icmp_ge B.1 B.2.1 hd ht (fun _ => kt a μ1 ho p e R s m args below meth c H locs cells slots ls h1 h2 h3 h4 B hW hS hl) (fun q => absurd hc q)
  · rw [if_neg hc] at ho
    exact lv_icmp_ge B.1 B.2.1 hd ht (fun q => absurd q hc) (fun _ => kf a μ1 ho p e R s m args below meth c H locs cells slots ls h1 h2 h3 h4 B hW hS hl)
theorem sm_if_gt {x : Int32} {off : Int} {tgt : Nat} {A B : Option (α × am_M)} (hd : decode mi.2.1 pc = .ok (.ifCond .gt off, 3)) (ht : (pc : Int) + off = (tgt : Int)) (kt : sm_P G l cv d mi tgt lv st μ A) (kf : sm_P G l cv d mi (pc + 3) lv st μ B) : sm_P G l cv d mi pc lv (.int x :: st) μ (if 0 < x then A else B) := by
  intro a μ1 ho p e R s m args below meth c H locs cells slots ls h1 h2 h3 h4 B hW hS hl
  by_cases hc : 0 < x
  · rw [if_pos hc] at ho
    exact lv_if_gt B.1 B.2.1 hd ht (fun _ => kt a μ1 ho p e R s m args below meth c H locs cells slots ls h1 h2 h3 h4 B hW hS hl) (fun q => absurd hc q)
  · rw [if_neg hc] at ho
    exact lv_if_gt B.1 B.2.1 hd ht (fun q => absurd q hc) (fun _ => kf a μ1 ho p e R s m args below meth c H locs cells slots ls h1 h2 h3 h4 B hW hS hl)
theorem sm_icmp_gt {x y : Int32} {off : Int} {tgt : Nat} {A B : Option (α × am_M)} (hd : decode mi.2.1 pc = .ok (.if_icmp .gt off, 3)) (ht : (pc : Int) + off = (tgt : Int)) (kt : sm_P G l cv d mi tgt lv st μ A) (kf : sm_P G l cv d mi (pc + 3) lv st μ B) : sm_P G l cv d mi pc lv (.int y :: .int x :: st) μ (if y < x then A else B) := by
  intro a μ1 ho p e R s m args below meth c H locs cells slots ls h1 h2 h3 h4 B hW hS hl
  by_cases hc : y < x
  · rw [if_pos hc] at ho
    exact lv_icmp_gt B.1 B.2.1 hd ht (fun _ => kt a μ1 ho p e R s m args below meth c H locs cells slots ls h1 h2 h3 h4 B hW hS hl) (fun q => absurd hc q)
  · rw [if_neg hc] at ho
    exact lv_icmp_gt B.1 B.2.1 hd ht (fun q => absurd q hc) (fun _ => kf a μ1 ho p e R s m args below meth c H locs cells slots ls h1 h2 h3 h4 B hW hS hl)
theorem sm_if_le {x : Int32} {off : Int} {tgt : Nat} {A B : Option (α × am_M)} (hd : decode mi.2.1 pc = .ok (.ifCond .le off, 3)) (ht : (pc : Int) + off = (tgt : Int)) (kt : sm_P G l cv d mi tgt lv st μ A) (kf : sm_P G l cv d mi (pc + 3) lv st μ B) : sm_P G l cv d mi pc lv (.int x :: st) μ (if x ≤ 0 then A else B) := by
  intro a μ1 ho p e R s m args below meth c H locs cells slots ls h1 h2 h3 h4 B hW hS hl
  by_cases hc : x ≤ 0
  · rw [if_pos hc] at ho
    exact lv_if_le B.1 B.2.1 hd ht (fun _ => kt a μ1 ho p e R s m args below meth c H locs cells slots ls h1 h2 h3 h4 B hW hS hl) (fun q => absurd hc q)
  · rw [if_neg hc] at ho
    exact lv_if_le B.1 B.2.1 hd ht (fun q => absurd q hc) (fun _ => kf a μ1 ho p e R s m args below meth c H locs cells slots ls h1 h2 h3 h4 B hW hS hl)
theorem sm_icmp_le {x y : Int32} {off : Int} {tgt : Nat} {A B : Option (α × am_M)} (hd : decode mi.2.1 pc = .ok (.if_icmp .le off, 3)) (ht : (pc : Int) + off = (tgt : Int)) (kt : sm_P G l cv d mi tgt lv st μ A) (kf : sm_P G l cv d mi (pc + 3) lv st μ B) : sm_P G l cv d mi pc lv (.int y :: .int x :: st) μ (if x ≤ y then A else B) := by
  intro a μ1 ho p e R s m args below meth c H locs cells slots ls h1 h2 h3 h4 B hW hS hl
  by_cases hc : x ≤ y
  · rw [if_pos hc] at ho
    exact lv_icmp_le B.1 B.2.1 hd ht (fun _ => kt a μ1 ho p e R s m args below meth c H locs cells slots ls h1 h2 h3 h4 B hW hS hl) (fun q => absurd hc q)
  · rw [if_neg hc] at ho
    exact lv_icmp_le B.1 B.2.1 hd ht (fun q => absurd q hc) (fun _ => kf a μ1 ho p e R s m args below meth c H locs cells slots ls h1 h2 h3 h4 B hW hS hl)
theorem sm_tsi {x c1 : Int32} {dflt lo hi off : Int} {offs : Array Int} {len tgt : Nat} (hx1 : x = c1) (hd : decode mi.2.1 pc = .ok (.tableswitch dflt lo hi offs, len)) (g1 : ¬ c1.toInt < lo) (g2 : ¬ hi < c1.toInt) (go : offs[(c1.toInt - lo).toNat]? = some off) (ht : (pc : Int) + off = (tgt : Int)) (k : sm_P G l cv d mi tgt lv st μ o) : sm_P G l cv d mi pc lv (.int x :: st) μ o := by
  subst hx1
  exact sm_one (fun p e R s m args below meth c H locs cells slots Q ls hx hb hown hts hl w => lv_tableIn hx hb hd g1 g2 go ht w) k
theorem sm_tso {x : Int32} {dflt lo hi : Int} {offs : Array Int} {len tgt : Nat} (hd : decode mi.2.1 pc = .ok (.tableswitch dflt lo hi offs, len)) (h : x.toInt < lo ∨ hi < x.toInt) (ht : (pc : Int) + dflt = (tgt : Int)) (k : sm_P G l cv d mi tgt lv st μ o) : sm_P G l cv d mi pc lv (.int x :: st) μ o := sm_one (fun p e R s m args below meth c H locs cells slots Q ls hx hb hown hts hl w => lv_tableOut hx hb hd h ht w) k
theorem sm_lku {x : Int32} {dflt off : Int} {ps : Array (Int × Int)} {len tgt : Nat} (hd : decode mi.2.1 pc = .ok (.lookupswitch dflt ps, len)) (hp : (ps.toList.zip (ps.toList.drop 1)).all (fun (a, next) => a.1 < next.1) = true) (go : Op.lookupswitch.offset ps.toList dflt x.toInt = off) (ht : (pc : Int) + off = (tgt : Int)) (k : sm_P G l cv d mi tgt lv st μ o) : sm_P G l cv d mi pc lv (.int x :: st) μ o := sm_one (fun p e R s m args below meth c H locs cells slots Q ls hx hb hown hts hl w => lv_lookup hx hb hd hp go ht w) k
theorem am_ne {x : Int32} {n : Int} {c1 : Int32} (hc : c1.toInt = n) (h : ¬ x = c1) : x.toInt ≠ n := fun e => h (Int32.toInt_inj.mp (e.trans hc.symm))
theorem sm_iret {x : Int32} (hd : decode mi.2.1 pc = .ok (.ireturn, 1)) (hr : mi.2.2.2 = some .int) : sm_P G l am_ci d mi pc lv [.int x] μ (some (x, μ)) := by
  intro a μ1 ho p e R s m args below meth c H locs cells slots ls h1 h2 h3 h4 B hW hS hl
  cases ho
  exact W.iret B.1 B.2.1 (B.2.2.2.1.trans hr) (fun t ht _ => ⟨rfl, by rw [ht]; exact hW, hS.F ht⟩) hS.2.2 hd B.2.2.2.2.2.2.1
theorem sm_lret {x : Int64} (hd : decode mi.2.1 pc = .ok (.lreturn, 1)) (hr : mi.2.2.2 = some .long) : sm_P G l am_cl d mi pc lv [.long x] μ (some (x, μ)) := by
  intro a μ1 ho p e R s m args below meth c H locs cells slots ls h1 h2 h3 h4 B hW hS hl
  cases ho
  exact W.lret B.1 B.2.1 (B.2.2.2.1.trans hr) (fun t ht _ => ⟨rfl, by rw [ht]; exact hW, hS.F ht⟩) hS.2.2 hd B.2.2.2.2.2.2.1
theorem sm_vret (hd : decode mi.2.1 pc = .ok (.return_, 1)) (hr : mi.2.2.2 = none) : sm_P G l am_cu d mi pc lv [] μ (some ((), μ)) := by
  intro a μ1 ho p e R s m args below meth c H locs cells slots ls h1 h2 h3 h4 B hW hS hl
  cases ho
  exact W.vret B.1 B.2.1 (B.2.2.2.1.trans hr) (fun t ht _ => ⟨rfl, by rw [ht]; exact hW, hS.F ht⟩) hS.2.2 hd B.2.2.2.2.2.2.1
theorem sm_zret {x : Int32} (hd : decode mi.2.1 pc = .ok (.ireturn, 1)) (hr : mi.2.2.2 = some .boolean) : sm_P G l am_ci d mi pc lv [.int x] μ (am_z x μ) := by
  intro a μ1 ho p e R s m args below meth c H locs cells slots ls h1 h2 h3 h4 B hW hS hl
  unfold am_z at ho
  by_cases hz : x = 0 ∨ x = 1
  · rw [if_pos hz] at ho
    cases ho
    exact W.zret (ty := .boolean) B.1 B.2.1 (B.2.2.2.1.trans hr) (by rcases hz with rfl | rfl <;> rfl) (fun t ht _ => ⟨rfl, by rw [ht]; exact hW, hS.F ht⟩) hS.2.2 hd B.2.2.2.2.2.2.1
  · rw [if_neg hz] at ho
    cases ho
end SMA
end
section
def am_fi (own : String) (idx k j : Nat) (f : Option Nat) : Prop := ∃ (ci N : Nat) (fs : List (Option Nat)) (C : String) (T : u_T) (ty0 : Nat → FieldType), ((k, 0, ci, 1, fs) : am_Q) ∈ am_ly ∧ vwCl[ci]? = some (C, T, N) ∧ (∀ w ∈ u_ws C T N, w ∈ am_tb) ∧ (∀ i, i < N → parseFieldDescriptor (T i).2.2.1 = some (ty0 i)) ∧ (∀ a, a < N → ∀ b, b < N → a ≠ b → (T a).2.1 ≠ (T b).2.1) ∧ j < N ∧ fs[j]? = some f ∧ Cond.fieldLink own idx (T j).1 (T j).2.1 (T j).2.2.1 ∈ lw_tbl ∧ (f = none → (T j).2.2.2 = false ∧ parseFieldDescriptor (T j).2.2.1 = some .int)
theorem am_in {ws : List Cond} (ps : List Nat) (hp : ws = ps.filterMap (fun i => lw_tbl[i]?)) (hg : ws.all goodWord = true) : ∀ w ∈ ws, w ∈ am_tb := by
  intro w hw
  refine am_g ?_ (List.all_eq_true.mp hg w hw)
  rw [hp] at hw
  obtain ⟨i, -, hi⟩ := List.mem_filterMap.mp hw
  exact List.mem_of_getElem? hi
def am_uf (μ : am_M) (k r : Nat) (f : Nat → Int64) : am_M := (μ.1, fun a b j => if a = k ∧ b = r then f j else μ.2 a b j)
def am_cg {γ : Type} (sp dp n : Int32) (N : Nat) (k : Nat → Nat → Nat → Option γ) : Option γ := if sp < 0 ∨ dp < 0 ∨ n < 0 ∨ ¬ sp.toNatClampNeg + n.toNatClampNeg ≤ N ∨ ¬ dp.toNatClampNeg + n.toNatClampNeg ≤ N then none else k sp.toNatClampNeg dp.toNatClampNeg n.toNatClampNeg
section SMM
variable {α : Type} {G : am_G} {l : Launch} {cv : α → Option Value} {d : Nat} {mi : am_Me} {pc : Nat} {lv : List (Nat × Value)} {st : List Value} {μ : am_M} {o : Option (α × am_M)}
theorem sm_geti {idx k j : Nat} (hd : decode mi.2.1 pc = .ok (.getfield idx, 3)) (hf : am_fi mi.1.cls idx k j none) (kk : sm_P G l cv d mi (pc + 3) lv (.int (μ.1 k 0 j) :: st) μ o) : sm_P G l cv d mi pc lv (.ref (am_ad G k 0) :: st) μ o := by
  obtain ⟨ci, N, fs, C, T, ty0, hq, hc, hin, hty, hnm, hj, hfs, hlk, -⟩ := hf
  intro a μ1 ho p e R s m args below meth c H locs cells slots ls h1 h2 h3 h4 B hW hS hl
  obtain ⟨i, hi⟩ := am_at hq (r := 0) Nat.zero_lt_one
  have hv := am_fs_get (ad := am_ad G) (μ := μ) (k := k) (r := 0) fs 0 j none hfs
  rw [Nat.zero_add] at hv
  exact va_get (D := G.1) (ci := ci) (v := .int (μ.1 k 0 j)) (C := C) (T := T) (N := N) (Ts := am_tb) B.1 B.2.1 B.2.2.2.2.2.1 hin B.2.2.2.2.1 B.2.2.2.2.2.2.2.2.1 hW i (am_wat hi) hc j hj (B.2.2.2.2.2.1 _ (am_g hlk rfl)) (fun _ h => h) hv hd (kk a μ1 ho p e R s m args below meth c H locs cells slots ls h1 h2 h3 h4 B hW hS hl)
theorem sm_getr {idx k j k2 : Nat} (hd : decode mi.2.1 pc = .ok (.getfield idx, 3)) (hf : am_fi mi.1.cls idx k j (some k2)) (kk : sm_P G l cv d mi (pc + 3) lv (.ref (am_ad G k2 0) :: st) μ o) : sm_P G l cv d mi pc lv (.ref (am_ad G k 0) :: st) μ o := by
  obtain ⟨ci, N, fs, C, T, ty0, hq, hc, hin, hty, hnm, hj, hfs, hlk, -⟩ := hf
  intro a μ1 ho p e R s m args below meth c H locs cells slots ls h1 h2 h3 h4 B hW hS hl
  obtain ⟨i, hi⟩ := am_at hq (r := 0) Nat.zero_lt_one
  have hv := am_fs_get (ad := am_ad G) (μ := μ) (k := k) (r := 0) fs 0 j (some k2) hfs
  exact va_get (D := G.1) (ci := ci) (v := .ref (am_ad G k2 0)) (C := C) (T := T) (N := N) (Ts := am_tb) B.1 B.2.1 B.2.2.2.2.2.1 hin B.2.2.2.2.1 B.2.2.2.2.2.2.2.2.1 hW i (am_wat hi) hc j hj (B.2.2.2.2.2.1 _ (am_g hlk rfl)) (fun _ h => h) hv hd (kk a μ1 ho p e R s m args below meth c H locs cells slots ls h1 h2 h3 h4 B hW hS hl)
theorem sm_puti {idx k j : Nat} {x : Int32} (hd : decode mi.2.1 pc = .ok (.putfield idx, 3)) (hf : am_fi mi.1.cls idx k j none) (kk : sm_P G l cv d mi (pc + 3) lv st (am_ui μ k 0 j x) o) : sm_P G l cv d mi pc lv (.int x :: .ref (am_ad G k 0) :: st) μ o := by
  obtain ⟨ci, N, fs, C, T, ty0, hq, hc, hin, hty, hnm, hj, hfs, hlk, hf0⟩ := hf
  intro a μ1 ho p e R s m args below meth c H locs cells slots ls h1 h2 h3 h4 B hW hS hl
  obtain ⟨i, hi⟩ := am_at hq (r := 0) Nat.zero_lt_one
  have hlt : j < (am_fs (am_ad G) μ k 0 0 fs).length := by
    rw [am_fs_len]
    exact (List.getElem?_eq_some_iff.mp hfs).1
  have hset := am_fs_set (ad := am_ad G) (μ := μ) (k := k) (r := 0) (x := x) fs 0 j hfs
  rw [Nat.zero_add] at hset
  exact va_put (D := G.1) (ci := ci) (ty := .int) (v := .int x) (C := C) (T := T) (N := N) (Ts := am_tb) B.1 B.2.1 B.2.2.2.2.2.1 hin ty0 hty hnm B.2.2.2.2.1 B.2.2.2.2.2.2.2.2.1 hW (am_apart B.2.2.2.2.2.2.2.1) hS i (am_wat hi) hc j hj (B.2.2.2.2.2.1 _ (am_g hlk rfl)) (fun _ h => h) (hf0 rfl).1 (hf0 rfl).2 rfl rfl hlt hd (fun H1 locs1 hP1 _ hS1 => kk a μ1 ho p e R s m args below meth c H1 locs1 cells slots ls h1 h2 h3 h4 B (am_set B.2.2.2.2.2.2.2.1 hi hP1 (by show Sum.inr (ci, _) = _; rw [hset]) (fun a b z hn => if_neg fun h => hn ⟨h.1, h.2.1⟩) (fun _ _ _ _ => rfl)) hS1 hl)
theorem sm_iald {k r n rows : Nat} {i : Int32} {f : Nat → Option (α × am_M)} (hd : decode mi.2.1 pc = .ok (.iaload, 1)) (hq : ((k, 1, n, rows, []) : am_Q) ∈ am_ly) (hr : r < rows) (kk : ∀ j, j < n → sm_P G l cv d mi (pc + 1) lv (.int (μ.1 k r j) :: st) μ (f j)) : sm_P G l cv d mi pc lv (.int i :: .ref (am_ad G k r) :: st) μ (am_gd i n f) := by
  intro a μ1 ho p e R s m args below meth c H locs cells slots ls h1 h2 h3 h4 B hW hS hl
  obtain ⟨i', hi⟩ := am_at hq hr
  unfold am_gd at ho
  by_cases c0 : i < 0
  · rw [if_pos c0] at ho; cases ho
  · rw [if_neg c0] at ho
    by_cases c1 : i.toNatClampNeg < n
    · rw [if_pos c1] at ho
      exact va_iald (D := G.1) B.1 B.2.1 B.2.2.2.2.2.2.2.2.1 hW i' 0 (am_wat hi) rfl (fun h => h.elim c0 (Nat.not_le.mpr c1)) hd (kk _ c1 a μ1 ho p e R s m args below meth c H locs cells slots ls h1 h2 h3 h4 B hW hS hl)
    · rw [if_neg c1] at ho; cases ho
theorem sm_iast {k r n rows : Nat} {i x : Int32} {f : Nat → Option (α × am_M)} (hd : decode mi.2.1 pc = .ok (.iastore, 1)) (hq : ((k, 1, n, rows, []) : am_Q) ∈ am_ly) (hr : r < rows) (kk : ∀ j, j < n → sm_P G l cv d mi (pc + 1) lv st (am_ui μ k r j x) (f j)) : sm_P G l cv d mi pc lv (.int x :: .int i :: .ref (am_ad G k r) :: st) μ (am_gd i n f) := by
  intro a μ1 ho p e R s m args below meth c H locs cells slots ls h1 h2 h3 h4 B hW hS hl
  obtain ⟨i', hi⟩ := am_at hq hr
  unfold am_gd at ho
  by_cases c0 : i < 0
  · rw [if_pos c0] at ho; cases ho
  · rw [if_neg c0] at ho
    by_cases c1 : i.toNatClampNeg < n
    · rw [if_pos c1] at ho
      exact va_iast (D := G.1) B.1 B.2.1 B.2.2.2.2.2.2.2.2.1 hW (am_apart B.2.2.2.2.2.2.2.1) hS i' 0 (am_wat hi) rfl (fun h => h.elim c0 (Nat.not_le.mpr c1)) hd (fun H1 locs1 hP1 _ hS1 => kk _ c1 a μ1 ho p e R s m args below meth c H1 locs1 cells slots ls h1 h2 h3 h4 B (am_set B.2.2.2.2.2.2.2.1 hi hP1 (by show Sum.inl (am_cT G 1, (n, Sum.inl _)) = _; congr 4; funext z; simp [am_ui, upd]) (fun a b z hn => if_neg fun h => hn ⟨h.1, h.2.1⟩) (fun _ _ _ _ => rfl)) hS1 hl)
    · rw [if_neg c1] at ho; cases ho
theorem sm_lald {k r n rows : Nat} {i : Int32} {f : Nat → Option (α × am_M)} (hd : decode mi.2.1 pc = .ok (.laload, 1)) (hq : ((k, 2, n, rows, []) : am_Q) ∈ am_ly) (hr : r < rows) (kk : ∀ j, j < n → sm_P G l cv d mi (pc + 1) lv (.long (μ.2 k r j) :: st) μ (f j)) : sm_P G l cv d mi pc lv (.int i :: .ref (am_ad G k r) :: st) μ (am_gd i n f) := by
  intro a μ1 ho p e R s m args below meth c H locs cells slots ls h1 h2 h3 h4 B hW hS hl
  obtain ⟨i', hi⟩ := am_at hq hr
  unfold am_gd at ho
  by_cases c0 : i < 0
  · rw [if_pos c0] at ho; cases ho
  · rw [if_neg c0] at ho
    by_cases c1 : i.toNatClampNeg < n
    · rw [if_pos c1] at ho
      exact va_lald (D := G.1) B.1 B.2.1 B.2.2.2.2.2.2.2.2.1 hW i' 1 (am_wat hi) rfl (fun h => h.elim c0 (Nat.not_le.mpr c1)) hd (kk _ c1 a μ1 ho p e R s m args below meth c H locs cells slots ls h1 h2 h3 h4 B hW hS hl)
    · rw [if_neg c1] at ho; cases ho
theorem sm_last {k r n rows : Nat} {i : Int32} {x : Int64} {f : Nat → Option (α × am_M)} (hd : decode mi.2.1 pc = .ok (.lastore, 1)) (hq : ((k, 2, n, rows, []) : am_Q) ∈ am_ly) (hr : r < rows) (kk : ∀ j, j < n → sm_P G l cv d mi (pc + 1) lv st (am_ul μ k r j x) (f j)) : sm_P G l cv d mi pc lv (.long x :: .int i :: .ref (am_ad G k r) :: st) μ (am_gd i n f) := by
  intro a μ1 ho p e R s m args below meth c H locs cells slots ls h1 h2 h3 h4 B hW hS hl
  obtain ⟨i', hi⟩ := am_at hq hr
  unfold am_gd at ho
  by_cases c0 : i < 0
  · rw [if_pos c0] at ho; cases ho
  · rw [if_neg c0] at ho
    by_cases c1 : i.toNatClampNeg < n
    · rw [if_pos c1] at ho
      exact va_last (D := G.1) B.1 B.2.1 B.2.2.2.2.2.2.2.2.1 hW (am_apart B.2.2.2.2.2.2.2.1) hS i' 1 (am_wat hi) rfl (fun h => h.elim c0 (Nat.not_le.mpr c1)) hd (fun H1 locs1 hP1 _ hS1 => kk _ c1 a μ1 ho p e R s m args below meth c H1 locs1 cells slots ls h1 h2 h3 h4 B (am_set B.2.2.2.2.2.2.2.1 hi hP1 (by show Sum.inl (am_cT G 2, (n, Sum.inr (Sum.inl _))) = _; congr 5; funext z; simp [am_ul, vp_updL]) (fun _ _ _ _ => rfl) (fun a b z hn => if_neg fun h => hn ⟨h.1, h.2.1⟩)) hS1 hl)
    · rw [if_neg c1] at ho; cases ho
theorem sm_aald {t k k2 n : Nat} {ty : FieldType} {i : Int32} {f : Nat → Option (α × am_M)} (hd : decode mi.2.1 pc = .ok (.aaload, 1)) (hq : ((k, t + 3, n, 1, [some k2]) : am_Q) ∈ am_ly) (ht : ∀ G : am_G, (am_ty G)[t + 2]? = some (am_cT G (t + 3), .array ty)) (kk : ∀ j, j < n → sm_P G l cv d mi (pc + 1) lv (.ref (am_ad G k2 j) :: st) μ (f j)) : sm_P G l cv d mi pc lv (.int i :: .ref (am_ad G k 0) :: st) μ (am_gd i n f) := by
  intro a μ1 ho p e R s m args below meth c H locs cells slots ls h1 h2 h3 h4 B hW hS hl
  obtain ⟨i', hi⟩ := am_at hq (r := 0) Nat.zero_lt_one
  unfold am_gd at ho
  by_cases c0 : i < 0
  · rw [if_pos c0] at ho; cases ho
  · rw [if_neg c0] at ho
    by_cases c1 : i.toNatClampNeg < n
    · rw [if_pos c1] at ho
      exact W.aald (v := .ref (am_ad G k2 i.toNatClampNeg)) (ty := .array ty) B.1 B.2.1 (hW i' _ (am_wat hi)) ((B.2.2.2.2.2.2.2.2.1.2 (t + 2) _ (ht G)).1 n (fun j => va_rf (some (am_ad G k2 j)))) rfl (fun q => by cases q) (by show ¬ (i < 0 ∨ (arrV _ _ _).slots.size ≤ _); rw [arrV_size]; exact fun h => h.elim c0 (Nat.not_le.mpr c1)) (by show (arrV _ _ _).slots[_]? = _; rw [arrV_read _ _ c1]; rfl) rfl rfl hd (kk _ c1 a μ1 ho p e R s m args below meth c H locs cells slots ls h1 h2 h3 h4 B hW hS hl)
    · rw [if_neg c1] at ho; cases ho
theorem sm_alen {k n rows : Nat} {v : Int32} (hd : decode mi.2.1 pc = .ok (.arraylength, 1)) (hq : ((k, 1, n, 1, []) : am_Q) ∈ am_ly) (hv : Int32.ofNat n = v) (kk : sm_P G l cv d mi (pc + 1) lv (.int v :: st) μ o) : sm_P G l cv d mi pc lv (.ref (am_ad G k 0) :: st) μ o := by
  intro a μ1 ho p e R s m args below meth c H locs cells slots ls h1 h2 h3 h4 B hW hS hl
  obtain ⟨i', hi⟩ := am_at hq (r := 0) Nat.zero_lt_one
  exact va_alen (D := G.1) (ty := .int) B.1 B.2.1 B.2.2.2.2.2.2.2.2.1 hW i' 0 (am_wat hi) rfl hv hd (kk a μ1 ho p e R s m args below meth c H locs cells slots ls h1 h2 h3 h4 B hW hS hl)
theorem sm_gets {idx j : Nat} {nm : String} {tb : List Int32} (hd : decode mi.2.1 pc = .ok (.getstatic idx, 3)) (hw : Cond.fieldLink mi.1.cls idx "PointsForAll$Purses" nm "[I" ∈ lw_tbl) (hj : am_st[j]? = some (nm, tb)) (kk : sm_P G l cv d mi (pc + 3) lv (.ref (am_ad G (900 + j) 0) :: st) μ o) : sm_P G l cv d mi pc lv st μ o := by
  intro a μ1 ho p e R s m args below meth c H locs cells slots ls h1 h2 h3 h4 B hW hS hl
  exact va_gets B.1 B.2.1 (B.2.2.2.2.2.2.2.2.2.1 j _ hj).1 hS B.2.2.2.2.1 (B.2.2.2.2.2.1 _ (am_g hw rfl)) (fun _ h => h) hd (kk a μ1 ho p e R s m args below meth c H locs cells slots ls h1 h2 h3 h4 B hW hS hl)
theorem sm_tald {j : Nat} {nm : String} {tb : List Int32} {i : Int32} {f : Nat → Option (α × am_M)} (hd : decode mi.2.1 pc = .ok (.iaload, 1)) (hj : am_st[j]? = some (nm, tb)) (kk : ∀ z, z < 8 → sm_P G l cv d mi (pc + 1) lv (.int (tb.getD z 0) :: st) μ (f z)) : sm_P G l cv d mi pc lv (.int i :: .ref (am_ad G (900 + j) 0) :: st) μ (am_gd i 8 f) := by
  intro a μ1 ho p e R s m args below meth c H locs cells slots ls h1 h2 h3 h4 B hW hS hl
  unfold am_gd at ho
  by_cases c0 : i < 0
  · rw [if_pos c0] at ho; cases ho
  · rw [if_neg c0] at ho
    by_cases c1 : i.toNatClampNeg < 8
    · rw [if_pos c1] at ho
      exact va_ti B.1 B.2.1 (B.2.2.2.2.2.2.2.2.2.1 j _ hj).2 hS (fun h => h.elim c0 (Nat.not_le.mpr c1)) rfl hd (kk _ c1 a μ1 ho p e R s m args below meth c H locs cells slots ls h1 h2 h3 h4 B hW hS hl)
    · rw [if_neg c1] at ho; cases ho
theorem sm_sald {i : Int32} {f : Nat → Option (α × am_M)} (hd : decode mi.2.1 pc = .ok (.iaload, 1)) (kk : ∀ j, j < am_L G → sm_P G l cv d mi (pc + 1) lv (.int (am_xs G j) :: st) μ (f j)) : sm_P G l cv d mi pc lv (.int i :: .ref (am_b G) :: st) μ (am_gd i (am_L G) f) := by
  intro a μ1 ho p e R s m args below meth c H locs cells slots ls h1 h2 h3 h4 B hW hS hl
  unfold am_gd at ho
  by_cases c0 : i < 0
  · rw [if_pos c0] at ho; cases ho
  · rw [if_neg c0] at ho
    by_cases c1 : i.toNatClampNeg < am_L G
    · rw [if_pos c1] at ho
      exact va_sld B.1 B.2.1 B.2.2.2.2.2.2.2.2.2.2.1 B.2.2.2.2.2.2.2.2.2.2.2.1 B.2.2.2.2.2.2.2.2.2.2.2.2.1 hS (fun h => h.elim c0 (Nat.not_le.mpr c1)) hd (kk _ c1 a μ1 ho p e R s m args below meth c H locs cells slots ls h1 h2 h3 h4 B hW hS hl)
    · rw [if_neg c1] at ho; cases ho
theorem sm_slen (hd : decode mi.2.1 pc = .ok (.arraylength, 1)) (kk : sm_P G l cv d mi (pc + 1) lv (.int (Int32.ofNat (am_L G)) :: st) μ o) : sm_P G l cv d mi pc lv (.ref (am_b G) :: st) μ o := by
  intro a μ1 ho p e R s m args below meth c H locs cells slots ls h1 h2 h3 h4 B hW hS hl
  exact va_slen B.1 B.2.1 B.2.2.2.2.2.2.2.2.2.2.1 B.2.2.2.2.2.2.2.2.2.2.2.1 B.2.2.2.2.2.2.2.2.2.2.2.2.1 hS hd (kk a μ1 ho p e R s m args below meth c H locs cells slots ls h1 h2 h3 h4 B hW hS hl)
theorem sm_max {idx : Nat} {x y : Int32} (hd : decode mi.2.1 pc = .ok (.invokestatic idx, 3)) (hdd : 1 ≤ d) (hst : (st.map fun v => v.category).sum ≤ 8) (hw : Cond.methodLink mi.1.cls idx Lib.Math.max.name ∈ lw_tbl) (hw2 : Cond.static Lib.Math.max.name ∈ lw_tbl) (hw3 : Cond.initialized "java/lang/Math" ∈ lw_tbl) (hw4 : Cond.code Lib.Math.max.name Lib.Math.max.code 2 (some .int) ∈ lw_tbl) (kk : sm_P G l cv d mi (pc + 3) lv (.int (if x < y then y else x) :: st) μ o) : sm_P G l cv d mi pc lv (.int y :: .int x :: st) μ o := by
  intro a μ1 ho p e R s m args below meth c H locs cells slots ls h1 h2 h3 h4 B hW hS hl
  exact va_mmax B.1 B.2.1 (B.2.2.1.trans hl.1.symm) B.2.2.2.2.1 (B.2.2.2.2.2.1 _ (am_g hw rfl)) (B.2.2.2.2.2.1 _ (am_g hw2 rfl)) (B.2.2.2.2.2.1 _ (am_g hw3 rfl)) (B.2.2.2.2.2.1 _ (am_g hw4 rfl)) (by omega) (by omega) h3 h4 hd (kk a μ1 ho p e R s m args below meth c H locs cells slots ls h1 h2 h3 h4 B hW hS hl)
theorem sm_min {idx : Nat} {x y : Int32} (hd : decode mi.2.1 pc = .ok (.invokestatic idx, 3)) (hdd : 1 ≤ d) (hst : (st.map fun v => v.category).sum ≤ 8) (hw : Cond.methodLink mi.1.cls idx Lib.Math.min.name ∈ lw_tbl) (hw2 : Cond.static Lib.Math.min.name ∈ lw_tbl) (hw3 : Cond.initialized "java/lang/Math" ∈ lw_tbl) (hw4 : Cond.code Lib.Math.min.name Lib.Math.min.code 2 (some .int) ∈ lw_tbl) (kk : sm_P G l cv d mi (pc + 3) lv (.int (if y < x then y else x) :: st) μ o) : sm_P G l cv d mi pc lv (.int y :: .int x :: st) μ o := by
  intro a μ1 ho p e R s m args below meth c H locs cells slots ls h1 h2 h3 h4 B hW hS hl
  exact va_mmin B.1 B.2.1 (B.2.2.1.trans hl.1.symm) B.2.2.2.2.1 (B.2.2.2.2.2.1 _ (am_g hw rfl)) (B.2.2.2.2.2.1 _ (am_g hw2 rfl)) (B.2.2.2.2.2.1 _ (am_g hw3 rfl)) (B.2.2.2.2.2.1 _ (am_g hw4 rfl)) (by omega) (by omega) h3 h4 hd (kk a μ1 ho p e R s m args below meth c H locs cells slots ls h1 h2 h3 h4 B hW hS hl)
theorem sm_abs {idx : Nat} {x : Int32} (hd : decode mi.2.1 pc = .ok (.invokestatic idx, 3)) (hdd : 1 ≤ d) (hst : (st.map fun v => v.category).sum ≤ 8) (hw : Cond.methodLink mi.1.cls idx Lib.Math.abs.name ∈ lw_tbl) (hw2 : Cond.static Lib.Math.abs.name ∈ lw_tbl) (hw3 : Cond.initialized "java/lang/Math" ∈ lw_tbl) (hw4 : Cond.code Lib.Math.abs.name Lib.Math.abs.code 1 (some .int) ∈ lw_tbl) (kk : sm_P G l cv d mi (pc + 3) lv (.int (if 0 ≤ x then x else 0 - x) :: st) μ o) : sm_P G l cv d mi pc lv (.int x :: st) μ o := by
  intro a μ1 ho p e R s m args below meth c H locs cells slots ls h1 h2 h3 h4 B hW hS hl
  exact va_mabs B.1 B.2.1 (B.2.2.1.trans hl.1.symm) B.2.2.2.2.1 (B.2.2.2.2.2.1 _ (am_g hw rfl)) (B.2.2.2.2.2.1 _ (am_g hw2 rfl)) (B.2.2.2.2.2.1 _ (am_g hw3 rfl)) (B.2.2.2.2.2.1 _ (am_g hw4 rfl)) (by omega) (by omega) h3 h4 hd (kk a μ1 ho p e R s m args below meth c H locs cells slots ls h1 h2 h3 h4 B hW hS hl)
theorem sm_copyl {idx k r1 r2 n rows : Nat} {sp dp z : Int32} {f : Nat → Nat → Nat → Option (α × am_M)} (hd : decode mi.2.1 pc = .ok (.invokestatic idx, 3)) (hdd : 1 ≤ d) (hst : (st.map fun v => v.category).sum ≤ 8) (hwr : 8 + (nativeFrameWords "java/lang/System" "arraycopy" 5 + 11) ≤ 64) (hq : ((k, 2, n, rows, []) : am_Q) ∈ am_ly) (hr1 : r1 < rows) (hr2 : r2 < rows) (hw : Cond.methodLink mi.1.cls idx arraycopyName ∈ lw_tbl) (hw2 : Cond.native arraycopyName ∈ lw_tbl) (hw3 : Cond.static arraycopyName ∈ lw_tbl) (hw4 : Cond.initialized "java/lang/System" ∈ lw_tbl)
    (kk : ∀ i j w, sm_P G l cv d mi (pc + 3) lv st (am_uf μ k r2 (va_cpy (μ.2 k r1) (μ.2 k r2) i j w)) (f i j w)) : sm_P G l cv d mi pc lv (.int z :: .int dp :: .ref (am_ad G k r2) :: .int sp :: .ref (am_ad G k r1) :: st) μ (am_cg sp dp z n f) := by
  intro a μ1 ho p e R s m args below meth c H locs cells slots ls h1 h2 h3 h4 B hW hS hl
  obtain ⟨i1, hi1⟩ := am_at hq hr1
  obtain ⟨i2, hi2⟩ := am_at hq hr2
  unfold am_cg at ho
  by_cases cc : sp < 0 ∨ dp < 0 ∨ z < 0 ∨ ¬ sp.toNatClampNeg + z.toNatClampNeg ≤ n ∨ ¬ dp.toNatClampNeg + z.toNatClampNeg ≤ n
  · rw [if_pos cc] at ho; cases ho
  · rw [if_neg cc] at ho
    exact va_copyl (D := G.1) (ty := .long) B.1 B.2.1 (B.2.2.1.trans hl.1.symm) B.2.2.2.2.1 (B.2.2.2.2.2.1 _ (am_g hw rfl)) (B.2.2.2.2.2.1 _ (am_g hw2 rfl)) (B.2.2.2.2.2.1 _ (am_g hw3 rfl)) (B.2.2.2.2.2.1 _ (am_g hw4 rfl)) B.2.2.2.2.2.2.2.2.1 hW (am_apart B.2.2.2.2.2.2.2.1) hS i1 i2 1 1 (am_wat hi1) (am_wat hi2) rfl rfl rfl (fun h => cc (Or.inl h)) (fun h => cc (Or.inr (Or.inl h))) (fun h => cc (Or.inr (Or.inr (Or.inl h)))) (Decidable.byContradiction fun h => cc (Or.inr (Or.inr (Or.inr (Or.inl h))))) (Decidable.byContradiction fun h => cc (Or.inr (Or.inr (Or.inr (Or.inr h))))) (fun _ _ => rfl) (by omega) (by omega) hd
      (fun H1 locs1 hP1 _ hS1 => kk _ _ _ a μ1 ho p e R s m args below meth c H1 locs1 cells slots ls h1 h2 h3 h4 B (am_set B.2.2.2.2.2.2.2.1 hi2 hP1 (by show Sum.inl (am_cT G 2, (n, Sum.inr (Sum.inl _))) = _; congr 5; funext z; simp [am_uf]) (fun _ _ _ _ => rfl) (fun a b z hn => if_neg fun h => hn ⟨h.1, h.2⟩)) hS1 hl)
end SMM
end
section
theorem am_goodIn {mc : am_Me} (h : Cond.code mc.1 mc.2.1 mc.2.2.1 mc.2.2.2 ∈ lw_tbl) : GoodIn am_tb (am_ws mc) := by
  intro w hw
  rcases List.mem_cons.mp hw with rfl | hw
  · exact ⟨am_g h rfl, good_of_word rfl⟩
  · exact ⟨hw, good_of_word (List.mem_filter.mp hw).2⟩
/-- a method that is called: its code, class, how many arguments -/
def am_cm (mc : am_Me) (n : Nat) : Prop := Cond.code mc.1 mc.2.1 mc.2.2.1 mc.2.2.2 ∈ lw_tbl ∧ Cond.initialized mc.1.cls ∈ lw_tbl ∧ (mc.1.cls ≠ "java/lang/invoke/MethodHandle" ∧ mc.1.cls ≠ "java/lang/invoke/VarHandle" ∧ (parseMethodDescriptor mc.1.desc).map (fun d => d.parameters.length) = some n) ∧ mc.2.2.1 ≤ 40 ∧ plainName mc.1.cls = true
def am_vm (mc : am_Me) (n k ci : Nat) (fs : List (Option Nat)) : Prop := am_cm mc n ∧ Cond.instanceMethod mc.1 ∈ lw_tbl ∧ Cond.selects mc.1.cls mc.1 mc.1 ∈ lw_tbl ∧ ((k, 0, ci, 1, fs) : am_Q) ∈ am_ly ∧ ∃ (T : u_T) (N : Nat), vwCl[ci]? = some (mc.1.cls, T, N)
def am_sm (mc : am_Me) (n : Nat) : Prop := am_cm mc n ∧ Cond.static mc.1 ∈ lw_tbl
theorem am_blind {G : am_G} {μ : am_M} {As : List Value} : FrameBlind (va_Pc As (fun U => am_W G μ U.heap ∧ am_S G U U.heap)) := by
  intro a U g mk q
  obtain ⟨q0, q1, q2⟩ := q
  exact ⟨q0, q1, am_S.moved (u := U) (U := U.calling g mk a) (State.WarmedH.refl U) q2⟩
section SMC
variable {α : Type} {G : am_G} {l : Launch} {cv : α → Option Value} {d : Nat} {mi : am_Me} {pc : Nat} {lv : List (Nat × Value)} {st : List Value} {μ : am_M} {o : Option (α × am_M)}
set_option maxHeartbeats 1000000 in
theorem sm_call {β : Type} {cvb : β → Option Value} {f : Option (β × am_M)} {kk : β → am_M → Option (α × am_M)} {st0 rest : List Value} {As : Array Value}
    (hrun : ∀ (b : β) (μ' : am_M), f = some (b, μ') → ∀ (p : Program) (e : Env) (R : Room) (s : State) (m : MethodId) (args : Array Value) (below : List Frame) (meth : Method) (c : Code) (H : Heap) (locs : List Loc) (cells slots : Nat) (ls : Array Slot), d ≤ R.frames → 64 * d ≤ R.locals → cells ≤ R.cells → slots ≤ R.slots → am_B G mi p s m args meth c → am_W G μ H → va_S (am_A G) s.heap H locs → lv_has ls mi.2.2.1 lv → va_Run p l e R s m args below meth c H locs cells slots 0 0 (F0 m pc ls st0) rest (am_Qc G cvb b μ' As) (am_A G))
    (k : ∀ (b : β) (μ' : am_M), sm_P G l cv d mi (pc + 3) lv ((cvb b).toList ++ rest) μ' (kk b μ')) : sm_P G l cv d mi pc lv st0 μ (am_bd f kk) := by
  intro a μ1 ho p e R s m args below meth c H locs cells slots ls h1 h2 h3 h4 B hW hS hl
  cases hf : f with
  | none => rw [hf] at ho; cases ho
  | some x =>
    obtain ⟨b, μ'⟩ := x
    rw [hf] at ho
    have ho : kk b μ' = some (a, μ1) := ho
    intro T hT X
    obtain ⟨v, st₀, t, T', L, h0, X', hL, e1, e2, ⟨hv, hq, hF⟩, stp⟩ := hrun b μ' hf p e R s m args below meth c H locs cells slots ls h1 h2 h3 h4 B hW hS hl T hT X
    cases hv
    rw [← e1] at hq
    have hS' : va_S (am_A G) s.heap T'.heap (locs ++ L) := by
      obtain ⟨f1, f2⟩ := hF
      rw [h0] at f1 f2
      refine ⟨Nat.le_trans hS.1 (by rw [e1]; exact f1), fun q hq1 hq2 => ?_, fun z hz => ?_⟩
      · rw [e1, f2 q (Nat.lt_of_lt_of_le hq1 hS.1) hq2]
        exact hS.2.1 q hq1 hq2
      · rcases List.mem_append.mp hz with hz | hz
        · exact hS.2.2 z hz
        · exact hL z hz
    obtain ⟨t2, a1, b1⟩ := k b μ' a μ1 ho p e R s m args below meth c T'.heap (locs ++ L) (cells + 0) (slots + 0) ls h1 h2 h3 h4 B hq hS' hl T' rfl X'
    exact ⟨t2, stp t2 a1, b1⟩
set_option maxHeartbeats 1000000 in
theorem sm_callV {β : Type} {cvb : β → Option Value} {mc : am_Me} {dc idx k ci n : Nat} {fs : List (Option Nat)} {As rest st0 : List Value} {f : Option (β × am_M)} {kk : β → am_M → Option (α × am_M)}
    (hd : decode mi.2.1 pc = .ok (.invokevirtual idx, 3)) (hC : ct_P G l cvb dc mc (.ref (am_ad G k 0) :: As) μ f) (hdd : dc + 1 ≤ d) (hlk : Cond.methodLink mi.1.cls idx mc.1 ∈ lw_tbl) (hm : am_vm mc n k ci fs) (hn : As.length = n) (hst : st0 = As.reverse ++ .ref (am_ad G k 0) :: rest) (hrs : (rest.map fun v => v.category).sum ≤ 8)
    (k1 : ∀ (b : β) (μ' : am_M), sm_P G l cv d mi (pc + 3) lv ((cvb b).toList ++ rest) μ' (kk b μ')) : sm_P G l cv d mi pc lv st0 μ (am_bd f kk) := by
  subst hst
  refine sm_call (As := (Value.ref (am_ad G k 0) :: As).toArray) (cvb := cvb) (rest := rest) (fun b μ' hf p e R s m args below meth c H locs cells slots ls h1 h2 h3 h4 B hW hS hl => ?_) k1
  obtain ⟨⟨hcode, hini, hcn, hml, hpl⟩, hins, hsel, hq, T, N, hcl⟩ := hm
  obtain ⟨i, hi⟩ := am_at hq (r := 0) Nat.zero_lt_one
  have hts := B.2.2.2.2.2.1
  refine va_runV (As := As) (rest := rest) (n := n) ⟨B.1, B.2.1, B.2.2.1, B.2.2.2.2.1, hts⟩ (hC b μ' hf dc (Nat.le_refl _)) ⟨callB_of n hts (am_goodIn hcode) rfl rfl rfl (hts _ (am_g hini rfl)) (hts _ (am_g hlk rfl)) hcn ⟨Nat.le_trans hdd h1, ?_⟩, hts _ (am_g hins rfl), hts _ (am_g hsel rfl)⟩ ⟨am_blind, va_recv B.2.2.2.2.2.2.2.2.1 hW hcl (am_wat hi), fun U hU hU2 => ⟨rfl, by rw [hU]; exact hW, ?_⟩⟩ rfl hn hl.1 rfl (lv_room hrs) hd ⟨h3, h4⟩
  · show 8 + (mc.2.2.1 + 11) + 64 * dc ≤ R.locals
    omega
  · rw [hU]
    exact am_S.moved hU2 (am_S.kept B.2.2.2.2.2.2.2 hS.1 hS.2.1)
set_option maxHeartbeats 1000000 in
theorem sm_callS {β : Type} {cvb : β → Option Value} {mc : am_Me} {dc idx n : Nat} {As rest st0 : List Value} {f : Option (β × am_M)} {kk : β → am_M → Option (α × am_M)}
    (hd : decode mi.2.1 pc = .ok (.invokestatic idx, 3)) (hC : ct_P G l cvb dc mc As μ f) (hdd : dc + 1 ≤ d) (hlk : Cond.methodLink mi.1.cls idx mc.1 ∈ lw_tbl) (hm : am_sm mc n) (hn : As.length = n) (hst : st0 = As.reverse ++ rest) (hrs : (rest.map fun v => v.category).sum ≤ 8)
    (k1 : ∀ (b : β) (μ' : am_M), sm_P G l cv d mi (pc + 3) lv ((cvb b).toList ++ rest) μ' (kk b μ')) : sm_P G l cv d mi pc lv st0 μ (am_bd f kk) := by
  subst hst
  refine sm_call (As := As.toArray) (cvb := cvb) (rest := rest) (fun b μ' hf p e R s m args below meth c H locs cells slots ls h1 h2 h3 h4 B hW hS hl => ?_) k1
  obtain ⟨⟨hcode, hini, hcn, hml, hpl⟩, hsta⟩ := hm
  have hts := B.2.2.2.2.2.1
  refine va_runS (As := As) (rest := rest) (n := n) ⟨B.1, B.2.1, B.2.2.1, B.2.2.2.2.1, hts⟩ (hC b μ' hf dc (Nat.le_refl _)) ⟨callB_of n hts (am_goodIn hcode) rfl rfl rfl (hts _ (am_g hini rfl)) (hts _ (am_g hlk rfl)) hcn ⟨Nat.le_trans hdd h1, ?_⟩, hts _ (am_g hsta rfl)⟩ ⟨am_blind, fun U hU hU2 => ⟨rfl, by rw [hU]; exact hW, ?_⟩⟩ rfl hn hl.1 rfl (lv_room hrs) hd ⟨h3, h4⟩
  · show 8 + (mc.2.2.1 + 11) + 64 * dc ≤ R.locals
    omega
  · rw [hU]
    exact am_S.moved hU2 (am_S.kept B.2.2.2.2.2.2.2 hS.1 hS.2.1)
set_option maxHeartbeats 1000000 in
theorem sm_callN {β : Type} {cvb : β → Option Value} {mc : am_Me} {dc idx n : Nat} {host : String} {As rest st0 : List Value} {f : Option (β × am_M)} {kk : β → am_M → Option (α × am_M)}
    (hd : decode mi.2.1 pc = .ok (.invokestatic idx, 3)) (hC : ct_P G l cvb dc mc As μ f) (hdd : dc + 1 ≤ d) (hlk : Cond.methodLinkNest mi.1.cls idx mc.1 host ∈ lw_tbl) (hm : am_sm mc n) (hn : As.length = n) (hst : st0 = As.reverse ++ rest) (hrs : (rest.map fun v => v.category).sum ≤ 8)
    (k1 : ∀ (b : β) (μ' : am_M), sm_P G l cv d mi (pc + 3) lv ((cvb b).toList ++ rest) μ' (kk b μ')) : sm_P G l cv d mi pc lv st0 μ (am_bd f kk) := by
  subst hst
  refine sm_call (As := As.toArray) (cvb := cvb) (rest := rest) (fun b μ' hf p e R s m args below meth c H locs cells slots ls h1 h2 h3 h4 B hW hS hl => ?_) k1
  obtain ⟨⟨hcode, hini, hcn, hml, hpl⟩, hsta⟩ := hm
  have hts := B.2.2.2.2.2.1
  refine va_runSN (As := As) (rest := rest) (n := n) ⟨B.1, B.2.1, B.2.2.1, B.2.2.2.2.1, hts⟩ (hC b μ' hf dc (Nat.le_refl _)) ⟨va_cnB n hts (am_goodIn hcode) rfl rfl rfl (B.2.2.2.2.2.2.2.2.2.2.2.2.2 _ _ _ _ hlk) (hts _ (am_g hini rfl)) hcn ⟨Nat.le_trans hdd h1, ?_⟩, hts _ (am_g hsta rfl), trivial⟩ ⟨am_blind, fun U hU hU2 => ⟨rfl, by rw [hU]; exact hW, ?_⟩⟩ rfl hn hl.1 rfl (lv_room hrs) hd ⟨h3, h4⟩
  · show 8 + (mc.2.2.1 + 11) + 64 * dc ≤ R.locals
    omega
  · rw [hU]
    exact am_S.moved hU2 (am_S.kept B.2.2.2.2.2.2.2 hS.1 hS.2.1)
end SMC
end
section
theorem zz_end : True := trivial
end
