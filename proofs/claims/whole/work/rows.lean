section
-- ===== PART A: goes FIRST, ahead of the names: the tables' words, and 'selects' of the private methods out of them =====
/-- a private method of a class that the tables say can be made, by its rows of tables_1 -/
def lw_okq (q : MethodName × Nat) : Prop := (q.1.cls ≠ "java/lang/invoke/MethodHandle" ∧ q.1.cls ≠ "java/lang/invoke/VarHandle") ∧ Cond.instantiable q.1.cls q.2 ∈ tables_1 ∧ Cond.privateMethod q.1 ∈ tables_1 ∧ Cond.instanceMethod q.1 ∈ tables_1
theorem lw_p0 : lw_okq (⟨"WardWatch$Town", "measure", "()V"⟩, 5) := ⟨⟨by decide +kernel, by decide +kernel⟩, List.mem_of_getElem? (i := 45) (by decide +kernel), List.mem_of_getElem? (i := 407) (by decide +kernel), List.mem_of_getElem? (i := 408) (by decide +kernel)⟩
theorem lw_p1 : lw_okq (⟨"WardWatch$Town", "shortenFrom", "(II)V"⟩, 5) := ⟨⟨by decide +kernel, by decide +kernel⟩, List.mem_of_getElem? (i := 45) (by decide +kernel), List.mem_of_getElem? (i := 414) (by decide +kernel), List.mem_of_getElem? (i := 415) (by decide +kernel)⟩
theorem lw_p2 : lw_okq (⟨"WardWatch$Planner", "listCourts", "(I)V"⟩, 12) := ⟨⟨by decide +kernel, by decide +kernel⟩, List.mem_of_getElem? (i := 71) (by decide +kernel), List.mem_of_getElem? (i := 432) (by decide +kernel), List.mem_of_getElem? (i := 433) (by decide +kernel)⟩
theorem lw_p3 : lw_okq (⟨"WardWatch$Planner", "measureSteps", "(LWardWatch$Town;)V"⟩, 12) := ⟨⟨by decide +kernel, by decide +kernel⟩, List.mem_of_getElem? (i := 71) (by decide +kernel), List.mem_of_getElem? (i := 436) (by decide +kernel), List.mem_of_getElem? (i := 437) (by decide +kernel)⟩
theorem lw_p4 : lw_okq (⟨"WardWatch$Planner", "measureTours", "(ILWardWatch$Town;)V"⟩, 12) := ⟨⟨by decide +kernel, by decide +kernel⟩, List.mem_of_getElem? (i := 71) (by decide +kernel), List.mem_of_getElem? (i := 442) (by decide +kernel), List.mem_of_getElem? (i := 443) (by decide +kernel)⟩
theorem lw_p5 : lw_okq (⟨"WardWatch$Planner", "shortestTour", "(III)I"⟩, 12) := ⟨⟨by decide +kernel, by decide +kernel⟩, List.mem_of_getElem? (i := 71) (by decide +kernel), List.mem_of_getElem? (i := 446) (by decide +kernel), List.mem_of_getElem? (i := 447) (by decide +kernel)⟩
theorem lw_p6 : lw_okq (⟨"WardWatch$Planner", "shortestPath", "(IIII)I"⟩, 12) := ⟨⟨by decide +kernel, by decide +kernel⟩, List.mem_of_getElem? (i := 71) (by decide +kernel), List.mem_of_getElem? (i := 450) (by decide +kernel), List.mem_of_getElem? (i := 451) (by decide +kernel)⟩
theorem lw_p7 : lw_okq (⟨"WardWatch$Planner", "leastWithin", "(ILWardWatch$Town;)I"⟩, 12) := ⟨⟨by decide +kernel, by decide +kernel⟩, List.mem_of_getElem? (i := 71) (by decide +kernel), List.mem_of_getElem? (i := 457) (by decide +kernel), List.mem_of_getElem? (i := 458) (by decide +kernel)⟩
theorem lw_p8 : lw_okq (⟨"WardWatch$Planner", "joinParts", "()V"⟩, 12) := ⟨⟨by decide +kernel, by decide +kernel⟩, List.mem_of_getElem? (i := 71) (by decide +kernel), List.mem_of_getElem? (i := 465) (by decide +kernel), List.mem_of_getElem? (i := 466) (by decide +kernel)⟩
theorem lw_p9 : lw_okq (⟨"WardWatch$Planner", "bestPlan", "(I)J"⟩, 12) := ⟨⟨by decide +kernel, by decide +kernel⟩, List.mem_of_getElem? (i := 71) (by decide +kernel), List.mem_of_getElem? (i := 469) (by decide +kernel), List.mem_of_getElem? (i := 470) (by decide +kernel)⟩
theorem lw_p10 : lw_okq (⟨"WardWatch$Planner", "keepPlan", "(J)V"⟩, 12) := ⟨⟨by decide +kernel, by decide +kernel⟩, List.mem_of_getElem? (i := 71) (by decide +kernel), List.mem_of_getElem? (i := 478) (by decide +kernel), List.mem_of_getElem? (i := 479) (by decide +kernel)⟩
theorem lw_p11 : lw_okq (⟨"WardWatch$Planner", "keepPartOf", "(IJ)I"⟩, 12) := ⟨⟨by decide +kernel, by decide +kernel⟩, List.mem_of_getElem? (i := 71) (by decide +kernel), List.mem_of_getElem? (i := 483) (by decide +kernel), List.mem_of_getElem? (i := 484) (by decide +kernel)⟩
theorem lw_p12 : lw_okq (⟨"WardWatch$LawReader", "advance", "()V"⟩, 8) := ⟨⟨by decide +kernel, by decide +kernel⟩, List.mem_of_getElem? (i := 122) (by decide +kernel), List.mem_of_getElem? (i := 509) (by decide +kernel), List.mem_of_getElem? (i := 510) (by decide +kernel)⟩
theorem lw_p13 : lw_okq (⟨"WardWatch$LawReader", "readLine", "(LWardWatch$Laws;)V"⟩, 8) := ⟨⟨by decide +kernel, by decide +kernel⟩, List.mem_of_getElem? (i := 122) (by decide +kernel), List.mem_of_getElem? (i := 527) (by decide +kernel), List.mem_of_getElem? (i := 528) (by decide +kernel)⟩
theorem lw_p14 : lw_okq (⟨"WardWatch$LawReader", "isWord", "(Ljava/lang/String;)Z"⟩, 8) := ⟨⟨by decide +kernel, by decide +kernel⟩, List.mem_of_getElem? (i := 122) (by decide +kernel), List.mem_of_getElem? (i := 532) (by decide +kernel), List.mem_of_getElem? (i := 533) (by decide +kernel)⟩
theorem lw_p15 : lw_okq (⟨"WardWatch$LawReader", "beginOnly", "(I)V"⟩, 8) := ⟨⟨by decide +kernel, by decide +kernel⟩, List.mem_of_getElem? (i := 122) (by decide +kernel), List.mem_of_getElem? (i := 584) (by decide +kernel), List.mem_of_getElem? (i := 585) (by decide +kernel)⟩
def lw_privs_1 : List (MethodName × Nat) := [(⟨"WardWatch$Town", "measure", "()V"⟩, 5), (⟨"WardWatch$Town", "shortenFrom", "(II)V"⟩, 5), (⟨"WardWatch$Planner", "listCourts", "(I)V"⟩, 12), (⟨"WardWatch$Planner", "measureSteps", "(LWardWatch$Town;)V"⟩, 12), (⟨"WardWatch$Planner", "measureTours", "(ILWardWatch$Town;)V"⟩, 12), (⟨"WardWatch$Planner", "shortestTour", "(III)I"⟩, 12), (⟨"WardWatch$Planner", "shortestPath", "(IIII)I"⟩, 12), (⟨"WardWatch$Planner", "leastWithin", "(ILWardWatch$Town;)I"⟩, 12), (⟨"WardWatch$Planner", "joinParts", "()V"⟩, 12), (⟨"WardWatch$Planner", "bestPlan", "(I)J"⟩, 12), (⟨"WardWatch$Planner", "keepPlan", "(J)V"⟩, 12), (⟨"WardWatch$Planner", "keepPartOf", "(IJ)I"⟩, 12), (⟨"WardWatch$LawReader", "advance", "()V"⟩, 8), (⟨"WardWatch$LawReader", "readLine", "(LWardWatch$Laws;)V"⟩, 8), (⟨"WardWatch$LawReader", "isWord", "(Ljava/lang/String;)Z"⟩, 8), (⟨"WardWatch$LawReader", "beginOnly", "(I)V"⟩, 8)]
theorem lw_r1 : ∀ q ∈ lw_privs_1, lw_okq q := List.forall_mem_cons.mpr ⟨lw_p0, List.forall_mem_cons.mpr ⟨lw_p1, List.forall_mem_cons.mpr ⟨lw_p2, List.forall_mem_cons.mpr ⟨lw_p3, List.forall_mem_cons.mpr ⟨lw_p4, List.forall_mem_cons.mpr ⟨lw_p5, List.forall_mem_cons.mpr ⟨lw_p6, List.forall_mem_cons.mpr ⟨lw_p7, List.forall_mem_cons.mpr ⟨lw_p8, List.forall_mem_cons.mpr ⟨lw_p9, List.forall_mem_cons.mpr ⟨lw_p10, List.forall_mem_cons.mpr ⟨lw_p11, List.forall_mem_cons.mpr ⟨lw_p12, List.forall_mem_cons.mpr ⟨lw_p13, List.forall_mem_cons.mpr ⟨lw_p14, List.forall_mem_cons.mpr ⟨lw_p15, fun _ h => absurd h List.not_mem_nil⟩⟩⟩⟩⟩⟩⟩⟩⟩⟩⟩⟩⟩⟩⟩⟩
theorem lw_p16 : lw_okq (⟨"WardWatch$LawReader", "blame", "(I)V"⟩, 8) := ⟨⟨by decide +kernel, by decide +kernel⟩, List.mem_of_getElem? (i := 122) (by decide +kernel), List.mem_of_getElem? (i := 588) (by decide +kernel), List.mem_of_getElem? (i := 589) (by decide +kernel)⟩
theorem lw_p17 : lw_okq (⟨"WardWatch$LawReader", "takeNumber", "(II)I"⟩, 8) := ⟨⟨by decide +kernel, by decide +kernel⟩, List.mem_of_getElem? (i := 122) (by decide +kernel), List.mem_of_getElem? (i := 592) (by decide +kernel), List.mem_of_getElem? (i := 593) (by decide +kernel)⟩
theorem lw_p18 : lw_okq (⟨"WardWatch$LawReader", "readPower", "(LWardWatch$Laws;)V"⟩, 8) := ⟨⟨by decide +kernel, by decide +kernel⟩, List.mem_of_getElem? (i := 122) (by decide +kernel), List.mem_of_getElem? (i := 601) (by decide +kernel), List.mem_of_getElem? (i := 602) (by decide +kernel)⟩
theorem lw_p19 : lw_okq (⟨"WardWatch$LawReader", "takePower", "()I"⟩, 8) := ⟨⟨by decide +kernel, by decide +kernel⟩, List.mem_of_getElem? (i := 122) (by decide +kernel), List.mem_of_getElem? (i := 609) (by decide +kernel), List.mem_of_getElem? (i := 610) (by decide +kernel)⟩
theorem lw_p20 : lw_okq (⟨"WardWatch$LawReader", "takeWord", "(Ljava/lang/String;)V"⟩, 8) := ⟨⟨by decide +kernel, by decide +kernel⟩, List.mem_of_getElem? (i := 122) (by decide +kernel), List.mem_of_getElem? (i := 617) (by decide +kernel), List.mem_of_getElem? (i := 618) (by decide +kernel)⟩
theorem lw_p21 : lw_okq (⟨"WardWatch$LawReader", "takeCry", "()Z"⟩, 8) := ⟨⟨by decide +kernel, by decide +kernel⟩, List.mem_of_getElem? (i := 122) (by decide +kernel), List.mem_of_getElem? (i := 622) (by decide +kernel), List.mem_of_getElem? (i := 623) (by decide +kernel)⟩
theorem lw_p22 : lw_okq (⟨"WardWatch$LawReader", "takeSemicolon", "()V"⟩, 8) := ⟨⟨by decide +kernel, by decide +kernel⟩, List.mem_of_getElem? (i := 122) (by decide +kernel), List.mem_of_getElem? (i := 634) (by decide +kernel), List.mem_of_getElem? (i := 635) (by decide +kernel)⟩
theorem lw_p23 : lw_okq (⟨"WardWatch", "enactDraft", "(LWardWatch$Ward;)V"⟩, 9) := ⟨⟨by decide +kernel, by decide +kernel⟩, List.mem_of_getElem? (i := 23) (by decide +kernel), List.mem_of_getElem? (i := 638) (by decide +kernel), List.mem_of_getElem? (i := 639) (by decide +kernel)⟩
theorem lw_p24 : lw_okq (⟨"WardWatch$Laws", "hasHour", "(II)Z"⟩, 13) := ⟨⟨by decide +kernel, by decide +kernel⟩, List.mem_of_getElem? (i := 204) (by decide +kernel), List.mem_of_getElem? (i := 673) (by decide +kernel), List.mem_of_getElem? (i := 674) (by decide +kernel)⟩
theorem lw_p25 : lw_okq (⟨"WardWatch$Roll", "appoint", "(ILWardWatch$Ward;I)V"⟩, 2) := ⟨⟨by decide +kernel, by decide +kernel⟩, List.mem_of_getElem? (i := 155) (by decide +kernel), List.mem_of_getElem? (i := 757) (by decide +kernel), List.mem_of_getElem? (i := 758) (by decide +kernel)⟩
theorem lw_p26 : lw_okq (⟨"WardWatch$Nights", "lockUp", "(LWardWatch$Charge;[LWardWatch$Ward;Z)V"⟩, 2) := ⟨⟨by decide +kernel, by decide +kernel⟩, List.mem_of_getElem? (i := 170) (by decide +kernel), List.mem_of_getElem? (i := 829) (by decide +kernel), List.mem_of_getElem? (i := 830) (by decide +kernel)⟩
theorem lw_p27 : lw_okq (⟨"WardWatchModel", "makeFar", "()V"⟩, 56) := ⟨⟨by decide +kernel, by decide +kernel⟩, List.mem_of_getElem? (i := 925) (by decide +kernel), List.mem_of_getElem? (i := 934) (by decide +kernel), List.mem_of_getElem? (i := 935) (by decide +kernel)⟩
theorem lw_p28 : lw_okq (⟨"WardWatchModel", "makeLengths", "()V"⟩, 56) := ⟨⟨by decide +kernel, by decide +kernel⟩, List.mem_of_getElem? (i := 925) (by decide +kernel), List.mem_of_getElem? (i := 1141) (by decide +kernel), List.mem_of_getElem? (i := 1142) (by decide +kernel)⟩
theorem lw_p29 : lw_okq (⟨"WardWatchModel", "farOf", "(II)I"⟩, 56) := ⟨⟨by decide +kernel, by decide +kernel⟩, List.mem_of_getElem? (i := 925) (by decide +kernel), List.mem_of_getElem? (i := 1148) (by decide +kernel), List.mem_of_getElem? (i := 1149) (by decide +kernel)⟩
theorem lw_p30 : lw_okq (⟨"WardWatchModel", "give", "(II)V"⟩, 56) := ⟨⟨by decide +kernel, by decide +kernel⟩, List.mem_of_getElem? (i := 925) (by decide +kernel), List.mem_of_getElem? (i := 1152) (by decide +kernel), List.mem_of_getElem? (i := 1153) (by decide +kernel)⟩
theorem lw_p31 : lw_okq (⟨"WardWatchModel", "scan", "()V"⟩, 56) := ⟨⟨by decide +kernel, by decide +kernel⟩, List.mem_of_getElem? (i := 925) (by decide +kernel), List.mem_of_getElem? (i := 1168) (by decide +kernel), List.mem_of_getElem? (i := 1169) (by decide +kernel)⟩
def lw_privs_2 : List (MethodName × Nat) := [(⟨"WardWatch$LawReader", "blame", "(I)V"⟩, 8), (⟨"WardWatch$LawReader", "takeNumber", "(II)I"⟩, 8), (⟨"WardWatch$LawReader", "readPower", "(LWardWatch$Laws;)V"⟩, 8), (⟨"WardWatch$LawReader", "takePower", "()I"⟩, 8), (⟨"WardWatch$LawReader", "takeWord", "(Ljava/lang/String;)V"⟩, 8), (⟨"WardWatch$LawReader", "takeCry", "()Z"⟩, 8), (⟨"WardWatch$LawReader", "takeSemicolon", "()V"⟩, 8), (⟨"WardWatch", "enactDraft", "(LWardWatch$Ward;)V"⟩, 9), (⟨"WardWatch$Laws", "hasHour", "(II)Z"⟩, 13), (⟨"WardWatch$Roll", "appoint", "(ILWardWatch$Ward;I)V"⟩, 2), (⟨"WardWatch$Nights", "lockUp", "(LWardWatch$Charge;[LWardWatch$Ward;Z)V"⟩, 2), (⟨"WardWatchModel", "makeFar", "()V"⟩, 56), (⟨"WardWatchModel", "makeLengths", "()V"⟩, 56), (⟨"WardWatchModel", "farOf", "(II)I"⟩, 56), (⟨"WardWatchModel", "give", "(II)V"⟩, 56), (⟨"WardWatchModel", "scan", "()V"⟩, 56)]
theorem lw_r2 : ∀ q ∈ lw_privs_2, lw_okq q := List.forall_mem_cons.mpr ⟨lw_p16, List.forall_mem_cons.mpr ⟨lw_p17, List.forall_mem_cons.mpr ⟨lw_p18, List.forall_mem_cons.mpr ⟨lw_p19, List.forall_mem_cons.mpr ⟨lw_p20, List.forall_mem_cons.mpr ⟨lw_p21, List.forall_mem_cons.mpr ⟨lw_p22, List.forall_mem_cons.mpr ⟨lw_p23, List.forall_mem_cons.mpr ⟨lw_p24, List.forall_mem_cons.mpr ⟨lw_p25, List.forall_mem_cons.mpr ⟨lw_p26, List.forall_mem_cons.mpr ⟨lw_p27, List.forall_mem_cons.mpr ⟨lw_p28, List.forall_mem_cons.mpr ⟨lw_p29, List.forall_mem_cons.mpr ⟨lw_p30, List.forall_mem_cons.mpr ⟨lw_p31, fun _ h => absurd h List.not_mem_nil⟩⟩⟩⟩⟩⟩⟩⟩⟩⟩⟩⟩⟩⟩⟩⟩
theorem lw_p32 : lw_okq (⟨"WardWatchModel", "see", "(I)I"⟩, 56) := ⟨⟨by decide +kernel, by decide +kernel⟩, List.mem_of_getElem? (i := 925) (by decide +kernel), List.mem_of_getElem? (i := 1172) (by decide +kernel), List.mem_of_getElem? (i := 1173) (by decide +kernel)⟩
theorem lw_p33 : lw_okq (⟨"WardWatchModel", "keyAt", "(II)I"⟩, 56) := ⟨⟨by decide +kernel, by decide +kernel⟩, List.mem_of_getElem? (i := 925) (by decide +kernel), List.mem_of_getElem? (i := 1179) (by decide +kernel), List.mem_of_getElem? (i := 1180) (by decide +kernel)⟩
theorem lw_p34 : lw_okq (⟨"WardWatchModel", "readLine", "(I)Z"⟩, 56) := ⟨⟨by decide +kernel, by decide +kernel⟩, List.mem_of_getElem? (i := 925) (by decide +kernel), List.mem_of_getElem? (i := 1189) (by decide +kernel), List.mem_of_getElem? (i := 1190) (by decide +kernel)⟩
theorem lw_p35 : lw_okq (⟨"WardWatchModel", "wrong", "(I)Z"⟩, 56) := ⟨⟨by decide +kernel, by decide +kernel⟩, List.mem_of_getElem? (i := 925) (by decide +kernel), List.mem_of_getElem? (i := 1193) (by decide +kernel), List.mem_of_getElem? (i := 1194) (by decide +kernel)⟩
theorem lw_p36 : lw_okq (⟨"WardWatchModel", "readPower", "()Z"⟩, 56) := ⟨⟨by decide +kernel, by decide +kernel⟩, List.mem_of_getElem? (i := 925) (by decide +kernel), List.mem_of_getElem? (i := 1197) (by decide +kernel), List.mem_of_getElem? (i := 1198) (by decide +kernel)⟩
theorem lw_p37 : lw_okq (⟨"WardWatchModel", "word", "(I)Z"⟩, 56) := ⟨⟨by decide +kernel, by decide +kernel⟩, List.mem_of_getElem? (i := 925) (by decide +kernel), List.mem_of_getElem? (i := 1201) (by decide +kernel), List.mem_of_getElem? (i := 1202) (by decide +kernel)⟩
theorem lw_p38 : lw_okq (⟨"WardWatchModel", "hour", "(I)Z"⟩, 56) := ⟨⟨by decide +kernel, by decide +kernel⟩, List.mem_of_getElem? (i := 925) (by decide +kernel), List.mem_of_getElem? (i := 1205) (by decide +kernel), List.mem_of_getElem? (i := 1206) (by decide +kernel)⟩
theorem lw_p39 : lw_okq (⟨"WardWatchModel", "hasCry", "()Z"⟩, 56) := ⟨⟨by decide +kernel, by decide +kernel⟩, List.mem_of_getElem? (i := 925) (by decide +kernel), List.mem_of_getElem? (i := 1209) (by decide +kernel), List.mem_of_getElem? (i := 1210) (by decide +kernel)⟩
theorem lw_p40 : lw_okq (⟨"WardWatchModel", "number", "(III)Z"⟩, 56) := ⟨⟨by decide +kernel, by decide +kernel⟩, List.mem_of_getElem? (i := 925) (by decide +kernel), List.mem_of_getElem? (i := 1213) (by decide +kernel), List.mem_of_getElem? (i := 1214) (by decide +kernel)⟩
theorem lw_p41 : lw_okq (⟨"WardWatchModel", "isGiven", "(IIIZ)Z"⟩, 56) := ⟨⟨by decide +kernel, by decide +kernel⟩, List.mem_of_getElem? (i := 925) (by decide +kernel), List.mem_of_getElem? (i := 1229) (by decide +kernel), List.mem_of_getElem? (i := 1230) (by decide +kernel)⟩
theorem lw_p42 : lw_okq (⟨"WardWatchModel", "isHouse", "(I)Z"⟩, 56) := ⟨⟨by decide +kernel, by decide +kernel⟩, List.mem_of_getElem? (i := 925) (by decide +kernel), List.mem_of_getElem? (i := 1241) (by decide +kernel), List.mem_of_getElem? (i := 1242) (by decide +kernel)⟩
theorem lw_p43 : lw_okq (⟨"WardWatchModel", "turns", "(IIII)V"⟩, 56) := ⟨⟨by decide +kernel, by decide +kernel⟩, List.mem_of_getElem? (i := 925) (by decide +kernel), List.mem_of_getElem? (i := 1254) (by decide +kernel), List.mem_of_getElem? (i := 1255) (by decide +kernel)⟩
theorem lw_p44 : lw_okq (⟨"WardWatchModel", "placeFor", "(IZ)I"⟩, 56) := ⟨⟨by decide +kernel, by decide +kernel⟩, List.mem_of_getElem? (i := 925) (by decide +kernel), List.mem_of_getElem? (i := 1270) (by decide +kernel), List.mem_of_getElem? (i := 1271) (by decide +kernel)⟩
theorem lw_p45 : lw_okq (⟨"WardWatchModel", "hasPlace", "(I)Z"⟩, 56) := ⟨⟨by decide +kernel, by decide +kernel⟩, List.mem_of_getElem? (i := 925) (by decide +kernel), List.mem_of_getElem? (i := 1274) (by decide +kernel), List.mem_of_getElem? (i := 1275) (by decide +kernel)⟩
theorem lw_p46 : lw_okq (⟨"WardWatchModel", "lying", "(I)I"⟩, 56) := ⟨⟨by decide +kernel, by decide +kernel⟩, List.mem_of_getElem? (i := 925) (by decide +kernel), List.mem_of_getElem? (i := 1278) (by decide +kernel), List.mem_of_getElem? (i := 1279) (by decide +kernel)⟩
theorem lw_p47 : lw_okq (⟨"WardWatchModel", "chosen", "(II)J"⟩, 56) := ⟨⟨by decide +kernel, by decide +kernel⟩, List.mem_of_getElem? (i := 925) (by decide +kernel), List.mem_of_getElem? (i := 1306) (by decide +kernel), List.mem_of_getElem? (i := 1307) (by decide +kernel)⟩
def lw_privs_3 : List (MethodName × Nat) := [(⟨"WardWatchModel", "see", "(I)I"⟩, 56), (⟨"WardWatchModel", "keyAt", "(II)I"⟩, 56), (⟨"WardWatchModel", "readLine", "(I)Z"⟩, 56), (⟨"WardWatchModel", "wrong", "(I)Z"⟩, 56), (⟨"WardWatchModel", "readPower", "()Z"⟩, 56), (⟨"WardWatchModel", "word", "(I)Z"⟩, 56), (⟨"WardWatchModel", "hour", "(I)Z"⟩, 56), (⟨"WardWatchModel", "hasCry", "()Z"⟩, 56), (⟨"WardWatchModel", "number", "(III)Z"⟩, 56), (⟨"WardWatchModel", "isGiven", "(IIIZ)Z"⟩, 56), (⟨"WardWatchModel", "isHouse", "(I)Z"⟩, 56), (⟨"WardWatchModel", "turns", "(IIII)V"⟩, 56), (⟨"WardWatchModel", "placeFor", "(IZ)I"⟩, 56), (⟨"WardWatchModel", "hasPlace", "(I)Z"⟩, 56), (⟨"WardWatchModel", "lying", "(I)I"⟩, 56), (⟨"WardWatchModel", "chosen", "(II)J"⟩, 56)]
theorem lw_r3 : ∀ q ∈ lw_privs_3, lw_okq q := List.forall_mem_cons.mpr ⟨lw_p32, List.forall_mem_cons.mpr ⟨lw_p33, List.forall_mem_cons.mpr ⟨lw_p34, List.forall_mem_cons.mpr ⟨lw_p35, List.forall_mem_cons.mpr ⟨lw_p36, List.forall_mem_cons.mpr ⟨lw_p37, List.forall_mem_cons.mpr ⟨lw_p38, List.forall_mem_cons.mpr ⟨lw_p39, List.forall_mem_cons.mpr ⟨lw_p40, List.forall_mem_cons.mpr ⟨lw_p41, List.forall_mem_cons.mpr ⟨lw_p42, List.forall_mem_cons.mpr ⟨lw_p43, List.forall_mem_cons.mpr ⟨lw_p44, List.forall_mem_cons.mpr ⟨lw_p45, List.forall_mem_cons.mpr ⟨lw_p46, List.forall_mem_cons.mpr ⟨lw_p47, fun _ h => absurd h List.not_mem_nil⟩⟩⟩⟩⟩⟩⟩⟩⟩⟩⟩⟩⟩⟩⟩⟩
def lw_privs : List (MethodName × Nat) := lw_privs_1 ++ (lw_privs_2 ++ (lw_privs_3))
def lw_tbl : List Cond := k2_sels lw_privs ++ tables_1
theorem lw_privs_ok : ∀ q ∈ lw_privs, lw_okq q := by
  show ∀ q ∈ lw_privs_1 ++ (lw_privs_2 ++ (lw_privs_3)), lw_okq q
  exact List.forall_mem_append.mpr ⟨lw_r1, List.forall_mem_append.mpr ⟨lw_r2, lw_r3⟩⟩
-- ===== end of PART A; then your names; then what follows =====
end
section
def RX0 : String := "WardWatch$Charge"
def TX0 : u_T := fun k => match k with
  | 0 => ("WardWatch$Charge", "ward", "I", true)
  | 1 => ("WardWatch$Charge", "power", "I", true)
  | 2 => ("WardWatch$Charge", "hour", "I", true)
  | 3 => ("WardWatch$Charge", "state", "I", false)
  | _ => ("WardWatch$Charge", "lockup", "I", false)
def tyX0 : Nat → FieldType := fun k => match k with
  | 0 => .int
  | 1 => .int
  | 2 => .int
  | 3 => .int
  | _ => .int
abbrev wsX00 : List Cond := u_ws RX0 TX0 5
theorem nmX0 : ∀ a, a < 5 → ∀ b, b < 5 → a ≠ b → (TX0 a).2.1 ≠ (TX0 b).2.1 := by decide +kernel
theorem tyX0_ok : ∀ k, k < 5 → parseFieldDescriptor (TX0 k).2.2.1 = some (tyX0 k) := by decide +kernel
abbrev cX0_init : ByteArray := prog_2_method_1_code
def yX0_init : MethodName := ⟨RX0, "<init>", "(III)V"⟩
abbrev cX0_tell : ByteArray := prog_2_method_2_code
def yX0_tell : MethodName := ⟨RX0, "tell", "(I)I"⟩
def RX1 : String := "WardWatch$Flight"
def TX1 : u_T := fun k => match k with
  | 0 => ("WardWatch$Flight", "row", "[I", true)
  | 1 => ("WardWatch$Flight", "courts", "I", false)
  | 2 => ("WardWatch$Flight", "minutes", "I", false)
  | _ => ("WardWatch$Flight", "lastCourt", "I", false)
def tyX1 : Nat → FieldType := fun k => match k with
  | 0 => .array .int
  | 1 => .int
  | 2 => .int
  | _ => .int
abbrev wsX10 : List Cond := u_ws RX1 TX1 4
theorem nmX1 : ∀ a, a < 4 → ∀ b, b < 4 → a ≠ b → (TX1 a).2.1 ≠ (TX1 b).2.1 := by decide +kernel
theorem tyX1_ok : ∀ k, k < 4 → parseFieldDescriptor (TX1 k).2.2.1 = some (tyX1 k) := by decide +kernel
abbrev cX1_init : ByteArray := prog_3_method_1_code
def yX1_init : MethodName := ⟨RX1, "<init>", "()V"⟩
abbrev cX1_read : ByteArray := prog_3_method_2_code
def yX1_read : MethodName := ⟨RX1, "read", "(LWardWatch$Tape;LWardWatch$Town;)Z"⟩
abbrev cX1_run : ByteArray := prog_3_method_3_code
def yX1_run : MethodName := ⟨RX1, "run", "(LWardWatch$Town;[LWardWatch$Ward;Z)I"⟩
abbrev cX1_tell : ByteArray := prog_3_method_4_code
def yX1_tell : MethodName := ⟨RX1, "tell", "(I)I"⟩
def RX2 : String := "WardWatch$House"
def TX2 : u_T := fun k => match k with
  | 0 => ("WardWatch$House", "ward", "I", true)
  | 1 => ("WardWatch$House", "born", "I", true)
  | 2 => ("WardWatch$House", "purse", "I", false)
  | 3 => ("WardWatch$House", "would", "I", false)
  | 4 => ("WardWatch$House", "lastYear", "I", false)
  | _ => ("WardWatch$House", "times", "I", false)
def tyX2 : Nat → FieldType := fun k => match k with
  | 0 => .int
  | 1 => .int
  | 2 => .int
  | 3 => .int
  | 4 => .int
  | _ => .int
abbrev wsX20 : List Cond := u_ws RX2 TX2 6
theorem nmX2 : ∀ a, a < 6 → ∀ b, b < 6 → a ≠ b → (TX2 a).2.1 ≠ (TX2 b).2.1 := by decide +kernel
theorem tyX2_ok : ∀ k, k < 6 → parseFieldDescriptor (TX2 k).2.2.1 = some (tyX2 k) := by decide +kernel
abbrev cX2_init : ByteArray := prog_4_method_1_code
def yX2_init : MethodName := ⟨RX2, "<init>", "(II)V"⟩
abbrev cX2_isDue : ByteArray := prog_4_method_2_code
def yX2_isDue : MethodName := ⟨RX2, "isDue", "(LWardWatch$Laws;I)Z"⟩
abbrev cX2_canHire : ByteArray := prog_4_method_3_code
def yX2_canHire : MethodName := ⟨RX2, "canHire", "(LWardWatch$Laws;)Z"⟩
abbrev cX2_canPay : ByteArray := prog_4_method_4_code
def yX2_canPay : MethodName := ⟨RX2, "canPay", "(LWardWatch$Laws;)Z"⟩
abbrev cX2_noteYear : ByteArray := prog_4_method_5_code
def yX2_noteYear : MethodName := ⟨RX2, "noteYear", "(I)V"⟩
abbrev cX2_tell : ByteArray := prog_4_method_6_code
def yX2_tell : MethodName := ⟨RX2, "tell", "(I)I"⟩
def RX3 : String := "WardWatch$LawReader"
def TX3 : u_T := fun k => match k with
  | 0 => ("WardWatch$LawReader", "tape", "LWardWatch$Tape;", true)
  | 1 => ("WardWatch$LawReader", "kind", "I", false)
  | 2 => ("WardWatch$LawReader", "start", "I", false)
  | 3 => ("WardWatch$LawReader", "stop", "I", false)
  | 4 => ("WardWatch$LawReader", "value", "I", false)
  | 5 => ("WardWatch$LawReader", "linesTold", "I", false)
  | 6 => ("WardWatch$LawReader", "faultKind", "I", false)
  | _ => ("WardWatch$LawReader", "faultPlace", "I", false)
def tyX3 : Nat → FieldType := fun k => match k with
  | 0 => .object "WardWatch$Tape"
  | 1 => .int
  | 2 => .int
  | 3 => .int
  | 4 => .int
  | 5 => .int
  | 6 => .int
  | _ => .int
abbrev wsX30 : List Cond := u_ws RX3 TX3 8
theorem nmX3 : ∀ a, a < 8 → ∀ b, b < 8 → a ≠ b → (TX3 a).2.1 ≠ (TX3 b).2.1 := by decide +kernel
theorem tyX3_ok : ∀ k, k < 8 → parseFieldDescriptor (TX3 k).2.2.1 = some (tyX3 k) := by decide +kernel
abbrev cX3_init : ByteArray := prog_5_method_1_code
def yX3_init : MethodName := ⟨RX3, "<init>", "(LWardWatch$Tape;)V"⟩
abbrev cX3_faultKind : ByteArray := prog_5_method_2_code
def yX3_faultKind : MethodName := ⟨RX3, "faultKind", "()I"⟩
abbrev cX3_faultPlace : ByteArray := prog_5_method_3_code
def yX3_faultPlace : MethodName := ⟨RX3, "faultPlace", "()I"⟩
abbrev cX3_read : ByteArray := prog_5_method_4_code
def yX3_read : MethodName := ⟨RX3, "read", "(LWardWatch$Laws;)I"⟩
abbrev cX3_readLine : ByteArray := prog_5_method_5_code
def yX3_readLine : MethodName := ⟨RX3, "readLine", "(LWardWatch$Laws;)V"⟩
abbrev cX3_beginOnly : ByteArray := prog_5_method_6_code
def yX3_beginOnly : MethodName := ⟨RX3, "beginOnly", "(I)V"⟩
abbrev cX3_readPower : ByteArray := prog_5_method_7_code
def yX3_readPower : MethodName := ⟨RX3, "readPower", "(LWardWatch$Laws;)V"⟩
abbrev cX3_takePower : ByteArray := prog_5_method_8_code
def yX3_takePower : MethodName := ⟨RX3, "takePower", "()I"⟩
abbrev cX3_takeWord : ByteArray := prog_5_method_9_code
def yX3_takeWord : MethodName := ⟨RX3, "takeWord", "(Ljava/lang/String;)V"⟩
abbrev cX3_takeCry : ByteArray := prog_5_method_10_code
def yX3_takeCry : MethodName := ⟨RX3, "takeCry", "()Z"⟩
abbrev cX3_takeNumber : ByteArray := prog_5_method_11_code
def yX3_takeNumber : MethodName := ⟨RX3, "takeNumber", "(II)I"⟩
abbrev cX3_takeSemicolon : ByteArray := prog_5_method_12_code
def yX3_takeSemicolon : MethodName := ⟨RX3, "takeSemicolon", "()V"⟩
abbrev cX3_blame : ByteArray := prog_5_method_13_code
def yX3_blame : MethodName := ⟨RX3, "blame", "(I)V"⟩
abbrev cX3_isWord : ByteArray := prog_5_method_14_code
def yX3_isWord : MethodName := ⟨RX3, "isWord", "(Ljava/lang/String;)Z"⟩
abbrev cX3_advance : ByteArray := prog_5_method_15_code
def yX3_advance : MethodName := ⟨RX3, "advance", "()V"⟩
abbrev cX3_isBlank : ByteArray := prog_5_method_16_code
def yX3_isBlank : MethodName := ⟨RX3, "isBlank", "(I)Z"⟩
abbrev cX3_isLetter : ByteArray := prog_5_method_17_code
def yX3_isLetter : MethodName := ⟨RX3, "isLetter", "(I)Z"⟩
abbrev cX3_isDigit : ByteArray := prog_5_method_18_code
def yX3_isDigit : MethodName := ⟨RX3, "isDigit", "(I)Z"⟩
def RX4 : String := "WardWatch$Laws"
def TX4 : u_T := fun k => match k with
  | 0 => ("WardWatch$Laws", "ageFrom", "I", false)
  | 1 => ("WardWatch$Laws", "ageTo", "I", false)
  | 2 => ("WardWatch$Laws", "leave", "I", false)
  | 3 => ("WardWatch$Laws", "fine", "I", false)
  | 4 => ("WardWatch$Laws", "hire", "I", false)
  | 5 => ("WardWatch$Laws", "follow", "I", false)
  | 6 => ("WardWatch$Laws", "followNeedsCry", "Z", false)
  | 7 => ("WardWatch$Laws", "lockup", "I", false)
  | 8 => ("WardWatch$Laws", "powers", "I", false)
  | 9 => ("WardWatch$Laws", "power", "[I", true)
  | 10 => ("WardWatch$Laws", "from", "[I", true)
  | 11 => ("WardWatch$Laws", "to", "[I", true)
  | _ => ("WardWatch$Laws", "needsCry", "[Z", true)
def tyX4 : Nat → FieldType := fun k => match k with
  | 0 => .int
  | 1 => .int
  | 2 => .int
  | 3 => .int
  | 4 => .int
  | 5 => .int
  | 6 => .boolean
  | 7 => .int
  | 8 => .int
  | 9 => .array .int
  | 10 => .array .int
  | 11 => .array .int
  | _ => .array .boolean
abbrev wsX40 : List Cond := u_ws RX4 TX4 13
theorem nmX4 : ∀ a, a < 13 → ∀ b, b < 13 → a ≠ b → (TX4 a).2.1 ≠ (TX4 b).2.1 := by decide +kernel
theorem tyX4_ok : ∀ k, k < 13 → parseFieldDescriptor (TX4 k).2.2.1 = some (tyX4 k) := by decide +kernel
abbrev cX4_init : ByteArray := prog_6_method_1_code
def yX4_init : MethodName := ⟨RX4, "<init>", "()V"⟩
abbrev cX4_forget : ByteArray := prog_6_method_2_code
def yX4_forget : MethodName := ⟨RX4, "forget", "()V"⟩
abbrev cX4_hasRoomForPower : ByteArray := prog_6_method_3_code
def yX4_hasRoomForPower : MethodName := ⟨RX4, "hasRoomForPower", "()Z"⟩
abbrev cX4_addPower : ByteArray := prog_6_method_4_code
def yX4_addPower : MethodName := ⟨RX4, "addPower", "(IIIZ)V"⟩
abbrev cX4_tell : ByteArray := prog_6_method_5_code
def yX4_tell : MethodName := ⟨RX4, "tell", "(I)I"⟩
abbrev cX4_gives : ByteArray := prog_6_method_6_code
def yX4_gives : MethodName := ⟨RX4, "gives", "(IIZ)Z"⟩
abbrev cX4_hasHour : ByteArray := prog_6_method_7_code
def yX4_hasHour : MethodName := ⟨RX4, "hasHour", "(II)Z"⟩
abbrev cX4_letFollow : ByteArray := prog_6_method_8_code
def yX4_letFollow : MethodName := ⟨RX4, "letFollow", "(Z)Z"⟩
def RX5 : String := "WardWatch$Nights"
def TX5 : u_T := fun k => match k with
  | 0 => ("WardWatch$Nights", "charges", "[LWardWatch$Charge;", true)
  | _ => ("WardWatch$Nights", "size", "I", false)
def tyX5 : Nat → FieldType := fun k => match k with
  | 0 => .array (.object "WardWatch$Charge")
  | _ => .int
abbrev wsX50 : List Cond := u_ws RX5 TX5 2
theorem nmX5 : ∀ a, a < 2 → ∀ b, b < 2 → a ≠ b → (TX5 a).2.1 ≠ (TX5 b).2.1 := by decide +kernel
theorem tyX5_ok : ∀ k, k < 2 → parseFieldDescriptor (TX5 k).2.2.1 = some (tyX5 k) := by decide +kernel
abbrev cX5_init : ByteArray := prog_7_method_1_code
def yX5_init : MethodName := ⟨RX5, "<init>", "()V"⟩
abbrev cX5_size : ByteArray := prog_7_method_2_code
def yX5_size : MethodName := ⟨RX5, "size", "()I"⟩
abbrev cX5_isFull : ByteArray := prog_7_method_3_code
def yX5_isFull : MethodName := ⟨RX5, "isFull", "()Z"⟩
abbrev cX5_find : ByteArray := prog_7_method_4_code
def yX5_find : MethodName := ⟨RX5, "find", "(I)LWardWatch$Charge;"⟩
abbrev cX5_take : ByteArray := prog_7_method_5_code
def yX5_take : MethodName := ⟨RX5, "take", "(LWardWatch$Charge;[LWardWatch$Ward;Z)I"⟩
abbrev cX5_lockUp : ByteArray := prog_7_method_6_code
def yX5_lockUp : MethodName := ⟨RX5, "lockUp", "(LWardWatch$Charge;[LWardWatch$Ward;Z)V"⟩
abbrev cX5_firstWithPlace : ByteArray := prog_7_method_7_code
def yX5_firstWithPlace : MethodName := ⟨RX5, "firstWithPlace", "(I[LWardWatch$Ward;)I"⟩
abbrev cX5_bringAll : ByteArray := prog_7_method_8_code
def yX5_bringAll : MethodName := ⟨RX5, "bringAll", "()I"⟩
def RX6 : String := "WardWatch$Planner"
def TX6 : u_T := fun k => match k with
  | 0 => ("WardWatch$Planner", "courts", "[I", true)
  | 1 => ("WardWatch$Planner", "steps", "[I", true)
  | 2 => ("WardWatch$Planner", "paths", "[I", true)
  | 3 => ("WardWatch$Planner", "tours", "[I", true)
  | 4 => ("WardWatch$Planner", "plans", "[J", true)
  | 5 => ("WardWatch$Planner", "ones", "[J", true)
  | 6 => ("WardWatch$Planner", "places", "I", false)
  | 7 => ("WardWatch$Planner", "men", "I", false)
  | 8 => ("WardWatch$Planner", "sum", "I", false)
  | 9 => ("WardWatch$Planner", "manOf", "[I", true)
  | 10 => ("WardWatch$Planner", "lengths", "[I", true)
  | _ => ("WardWatch$Planner", "courtsOf", "[I", true)
def tyX6 : Nat → FieldType := fun k => match k with
  | 0 => .array .int
  | 1 => .array .int
  | 2 => .array .int
  | 3 => .array .int
  | 4 => .array .long
  | 5 => .array .long
  | 6 => .int
  | 7 => .int
  | 8 => .int
  | 9 => .array .int
  | 10 => .array .int
  | _ => .array .int
abbrev wsX60 : List Cond := u_ws RX6 TX6 12
theorem nmX6 : ∀ a, a < 12 → ∀ b, b < 12 → a ≠ b → (TX6 a).2.1 ≠ (TX6 b).2.1 := by decide +kernel
theorem tyX6_ok : ∀ k, k < 12 → parseFieldDescriptor (TX6 k).2.2.1 = some (tyX6 k) := by decide +kernel
abbrev cX6_init : ByteArray := prog_8_method_1_code
def yX6_init : MethodName := ⟨RX6, "<init>", "()V"⟩
abbrev cX6_plan : ByteArray := prog_8_method_2_code
def yX6_plan : MethodName := ⟨RX6, "plan", "(ILWardWatch$Town;)I"⟩
abbrev cX6_tell : ByteArray := prog_8_method_3_code
def yX6_tell : MethodName := ⟨RX6, "tell", "(I)I"⟩
abbrev cX6_rowShift : ByteArray := prog_8_method_4_code
def yX6_rowShift : MethodName := ⟨RX6, "rowShift", "(I)I"⟩
abbrev cX6_listCourts : ByteArray := prog_8_method_5_code
def yX6_listCourts : MethodName := ⟨RX6, "listCourts", "(I)V"⟩
abbrev cX6_measureSteps : ByteArray := prog_8_method_6_code
def yX6_measureSteps : MethodName := ⟨RX6, "measureSteps", "(LWardWatch$Town;)V"⟩
abbrev cX6_measureTours : ByteArray := prog_8_method_7_code
def yX6_measureTours : MethodName := ⟨RX6, "measureTours", "(ILWardWatch$Town;)V"⟩
abbrev cX6_shortestTour : ByteArray := prog_8_method_8_code
def yX6_shortestTour : MethodName := ⟨RX6, "shortestTour", "(III)I"⟩
abbrev cX6_shortestPath : ByteArray := prog_8_method_9_code
def yX6_shortestPath : MethodName := ⟨RX6, "shortestPath", "(IIII)I"⟩
abbrev cX6_leastWithin : ByteArray := prog_8_method_10_code
def yX6_leastWithin : MethodName := ⟨RX6, "leastWithin", "(ILWardWatch$Town;)I"⟩
abbrev cX6_joinParts : ByteArray := prog_8_method_11_code
def yX6_joinParts : MethodName := ⟨RX6, "joinParts", "()V"⟩
abbrev cX6_bestPlan : ByteArray := prog_8_method_12_code
def yX6_bestPlan : MethodName := ⟨RX6, "bestPlan", "(I)J"⟩
abbrev cX6_keepPlan : ByteArray := prog_8_method_13_code
def yX6_keepPlan : MethodName := ⟨RX6, "keepPlan", "(J)V"⟩
abbrev cX6_keepPartOf : ByteArray := prog_8_method_14_code
def yX6_keepPartOf : MethodName := ⟨RX6, "keepPartOf", "(IJ)I"⟩
def RX7 : String := "WardWatch$Roll"
def TX7 : u_T := fun k => match k with
  | 0 => ("WardWatch$Roll", "houses", "[LWardWatch$House;", true)
  | _ => ("WardWatch$Roll", "size", "I", false)
def tyX7 : Nat → FieldType := fun k => match k with
  | 0 => .array (.object "WardWatch$House")
  | _ => .int
abbrev wsX70 : List Cond := u_ws RX7 TX7 2
theorem nmX7 : ∀ a, a < 2 → ∀ b, b < 2 → a ≠ b → (TX7 a).2.1 ≠ (TX7 b).2.1 := by decide +kernel
theorem tyX7_ok : ∀ k, k < 2 → parseFieldDescriptor (TX7 k).2.2.1 = some (tyX7 k) := by decide +kernel
abbrev cX7_init : ByteArray := prog_9_method_1_code
def yX7_init : MethodName := ⟨RX7, "<init>", "()V"⟩
abbrev cX7_size : ByteArray := prog_9_method_2_code
def yX7_size : MethodName := ⟨RX7, "size", "()I"⟩
abbrev cX7_add : ByteArray := prog_9_method_3_code
def yX7_add : MethodName := ⟨RX7, "add", "(II)I"⟩
abbrev cX7_find : ByteArray := prog_9_method_4_code
def yX7_find : MethodName := ⟨RX7, "find", "(I)LWardWatch$House;"⟩
abbrev cX7_fillYear : ByteArray := prog_9_method_5_code
def yX7_fillYear : MethodName := ⟨RX7, "fillYear", "(ILWardWatch$Ward;I)I"⟩
abbrev cX7_appoint : ByteArray := prog_9_method_6_code
def yX7_appoint : MethodName := ⟨RX7, "appoint", "(ILWardWatch$Ward;I)V"⟩
def RX8 : String := "WardWatch$Tape"
def TX8 : u_T := fun k => match k with
  | 0 => ("WardWatch$Tape", "bytes", "[B", true)
  | _ => ("WardWatch$Tape", "length", "I", false)
def tyX8 : Nat → FieldType := fun k => match k with
  | 0 => .array .byte
  | _ => .int
abbrev wsX80 : List Cond := u_ws RX8 TX8 2
theorem nmX8 : ∀ a, a < 2 → ∀ b, b < 2 → a ≠ b → (TX8 a).2.1 ≠ (TX8 b).2.1 := by decide +kernel
theorem tyX8_ok : ∀ k, k < 2 → parseFieldDescriptor (TX8 k).2.2.1 = some (tyX8 k) := by decide +kernel
abbrev cX8_init : ByteArray := prog_10_method_1_code
def yX8_init : MethodName := ⟨RX8, "<init>", "()V"⟩
abbrev cX8_length : ByteArray := prog_10_method_2_code
def yX8_length : MethodName := ⟨RX8, "length", "()I"⟩
abbrev cX8_hasRoomFor : ByteArray := prog_10_method_3_code
def yX8_hasRoomFor : MethodName := ⟨RX8, "hasRoomFor", "(I)Z"⟩
abbrev cX8_append : ByteArray := prog_10_method_4_code
def yX8_append : MethodName := ⟨RX8, "append", "(I)V"⟩
abbrev cX8_cut : ByteArray := prog_10_method_5_code
def yX8_cut : MethodName := ⟨RX8, "cut", "(I)V"⟩
abbrev cX8_at : ByteArray := prog_10_method_6_code
def yX8_at : MethodName := ⟨RX8, "at", "(I)I"⟩
def RX9 : String := "WardWatch$Town"
def TX9 : u_T := fun k => match k with
  | 0 => ("WardWatch$Town", "wardOf", "[I", true)
  | 1 => ("WardWatch$Town", "withinOf", "[I", true)
  | 2 => ("WardWatch$Town", "ways", "[I", true)
  | 3 => ("WardWatch$Town", "fars", "[I", true)
  | _ => ("WardWatch$Town", "stale", "Z", false)
def tyX9 : Nat → FieldType := fun k => match k with
  | 0 => .array .int
  | 1 => .array .int
  | 2 => .array .int
  | 3 => .array .int
  | _ => .boolean
abbrev wsX90 : List Cond := u_ws RX9 TX9 5
theorem nmX9 : ∀ a, a < 5 → ∀ b, b < 5 → a ≠ b → (TX9 a).2.1 ≠ (TX9 b).2.1 := by decide +kernel
theorem tyX9_ok : ∀ k, k < 5 → parseFieldDescriptor (TX9 k).2.2.1 = some (tyX9 k) := by decide +kernel
abbrev cX9_init : ByteArray := prog_11_method_1_code
def yX9_init : MethodName := ⟨RX9, "<init>", "()V"⟩
abbrev cX9_place : ByteArray := prog_11_method_2_code
def yX9_place : MethodName := ⟨RX9, "place", "(III)V"⟩
abbrev cX9_wardAt : ByteArray := prog_11_method_3_code
def yX9_wardAt : MethodName := ⟨RX9, "wardAt", "(I)I"⟩
abbrev cX9_withinAt : ByteArray := prog_11_method_4_code
def yX9_withinAt : MethodName := ⟨RX9, "withinAt", "(I)I"⟩
abbrev cX9_minutesOfWay : ByteArray := prog_11_method_5_code
def yX9_minutesOfWay : MethodName := ⟨RX9, "minutesOfWay", "(II)I"⟩
abbrev cX9_setWay : ByteArray := prog_11_method_6_code
def yX9_setWay : MethodName := ⟨RX9, "setWay", "(III)V"⟩
abbrev cX9_leastMinutes : ByteArray := prog_11_method_7_code
def yX9_leastMinutes : MethodName := ⟨RX9, "leastMinutes", "(II)I"⟩
abbrev cX9_measure : ByteArray := prog_11_method_8_code
def yX9_measure : MethodName := ⟨RX9, "measure", "()V"⟩
abbrev cX9_shortenFrom : ByteArray := prog_11_method_9_code
def yX9_shortenFrom : MethodName := ⟨RX9, "shortenFrom", "(II)V"⟩
def RX10 : String := "WardWatch$Ward"
def TX10 : u_T := fun k => match k with
  | 0 => ("WardWatch$Ward", "laws", "LWardWatch$Laws;", false)
  | 1 => ("WardWatch$Ward", "chest", "I", false)
  | 2 => ("WardWatch$Ward", "lying", "I", false)
  | 3 => ("WardWatch$Ward", "turn", "I", false)
  | 4 => ("WardWatch$Ward", "firstYear", "I", false)
  | 5 => ("WardWatch$Ward", "latestYear", "I", false)
  | 6 => ("WardWatch$Ward", "constables", "[I", true)
  | 7 => ("WardWatch$Ward", "hired", "[Z", true)
  | _ => ("WardWatch$Ward", "payers", "[I", true)
def tyX10 : Nat → FieldType := fun k => match k with
  | 0 => .object "WardWatch$Laws"
  | 1 => .int
  | 2 => .int
  | 3 => .int
  | 4 => .int
  | 5 => .int
  | 6 => .array .int
  | 7 => .array .boolean
  | _ => .array .int
abbrev wsX100 : List Cond := u_ws RX10 TX10 9
theorem nmX10 : ∀ a, a < 9 → ∀ b, b < 9 → a ≠ b → (TX10 a).2.1 ≠ (TX10 b).2.1 := by decide +kernel
theorem tyX10_ok : ∀ k, k < 9 → parseFieldDescriptor (TX10 k).2.2.1 = some (tyX10 k) := by decide +kernel
abbrev cX10_init : ByteArray := prog_12_method_1_code
def yX10_init : MethodName := ⟨RX10, "<init>", "()V"⟩
abbrev cX10_hasPlace : ByteArray := prog_12_method_2_code
def yX10_hasPlace : MethodName := ⟨RX10, "hasPlace", "()Z"⟩
abbrev cX10_nextYear : ByteArray := prog_12_method_3_code
def yX10_nextYear : MethodName := ⟨RX10, "nextYear", "(I)I"⟩
abbrev cX10_openYear : ByteArray := prog_12_method_4_code
def yX10_openYear : MethodName := ⟨RX10, "openYear", "(I)V"⟩
abbrev cX10_takeFine : ByteArray := prog_12_method_5_code
def yX10_takeFine : MethodName := ⟨RX10, "takeFine", "(I)V"⟩
abbrev cX10_appoint : ByteArray := prog_12_method_6_code
def yX10_appoint : MethodName := ⟨RX10, "appoint", "(IIZ)V"⟩
abbrev cX10_tellYear : ByteArray := prog_12_method_7_code
def yX10_tellYear : MethodName := ⟨RX10, "tellYear", "(II)I"⟩
def RX11 : String := "WardWatch"
def TX11 : u_T := fun k => match k with
  | 0 => ("WardWatch", "tape", "LWardWatch$Tape;", true)
  | 1 => ("WardWatch", "town", "LWardWatch$Town;", true)
  | 2 => ("WardWatch", "planner", "LWardWatch$Planner;", true)
  | 3 => ("WardWatch", "reader", "LWardWatch$LawReader;", true)
  | 4 => ("WardWatch", "wards", "[LWardWatch$Ward;", true)
  | 5 => ("WardWatch", "roll", "LWardWatch$Roll;", true)
  | 6 => ("WardWatch", "nights", "LWardWatch$Nights;", true)
  | 7 => ("WardWatch", "flight", "LWardWatch$Flight;", true)
  | _ => ("WardWatch", "draft", "LWardWatch$Laws;", false)
def tyX11 : Nat → FieldType := fun k => match k with
  | 0 => .object "WardWatch$Tape"
  | 1 => .object "WardWatch$Town"
  | 2 => .object "WardWatch$Planner"
  | 3 => .object "WardWatch$LawReader"
  | 4 => .array (.object "WardWatch$Ward")
  | 5 => .object "WardWatch$Roll"
  | 6 => .object "WardWatch$Nights"
  | 7 => .object "WardWatch$Flight"
  | _ => .object "WardWatch$Laws"
abbrev wsX110 : List Cond := u_ws RX11 TX11 9
theorem nmX11 : ∀ a, a < 9 → ∀ b, b < 9 → a ≠ b → (TX11 a).2.1 ≠ (TX11 b).2.1 := by decide +kernel
theorem tyX11_ok : ∀ k, k < 9 → parseFieldDescriptor (TX11 k).2.2.1 = some (tyX11 k) := by decide +kernel
abbrev cX11_init : ByteArray := prog_1_method_1_code
def yX11_init : MethodName := ⟨RX11, "<init>", "()V"⟩
abbrev cX11_feed : ByteArray := prog_1_method_2_code
def yX11_feed : MethodName := ⟨RX11, "feed", "(IIIII)I"⟩
abbrev cX11_end : ByteArray := prog_1_method_3_code
def yX11_end : MethodName := ⟨RX11, "end", "(I)I"⟩
abbrev cX11_court : ByteArray := prog_1_method_4_code
def yX11_court : MethodName := ⟨RX11, "court", "(III)I"⟩
abbrev cX11_way : ByteArray := prog_1_method_5_code
def yX11_way : MethodName := ⟨RX11, "way", "(III)I"⟩
abbrev cX11_far : ByteArray := prog_1_method_6_code
def yX11_far : MethodName := ⟨RX11, "far", "(II)I"⟩
abbrev cX11_rounds : ByteArray := prog_1_method_7_code
def yX11_rounds : MethodName := ⟨RX11, "rounds", "(I)I"⟩
abbrev cX11_round : ByteArray := prog_1_method_8_code
def yX11_round : MethodName := ⟨RX11, "round", "(I)I"⟩
abbrev cX11_cry : ByteArray := prog_1_method_9_code
def yX11_cry : MethodName := ⟨RX11, "cry", "(II)I"⟩
abbrev cX11_laws : ByteArray := prog_1_method_10_code
def yX11_laws : MethodName := ⟨RX11, "laws", "(I)I"⟩
abbrev cX11_enactDraft : ByteArray := prog_1_method_11_code
def yX11_enactDraft : MethodName := ⟨RX11, "enactDraft", "(LWardWatch$Ward;)V"⟩
abbrev cX11_fault : ByteArray := prog_1_method_12_code
def yX11_fault : MethodName := ⟨RX11, "fault", "(I)I"⟩
abbrev cX11_law : ByteArray := prog_1_method_13_code
def yX11_law : MethodName := ⟨RX11, "law", "(II)I"⟩
abbrev cX11_may : ByteArray := prog_1_method_14_code
def yX11_may : MethodName := ⟨RX11, "may", "(IIIZ)I"⟩
abbrev cX11_house : ByteArray := prog_1_method_15_code
def yX11_house : MethodName := ⟨RX11, "house", "(II)I"⟩
abbrev cX11_purse : ByteArray := prog_1_method_16_code
def yX11_purse : MethodName := ⟨RX11, "purse", "(II)I"⟩
abbrev cX11_would : ByteArray := prog_1_method_17_code
def yX11_would : MethodName := ⟨RX11, "would", "(II)I"⟩
abbrev cX11_fill : ByteArray := prog_1_method_18_code
def yX11_fill : MethodName := ⟨RX11, "fill", "(II)I"⟩
abbrev cX11_year : ByteArray := prog_1_method_19_code
def yX11_year : MethodName := ⟨RX11, "year", "(III)I"⟩
abbrev cX11_about : ByteArray := prog_1_method_20_code
def yX11_about : MethodName := ⟨RX11, "about", "(II)I"⟩
abbrev cX11_charge : ByteArray := prog_1_method_21_code
def yX11_charge : MethodName := ⟨RX11, "charge", "(IIIZ)I"⟩
abbrev cX11_charged : ByteArray := prog_1_method_22_code
def yX11_charged : MethodName := ⟨RX11, "charged", "(II)I"⟩
abbrev cX11_morning : ByteArray := prog_1_method_23_code
def yX11_morning : MethodName := ⟨RX11, "morning", "()I"⟩
abbrev cX11_flee : ByteArray := prog_1_method_24_code
def yX11_flee : MethodName := ⟨RX11, "flee", "(Z)I"⟩
abbrev cX11_fled : ByteArray := prog_1_method_25_code
def yX11_fled : MethodName := ⟨RX11, "fled", "(I)I"⟩
abbrev cX11_doubt : ByteArray := prog_1_method_26_code
def yX11_doubt : MethodName := ⟨RX11, "doubt", "(IIIII)J"⟩
abbrev cX11_count : ByteArray := prog_1_method_27_code
def yX11_count : MethodName := ⟨RX11, "count", "(I)I"⟩
abbrev cX11_isFrom : ByteArray := prog_1_method_28_code
def yX11_isFrom : MethodName := ⟨RX11, "isFrom", "(III)Z"⟩
abbrev cX11_isCourt : ByteArray := prog_1_method_29_code
def yX11_isCourt : MethodName := ⟨RX11, "isCourt", "(I)Z"⟩
abbrev cX11_isWard : ByteArray := prog_1_method_30_code
def yX11_isWard : MethodName := ⟨RX11, "isWard", "(I)Z"⟩
abbrev cX11_isTaking : ByteArray := prog_1_method_31_code
def yX11_isTaking : MethodName := ⟨RX11, "isTaking", "(III)Z"⟩
abbrev cX11_isInTable : ByteArray := prog_1_method_32_code
def yX11_isInTable : MethodName := ⟨RX11, "isInTable", "(I)Z"⟩
abbrev cX11_waysToChoose : ByteArray := prog_1_method_33_code
def yX11_waysToChoose : MethodName := ⟨RX11, "waysToChoose", "(II)J"⟩
abbrev cX11_greatestCommonPart : ByteArray := prog_1_method_34_code
def yX11_greatestCommonPart : MethodName := ⟨RX11, "greatestCommonPart", "(JJ)J"⟩
def RX12 : String := "WardWatchModel"
def TX12 : u_T := fun k => match k with
  | 0 => ("WardWatchModel", "tape", "[B", true)
  | 1 => ("WardWatchModel", "taped", "I", false)
  | 2 => ("WardWatchModel", "size", "I", false)
  | 3 => ("WardWatchModel", "sort", "I", false)
  | 4 => ("WardWatchModel", "what", "I", false)
  | 5 => ("WardWatchModel", "at", "I", false)
  | 6 => ("WardWatchModel", "end", "I", false)
  | 7 => ("WardWatchModel", "worth", "I", false)
  | 8 => ("WardWatchModel", "faultKind", "I", false)
  | 9 => ("WardWatchModel", "faultPlace", "I", false)
  | 10 => ("WardWatchModel", "ward", "[I", true)
  | 11 => ("WardWatchModel", "within", "[I", true)
  | 12 => ("WardWatchModel", "ways", "[I", true)
  | 13 => ("WardWatchModel", "fars", "[I", true)
  | 14 => ("WardWatchModel", "of", "[I", true)
  | 15 => ("WardWatchModel", "many", "I", false)
  | 16 => ("WardWatchModel", "path", "[I", true)
  | 17 => ("WardWatchModel", "lengthOf", "[I", true)
  | 18 => ("WardWatchModel", "given", "[I", true)
  | 19 => ("WardWatchModel", "bestGiven", "[I", true)
  | 20 => ("WardWatchModel", "partOf", "[I", true)
  | 21 => ("WardWatchModel", "bestMen", "I", false)
  | 22 => ("WardWatchModel", "bestSum", "I", false)
  | 23 => ("WardWatchModel", "hasRounds", "Z", false)
  | 24 => ("WardWatchModel", "men", "I", false)
  | 25 => ("WardWatchModel", "lengths", "I", false)
  | 26 => ("WardWatchModel", "man", "[I", true)
  | 27 => ("WardWatchModel", "manLength", "[I", true)
  | 28 => ("WardWatchModel", "manCourts", "[I", true)
  | 29 => ("WardWatchModel", "laws", "[I", true)
  | 30 => ("WardWatchModel", "powers", "[I", true)
  | 31 => ("WardWatchModel", "powerMany", "[I", true)
  | 32 => ("WardWatchModel", "houses", "I", false)
  | 33 => ("WardWatchModel", "hWard", "[I", true)
  | 34 => ("WardWatchModel", "hBorn", "[I", true)
  | 35 => ("WardWatchModel", "hPurse", "[I", true)
  | 36 => ("WardWatchModel", "hWould", "[I", true)
  | 37 => ("WardWatchModel", "hLast", "[I", true)
  | 38 => ("WardWatchModel", "hOften", "[I", true)
  | 39 => ("WardWatchModel", "lastYear", "[I", true)
  | 40 => ("WardWatchModel", "lastTurn", "[I", true)
  | 41 => ("WardWatchModel", "firstYear", "[I", true)
  | 42 => ("WardWatchModel", "yearHouse", "[I", true)
  | 43 => ("WardWatchModel", "yearHired", "[Z", true)
  | 44 => ("WardWatchModel", "yearPaid", "[I", true)
  | 45 => ("WardWatchModel", "chest", "[I", true)
  | 46 => ("WardWatchModel", "charges", "I", false)
  | 47 => ("WardWatchModel", "cWard", "[I", true)
  | 48 => ("WardWatchModel", "cPower", "[I", true)
  | 49 => ("WardWatchModel", "cHour", "[I", true)
  | 50 => ("WardWatchModel", "cState", "[I", true)
  | 51 => ("WardWatchModel", "cPlace", "[I", true)
  | 52 => ("WardWatchModel", "fledMinutes", "I", false)
  | 53 => ("WardWatchModel", "fledCourt", "I", false)
  | 54 => ("WardWatchModel", "triangle", "[J", true)
  | _ => ("WardWatchModel", "isTriangle", "Z", false)
def tyX12 : Nat → FieldType := fun k => match k with
  | 0 => .array .byte
  | 1 => .int
  | 2 => .int
  | 3 => .int
  | 4 => .int
  | 5 => .int
  | 6 => .int
  | 7 => .int
  | 8 => .int
  | 9 => .int
  | 10 => .array .int
  | 11 => .array .int
  | 12 => .array .int
  | 13 => .array .int
  | 14 => .array .int
  | 15 => .int
  | 16 => .array .int
  | 17 => .array .int
  | 18 => .array .int
  | 19 => .array .int
  | 20 => .array .int
  | 21 => .int
  | 22 => .int
  | 23 => .boolean
  | 24 => .int
  | 25 => .int
  | 26 => .array .int
  | 27 => .array .int
  | 28 => .array .int
  | 29 => .array .int
  | 30 => .array .int
  | 31 => .array .int
  | 32 => .int
  | 33 => .array .int
  | 34 => .array .int
  | 35 => .array .int
  | 36 => .array .int
  | 37 => .array .int
  | 38 => .array .int
  | 39 => .array .int
  | 40 => .array .int
  | 41 => .array .int
  | 42 => .array .int
  | 43 => .array .boolean
  | 44 => .array .int
  | 45 => .array .int
  | 46 => .int
  | 47 => .array .int
  | 48 => .array .int
  | 49 => .array .int
  | 50 => .array .int
  | 51 => .array .int
  | 52 => .int
  | 53 => .int
  | 54 => .array .long
  | _ => .boolean
abbrev wsX120 : List Cond := u_ws RX12 TX12 56
theorem nmX12 : ∀ a, a < 56 → ∀ b, b < 56 → a ≠ b → (TX12 a).2.1 ≠ (TX12 b).2.1 := by decide +kernel
theorem tyX12_ok : ∀ k, k < 56 → parseFieldDescriptor (TX12 k).2.2.1 = some (tyX12 k) := by decide +kernel
abbrev cX12_init : ByteArray := prog_14_method_1_code
def yX12_init : MethodName := ⟨RX12, "<init>", "()V"⟩
abbrev cX12_in : ByteArray := prog_14_method_2_code
def yX12_in : MethodName := ⟨RX12, "in", "(III)Z"⟩
abbrev cX12_feed : ByteArray := prog_14_method_3_code
def yX12_feed : MethodName := ⟨RX12, "feed", "(IIIII)I"⟩
abbrev cX12_end : ByteArray := prog_14_method_4_code
def yX12_end : MethodName := ⟨RX12, "end", "(I)I"⟩
abbrev cX12_see : ByteArray := prog_14_method_5_code
def yX12_see : MethodName := ⟨RX12, "see", "(I)I"⟩
abbrev cX12_isSmall : ByteArray := prog_14_method_6_code
def yX12_isSmall : MethodName := ⟨RX12, "isSmall", "(I)Z"⟩
abbrev cX12_isDigit : ByteArray := prog_14_method_7_code
def yX12_isDigit : MethodName := ⟨RX12, "isDigit", "(I)Z"⟩
abbrev cX12_keyAt : ByteArray := prog_14_method_8_code
def yX12_keyAt : MethodName := ⟨RX12, "keyAt", "(II)I"⟩
abbrev cX12_scan : ByteArray := prog_14_method_9_code
def yX12_scan : MethodName := ⟨RX12, "scan", "()V"⟩
abbrev cX12_wrong : ByteArray := prog_14_method_10_code
def yX12_wrong : MethodName := ⟨RX12, "wrong", "(I)Z"⟩
abbrev cX12_isCourt : ByteArray := prog_14_method_11_code
def yX12_isCourt : MethodName := ⟨RX12, "isCourt", "(I)Z"⟩
abbrev cX12_isWard : ByteArray := prog_14_method_12_code
def yX12_isWard : MethodName := ⟨RX12, "isWard", "(I)Z"⟩
abbrev cX12_court : ByteArray := prog_14_method_13_code
def yX12_court : MethodName := ⟨RX12, "court", "(III)I"⟩
abbrev cX12_makeFar : ByteArray := prog_14_method_14_code
def yX12_makeFar : MethodName := ⟨RX12, "makeFar", "()V"⟩
abbrev cX12_way : ByteArray := prog_14_method_15_code
def yX12_way : MethodName := ⟨RX12, "way", "(III)I"⟩
abbrev cX12_far : ByteArray := prog_14_method_16_code
def yX12_far : MethodName := ⟨RX12, "far", "(II)I"⟩
abbrev cX12_least : ByteArray := prog_14_method_17_code
def yX12_least : MethodName := ⟨RX12, "least", "(I)I"⟩
abbrev cX12_farOf : ByteArray := prog_14_method_18_code
def yX12_farOf : MethodName := ⟨RX12, "farOf", "(II)I"⟩
abbrev cX12_makeLengths : ByteArray := prog_14_method_19_code
def yX12_makeLengths : MethodName := ⟨RX12, "makeLengths", "()V"⟩
abbrev cX12_give : ByteArray := prog_14_method_20_code
def yX12_give : MethodName := ⟨RX12, "give", "(II)V"⟩
abbrev cX12_rounds : ByteArray := prog_14_method_21_code
def yX12_rounds : MethodName := ⟨RX12, "rounds", "(I)I"⟩
abbrev cX12_round : ByteArray := prog_14_method_22_code
def yX12_round : MethodName := ⟨RX12, "round", "(I)I"⟩
abbrev cX12_cry : ByteArray := prog_14_method_23_code
def yX12_cry : MethodName := ⟨RX12, "cry", "(II)I"⟩
abbrev cX12_plain : ByteArray := prog_14_method_24_code
def yX12_plain : MethodName := ⟨RX12, "plain", "(I)I"⟩
abbrev cX12_number : ByteArray := prog_14_method_25_code
def yX12_number : MethodName := ⟨RX12, "number", "(III)Z"⟩
abbrev cX12_hour : ByteArray := prog_14_method_26_code
def yX12_hour : MethodName := ⟨RX12, "hour", "(I)Z"⟩
abbrev cX12_word : ByteArray := prog_14_method_27_code
def yX12_word : MethodName := ⟨RX12, "word", "(I)Z"⟩
abbrev cX12_hasCry : ByteArray := prog_14_method_28_code
def yX12_hasCry : MethodName := ⟨RX12, "hasCry", "()Z"⟩
abbrev cX12_readPower : ByteArray := prog_14_method_29_code
def yX12_readPower : MethodName := ⟨RX12, "readPower", "()Z"⟩
abbrev cX12_readLine : ByteArray := prog_14_method_30_code
def yX12_readLine : MethodName := ⟨RX12, "readLine", "(I)Z"⟩
abbrev cX12_laws : ByteArray := prog_14_method_31_code
def yX12_laws : MethodName := ⟨RX12, "laws", "(I)I"⟩
abbrev cX12_fault : ByteArray := prog_14_method_32_code
def yX12_fault : MethodName := ⟨RX12, "fault", "(I)I"⟩
abbrev cX12_law : ByteArray := prog_14_method_33_code
def yX12_law : MethodName := ⟨RX12, "law", "(II)I"⟩
abbrev cX12_isGiven : ByteArray := prog_14_method_34_code
def yX12_isGiven : MethodName := ⟨RX12, "isGiven", "(IIIZ)Z"⟩
abbrev cX12_may : ByteArray := prog_14_method_35_code
def yX12_may : MethodName := ⟨RX12, "may", "(IIIZ)I"⟩
abbrev cX12_isHouse : ByteArray := prog_14_method_36_code
def yX12_isHouse : MethodName := ⟨RX12, "isHouse", "(I)Z"⟩
abbrev cX12_house : ByteArray := prog_14_method_37_code
def yX12_house : MethodName := ⟨RX12, "house", "(II)I"⟩
abbrev cX12_purse : ByteArray := prog_14_method_38_code
def yX12_purse : MethodName := ⟨RX12, "purse", "(II)I"⟩
abbrev cX12_would : ByteArray := prog_14_method_39_code
def yX12_would : MethodName := ⟨RX12, "would", "(II)I"⟩
abbrev cX12_fill : ByteArray := prog_14_method_40_code
def yX12_fill : MethodName := ⟨RX12, "fill", "(II)I"⟩
abbrev cX12_turns : ByteArray := prog_14_method_41_code
def yX12_turns : MethodName := ⟨RX12, "turns", "(IIII)V"⟩
abbrev cX12_year : ByteArray := prog_14_method_42_code
def yX12_year : MethodName := ⟨RX12, "year", "(III)I"⟩
abbrev cX12_about : ByteArray := prog_14_method_43_code
def yX12_about : MethodName := ⟨RX12, "about", "(II)I"⟩
abbrev cX12_lying : ByteArray := prog_14_method_44_code
def yX12_lying : MethodName := ⟨RX12, "lying", "(I)I"⟩
abbrev cX12_hasPlace : ByteArray := prog_14_method_45_code
def yX12_hasPlace : MethodName := ⟨RX12, "hasPlace", "(I)Z"⟩
abbrev cX12_placeFor : ByteArray := prog_14_method_46_code
def yX12_placeFor : MethodName := ⟨RX12, "placeFor", "(IZ)I"⟩
abbrev cX12_charge : ByteArray := prog_14_method_47_code
def yX12_charge : MethodName := ⟨RX12, "charge", "(IIIZ)I"⟩
abbrev cX12_charged : ByteArray := prog_14_method_48_code
def yX12_charged : MethodName := ⟨RX12, "charged", "(II)I"⟩
abbrev cX12_morning : ByteArray := prog_14_method_49_code
def yX12_morning : MethodName := ⟨RX12, "morning", "()I"⟩
abbrev cX12_flee : ByteArray := prog_14_method_50_code
def yX12_flee : MethodName := ⟨RX12, "flee", "(Z)I"⟩
abbrev cX12_fled : ByteArray := prog_14_method_51_code
def yX12_fled : MethodName := ⟨RX12, "fled", "(I)I"⟩
abbrev cX12_isSome : ByteArray := prog_14_method_52_code
def yX12_isSome : MethodName := ⟨RX12, "isSome", "(I)Z"⟩
abbrev cX12_doubt : ByteArray := prog_14_method_53_code
def yX12_doubt : MethodName := ⟨RX12, "doubt", "(IIIII)J"⟩
abbrev cX12_count : ByteArray := prog_14_method_54_code
def yX12_count : MethodName := ⟨RX12, "count", "(I)I"⟩
abbrev cX12_chosen : ByteArray := prog_14_method_55_code
def yX12_chosen : MethodName := ⟨RX12, "chosen", "(II)J"⟩
def RJ6 : String := "java/lang/Integer"
abbrev cJ6_numberOfTrailingZeros_0f7a4 : ByteArray := prog_15_method_48_code
def yJ6_numberOfTrailingZeros_0f7a4 : MethodName := ⟨RJ6, "numberOfTrailingZeros", "(I)I"⟩
abbrev cJ6_bitCount_0f7a4 : ByteArray := prog_15_method_49_code
def yJ6_bitCount_0f7a4 : MethodName := ⟨RJ6, "bitCount", "(I)I"⟩
def RJ9 : String := "java/lang/Math"
abbrev cJ9_max_f86c9 : ByteArray := prog_16_method_66_code
def yJ9_max_f86c9 : MethodName := ⟨RJ9, "max", "(JJ)J"⟩
abbrev cJ9_min_7cf53 : ByteArray := prog_16_method_69_code
def yJ9_min_7cf53 : MethodName := ⟨RJ9, "min", "(II)I"⟩
abbrev cJ9_min_f86c9 : ByteArray := prog_16_method_70_code
def yJ9_min_f86c9 : MethodName := ⟨RJ9, "min", "(JJ)J"⟩
def RJ0 : String := "java/lang/String"
abbrev cJ0_length_8abf5 : ByteArray := prog_17_method_54_code
def yJ0_length_8abf5 : MethodName := ⟨RJ0, "length", "()I"⟩
abbrev cJ0_charAt_5068e : ByteArray := prog_17_method_56_code
def yJ0_charAt_5068e : MethodName := ⟨RJ0, "charAt", "(I)C"⟩
abbrev cJ0_coder_7d493 : ByteArray := prog_17_method_152_code
def yJ0_coder_7d493 : MethodName := ⟨RJ0, "coder", "()B"⟩
abbrev cJ0_isLatin1_aae02 : ByteArray := prog_17_method_154_code
def yJ0_isLatin1_aae02 : MethodName := ⟨RJ0, "isLatin1", "()Z"⟩
abbrev cJ0_checkIndex_df160 : ByteArray := prog_17_method_155_code
def yJ0_checkIndex_df160 : MethodName := ⟨RJ0, "checkIndex", "(II)V"⟩
def RJ1 : String := "java/lang/StringLatin1"
abbrev cJ1_charAt_3b067 : ByteArray := prog_18_method_2_code
def yJ1_charAt_3b067 : MethodName := ⟨RJ1, "charAt", "([BI)C"⟩
def RJ2 : String := "java/lang/StringUTF16"
abbrev cJ2_getChar_3b067 : ByteArray := prog_19_method_5_code
def yJ2_getChar_3b067 : MethodName := ⟨RJ2, "getChar", "([BI)C"⟩
abbrev cJ2_length_9d52b : ByteArray := prog_19_method_6_code
def yJ2_length_9d52b : MethodName := ⟨RJ2, "length", "([B)I"⟩
abbrev cJ2_charAt_3b067 : ByteArray := prog_19_method_83_code
def yJ2_charAt_3b067 : MethodName := ⟨RJ2, "charAt", "([BI)C"⟩
abbrev cJ2_checkIndex_2214a : ByteArray := prog_19_method_91_code
def yJ2_checkIndex_2214a : MethodName := ⟨RJ2, "checkIndex", "(I[B)V"⟩
def RJ10 : String := "java/lang/System"
def RJ7 : String := "java/util/Arrays"
abbrev cJ7_fill_53178 : ByteArray := prog_21_method_103_code
def yJ7_fill_53178 : MethodName := ⟨RJ7, "fill", "([II)V"⟩
def RJ3 : String := "jdk/internal/util/Preconditions"
abbrev cJ3_checkIndex_8e157 : ByteArray := prog_22_method_11_code
def yJ3_checkIndex_8e157 : MethodName := ⟨RJ3, "checkIndex", "(IILjava/util/function/BiFunction;)I"⟩
def RL : String := "WardWatchLaw"
abbrev cL_law : ByteArray := code
abbrev vwCl : List vw_C := [(RX0, TX0, 5), (RX1, TX1, 4), (RX2, TX2, 6), (RX3, TX3, 8), (RX4, TX4, 13), (RX5, TX5, 2), (RX6, TX6, 12), (RX7, TX7, 2), (RX8, TX8, 2), (RX9, TX9, 5), (RX10, TX10, 9), (RX11, TX11, 9), (RX12, TX12, 56)]
end
section
theorem dX0_init_0 : decode cX0_init 0 = .ok (.aload_n 0, 1) := by decide +kernel
theorem dX0_init_1 : decode cX0_init 1 = .ok (.invokespecial 3, 3) := by decide +kernel
theorem dX0_init_4 : decode cX0_init 4 = .ok (.aload_n 0, 1) := by decide +kernel
theorem dX0_init_5 : decode cX0_init 5 = .ok (.iconst 0, 1) := by decide +kernel
theorem dX0_init_6 : decode cX0_init 6 = .ok (.putfield 11, 3) := by decide +kernel
theorem dX0_init_9 : decode cX0_init 9 = .ok (.aload_n 0, 1) := by decide +kernel
theorem dX0_init_10 : decode cX0_init 10 = .ok (.iconst (-1), 1) := by decide +kernel
theorem dX0_init_11 : decode cX0_init 11 = .ok (.putfield 15, 3) := by decide +kernel
theorem dX0_init_14 : decode cX0_init 14 = .ok (.aload_n 0, 1) := by decide +kernel
theorem dX0_init_15 : decode cX0_init 15 = .ok (.iload_n 1, 1) := by decide +kernel
theorem dX0_init_16 : decode cX0_init 16 = .ok (.putfield 18, 3) := by decide +kernel
theorem dX0_init_19 : decode cX0_init 19 = .ok (.aload_n 0, 1) := by decide +kernel
theorem dX0_init_20 : decode cX0_init 20 = .ok (.iload_n 2, 1) := by decide +kernel
theorem dX0_init_21 : decode cX0_init 21 = .ok (.putfield 21, 3) := by decide +kernel
theorem dX0_init_24 : decode cX0_init 24 = .ok (.aload_n 0, 1) := by decide +kernel
theorem dX0_init_25 : decode cX0_init 25 = .ok (.iload_n 3, 1) := by decide +kernel
theorem dX0_init_26 : decode cX0_init 26 = .ok (.putfield 24, 3) := by decide +kernel
theorem dX0_init_29 : decode cX0_init 29 = .ok (.return_, 1) := by decide +kernel
theorem dX0_tell_0 : decode cX0_tell 0 = .ok (.iload_n 1, 1) := by decide +kernel
theorem dX0_tell_1 : decode cX0_tell 1 = .ok (.tableswitch 60 0 4 #[35, 40, 45, 50, 55], 35) := by decide +kernel
theorem dX0_tell_36 : decode cX0_tell 36 = .ok (.aload_n 0, 1) := by decide +kernel
theorem dX0_tell_37 : decode cX0_tell 37 = .ok (.getfield 18, 3) := by decide +kernel
theorem dX0_tell_40 : decode cX0_tell 40 = .ok (.ireturn, 1) := by decide +kernel
theorem dX0_tell_41 : decode cX0_tell 41 = .ok (.aload_n 0, 1) := by decide +kernel
theorem dX0_tell_42 : decode cX0_tell 42 = .ok (.getfield 21, 3) := by decide +kernel
theorem dX0_tell_45 : decode cX0_tell 45 = .ok (.ireturn, 1) := by decide +kernel
theorem dX0_tell_46 : decode cX0_tell 46 = .ok (.aload_n 0, 1) := by decide +kernel
theorem dX0_tell_47 : decode cX0_tell 47 = .ok (.getfield 24, 3) := by decide +kernel
theorem dX0_tell_50 : decode cX0_tell 50 = .ok (.ireturn, 1) := by decide +kernel
theorem dX0_tell_51 : decode cX0_tell 51 = .ok (.aload_n 0, 1) := by decide +kernel
theorem dX0_tell_52 : decode cX0_tell 52 = .ok (.getfield 11, 3) := by decide +kernel
theorem dX0_tell_55 : decode cX0_tell 55 = .ok (.ireturn, 1) := by decide +kernel
theorem dX0_tell_56 : decode cX0_tell 56 = .ok (.aload_n 0, 1) := by decide +kernel
theorem dX0_tell_57 : decode cX0_tell 57 = .ok (.getfield 15, 3) := by decide +kernel
theorem dX0_tell_60 : decode cX0_tell 60 = .ok (.ireturn, 1) := by decide +kernel
theorem dX0_tell_61 : decode cX0_tell 61 = .ok (.iconst (-1), 1) := by decide +kernel
theorem dX0_tell_62 : decode cX0_tell 62 = .ok (.ireturn, 1) := by decide +kernel
theorem dX1_init_0 : decode cX1_init 0 = .ok (.aload_n 0, 1) := by decide +kernel
theorem dX1_init_1 : decode cX1_init 1 = .ok (.invokespecial 3, 3) := by decide +kernel
theorem dX1_init_4 : decode cX1_init 4 = .ok (.aload_n 0, 1) := by decide +kernel
theorem dX1_init_5 : decode cX1_init 5 = .ok (.bipush 10, 2) := by decide +kernel
theorem dX1_init_7 : decode cX1_init 7 = .ok (.newarray .int, 2) := by decide +kernel
theorem dX1_init_9 : decode cX1_init 9 = .ok (.putfield 11, 3) := by decide +kernel
theorem dX1_init_12 : decode cX1_init 12 = .ok (.aload_n 0, 1) := by decide +kernel
theorem dX1_init_13 : decode cX1_init 13 = .ok (.iconst (-1), 1) := by decide +kernel
theorem dX1_init_14 : decode cX1_init 14 = .ok (.putfield 15, 3) := by decide +kernel
theorem dX1_init_17 : decode cX1_init 17 = .ok (.return_, 1) := by decide +kernel
theorem dX1_read_0 : decode cX1_read 0 = .ok (.aload_n 0, 1) := by decide +kernel
theorem dX1_read_1 : decode cX1_read 1 = .ok (.aload_n 1, 1) := by decide +kernel
theorem dX1_read_2 : decode cX1_read 2 = .ok (.invokevirtual 19, 3) := by decide +kernel
theorem dX1_read_5 : decode cX1_read 5 = .ok (.putfield 25, 3) := by decide +kernel
theorem dX1_read_8 : decode cX1_read 8 = .ok (.aload_n 0, 1) := by decide +kernel
theorem dX1_read_9 : decode cX1_read 9 = .ok (.getfield 25, 3) := by decide +kernel
theorem dX1_read_12 : decode cX1_read 12 = .ok (.iconst 2, 1) := by decide +kernel
theorem dX1_read_13 : decode cX1_read 13 = .ok (.bipush 10, 2) := by decide +kernel
theorem dX1_read_15 : decode cX1_read 15 = .ok (.invokestatic 28, 3) := by decide +kernel
theorem dX1_read_18 : decode cX1_read 18 = .ok (.ifCond .ne 5, 3) := by decide +kernel
theorem dX1_read_21 : decode cX1_read 21 = .ok (.iconst 0, 1) := by decide +kernel
theorem dX1_read_22 : decode cX1_read 22 = .ok (.ireturn, 1) := by decide +kernel
theorem dX1_read_23 : decode cX1_read 23 = .ok (.iconst 0, 1) := by decide +kernel
theorem dX1_read_24 : decode cX1_read 24 = .ok (.istore_n 3, 1) := by decide +kernel
theorem dX1_read_25 : decode cX1_read 25 = .ok (.iload_n 3, 1) := by decide +kernel
theorem dX1_read_26 : decode cX1_read 26 = .ok (.aload_n 0, 1) := by decide +kernel
theorem dX1_read_27 : decode cX1_read 27 = .ok (.getfield 25, 3) := by decide +kernel
theorem dX1_read_30 : decode cX1_read 30 = .ok (.if_icmp .ge 65, 3) := by decide +kernel
theorem dX1_read_33 : decode cX1_read 33 = .ok (.aload_n 0, 1) := by decide +kernel
theorem dX1_read_34 : decode cX1_read 34 = .ok (.getfield 11, 3) := by decide +kernel
theorem dX1_read_37 : decode cX1_read 37 = .ok (.iload_n 3, 1) := by decide +kernel
theorem dX1_read_38 : decode cX1_read 38 = .ok (.aload_n 1, 1) := by decide +kernel
theorem dX1_read_39 : decode cX1_read 39 = .ok (.iload_n 3, 1) := by decide +kernel
theorem dX1_read_40 : decode cX1_read 40 = .ok (.invokevirtual 32, 3) := by decide +kernel
theorem dX1_read_43 : decode cX1_read 43 = .ok (.bipush 65, 2) := by decide +kernel
theorem dX1_read_45 : decode cX1_read 45 = .ok (.isub, 1) := by decide +kernel
theorem dX1_read_46 : decode cX1_read 46 = .ok (.iastore, 1) := by decide +kernel
theorem dX1_read_47 : decode cX1_read 47 = .ok (.aload_n 0, 1) := by decide +kernel
theorem dX1_read_48 : decode cX1_read 48 = .ok (.getfield 11, 3) := by decide +kernel
theorem dX1_read_51 : decode cX1_read 51 = .ok (.iload_n 3, 1) := by decide +kernel
theorem dX1_read_52 : decode cX1_read 52 = .ok (.iaload, 1) := by decide +kernel
theorem dX1_read_53 : decode cX1_read 53 = .ok (.invokestatic 36, 3) := by decide +kernel
theorem dX1_read_56 : decode cX1_read 56 = .ok (.ifCond .ne 5, 3) := by decide +kernel
theorem dX1_read_59 : decode cX1_read 59 = .ok (.iconst 0, 1) := by decide +kernel
theorem dX1_read_60 : decode cX1_read 60 = .ok (.ireturn, 1) := by decide +kernel
theorem dX1_read_61 : decode cX1_read 61 = .ok (.iload_n 3, 1) := by decide +kernel
theorem dX1_read_62 : decode cX1_read 62 = .ok (.ifCond .le 27, 3) := by decide +kernel
theorem dX1_read_65 : decode cX1_read 65 = .ok (.aload_n 2, 1) := by decide +kernel
theorem dX1_read_66 : decode cX1_read 66 = .ok (.aload_n 0, 1) := by decide +kernel
theorem dX1_read_67 : decode cX1_read 67 = .ok (.getfield 11, 3) := by decide +kernel
theorem dX1_read_70 : decode cX1_read 70 = .ok (.iload_n 3, 1) := by decide +kernel
theorem dX1_read_71 : decode cX1_read 71 = .ok (.iconst 1, 1) := by decide +kernel
theorem dX1_read_72 : decode cX1_read 72 = .ok (.isub, 1) := by decide +kernel
theorem dX1_read_73 : decode cX1_read 73 = .ok (.iaload, 1) := by decide +kernel
theorem dX1_read_74 : decode cX1_read 74 = .ok (.aload_n 0, 1) := by decide +kernel
theorem dX1_read_75 : decode cX1_read 75 = .ok (.getfield 11, 3) := by decide +kernel
theorem dX1_read_78 : decode cX1_read 78 = .ok (.iload_n 3, 1) := by decide +kernel
theorem dX1_read_79 : decode cX1_read 79 = .ok (.iaload, 1) := by decide +kernel
theorem dX1_read_80 : decode cX1_read 80 = .ok (.invokevirtual 40, 3) := by decide +kernel
theorem dX1_read_83 : decode cX1_read 83 = .ok (.iconst (-1), 1) := by decide +kernel
theorem dX1_read_84 : decode cX1_read 84 = .ok (.if_icmp .ne 5, 3) := by decide +kernel
theorem dX1_read_87 : decode cX1_read 87 = .ok (.iconst 0, 1) := by decide +kernel
theorem dX1_read_88 : decode cX1_read 88 = .ok (.ireturn, 1) := by decide +kernel
theorem dX1_read_89 : decode cX1_read 89 = .ok (.iinc 3 1, 3) := by decide +kernel
theorem dX1_read_92 : decode cX1_read 92 = .ok (.goto (-67), 3) := by decide +kernel
theorem dX1_read_95 : decode cX1_read 95 = .ok (.iconst 1, 1) := by decide +kernel
theorem dX1_read_96 : decode cX1_read 96 = .ok (.ireturn, 1) := by decide +kernel
theorem dX1_run_0 : decode cX1_run 0 = .ok (.aload_n 1, 1) := by decide +kernel
theorem dX1_run_1 : decode cX1_run 1 = .ok (.aload_n 0, 1) := by decide +kernel
theorem dX1_run_2 : decode cX1_run 2 = .ok (.getfield 11, 3) := by decide +kernel
theorem dX1_run_5 : decode cX1_run 5 = .ok (.iconst 0, 1) := by decide +kernel
theorem dX1_run_6 : decode cX1_run 6 = .ok (.iaload, 1) := by decide +kernel
theorem dX1_run_7 : decode cX1_run 7 = .ok (.invokevirtual 46, 3) := by decide +kernel
theorem dX1_run_10 : decode cX1_run 10 = .ok (.istore 4, 2) := by decide +kernel
theorem dX1_run_12 : decode cX1_run 12 = .ok (.iconst 1, 1) := by decide +kernel
theorem dX1_run_13 : decode cX1_run 13 = .ok (.istore 5, 2) := by decide +kernel
theorem dX1_run_15 : decode cX1_run 15 = .ok (.iconst 0, 1) := by decide +kernel
theorem dX1_run_16 : decode cX1_run 16 = .ok (.istore 6, 2) := by decide +kernel
theorem dX1_run_18 : decode cX1_run 18 = .ok (.aload_n 0, 1) := by decide +kernel
theorem dX1_run_19 : decode cX1_run 19 = .ok (.iconst 0, 1) := by decide +kernel
theorem dX1_run_20 : decode cX1_run 20 = .ok (.putfield 49, 3) := by decide +kernel
theorem dX1_run_23 : decode cX1_run 23 = .ok (.iload 5, 2) := by decide +kernel
theorem dX1_run_25 : decode cX1_run 25 = .ok (.aload_n 0, 1) := by decide +kernel
theorem dX1_run_26 : decode cX1_run 26 = .ok (.getfield 25, 3) := by decide +kernel
theorem dX1_run_29 : decode cX1_run 29 = .ok (.if_icmp .ge 106, 3) := by decide +kernel
theorem dX1_run_32 : decode cX1_run 32 = .ok (.aload_n 1, 1) := by decide +kernel
theorem dX1_run_33 : decode cX1_run 33 = .ok (.aload_n 0, 1) := by decide +kernel
theorem dX1_run_34 : decode cX1_run 34 = .ok (.getfield 11, 3) := by decide +kernel
theorem dX1_run_37 : decode cX1_run 37 = .ok (.iload 5, 2) := by decide +kernel
theorem dX1_run_39 : decode cX1_run 39 = .ok (.iconst 1, 1) := by decide +kernel
theorem dX1_run_40 : decode cX1_run 40 = .ok (.isub, 1) := by decide +kernel
theorem dX1_run_41 : decode cX1_run 41 = .ok (.iaload, 1) := by decide +kernel
theorem dX1_run_42 : decode cX1_run 42 = .ok (.aload_n 0, 1) := by decide +kernel
theorem dX1_run_43 : decode cX1_run 43 = .ok (.getfield 11, 3) := by decide +kernel
theorem dX1_run_46 : decode cX1_run 46 = .ok (.iload 5, 2) := by decide +kernel
theorem dX1_run_48 : decode cX1_run 48 = .ok (.iaload, 1) := by decide +kernel
theorem dX1_run_49 : decode cX1_run 49 = .ok (.invokevirtual 40, 3) := by decide +kernel
theorem dX1_run_52 : decode cX1_run 52 = .ok (.istore 7, 2) := by decide +kernel
theorem dX1_run_54 : decode cX1_run 54 = .ok (.aload_n 1, 1) := by decide +kernel
theorem dX1_run_55 : decode cX1_run 55 = .ok (.aload_n 0, 1) := by decide +kernel
theorem dX1_run_56 : decode cX1_run 56 = .ok (.getfield 11, 3) := by decide +kernel
theorem dX1_run_59 : decode cX1_run 59 = .ok (.iload 5, 2) := by decide +kernel
theorem dX1_run_61 : decode cX1_run 61 = .ok (.iaload, 1) := by decide +kernel
theorem dX1_run_62 : decode cX1_run 62 = .ok (.invokevirtual 46, 3) := by decide +kernel
theorem dX1_run_65 : decode cX1_run 65 = .ok (.istore 8, 2) := by decide +kernel
theorem dX1_run_67 : decode cX1_run 67 = .ok (.aload_n 2, 1) := by decide +kernel
theorem dX1_run_68 : decode cX1_run 68 = .ok (.iload 8, 2) := by decide +kernel
theorem dX1_run_70 : decode cX1_run 70 = .ok (.aaload, 1) := by decide +kernel
theorem dX1_run_71 : decode cX1_run 71 = .ok (.getfield 52, 3) := by decide +kernel
theorem dX1_run_74 : decode cX1_run 74 = .ok (.astore 9, 2) := by decide +kernel
theorem dX1_run_76 : decode cX1_run 76 = .ok (.iload 6, 2) := by decide +kernel
theorem dX1_run_78 : decode cX1_run 78 = .ok (.iload 7, 2) := by decide +kernel
theorem dX1_run_80 : decode cX1_run 80 = .ok (.iadd, 1) := by decide +kernel
theorem dX1_run_81 : decode cX1_run 81 = .ok (.istore 6, 2) := by decide +kernel
theorem dX1_run_83 : decode cX1_run 83 = .ok (.iload 8, 2) := by decide +kernel
theorem dX1_run_85 : decode cX1_run 85 = .ok (.iload 4, 2) := by decide +kernel
theorem dX1_run_87 : decode cX1_run 87 = .ok (.if_icmp .ne 9, 3) := by decide +kernel
theorem dX1_run_90 : decode cX1_run 90 = .ok (.iconst 0, 1) := by decide +kernel
theorem dX1_run_91 : decode cX1_run 91 = .ok (.istore 6, 2) := by decide +kernel
theorem dX1_run_93 : decode cX1_run 93 = .ok (.goto 25, 3) := by decide +kernel
theorem dX1_run_96 : decode cX1_run 96 = .ok (.aload 9, 2) := by decide +kernel
theorem dX1_run_98 : decode cX1_run 98 = .ok (.iload_n 3, 1) := by decide +kernel
theorem dX1_run_99 : decode cX1_run 99 = .ok (.invokevirtual 58, 3) := by decide +kernel
theorem dX1_run_102 : decode cX1_run 102 = .ok (.ifCond .eq 33, 3) := by decide +kernel
theorem dX1_run_105 : decode cX1_run 105 = .ok (.iload 6, 2) := by decide +kernel
theorem dX1_run_107 : decode cX1_run 107 = .ok (.aload 9, 2) := by decide +kernel
theorem dX1_run_109 : decode cX1_run 109 = .ok (.getfield 64, 3) := by decide +kernel
theorem dX1_run_112 : decode cX1_run 112 = .ok (.if_icmp .le 6, 3) := by decide +kernel
theorem dX1_run_115 : decode cX1_run 115 = .ok (.goto 20, 3) := by decide +kernel
theorem dX1_run_118 : decode cX1_run 118 = .ok (.aload_n 0, 1) := by decide +kernel
theorem dX1_run_119 : decode cX1_run 119 = .ok (.dup, 1) := by decide +kernel
theorem dX1_run_120 : decode cX1_run 120 = .ok (.getfield 49, 3) := by decide +kernel
theorem dX1_run_123 : decode cX1_run 123 = .ok (.iload 7, 2) := by decide +kernel
theorem dX1_run_125 : decode cX1_run 125 = .ok (.iadd, 1) := by decide +kernel
theorem dX1_run_126 : decode cX1_run 126 = .ok (.putfield 49, 3) := by decide +kernel
theorem dX1_run_129 : decode cX1_run 129 = .ok (.iinc 5 1, 3) := by decide +kernel
theorem dX1_run_132 : decode cX1_run 132 = .ok (.goto (-109), 3) := by decide +kernel
theorem dX1_run_135 : decode cX1_run 135 = .ok (.aload_n 0, 1) := by decide +kernel
theorem dX1_run_136 : decode cX1_run 136 = .ok (.aload_n 0, 1) := by decide +kernel
theorem dX1_run_137 : decode cX1_run 137 = .ok (.getfield 11, 3) := by decide +kernel
theorem dX1_run_140 : decode cX1_run 140 = .ok (.iload 5, 2) := by decide +kernel
theorem dX1_run_142 : decode cX1_run 142 = .ok (.iconst 1, 1) := by decide +kernel
theorem dX1_run_143 : decode cX1_run 143 = .ok (.isub, 1) := by decide +kernel
theorem dX1_run_144 : decode cX1_run 144 = .ok (.iaload, 1) := by decide +kernel
theorem dX1_run_145 : decode cX1_run 145 = .ok (.putfield 15, 3) := by decide +kernel
theorem dX1_run_148 : decode cX1_run 148 = .ok (.iload 5, 2) := by decide +kernel
theorem dX1_run_150 : decode cX1_run 150 = .ok (.ireturn, 1) := by decide +kernel
theorem dX1_tell_0 : decode cX1_tell 0 = .ok (.aload_n 0, 1) := by decide +kernel
theorem dX1_tell_1 : decode cX1_tell 1 = .ok (.getfield 15, 3) := by decide +kernel
theorem dX1_tell_4 : decode cX1_tell 4 = .ok (.iconst (-1), 1) := by decide +kernel
theorem dX1_tell_5 : decode cX1_tell 5 = .ok (.if_icmp .ne 6, 3) := by decide +kernel
theorem dX1_tell_8 : decode cX1_tell 8 = .ok (.bipush (-9), 2) := by decide +kernel
theorem dX1_tell_10 : decode cX1_tell 10 = .ok (.ireturn, 1) := by decide +kernel
theorem dX1_tell_11 : decode cX1_tell 11 = .ok (.iload_n 1, 1) := by decide +kernel
theorem dX1_tell_12 : decode cX1_tell 12 = .ok (.lookupswitch 38 #[(0, 28), (1, 33)], 28) := by decide +kernel
theorem dX1_tell_40 : decode cX1_tell 40 = .ok (.aload_n 0, 1) := by decide +kernel
theorem dX1_tell_41 : decode cX1_tell 41 = .ok (.getfield 49, 3) := by decide +kernel
theorem dX1_tell_44 : decode cX1_tell 44 = .ok (.ireturn, 1) := by decide +kernel
theorem dX1_tell_45 : decode cX1_tell 45 = .ok (.aload_n 0, 1) := by decide +kernel
theorem dX1_tell_46 : decode cX1_tell 46 = .ok (.getfield 15, 3) := by decide +kernel
theorem dX1_tell_49 : decode cX1_tell 49 = .ok (.ireturn, 1) := by decide +kernel
theorem dX1_tell_50 : decode cX1_tell 50 = .ok (.bipush (-9), 2) := by decide +kernel
theorem dX1_tell_52 : decode cX1_tell 52 = .ok (.ireturn, 1) := by decide +kernel
theorem dX2_init_0 : decode cX2_init 0 = .ok (.aload_n 0, 1) := by decide +kernel
theorem dX2_init_1 : decode cX2_init 1 = .ok (.invokespecial 3, 3) := by decide +kernel
theorem dX2_init_4 : decode cX2_init 4 = .ok (.aload_n 0, 1) := by decide +kernel
theorem dX2_init_5 : decode cX2_init 5 = .ok (.iconst 0, 1) := by decide +kernel
theorem dX2_init_6 : decode cX2_init 6 = .ok (.putfield 9, 3) := by decide +kernel
theorem dX2_init_9 : decode cX2_init 9 = .ok (.aload_n 0, 1) := by decide +kernel
theorem dX2_init_10 : decode cX2_init 10 = .ok (.iconst (-1), 1) := by decide +kernel
theorem dX2_init_11 : decode cX2_init 11 = .ok (.putfield 15, 3) := by decide +kernel
theorem dX2_init_14 : decode cX2_init 14 = .ok (.aload_n 0, 1) := by decide +kernel
theorem dX2_init_15 : decode cX2_init 15 = .ok (.iload_n 1, 1) := by decide +kernel
theorem dX2_init_16 : decode cX2_init 16 = .ok (.putfield 18, 3) := by decide +kernel
theorem dX2_init_19 : decode cX2_init 19 = .ok (.aload_n 0, 1) := by decide +kernel
theorem dX2_init_20 : decode cX2_init 20 = .ok (.iload_n 2, 1) := by decide +kernel
theorem dX2_init_21 : decode cX2_init 21 = .ok (.putfield 21, 3) := by decide +kernel
theorem dX2_init_24 : decode cX2_init 24 = .ok (.return_, 1) := by decide +kernel
theorem dX2_isDue_0 : decode cX2_isDue 0 = .ok (.aload_n 0, 1) := by decide +kernel
theorem dX2_isDue_1 : decode cX2_isDue 1 = .ok (.getfield 15, 3) := by decide +kernel
theorem dX2_isDue_4 : decode cX2_isDue 4 = .ok (.iconst (-1), 1) := by decide +kernel
theorem dX2_isDue_5 : decode cX2_isDue 5 = .ok (.if_icmp .eq 20, 3) := by decide +kernel
theorem dX2_isDue_8 : decode cX2_isDue 8 = .ok (.iload_n 2, 1) := by decide +kernel
theorem dX2_isDue_9 : decode cX2_isDue 9 = .ok (.aload_n 0, 1) := by decide +kernel
theorem dX2_isDue_10 : decode cX2_isDue 10 = .ok (.getfield 15, 3) := by decide +kernel
theorem dX2_isDue_13 : decode cX2_isDue 13 = .ok (.isub, 1) := by decide +kernel
theorem dX2_isDue_14 : decode cX2_isDue 14 = .ok (.aload_n 1, 1) := by decide +kernel
theorem dX2_isDue_15 : decode cX2_isDue 15 = .ok (.getfield 24, 3) := by decide +kernel
theorem dX2_isDue_18 : decode cX2_isDue 18 = .ok (.if_icmp .gt 7, 3) := by decide +kernel
theorem dX2_isDue_21 : decode cX2_isDue 21 = .ok (.iconst 1, 1) := by decide +kernel
theorem dX2_isDue_22 : decode cX2_isDue 22 = .ok (.goto 4, 3) := by decide +kernel
theorem dX2_isDue_25 : decode cX2_isDue 25 = .ok (.iconst 0, 1) := by decide +kernel
theorem dX2_isDue_26 : decode cX2_isDue 26 = .ok (.istore_n 3, 1) := by decide +kernel
theorem dX2_isDue_27 : decode cX2_isDue 27 = .ok (.iload_n 2, 1) := by decide +kernel
theorem dX2_isDue_28 : decode cX2_isDue 28 = .ok (.aload_n 0, 1) := by decide +kernel
theorem dX2_isDue_29 : decode cX2_isDue 29 = .ok (.getfield 21, 3) := by decide +kernel
theorem dX2_isDue_32 : decode cX2_isDue 32 = .ok (.isub, 1) := by decide +kernel
theorem dX2_isDue_33 : decode cX2_isDue 33 = .ok (.aload_n 1, 1) := by decide +kernel
theorem dX2_isDue_34 : decode cX2_isDue 34 = .ok (.getfield 29, 3) := by decide +kernel
theorem dX2_isDue_37 : decode cX2_isDue 37 = .ok (.aload_n 1, 1) := by decide +kernel
theorem dX2_isDue_38 : decode cX2_isDue 38 = .ok (.getfield 32, 3) := by decide +kernel
theorem dX2_isDue_41 : decode cX2_isDue 41 = .ok (.invokestatic 35, 3) := by decide +kernel
theorem dX2_isDue_44 : decode cX2_isDue 44 = .ok (.ifCond .eq 11, 3) := by decide +kernel
theorem dX2_isDue_47 : decode cX2_isDue 47 = .ok (.iload_n 3, 1) := by decide +kernel
theorem dX2_isDue_48 : decode cX2_isDue 48 = .ok (.ifCond .ne 7, 3) := by decide +kernel
theorem dX2_isDue_51 : decode cX2_isDue 51 = .ok (.iconst 1, 1) := by decide +kernel
theorem dX2_isDue_52 : decode cX2_isDue 52 = .ok (.goto 4, 3) := by decide +kernel
theorem dX2_isDue_55 : decode cX2_isDue 55 = .ok (.iconst 0, 1) := by decide +kernel
theorem dX2_isDue_56 : decode cX2_isDue 56 = .ok (.ireturn, 1) := by decide +kernel
theorem dX2_canHire_0 : decode cX2_canHire 0 = .ok (.aload_n 0, 1) := by decide +kernel
theorem dX2_canHire_1 : decode cX2_canHire 1 = .ok (.getfield 9, 3) := by decide +kernel
theorem dX2_canHire_4 : decode cX2_canHire 4 = .ok (.iconst 1, 1) := by decide +kernel
theorem dX2_canHire_5 : decode cX2_canHire 5 = .ok (.if_icmp .ne 26, 3) := by decide +kernel
theorem dX2_canHire_8 : decode cX2_canHire 8 = .ok (.aload_n 1, 1) := by decide +kernel
theorem dX2_canHire_9 : decode cX2_canHire 9 = .ok (.getfield 39, 3) := by decide +kernel
theorem dX2_canHire_12 : decode cX2_canHire 12 = .ok (.iconst (-1), 1) := by decide +kernel
theorem dX2_canHire_13 : decode cX2_canHire 13 = .ok (.if_icmp .eq 18, 3) := by decide +kernel
theorem dX2_canHire_16 : decode cX2_canHire 16 = .ok (.aload_n 0, 1) := by decide +kernel
theorem dX2_canHire_17 : decode cX2_canHire 17 = .ok (.getfield 42, 3) := by decide +kernel
theorem dX2_canHire_20 : decode cX2_canHire 20 = .ok (.aload_n 1, 1) := by decide +kernel
theorem dX2_canHire_21 : decode cX2_canHire 21 = .ok (.getfield 39, 3) := by decide +kernel
theorem dX2_canHire_24 : decode cX2_canHire 24 = .ok (.if_icmp .lt 7, 3) := by decide +kernel
theorem dX2_canHire_27 : decode cX2_canHire 27 = .ok (.iconst 1, 1) := by decide +kernel
theorem dX2_canHire_28 : decode cX2_canHire 28 = .ok (.goto 4, 3) := by decide +kernel
theorem dX2_canHire_31 : decode cX2_canHire 31 = .ok (.iconst 0, 1) := by decide +kernel
theorem dX2_canHire_32 : decode cX2_canHire 32 = .ok (.ireturn, 1) := by decide +kernel
theorem dX2_canPay_0 : decode cX2_canPay 0 = .ok (.aload_n 0, 1) := by decide +kernel
theorem dX2_canPay_1 : decode cX2_canPay 1 = .ok (.getfield 9, 3) := by decide +kernel
theorem dX2_canPay_4 : decode cX2_canPay 4 = .ok (.iconst 2, 1) := by decide +kernel
theorem dX2_canPay_5 : decode cX2_canPay 5 = .ok (.if_icmp .ne 18, 3) := by decide +kernel
theorem dX2_canPay_8 : decode cX2_canPay 8 = .ok (.aload_n 0, 1) := by decide +kernel
theorem dX2_canPay_9 : decode cX2_canPay 9 = .ok (.getfield 42, 3) := by decide +kernel
theorem dX2_canPay_12 : decode cX2_canPay 12 = .ok (.aload_n 1, 1) := by decide +kernel
theorem dX2_canPay_13 : decode cX2_canPay 13 = .ok (.getfield 45, 3) := by decide +kernel
theorem dX2_canPay_16 : decode cX2_canPay 16 = .ok (.if_icmp .lt 7, 3) := by decide +kernel
theorem dX2_canPay_19 : decode cX2_canPay 19 = .ok (.iconst 1, 1) := by decide +kernel
theorem dX2_canPay_20 : decode cX2_canPay 20 = .ok (.goto 4, 3) := by decide +kernel
theorem dX2_canPay_23 : decode cX2_canPay 23 = .ok (.iconst 0, 1) := by decide +kernel
theorem dX2_canPay_24 : decode cX2_canPay 24 = .ok (.ireturn, 1) := by decide +kernel
theorem dX2_noteYear_0 : decode cX2_noteYear 0 = .ok (.aload_n 0, 1) := by decide +kernel
theorem dX2_noteYear_1 : decode cX2_noteYear 1 = .ok (.iload_n 1, 1) := by decide +kernel
theorem dX2_noteYear_2 : decode cX2_noteYear 2 = .ok (.putfield 15, 3) := by decide +kernel
theorem dX2_noteYear_5 : decode cX2_noteYear 5 = .ok (.aload_n 0, 1) := by decide +kernel
theorem dX2_noteYear_6 : decode cX2_noteYear 6 = .ok (.dup, 1) := by decide +kernel
theorem dX2_noteYear_7 : decode cX2_noteYear 7 = .ok (.getfield 48, 3) := by decide +kernel
theorem dX2_noteYear_10 : decode cX2_noteYear 10 = .ok (.iconst 1, 1) := by decide +kernel
theorem dX2_noteYear_11 : decode cX2_noteYear 11 = .ok (.iadd, 1) := by decide +kernel
theorem dX2_noteYear_12 : decode cX2_noteYear 12 = .ok (.putfield 48, 3) := by decide +kernel
theorem dX2_noteYear_15 : decode cX2_noteYear 15 = .ok (.return_, 1) := by decide +kernel
theorem dX2_tell_0 : decode cX2_tell 0 = .ok (.iload_n 1, 1) := by decide +kernel
theorem dX2_tell_1 : decode cX2_tell 1 = .ok (.tableswitch 69 0 5 #[39, 44, 49, 54, 59, 64], 39) := by decide +kernel
theorem dX2_tell_40 : decode cX2_tell 40 = .ok (.aload_n 0, 1) := by decide +kernel
theorem dX2_tell_41 : decode cX2_tell 41 = .ok (.getfield 18, 3) := by decide +kernel
theorem dX2_tell_44 : decode cX2_tell 44 = .ok (.ireturn, 1) := by decide +kernel
theorem dX2_tell_45 : decode cX2_tell 45 = .ok (.aload_n 0, 1) := by decide +kernel
theorem dX2_tell_46 : decode cX2_tell 46 = .ok (.getfield 21, 3) := by decide +kernel
theorem dX2_tell_49 : decode cX2_tell 49 = .ok (.ireturn, 1) := by decide +kernel
theorem dX2_tell_50 : decode cX2_tell 50 = .ok (.aload_n 0, 1) := by decide +kernel
theorem dX2_tell_51 : decode cX2_tell 51 = .ok (.getfield 42, 3) := by decide +kernel
theorem dX2_tell_54 : decode cX2_tell 54 = .ok (.ireturn, 1) := by decide +kernel
theorem dX2_tell_55 : decode cX2_tell 55 = .ok (.aload_n 0, 1) := by decide +kernel
theorem dX2_tell_56 : decode cX2_tell 56 = .ok (.getfield 9, 3) := by decide +kernel
theorem dX2_tell_59 : decode cX2_tell 59 = .ok (.ireturn, 1) := by decide +kernel
theorem dX2_tell_60 : decode cX2_tell 60 = .ok (.aload_n 0, 1) := by decide +kernel
theorem dX2_tell_61 : decode cX2_tell 61 = .ok (.getfield 15, 3) := by decide +kernel
theorem dX2_tell_64 : decode cX2_tell 64 = .ok (.ireturn, 1) := by decide +kernel
theorem dX2_tell_65 : decode cX2_tell 65 = .ok (.aload_n 0, 1) := by decide +kernel
theorem dX2_tell_66 : decode cX2_tell 66 = .ok (.getfield 48, 3) := by decide +kernel
theorem dX2_tell_69 : decode cX2_tell 69 = .ok (.ireturn, 1) := by decide +kernel
theorem dX2_tell_70 : decode cX2_tell 70 = .ok (.iconst (-1), 1) := by decide +kernel
theorem dX2_tell_71 : decode cX2_tell 71 = .ok (.ireturn, 1) := by decide +kernel
theorem dX3_init_0 : decode cX3_init 0 = .ok (.aload_n 0, 1) := by decide +kernel
theorem dX3_init_1 : decode cX3_init 1 = .ok (.invokespecial 3, 3) := by decide +kernel
theorem dX3_init_4 : decode cX3_init 4 = .ok (.aload_n 0, 1) := by decide +kernel
theorem dX3_init_5 : decode cX3_init 5 = .ok (.iconst (-1), 1) := by decide +kernel
theorem dX3_init_6 : decode cX3_init 6 = .ok (.putfield 9, 3) := by decide +kernel
theorem dX3_init_9 : decode cX3_init 9 = .ok (.aload_n 0, 1) := by decide +kernel
theorem dX3_init_10 : decode cX3_init 10 = .ok (.aload_n 1, 1) := by decide +kernel
theorem dX3_init_11 : decode cX3_init 11 = .ok (.putfield 15, 3) := by decide +kernel
theorem dX3_init_14 : decode cX3_init 14 = .ok (.return_, 1) := by decide +kernel
theorem dX3_faultKind_0 : decode cX3_faultKind 0 = .ok (.aload_n 0, 1) := by decide +kernel
theorem dX3_faultKind_1 : decode cX3_faultKind 1 = .ok (.getfield 19, 3) := by decide +kernel
theorem dX3_faultKind_4 : decode cX3_faultKind 4 = .ok (.ireturn, 1) := by decide +kernel
theorem dX3_faultPlace_0 : decode cX3_faultPlace 0 = .ok (.aload_n 0, 1) := by decide +kernel
theorem dX3_faultPlace_1 : decode cX3_faultPlace 1 = .ok (.getfield 9, 3) := by decide +kernel
theorem dX3_faultPlace_4 : decode cX3_faultPlace 4 = .ok (.ireturn, 1) := by decide +kernel
theorem dX3_read_0 : decode cX3_read 0 = .ok (.aload_n 0, 1) := by decide +kernel
theorem dX3_read_1 : decode cX3_read 1 = .ok (.iconst 0, 1) := by decide +kernel
theorem dX3_read_2 : decode cX3_read 2 = .ok (.putfield 22, 3) := by decide +kernel
theorem dX3_read_5 : decode cX3_read 5 = .ok (.aload_n 0, 1) := by decide +kernel
theorem dX3_read_6 : decode cX3_read 6 = .ok (.iconst 0, 1) := by decide +kernel
theorem dX3_read_7 : decode cX3_read 7 = .ok (.putfield 25, 3) := by decide +kernel
theorem dX3_read_10 : decode cX3_read 10 = .ok (.aload_n 0, 1) := by decide +kernel
theorem dX3_read_11 : decode cX3_read 11 = .ok (.iconst 0, 1) := by decide +kernel
theorem dX3_read_12 : decode cX3_read 12 = .ok (.putfield 19, 3) := by decide +kernel
theorem dX3_read_15 : decode cX3_read 15 = .ok (.aload_n 0, 1) := by decide +kernel
theorem dX3_read_16 : decode cX3_read 16 = .ok (.iconst (-1), 1) := by decide +kernel
theorem dX3_read_17 : decode cX3_read 17 = .ok (.putfield 9, 3) := by decide +kernel
theorem dX3_read_20 : decode cX3_read 20 = .ok (.aload_n 1, 1) := by decide +kernel
theorem dX3_read_21 : decode cX3_read 21 = .ok (.invokevirtual 28, 3) := by decide +kernel
theorem dX3_read_24 : decode cX3_read 24 = .ok (.aload_n 0, 1) := by decide +kernel
theorem dX3_read_25 : decode cX3_read 25 = .ok (.invokevirtual 33, 3) := by decide +kernel
theorem dX3_read_28 : decode cX3_read 28 = .ok (.iconst 0, 1) := by decide +kernel
theorem dX3_read_29 : decode cX3_read 29 = .ok (.istore_n 2, 1) := by decide +kernel
theorem dX3_read_30 : decode cX3_read 30 = .ok (.aload_n 0, 1) := by decide +kernel
theorem dX3_read_31 : decode cX3_read 31 = .ok (.getfield 36, 3) := by decide +kernel
theorem dX3_read_34 : decode cX3_read 34 = .ok (.ifCond .eq 36, 3) := by decide +kernel
theorem dX3_read_37 : decode cX3_read 37 = .ok (.aload_n 0, 1) := by decide +kernel
theorem dX3_read_38 : decode cX3_read 38 = .ok (.getfield 19, 3) := by decide +kernel
theorem dX3_read_41 : decode cX3_read 41 = .ok (.ifCond .ne 29, 3) := by decide +kernel
theorem dX3_read_44 : decode cX3_read 44 = .ok (.iload_n 2, 1) := by decide +kernel
theorem dX3_read_45 : decode cX3_read 45 = .ok (.aload_n 0, 1) := by decide +kernel
theorem dX3_read_46 : decode cX3_read 46 = .ok (.getfield 15, 3) := by decide +kernel
theorem dX3_read_49 : decode cX3_read 49 = .ok (.invokevirtual 39, 3) := by decide +kernel
theorem dX3_read_52 : decode cX3_read 52 = .ok (.if_icmp .ge 18, 3) := by decide +kernel
theorem dX3_read_55 : decode cX3_read 55 = .ok (.aload_n 0, 1) := by decide +kernel
theorem dX3_read_56 : decode cX3_read 56 = .ok (.aload_n 1, 1) := by decide +kernel
theorem dX3_read_57 : decode cX3_read 57 = .ok (.invokevirtual 45, 3) := by decide +kernel
theorem dX3_read_60 : decode cX3_read 60 = .ok (.aload_n 0, 1) := by decide +kernel
theorem dX3_read_61 : decode cX3_read 61 = .ok (.invokevirtual 49, 3) := by decide +kernel
theorem dX3_read_64 : decode cX3_read 64 = .ok (.iinc 2 1, 3) := by decide +kernel
theorem dX3_read_67 : decode cX3_read 67 = .ok (.goto (-37), 3) := by decide +kernel
theorem dX3_read_70 : decode cX3_read 70 = .ok (.aload_n 0, 1) := by decide +kernel
theorem dX3_read_71 : decode cX3_read 71 = .ok (.getfield 19, 3) := by decide +kernel
theorem dX3_read_74 : decode cX3_read 74 = .ok (.ifCond .ne 7, 3) := by decide +kernel
theorem dX3_read_77 : decode cX3_read 77 = .ok (.iload_n 2, 1) := by decide +kernel
theorem dX3_read_78 : decode cX3_read 78 = .ok (.goto 4, 3) := by decide +kernel
theorem dX3_read_81 : decode cX3_read 81 = .ok (.iconst (-1), 1) := by decide +kernel
theorem dX3_read_82 : decode cX3_read 82 = .ok (.ireturn, 1) := by decide +kernel
theorem dX3_readLine_0 : decode cX3_readLine 0 = .ok (.aload_n 0, 1) := by decide +kernel
theorem dX3_readLine_1 : decode cX3_readLine 1 = .ok (.ldc 52, 2) := by decide +kernel
theorem dX3_readLine_3 : decode cX3_readLine 3 = .ok (.invokevirtual 54, 3) := by decide +kernel
theorem dX3_readLine_6 : decode cX3_readLine 6 = .ok (.ifCond .eq 36, 3) := by decide +kernel
theorem dX3_readLine_9 : decode cX3_readLine 9 = .ok (.aload_n 0, 1) := by decide +kernel
theorem dX3_readLine_10 : decode cX3_readLine 10 = .ok (.iconst 1, 1) := by decide +kernel
theorem dX3_readLine_11 : decode cX3_readLine 11 = .ok (.invokevirtual 58, 3) := by decide +kernel
theorem dX3_readLine_14 : decode cX3_readLine 14 = .ok (.aload_n 1, 1) := by decide +kernel
theorem dX3_readLine_15 : decode cX3_readLine 15 = .ok (.aload_n 0, 1) := by decide +kernel
theorem dX3_readLine_16 : decode cX3_readLine 16 = .ok (.iconst 0, 1) := by decide +kernel
theorem dX3_readLine_17 : decode cX3_readLine 17 = .ok (.bipush 99, 2) := by decide +kernel
theorem dX3_readLine_19 : decode cX3_readLine 19 = .ok (.invokevirtual 62, 3) := by decide +kernel
theorem dX3_readLine_22 : decode cX3_readLine 22 = .ok (.putfield 66, 3) := by decide +kernel
theorem dX3_readLine_25 : decode cX3_readLine 25 = .ok (.aload_n 1, 1) := by decide +kernel
theorem dX3_readLine_26 : decode cX3_readLine 26 = .ok (.aload_n 0, 1) := by decide +kernel
theorem dX3_readLine_27 : decode cX3_readLine 27 = .ok (.aload_n 1, 1) := by decide +kernel
theorem dX3_readLine_28 : decode cX3_readLine 28 = .ok (.getfield 66, 3) := by decide +kernel
theorem dX3_readLine_31 : decode cX3_readLine 31 = .ok (.bipush 99, 2) := by decide +kernel
theorem dX3_readLine_33 : decode cX3_readLine 33 = .ok (.invokevirtual 62, 3) := by decide +kernel
theorem dX3_readLine_36 : decode cX3_readLine 36 = .ok (.putfield 69, 3) := by decide +kernel
theorem dX3_readLine_39 : decode cX3_readLine 39 = .ok (.goto 179, 3) := by decide +kernel
theorem dX3_readLine_42 : decode cX3_readLine 42 = .ok (.aload_n 0, 1) := by decide +kernel
theorem dX3_readLine_43 : decode cX3_readLine 43 = .ok (.ldc 72, 2) := by decide +kernel
theorem dX3_readLine_45 : decode cX3_readLine 45 = .ok (.invokevirtual 54, 3) := by decide +kernel
theorem dX3_readLine_48 : decode cX3_readLine 48 = .ok (.ifCond .eq 22, 3) := by decide +kernel
theorem dX3_readLine_51 : decode cX3_readLine 51 = .ok (.aload_n 0, 1) := by decide +kernel
theorem dX3_readLine_52 : decode cX3_readLine 52 = .ok (.iconst 2, 1) := by decide +kernel
theorem dX3_readLine_53 : decode cX3_readLine 53 = .ok (.invokevirtual 58, 3) := by decide +kernel
theorem dX3_readLine_56 : decode cX3_readLine 56 = .ok (.aload_n 1, 1) := by decide +kernel
theorem dX3_readLine_57 : decode cX3_readLine 57 = .ok (.aload_n 0, 1) := by decide +kernel
theorem dX3_readLine_58 : decode cX3_readLine 58 = .ok (.iconst 0, 1) := by decide +kernel
theorem dX3_readLine_59 : decode cX3_readLine 59 = .ok (.bipush 30, 2) := by decide +kernel
theorem dX3_readLine_61 : decode cX3_readLine 61 = .ok (.invokevirtual 62, 3) := by decide +kernel
theorem dX3_readLine_64 : decode cX3_readLine 64 = .ok (.putfield 74, 3) := by decide +kernel
theorem dX3_readLine_67 : decode cX3_readLine 67 = .ok (.goto 151, 3) := by decide +kernel
theorem dX3_readLine_70 : decode cX3_readLine 70 = .ok (.aload_n 0, 1) := by decide +kernel
theorem dX3_readLine_71 : decode cX3_readLine 71 = .ok (.ldc 76, 2) := by decide +kernel
theorem dX3_readLine_73 : decode cX3_readLine 73 = .ok (.invokevirtual 54, 3) := by decide +kernel
theorem dX3_readLine_76 : decode cX3_readLine 76 = .ok (.ifCond .eq 23, 3) := by decide +kernel
theorem dX3_readLine_79 : decode cX3_readLine 79 = .ok (.aload_n 0, 1) := by decide +kernel
theorem dX3_readLine_80 : decode cX3_readLine 80 = .ok (.iconst 4, 1) := by decide +kernel
theorem dX3_readLine_81 : decode cX3_readLine 81 = .ok (.invokevirtual 58, 3) := by decide +kernel
theorem dX3_readLine_84 : decode cX3_readLine 84 = .ok (.aload_n 1, 1) := by decide +kernel
theorem dX3_readLine_85 : decode cX3_readLine 85 = .ok (.aload_n 0, 1) := by decide +kernel
theorem dX3_readLine_86 : decode cX3_readLine 86 = .ok (.iconst 0, 1) := by decide +kernel
theorem dX3_readLine_87 : decode cX3_readLine 87 = .ok (.sipush 9999, 3) := by decide +kernel
theorem dX3_readLine_90 : decode cX3_readLine 90 = .ok (.invokevirtual 62, 3) := by decide +kernel
theorem dX3_readLine_93 : decode cX3_readLine 93 = .ok (.putfield 78, 3) := by decide +kernel
theorem dX3_readLine_96 : decode cX3_readLine 96 = .ok (.goto 122, 3) := by decide +kernel
theorem dX3_readLine_99 : decode cX3_readLine 99 = .ok (.aload_n 0, 1) := by decide +kernel
theorem dX3_readLine_100 : decode cX3_readLine 100 = .ok (.ldc 80, 2) := by decide +kernel
theorem dX3_readLine_102 : decode cX3_readLine 102 = .ok (.invokevirtual 54, 3) := by decide +kernel
theorem dX3_readLine_105 : decode cX3_readLine 105 = .ok (.ifCond .eq 24, 3) := by decide +kernel
theorem dX3_readLine_108 : decode cX3_readLine 108 = .ok (.aload_n 0, 1) := by decide +kernel
theorem dX3_readLine_109 : decode cX3_readLine 109 = .ok (.bipush 8, 2) := by decide +kernel
theorem dX3_readLine_111 : decode cX3_readLine 111 = .ok (.invokevirtual 58, 3) := by decide +kernel
theorem dX3_readLine_114 : decode cX3_readLine 114 = .ok (.aload_n 1, 1) := by decide +kernel
theorem dX3_readLine_115 : decode cX3_readLine 115 = .ok (.aload_n 0, 1) := by decide +kernel
theorem dX3_readLine_116 : decode cX3_readLine 116 = .ok (.iconst 0, 1) := by decide +kernel
theorem dX3_readLine_117 : decode cX3_readLine 117 = .ok (.sipush 9999, 3) := by decide +kernel
theorem dX3_readLine_120 : decode cX3_readLine 120 = .ok (.invokevirtual 62, 3) := by decide +kernel
theorem dX3_readLine_123 : decode cX3_readLine 123 = .ok (.putfield 82, 3) := by decide +kernel
theorem dX3_readLine_126 : decode cX3_readLine 126 = .ok (.goto 92, 3) := by decide +kernel
theorem dX3_readLine_129 : decode cX3_readLine 129 = .ok (.aload_n 0, 1) := by decide +kernel
theorem dX3_readLine_130 : decode cX3_readLine 130 = .ok (.ldc 84, 2) := by decide +kernel
theorem dX3_readLine_132 : decode cX3_readLine 132 = .ok (.invokevirtual 54, 3) := by decide +kernel
theorem dX3_readLine_135 : decode cX3_readLine 135 = .ok (.ifCond .eq 11, 3) := by decide +kernel
theorem dX3_readLine_138 : decode cX3_readLine 138 = .ok (.aload_n 0, 1) := by decide +kernel
theorem dX3_readLine_139 : decode cX3_readLine 139 = .ok (.aload_n 1, 1) := by decide +kernel
theorem dX3_readLine_140 : decode cX3_readLine 140 = .ok (.invokevirtual 86, 3) := by decide +kernel
theorem dX3_readLine_143 : decode cX3_readLine 143 = .ok (.goto 75, 3) := by decide +kernel
theorem dX3_readLine_146 : decode cX3_readLine 146 = .ok (.aload_n 0, 1) := by decide +kernel
theorem dX3_readLine_147 : decode cX3_readLine 147 = .ok (.ldc 89, 2) := by decide +kernel
theorem dX3_readLine_149 : decode cX3_readLine 149 = .ok (.invokevirtual 54, 3) := by decide +kernel
theorem dX3_readLine_152 : decode cX3_readLine 152 = .ok (.ifCond .eq 32, 3) := by decide +kernel
theorem dX3_readLine_155 : decode cX3_readLine 155 = .ok (.aload_n 0, 1) := by decide +kernel
theorem dX3_readLine_156 : decode cX3_readLine 156 = .ok (.bipush 16, 2) := by decide +kernel
theorem dX3_readLine_158 : decode cX3_readLine 158 = .ok (.invokevirtual 58, 3) := by decide +kernel
theorem dX3_readLine_161 : decode cX3_readLine 161 = .ok (.aload_n 1, 1) := by decide +kernel
theorem dX3_readLine_162 : decode cX3_readLine 162 = .ok (.aload_n 0, 1) := by decide +kernel
theorem dX3_readLine_163 : decode cX3_readLine 163 = .ok (.iconst 0, 1) := by decide +kernel
theorem dX3_readLine_164 : decode cX3_readLine 164 = .ok (.sipush 999, 3) := by decide +kernel
theorem dX3_readLine_167 : decode cX3_readLine 167 = .ok (.invokevirtual 62, 3) := by decide +kernel
theorem dX3_readLine_170 : decode cX3_readLine 170 = .ok (.putfield 91, 3) := by decide +kernel
theorem dX3_readLine_173 : decode cX3_readLine 173 = .ok (.aload_n 1, 1) := by decide +kernel
theorem dX3_readLine_174 : decode cX3_readLine 174 = .ok (.aload_n 0, 1) := by decide +kernel
theorem dX3_readLine_175 : decode cX3_readLine 175 = .ok (.invokevirtual 93, 3) := by decide +kernel
theorem dX3_readLine_178 : decode cX3_readLine 178 = .ok (.putfield 97, 3) := by decide +kernel
theorem dX3_readLine_181 : decode cX3_readLine 181 = .ok (.goto 37, 3) := by decide +kernel
theorem dX3_readLine_184 : decode cX3_readLine 184 = .ok (.aload_n 0, 1) := by decide +kernel
theorem dX3_readLine_185 : decode cX3_readLine 185 = .ok (.ldc 101, 2) := by decide +kernel
theorem dX3_readLine_187 : decode cX3_readLine 187 = .ok (.invokevirtual 54, 3) := by decide +kernel
theorem dX3_readLine_190 : decode cX3_readLine 190 = .ok (.ifCond .eq 23, 3) := by decide +kernel
theorem dX3_readLine_193 : decode cX3_readLine 193 = .ok (.aload_n 0, 1) := by decide +kernel
theorem dX3_readLine_194 : decode cX3_readLine 194 = .ok (.bipush 32, 2) := by decide +kernel
theorem dX3_readLine_196 : decode cX3_readLine 196 = .ok (.invokevirtual 58, 3) := by decide +kernel
theorem dX3_readLine_199 : decode cX3_readLine 199 = .ok (.aload_n 1, 1) := by decide +kernel
theorem dX3_readLine_200 : decode cX3_readLine 200 = .ok (.aload_n 0, 1) := by decide +kernel
theorem dX3_readLine_201 : decode cX3_readLine 201 = .ok (.iconst 0, 1) := by decide +kernel
theorem dX3_readLine_202 : decode cX3_readLine 202 = .ok (.bipush 20, 2) := by decide +kernel
theorem dX3_readLine_204 : decode cX3_readLine 204 = .ok (.invokevirtual 62, 3) := by decide +kernel
theorem dX3_readLine_207 : decode cX3_readLine 207 = .ok (.putfield 103, 3) := by decide +kernel
theorem dX3_readLine_210 : decode cX3_readLine 210 = .ok (.goto 8, 3) := by decide +kernel
theorem dX3_readLine_213 : decode cX3_readLine 213 = .ok (.aload_n 0, 1) := by decide +kernel
theorem dX3_readLine_214 : decode cX3_readLine 214 = .ok (.iconst 1, 1) := by decide +kernel
theorem dX3_readLine_215 : decode cX3_readLine 215 = .ok (.invokevirtual 105, 3) := by decide +kernel
theorem dX3_readLine_218 : decode cX3_readLine 218 = .ok (.return_, 1) := by decide +kernel
theorem dX3_beginOnly_0 : decode cX3_beginOnly 0 = .ok (.aload_n 0, 1) := by decide +kernel
theorem dX3_beginOnly_1 : decode cX3_beginOnly 1 = .ok (.getfield 25, 3) := by decide +kernel
theorem dX3_beginOnly_4 : decode cX3_beginOnly 4 = .ok (.iload_n 1, 1) := by decide +kernel
theorem dX3_beginOnly_5 : decode cX3_beginOnly 5 = .ok (.iand, 1) := by decide +kernel
theorem dX3_beginOnly_6 : decode cX3_beginOnly 6 = .ok (.ifCond .eq 8, 3) := by decide +kernel
theorem dX3_beginOnly_9 : decode cX3_beginOnly 9 = .ok (.aload_n 0, 1) := by decide +kernel
theorem dX3_beginOnly_10 : decode cX3_beginOnly 10 = .ok (.iconst 3, 1) := by decide +kernel
theorem dX3_beginOnly_11 : decode cX3_beginOnly 11 = .ok (.invokevirtual 105, 3) := by decide +kernel
theorem dX3_beginOnly_14 : decode cX3_beginOnly 14 = .ok (.aload_n 0, 1) := by decide +kernel
theorem dX3_beginOnly_15 : decode cX3_beginOnly 15 = .ok (.dup, 1) := by decide +kernel
theorem dX3_beginOnly_16 : decode cX3_beginOnly 16 = .ok (.getfield 25, 3) := by decide +kernel
theorem dX3_beginOnly_19 : decode cX3_beginOnly 19 = .ok (.iload_n 1, 1) := by decide +kernel
theorem dX3_beginOnly_20 : decode cX3_beginOnly 20 = .ok (.ior, 1) := by decide +kernel
theorem dX3_beginOnly_21 : decode cX3_beginOnly 21 = .ok (.putfield 25, 3) := by decide +kernel
theorem dX3_beginOnly_24 : decode cX3_beginOnly 24 = .ok (.aload_n 0, 1) := by decide +kernel
theorem dX3_beginOnly_25 : decode cX3_beginOnly 25 = .ok (.invokevirtual 33, 3) := by decide +kernel
theorem dX3_beginOnly_28 : decode cX3_beginOnly 28 = .ok (.return_, 1) := by decide +kernel
theorem dX3_readPower_0 : decode cX3_readPower 0 = .ok (.aload_n 1, 1) := by decide +kernel
theorem dX3_readPower_1 : decode cX3_readPower 1 = .ok (.invokevirtual 108, 3) := by decide +kernel
theorem dX3_readPower_4 : decode cX3_readPower 4 = .ok (.ifCond .ne 8, 3) := by decide +kernel
theorem dX3_readPower_7 : decode cX3_readPower 7 = .ok (.aload_n 0, 1) := by decide +kernel
theorem dX3_readPower_8 : decode cX3_readPower 8 = .ok (.iconst 4, 1) := by decide +kernel
theorem dX3_readPower_9 : decode cX3_readPower 9 = .ok (.invokevirtual 105, 3) := by decide +kernel
theorem dX3_readPower_12 : decode cX3_readPower 12 = .ok (.aload_n 0, 1) := by decide +kernel
theorem dX3_readPower_13 : decode cX3_readPower 13 = .ok (.invokevirtual 33, 3) := by decide +kernel
theorem dX3_readPower_16 : decode cX3_readPower 16 = .ok (.aload_n 0, 1) := by decide +kernel
theorem dX3_readPower_17 : decode cX3_readPower 17 = .ok (.invokevirtual 111, 3) := by decide +kernel
theorem dX3_readPower_20 : decode cX3_readPower 20 = .ok (.istore_n 2, 1) := by decide +kernel
theorem dX3_readPower_21 : decode cX3_readPower 21 = .ok (.aload_n 0, 1) := by decide +kernel
theorem dX3_readPower_22 : decode cX3_readPower 22 = .ok (.ldc 114, 2) := by decide +kernel
theorem dX3_readPower_24 : decode cX3_readPower 24 = .ok (.invokevirtual 116, 3) := by decide +kernel
theorem dX3_readPower_27 : decode cX3_readPower 27 = .ok (.aload_n 0, 1) := by decide +kernel
theorem dX3_readPower_28 : decode cX3_readPower 28 = .ok (.iconst 0, 1) := by decide +kernel
theorem dX3_readPower_29 : decode cX3_readPower 29 = .ok (.bipush 23, 2) := by decide +kernel
theorem dX3_readPower_31 : decode cX3_readPower 31 = .ok (.invokevirtual 62, 3) := by decide +kernel
theorem dX3_readPower_34 : decode cX3_readPower 34 = .ok (.istore_n 3, 1) := by decide +kernel
theorem dX3_readPower_35 : decode cX3_readPower 35 = .ok (.aload_n 0, 1) := by decide +kernel
theorem dX3_readPower_36 : decode cX3_readPower 36 = .ok (.ldc 120, 2) := by decide +kernel
theorem dX3_readPower_38 : decode cX3_readPower 38 = .ok (.invokevirtual 116, 3) := by decide +kernel
theorem dX3_readPower_41 : decode cX3_readPower 41 = .ok (.aload_n 0, 1) := by decide +kernel
theorem dX3_readPower_42 : decode cX3_readPower 42 = .ok (.iconst 0, 1) := by decide +kernel
theorem dX3_readPower_43 : decode cX3_readPower 43 = .ok (.bipush 23, 2) := by decide +kernel
theorem dX3_readPower_45 : decode cX3_readPower 45 = .ok (.invokevirtual 62, 3) := by decide +kernel
theorem dX3_readPower_48 : decode cX3_readPower 48 = .ok (.istore 4, 2) := by decide +kernel
theorem dX3_readPower_50 : decode cX3_readPower 50 = .ok (.aload_n 1, 1) := by decide +kernel
theorem dX3_readPower_51 : decode cX3_readPower 51 = .ok (.iload_n 2, 1) := by decide +kernel
theorem dX3_readPower_52 : decode cX3_readPower 52 = .ok (.iload_n 3, 1) := by decide +kernel
theorem dX3_readPower_53 : decode cX3_readPower 53 = .ok (.iload 4, 2) := by decide +kernel
theorem dX3_readPower_55 : decode cX3_readPower 55 = .ok (.aload_n 0, 1) := by decide +kernel
theorem dX3_readPower_56 : decode cX3_readPower 56 = .ok (.invokevirtual 93, 3) := by decide +kernel
theorem dX3_readPower_59 : decode cX3_readPower 59 = .ok (.invokevirtual 122, 3) := by decide +kernel
theorem dX3_readPower_62 : decode cX3_readPower 62 = .ok (.return_, 1) := by decide +kernel
theorem dX3_takePower_0 : decode cX3_takePower 0 = .ok (.aload_n 0, 1) := by decide +kernel
theorem dX3_takePower_1 : decode cX3_takePower 1 = .ok (.ldc 126, 2) := by decide +kernel
theorem dX3_takePower_3 : decode cX3_takePower 3 = .ok (.invokevirtual 54, 3) := by decide +kernel
theorem dX3_takePower_6 : decode cX3_takePower 6 = .ok (.ifCond .eq 7, 3) := by decide +kernel
theorem dX3_takePower_9 : decode cX3_takePower 9 = .ok (.iconst 0, 1) := by decide +kernel
theorem dX3_takePower_10 : decode cX3_takePower 10 = .ok (.goto 30, 3) := by decide +kernel
theorem dX3_takePower_13 : decode cX3_takePower 13 = .ok (.aload_n 0, 1) := by decide +kernel
theorem dX3_takePower_14 : decode cX3_takePower 14 = .ok (.ldc 127, 2) := by decide +kernel
theorem dX3_takePower_16 : decode cX3_takePower 16 = .ok (.invokevirtual 54, 3) := by decide +kernel
theorem dX3_takePower_19 : decode cX3_takePower 19 = .ok (.ifCond .eq 7, 3) := by decide +kernel
theorem dX3_takePower_22 : decode cX3_takePower 22 = .ok (.iconst 1, 1) := by decide +kernel
theorem dX3_takePower_23 : decode cX3_takePower 23 = .ok (.goto 17, 3) := by decide +kernel
theorem dX3_takePower_26 : decode cX3_takePower 26 = .ok (.aload_n 0, 1) := by decide +kernel
theorem dX3_takePower_27 : decode cX3_takePower 27 = .ok (.ldc 129, 2) := by decide +kernel
theorem dX3_takePower_29 : decode cX3_takePower 29 = .ok (.invokevirtual 54, 3) := by decide +kernel
theorem dX3_takePower_32 : decode cX3_takePower 32 = .ok (.ifCond .eq 7, 3) := by decide +kernel
theorem dX3_takePower_35 : decode cX3_takePower 35 = .ok (.iconst 2, 1) := by decide +kernel
theorem dX3_takePower_36 : decode cX3_takePower 36 = .ok (.goto 4, 3) := by decide +kernel
theorem dX3_takePower_39 : decode cX3_takePower 39 = .ok (.iconst (-1), 1) := by decide +kernel
theorem dX3_takePower_40 : decode cX3_takePower 40 = .ok (.istore_n 1, 1) := by decide +kernel
theorem dX3_takePower_41 : decode cX3_takePower 41 = .ok (.iload_n 1, 1) := by decide +kernel
theorem dX3_takePower_42 : decode cX3_takePower 42 = .ok (.iconst (-1), 1) := by decide +kernel
theorem dX3_takePower_43 : decode cX3_takePower 43 = .ok (.if_icmp .ne 8, 3) := by decide +kernel
theorem dX3_takePower_46 : decode cX3_takePower 46 = .ok (.aload_n 0, 1) := by decide +kernel
theorem dX3_takePower_47 : decode cX3_takePower 47 = .ok (.iconst 1, 1) := by decide +kernel
theorem dX3_takePower_48 : decode cX3_takePower 48 = .ok (.invokevirtual 105, 3) := by decide +kernel
theorem dX3_takePower_51 : decode cX3_takePower 51 = .ok (.aload_n 0, 1) := by decide +kernel
theorem dX3_takePower_52 : decode cX3_takePower 52 = .ok (.invokevirtual 33, 3) := by decide +kernel
theorem dX3_takePower_55 : decode cX3_takePower 55 = .ok (.iload_n 1, 1) := by decide +kernel
theorem dX3_takePower_56 : decode cX3_takePower 56 = .ok (.ireturn, 1) := by decide +kernel
theorem dX3_takeWord_0 : decode cX3_takeWord 0 = .ok (.aload_n 0, 1) := by decide +kernel
theorem dX3_takeWord_1 : decode cX3_takeWord 1 = .ok (.aload_n 1, 1) := by decide +kernel
theorem dX3_takeWord_2 : decode cX3_takeWord 2 = .ok (.invokevirtual 54, 3) := by decide +kernel
theorem dX3_takeWord_5 : decode cX3_takeWord 5 = .ok (.ifCond .ne 8, 3) := by decide +kernel
theorem dX3_takeWord_8 : decode cX3_takeWord 8 = .ok (.aload_n 0, 1) := by decide +kernel
theorem dX3_takeWord_9 : decode cX3_takeWord 9 = .ok (.iconst 1, 1) := by decide +kernel
theorem dX3_takeWord_10 : decode cX3_takeWord 10 = .ok (.invokevirtual 105, 3) := by decide +kernel
theorem dX3_takeWord_13 : decode cX3_takeWord 13 = .ok (.aload_n 0, 1) := by decide +kernel
theorem dX3_takeWord_14 : decode cX3_takeWord 14 = .ok (.invokevirtual 33, 3) := by decide +kernel
theorem dX3_takeWord_17 : decode cX3_takeWord 17 = .ok (.return_, 1) := by decide +kernel
theorem dX3_takeCry_0 : decode cX3_takeCry 0 = .ok (.aload_n 0, 1) := by decide +kernel
theorem dX3_takeCry_1 : decode cX3_takeCry 1 = .ok (.ldc 131, 2) := by decide +kernel
theorem dX3_takeCry_3 : decode cX3_takeCry 3 = .ok (.invokevirtual 54, 3) := by decide +kernel
theorem dX3_takeCry_6 : decode cX3_takeCry 6 = .ok (.ifCond .ne 5, 3) := by decide +kernel
theorem dX3_takeCry_9 : decode cX3_takeCry 9 = .ok (.iconst 0, 1) := by decide +kernel
theorem dX3_takeCry_10 : decode cX3_takeCry 10 = .ok (.ireturn, 1) := by decide +kernel
theorem dX3_takeCry_11 : decode cX3_takeCry 11 = .ok (.aload_n 0, 1) := by decide +kernel
theorem dX3_takeCry_12 : decode cX3_takeCry 12 = .ok (.invokevirtual 33, 3) := by decide +kernel
theorem dX3_takeCry_15 : decode cX3_takeCry 15 = .ok (.iconst 1, 1) := by decide +kernel
theorem dX3_takeCry_16 : decode cX3_takeCry 16 = .ok (.ireturn, 1) := by decide +kernel
theorem dX3_takeNumber_0 : decode cX3_takeNumber 0 = .ok (.aload_n 0, 1) := by decide +kernel
theorem dX3_takeNumber_1 : decode cX3_takeNumber 1 = .ok (.getfield 36, 3) := by decide +kernel
theorem dX3_takeNumber_4 : decode cX3_takeNumber 4 = .ok (.iconst 2, 1) := by decide +kernel
theorem dX3_takeNumber_5 : decode cX3_takeNumber 5 = .ok (.if_icmp .eq 11, 3) := by decide +kernel
theorem dX3_takeNumber_8 : decode cX3_takeNumber 8 = .ok (.aload_n 0, 1) := by decide +kernel
theorem dX3_takeNumber_9 : decode cX3_takeNumber 9 = .ok (.iconst 1, 1) := by decide +kernel
theorem dX3_takeNumber_10 : decode cX3_takeNumber 10 = .ok (.invokevirtual 105, 3) := by decide +kernel
theorem dX3_takeNumber_13 : decode cX3_takeNumber 13 = .ok (.goto 20, 3) := by decide +kernel
theorem dX3_takeNumber_16 : decode cX3_takeNumber 16 = .ok (.aload_n 0, 1) := by decide +kernel
theorem dX3_takeNumber_17 : decode cX3_takeNumber 17 = .ok (.getfield 133, 3) := by decide +kernel
theorem dX3_takeNumber_20 : decode cX3_takeNumber 20 = .ok (.iload_n 1, 1) := by decide +kernel
theorem dX3_takeNumber_21 : decode cX3_takeNumber 21 = .ok (.iload_n 2, 1) := by decide +kernel
theorem dX3_takeNumber_22 : decode cX3_takeNumber 22 = .ok (.invokestatic 136, 3) := by decide +kernel
theorem dX3_takeNumber_25 : decode cX3_takeNumber 25 = .ok (.ifCond .ne 8, 3) := by decide +kernel
theorem dX3_takeNumber_28 : decode cX3_takeNumber 28 = .ok (.aload_n 0, 1) := by decide +kernel
theorem dX3_takeNumber_29 : decode cX3_takeNumber 29 = .ok (.iconst 2, 1) := by decide +kernel
theorem dX3_takeNumber_30 : decode cX3_takeNumber 30 = .ok (.invokevirtual 105, 3) := by decide +kernel
theorem dX3_takeNumber_33 : decode cX3_takeNumber 33 = .ok (.aload_n 0, 1) := by decide +kernel
theorem dX3_takeNumber_34 : decode cX3_takeNumber 34 = .ok (.getfield 133, 3) := by decide +kernel
theorem dX3_takeNumber_37 : decode cX3_takeNumber 37 = .ok (.istore_n 3, 1) := by decide +kernel
theorem dX3_takeNumber_38 : decode cX3_takeNumber 38 = .ok (.aload_n 0, 1) := by decide +kernel
theorem dX3_takeNumber_39 : decode cX3_takeNumber 39 = .ok (.invokevirtual 33, 3) := by decide +kernel
theorem dX3_takeNumber_42 : decode cX3_takeNumber 42 = .ok (.iload_n 3, 1) := by decide +kernel
theorem dX3_takeNumber_43 : decode cX3_takeNumber 43 = .ok (.ireturn, 1) := by decide +kernel
theorem dX3_takeSemicolon_0 : decode cX3_takeSemicolon 0 = .ok (.aload_n 0, 1) := by decide +kernel
theorem dX3_takeSemicolon_1 : decode cX3_takeSemicolon 1 = .ok (.getfield 36, 3) := by decide +kernel
theorem dX3_takeSemicolon_4 : decode cX3_takeSemicolon 4 = .ok (.iconst 3, 1) := by decide +kernel
theorem dX3_takeSemicolon_5 : decode cX3_takeSemicolon 5 = .ok (.if_icmp .eq 8, 3) := by decide +kernel
theorem dX3_takeSemicolon_8 : decode cX3_takeSemicolon 8 = .ok (.aload_n 0, 1) := by decide +kernel
theorem dX3_takeSemicolon_9 : decode cX3_takeSemicolon 9 = .ok (.iconst 1, 1) := by decide +kernel
theorem dX3_takeSemicolon_10 : decode cX3_takeSemicolon 10 = .ok (.invokevirtual 105, 3) := by decide +kernel
theorem dX3_takeSemicolon_13 : decode cX3_takeSemicolon 13 = .ok (.aload_n 0, 1) := by decide +kernel
theorem dX3_takeSemicolon_14 : decode cX3_takeSemicolon 14 = .ok (.invokevirtual 33, 3) := by decide +kernel
theorem dX3_takeSemicolon_17 : decode cX3_takeSemicolon 17 = .ok (.return_, 1) := by decide +kernel
theorem dX3_blame_0 : decode cX3_blame 0 = .ok (.aload_n 0, 1) := by decide +kernel
theorem dX3_blame_1 : decode cX3_blame 1 = .ok (.getfield 19, 3) := by decide +kernel
theorem dX3_blame_4 : decode cX3_blame 4 = .ok (.ifCond .ne 16, 3) := by decide +kernel
theorem dX3_blame_7 : decode cX3_blame 7 = .ok (.aload_n 0, 1) := by decide +kernel
theorem dX3_blame_8 : decode cX3_blame 8 = .ok (.iload_n 1, 1) := by decide +kernel
theorem dX3_blame_9 : decode cX3_blame 9 = .ok (.putfield 19, 3) := by decide +kernel
theorem dX3_blame_12 : decode cX3_blame 12 = .ok (.aload_n 0, 1) := by decide +kernel
theorem dX3_blame_13 : decode cX3_blame 13 = .ok (.aload_n 0, 1) := by decide +kernel
theorem dX3_blame_14 : decode cX3_blame 14 = .ok (.getfield 140, 3) := by decide +kernel
theorem dX3_blame_17 : decode cX3_blame 17 = .ok (.putfield 9, 3) := by decide +kernel
theorem dX3_blame_20 : decode cX3_blame 20 = .ok (.return_, 1) := by decide +kernel
theorem dX3_isWord_0 : decode cX3_isWord 0 = .ok (.aload_n 0, 1) := by decide +kernel
theorem dX3_isWord_1 : decode cX3_isWord 1 = .ok (.getfield 36, 3) := by decide +kernel
theorem dX3_isWord_4 : decode cX3_isWord 4 = .ok (.iconst 1, 1) := by decide +kernel
theorem dX3_isWord_5 : decode cX3_isWord 5 = .ok (.if_icmp .ne 19, 3) := by decide +kernel
theorem dX3_isWord_8 : decode cX3_isWord 8 = .ok (.aload_n 0, 1) := by decide +kernel
theorem dX3_isWord_9 : decode cX3_isWord 9 = .ok (.getfield 22, 3) := by decide +kernel
theorem dX3_isWord_12 : decode cX3_isWord 12 = .ok (.aload_n 0, 1) := by decide +kernel
theorem dX3_isWord_13 : decode cX3_isWord 13 = .ok (.getfield 140, 3) := by decide +kernel
theorem dX3_isWord_16 : decode cX3_isWord 16 = .ok (.isub, 1) := by decide +kernel
theorem dX3_isWord_17 : decode cX3_isWord 17 = .ok (.aload_n 1, 1) := by decide +kernel
theorem dX3_isWord_18 : decode cX3_isWord 18 = .ok (.invokevirtual 143, 3) := by decide +kernel
theorem dX3_isWord_21 : decode cX3_isWord 21 = .ok (.if_icmp .eq 5, 3) := by decide +kernel
theorem dX3_isWord_24 : decode cX3_isWord 24 = .ok (.iconst 0, 1) := by decide +kernel
theorem dX3_isWord_25 : decode cX3_isWord 25 = .ok (.ireturn, 1) := by decide +kernel
theorem dX3_isWord_26 : decode cX3_isWord 26 = .ok (.iconst 0, 1) := by decide +kernel
theorem dX3_isWord_27 : decode cX3_isWord 27 = .ok (.istore_n 2, 1) := by decide +kernel
theorem dX3_isWord_28 : decode cX3_isWord 28 = .ok (.iload_n 2, 1) := by decide +kernel
theorem dX3_isWord_29 : decode cX3_isWord 29 = .ok (.aload_n 1, 1) := by decide +kernel
theorem dX3_isWord_30 : decode cX3_isWord 30 = .ok (.invokevirtual 143, 3) := by decide +kernel
theorem dX3_isWord_33 : decode cX3_isWord 33 = .ok (.if_icmp .ge 32, 3) := by decide +kernel
theorem dX3_isWord_36 : decode cX3_isWord 36 = .ok (.aload_n 0, 1) := by decide +kernel
theorem dX3_isWord_37 : decode cX3_isWord 37 = .ok (.getfield 15, 3) := by decide +kernel
theorem dX3_isWord_40 : decode cX3_isWord 40 = .ok (.aload_n 0, 1) := by decide +kernel
theorem dX3_isWord_41 : decode cX3_isWord 41 = .ok (.getfield 140, 3) := by decide +kernel
theorem dX3_isWord_44 : decode cX3_isWord 44 = .ok (.iload_n 2, 1) := by decide +kernel
theorem dX3_isWord_45 : decode cX3_isWord 45 = .ok (.iadd, 1) := by decide +kernel
theorem dX3_isWord_46 : decode cX3_isWord 46 = .ok (.invokevirtual 146, 3) := by decide +kernel
theorem dX3_isWord_49 : decode cX3_isWord 49 = .ok (.aload_n 1, 1) := by decide +kernel
theorem dX3_isWord_50 : decode cX3_isWord 50 = .ok (.iload_n 2, 1) := by decide +kernel
theorem dX3_isWord_51 : decode cX3_isWord 51 = .ok (.invokevirtual 150, 3) := by decide +kernel
theorem dX3_isWord_54 : decode cX3_isWord 54 = .ok (.if_icmp .eq 5, 3) := by decide +kernel
theorem dX3_isWord_57 : decode cX3_isWord 57 = .ok (.iconst 0, 1) := by decide +kernel
theorem dX3_isWord_58 : decode cX3_isWord 58 = .ok (.ireturn, 1) := by decide +kernel
theorem dX3_isWord_59 : decode cX3_isWord 59 = .ok (.iinc 2 1, 3) := by decide +kernel
theorem dX3_isWord_62 : decode cX3_isWord 62 = .ok (.goto (-34), 3) := by decide +kernel
theorem dX3_isWord_65 : decode cX3_isWord 65 = .ok (.iconst 1, 1) := by decide +kernel
theorem dX3_isWord_66 : decode cX3_isWord 66 = .ok (.ireturn, 1) := by decide +kernel
theorem dX3_advance_0 : decode cX3_advance 0 = .ok (.aload_n 0, 1) := by decide +kernel
theorem dX3_advance_1 : decode cX3_advance 1 = .ok (.aload_n 0, 1) := by decide +kernel
theorem dX3_advance_2 : decode cX3_advance 2 = .ok (.getfield 22, 3) := by decide +kernel
theorem dX3_advance_5 : decode cX3_advance 5 = .ok (.putfield 140, 3) := by decide +kernel
theorem dX3_advance_8 : decode cX3_advance 8 = .ok (.aload_n 0, 1) := by decide +kernel
theorem dX3_advance_9 : decode cX3_advance 9 = .ok (.getfield 140, 3) := by decide +kernel
theorem dX3_advance_12 : decode cX3_advance 12 = .ok (.aload_n 0, 1) := by decide +kernel
theorem dX3_advance_13 : decode cX3_advance 13 = .ok (.getfield 15, 3) := by decide +kernel
theorem dX3_advance_16 : decode cX3_advance 16 = .ok (.invokevirtual 39, 3) := by decide +kernel
theorem dX3_advance_19 : decode cX3_advance 19 = .ok (.if_icmp .ge 33, 3) := by decide +kernel
theorem dX3_advance_22 : decode cX3_advance 22 = .ok (.aload_n 0, 1) := by decide +kernel
theorem dX3_advance_23 : decode cX3_advance 23 = .ok (.getfield 15, 3) := by decide +kernel
theorem dX3_advance_26 : decode cX3_advance 26 = .ok (.aload_n 0, 1) := by decide +kernel
theorem dX3_advance_27 : decode cX3_advance 27 = .ok (.getfield 140, 3) := by decide +kernel
theorem dX3_advance_30 : decode cX3_advance 30 = .ok (.invokevirtual 146, 3) := by decide +kernel
theorem dX3_advance_33 : decode cX3_advance 33 = .ok (.invokestatic 154, 3) := by decide +kernel
theorem dX3_advance_36 : decode cX3_advance 36 = .ok (.ifCond .eq 16, 3) := by decide +kernel
theorem dX3_advance_39 : decode cX3_advance 39 = .ok (.aload_n 0, 1) := by decide +kernel
theorem dX3_advance_40 : decode cX3_advance 40 = .ok (.dup, 1) := by decide +kernel
theorem dX3_advance_41 : decode cX3_advance 41 = .ok (.getfield 140, 3) := by decide +kernel
theorem dX3_advance_44 : decode cX3_advance 44 = .ok (.iconst 1, 1) := by decide +kernel
theorem dX3_advance_45 : decode cX3_advance 45 = .ok (.iadd, 1) := by decide +kernel
theorem dX3_advance_46 : decode cX3_advance 46 = .ok (.putfield 140, 3) := by decide +kernel
theorem dX3_advance_49 : decode cX3_advance 49 = .ok (.goto (-41), 3) := by decide +kernel
theorem dX3_advance_52 : decode cX3_advance 52 = .ok (.aload_n 0, 1) := by decide +kernel
theorem dX3_advance_53 : decode cX3_advance 53 = .ok (.aload_n 0, 1) := by decide +kernel
theorem dX3_advance_54 : decode cX3_advance 54 = .ok (.getfield 140, 3) := by decide +kernel
theorem dX3_advance_57 : decode cX3_advance 57 = .ok (.putfield 22, 3) := by decide +kernel
theorem dX3_advance_60 : decode cX3_advance 60 = .ok (.aload_n 0, 1) := by decide +kernel
theorem dX3_advance_61 : decode cX3_advance 61 = .ok (.iconst 0, 1) := by decide +kernel
theorem dX3_advance_62 : decode cX3_advance 62 = .ok (.putfield 133, 3) := by decide +kernel
theorem dX3_advance_65 : decode cX3_advance 65 = .ok (.aload_n 0, 1) := by decide +kernel
theorem dX3_advance_66 : decode cX3_advance 66 = .ok (.getfield 15, 3) := by decide +kernel
theorem dX3_advance_69 : decode cX3_advance 69 = .ok (.aload_n 0, 1) := by decide +kernel
theorem dX3_advance_70 : decode cX3_advance 70 = .ok (.getfield 140, 3) := by decide +kernel
theorem dX3_advance_73 : decode cX3_advance 73 = .ok (.invokevirtual 146, 3) := by decide +kernel
theorem dX3_advance_76 : decode cX3_advance 76 = .ok (.istore_n 1, 1) := by decide +kernel
theorem dX3_advance_77 : decode cX3_advance 77 = .ok (.iload_n 1, 1) := by decide +kernel
theorem dX3_advance_78 : decode cX3_advance 78 = .ok (.iconst (-1), 1) := by decide +kernel
theorem dX3_advance_79 : decode cX3_advance 79 = .ok (.if_icmp .ne 11, 3) := by decide +kernel
theorem dX3_advance_82 : decode cX3_advance 82 = .ok (.aload_n 0, 1) := by decide +kernel
theorem dX3_advance_83 : decode cX3_advance 83 = .ok (.iconst 0, 1) := by decide +kernel
theorem dX3_advance_84 : decode cX3_advance 84 = .ok (.putfield 36, 3) := by decide +kernel
theorem dX3_advance_87 : decode cX3_advance 87 = .ok (.goto 186, 3) := by decide +kernel
theorem dX3_advance_90 : decode cX3_advance 90 = .ok (.iload_n 1, 1) := by decide +kernel
theorem dX3_advance_91 : decode cX3_advance 91 = .ok (.invokestatic 158, 3) := by decide +kernel
theorem dX3_advance_94 : decode cX3_advance 94 = .ok (.ifCond .eq 52, 3) := by decide +kernel
theorem dX3_advance_97 : decode cX3_advance 97 = .ok (.aload_n 0, 1) := by decide +kernel
theorem dX3_advance_98 : decode cX3_advance 98 = .ok (.iconst 1, 1) := by decide +kernel
theorem dX3_advance_99 : decode cX3_advance 99 = .ok (.putfield 36, 3) := by decide +kernel
theorem dX3_advance_102 : decode cX3_advance 102 = .ok (.aload_n 0, 1) := by decide +kernel
theorem dX3_advance_103 : decode cX3_advance 103 = .ok (.getfield 22, 3) := by decide +kernel
theorem dX3_advance_106 : decode cX3_advance 106 = .ok (.aload_n 0, 1) := by decide +kernel
theorem dX3_advance_107 : decode cX3_advance 107 = .ok (.getfield 15, 3) := by decide +kernel
theorem dX3_advance_110 : decode cX3_advance 110 = .ok (.invokevirtual 39, 3) := by decide +kernel
theorem dX3_advance_113 : decode cX3_advance 113 = .ok (.if_icmp .ge 160, 3) := by decide +kernel
theorem dX3_advance_116 : decode cX3_advance 116 = .ok (.aload_n 0, 1) := by decide +kernel
theorem dX3_advance_117 : decode cX3_advance 117 = .ok (.getfield 15, 3) := by decide +kernel
theorem dX3_advance_120 : decode cX3_advance 120 = .ok (.aload_n 0, 1) := by decide +kernel
theorem dX3_advance_121 : decode cX3_advance 121 = .ok (.getfield 22, 3) := by decide +kernel
theorem dX3_advance_124 : decode cX3_advance 124 = .ok (.invokevirtual 146, 3) := by decide +kernel
theorem dX3_advance_127 : decode cX3_advance 127 = .ok (.invokestatic 158, 3) := by decide +kernel
theorem dX3_advance_130 : decode cX3_advance 130 = .ok (.ifCond .eq 143, 3) := by decide +kernel
theorem dX3_advance_133 : decode cX3_advance 133 = .ok (.aload_n 0, 1) := by decide +kernel
theorem dX3_advance_134 : decode cX3_advance 134 = .ok (.dup, 1) := by decide +kernel
theorem dX3_advance_135 : decode cX3_advance 135 = .ok (.getfield 22, 3) := by decide +kernel
theorem dX3_advance_138 : decode cX3_advance 138 = .ok (.iconst 1, 1) := by decide +kernel
theorem dX3_advance_139 : decode cX3_advance 139 = .ok (.iadd, 1) := by decide +kernel
theorem dX3_advance_140 : decode cX3_advance 140 = .ok (.putfield 22, 3) := by decide +kernel
theorem dX3_advance_143 : decode cX3_advance 143 = .ok (.goto (-41), 3) := by decide +kernel
theorem dX3_advance_146 : decode cX3_advance 146 = .ok (.iload_n 1, 1) := by decide +kernel
theorem dX3_advance_147 : decode cX3_advance 147 = .ok (.invokestatic 161, 3) := by decide +kernel
theorem dX3_advance_150 : decode cX3_advance 150 = .ok (.ifCond .eq 98, 3) := by decide +kernel
theorem dX3_advance_153 : decode cX3_advance 153 = .ok (.aload_n 0, 1) := by decide +kernel
theorem dX3_advance_154 : decode cX3_advance 154 = .ok (.getfield 22, 3) := by decide +kernel
theorem dX3_advance_157 : decode cX3_advance 157 = .ok (.aload_n 0, 1) := by decide +kernel
theorem dX3_advance_158 : decode cX3_advance 158 = .ok (.getfield 15, 3) := by decide +kernel
theorem dX3_advance_161 : decode cX3_advance 161 = .ok (.invokevirtual 39, 3) := by decide +kernel
theorem dX3_advance_164 : decode cX3_advance 164 = .ok (.if_icmp .ge 59, 3) := by decide +kernel
theorem dX3_advance_167 : decode cX3_advance 167 = .ok (.aload_n 0, 1) := by decide +kernel
theorem dX3_advance_168 : decode cX3_advance 168 = .ok (.getfield 15, 3) := by decide +kernel
theorem dX3_advance_171 : decode cX3_advance 171 = .ok (.aload_n 0, 1) := by decide +kernel
theorem dX3_advance_172 : decode cX3_advance 172 = .ok (.getfield 22, 3) := by decide +kernel
theorem dX3_advance_175 : decode cX3_advance 175 = .ok (.invokevirtual 146, 3) := by decide +kernel
theorem dX3_advance_178 : decode cX3_advance 178 = .ok (.invokestatic 161, 3) := by decide +kernel
theorem dX3_advance_181 : decode cX3_advance 181 = .ok (.ifCond .eq 42, 3) := by decide +kernel
theorem dX3_advance_184 : decode cX3_advance 184 = .ok (.aload_n 0, 1) := by decide +kernel
theorem dX3_advance_185 : decode cX3_advance 185 = .ok (.aload_n 0, 1) := by decide +kernel
theorem dX3_advance_186 : decode cX3_advance 186 = .ok (.getfield 133, 3) := by decide +kernel
theorem dX3_advance_189 : decode cX3_advance 189 = .ok (.bipush 10, 2) := by decide +kernel
theorem dX3_advance_191 : decode cX3_advance 191 = .ok (.imul, 1) := by decide +kernel
theorem dX3_advance_192 : decode cX3_advance 192 = .ok (.aload_n 0, 1) := by decide +kernel
theorem dX3_advance_193 : decode cX3_advance 193 = .ok (.getfield 15, 3) := by decide +kernel
theorem dX3_advance_196 : decode cX3_advance 196 = .ok (.aload_n 0, 1) := by decide +kernel
theorem dX3_advance_197 : decode cX3_advance 197 = .ok (.getfield 22, 3) := by decide +kernel
theorem dX3_advance_200 : decode cX3_advance 200 = .ok (.invokevirtual 146, 3) := by decide +kernel
theorem dX3_advance_203 : decode cX3_advance 203 = .ok (.iadd, 1) := by decide +kernel
theorem dX3_advance_204 : decode cX3_advance 204 = .ok (.bipush 48, 2) := by decide +kernel
theorem dX3_advance_206 : decode cX3_advance 206 = .ok (.isub, 1) := by decide +kernel
theorem dX3_advance_207 : decode cX3_advance 207 = .ok (.putfield 133, 3) := by decide +kernel
theorem dX3_advance_210 : decode cX3_advance 210 = .ok (.aload_n 0, 1) := by decide +kernel
theorem dX3_advance_211 : decode cX3_advance 211 = .ok (.dup, 1) := by decide +kernel
theorem dX3_advance_212 : decode cX3_advance 212 = .ok (.getfield 22, 3) := by decide +kernel
theorem dX3_advance_215 : decode cX3_advance 215 = .ok (.iconst 1, 1) := by decide +kernel
theorem dX3_advance_216 : decode cX3_advance 216 = .ok (.iadd, 1) := by decide +kernel
theorem dX3_advance_217 : decode cX3_advance 217 = .ok (.putfield 22, 3) := by decide +kernel
theorem dX3_advance_220 : decode cX3_advance 220 = .ok (.goto (-67), 3) := by decide +kernel
theorem dX3_advance_223 : decode cX3_advance 223 = .ok (.aload_n 0, 1) := by decide +kernel
theorem dX3_advance_224 : decode cX3_advance 224 = .ok (.aload_n 0, 1) := by decide +kernel
theorem dX3_advance_225 : decode cX3_advance 225 = .ok (.getfield 22, 3) := by decide +kernel
theorem dX3_advance_228 : decode cX3_advance 228 = .ok (.aload_n 0, 1) := by decide +kernel
theorem dX3_advance_229 : decode cX3_advance 229 = .ok (.getfield 140, 3) := by decide +kernel
theorem dX3_advance_232 : decode cX3_advance 232 = .ok (.isub, 1) := by decide +kernel
theorem dX3_advance_233 : decode cX3_advance 233 = .ok (.iconst 4, 1) := by decide +kernel
theorem dX3_advance_234 : decode cX3_advance 234 = .ok (.if_icmp .gt 7, 3) := by decide +kernel
theorem dX3_advance_237 : decode cX3_advance 237 = .ok (.iconst 2, 1) := by decide +kernel
theorem dX3_advance_238 : decode cX3_advance 238 = .ok (.goto 4, 3) := by decide +kernel
theorem dX3_advance_241 : decode cX3_advance 241 = .ok (.iconst 4, 1) := by decide +kernel
theorem dX3_advance_242 : decode cX3_advance 242 = .ok (.putfield 36, 3) := by decide +kernel
theorem dX3_advance_245 : decode cX3_advance 245 = .ok (.goto 28, 3) := by decide +kernel
theorem dX3_advance_248 : decode cX3_advance 248 = .ok (.aload_n 0, 1) := by decide +kernel
theorem dX3_advance_249 : decode cX3_advance 249 = .ok (.iload_n 1, 1) := by decide +kernel
theorem dX3_advance_250 : decode cX3_advance 250 = .ok (.bipush 59, 2) := by decide +kernel
theorem dX3_advance_252 : decode cX3_advance 252 = .ok (.if_icmp .ne 7, 3) := by decide +kernel
theorem dX3_advance_255 : decode cX3_advance 255 = .ok (.iconst 3, 1) := by decide +kernel
theorem dX3_advance_256 : decode cX3_advance 256 = .ok (.goto 4, 3) := by decide +kernel
theorem dX3_advance_259 : decode cX3_advance 259 = .ok (.iconst 4, 1) := by decide +kernel
theorem dX3_advance_260 : decode cX3_advance 260 = .ok (.putfield 36, 3) := by decide +kernel
theorem dX3_advance_263 : decode cX3_advance 263 = .ok (.aload_n 0, 1) := by decide +kernel
theorem dX3_advance_264 : decode cX3_advance 264 = .ok (.dup, 1) := by decide +kernel
theorem dX3_advance_265 : decode cX3_advance 265 = .ok (.getfield 22, 3) := by decide +kernel
theorem dX3_advance_268 : decode cX3_advance 268 = .ok (.iconst 1, 1) := by decide +kernel
theorem dX3_advance_269 : decode cX3_advance 269 = .ok (.iadd, 1) := by decide +kernel
theorem dX3_advance_270 : decode cX3_advance 270 = .ok (.putfield 22, 3) := by decide +kernel
theorem dX3_advance_273 : decode cX3_advance 273 = .ok (.return_, 1) := by decide +kernel
theorem dX3_isBlank_0 : decode cX3_isBlank 0 = .ok (.iload_n 0, 1) := by decide +kernel
theorem dX3_isBlank_1 : decode cX3_isBlank 1 = .ok (.bipush 32, 2) := by decide +kernel
theorem dX3_isBlank_3 : decode cX3_isBlank 3 = .ok (.if_icmp .eq 9, 3) := by decide +kernel
theorem dX3_isBlank_6 : decode cX3_isBlank 6 = .ok (.iload_n 0, 1) := by decide +kernel
theorem dX3_isBlank_7 : decode cX3_isBlank 7 = .ok (.bipush 10, 2) := by decide +kernel
theorem dX3_isBlank_9 : decode cX3_isBlank 9 = .ok (.if_icmp .ne 7, 3) := by decide +kernel
theorem dX3_isBlank_12 : decode cX3_isBlank 12 = .ok (.iconst 1, 1) := by decide +kernel
theorem dX3_isBlank_13 : decode cX3_isBlank 13 = .ok (.goto 4, 3) := by decide +kernel
theorem dX3_isBlank_16 : decode cX3_isBlank 16 = .ok (.iconst 0, 1) := by decide +kernel
theorem dX3_isBlank_17 : decode cX3_isBlank 17 = .ok (.ireturn, 1) := by decide +kernel
theorem dX3_isLetter_0 : decode cX3_isLetter 0 = .ok (.iload_n 0, 1) := by decide +kernel
theorem dX3_isLetter_1 : decode cX3_isLetter 1 = .ok (.bipush 97, 2) := by decide +kernel
theorem dX3_isLetter_3 : decode cX3_isLetter 3 = .ok (.if_icmp .lt 13, 3) := by decide +kernel
theorem dX3_isLetter_6 : decode cX3_isLetter 6 = .ok (.iload_n 0, 1) := by decide +kernel
theorem dX3_isLetter_7 : decode cX3_isLetter 7 = .ok (.bipush 122, 2) := by decide +kernel
theorem dX3_isLetter_9 : decode cX3_isLetter 9 = .ok (.if_icmp .gt 7, 3) := by decide +kernel
theorem dX3_isLetter_12 : decode cX3_isLetter 12 = .ok (.iconst 1, 1) := by decide +kernel
theorem dX3_isLetter_13 : decode cX3_isLetter 13 = .ok (.goto 4, 3) := by decide +kernel
theorem dX3_isLetter_16 : decode cX3_isLetter 16 = .ok (.iconst 0, 1) := by decide +kernel
theorem dX3_isLetter_17 : decode cX3_isLetter 17 = .ok (.ireturn, 1) := by decide +kernel
theorem dX3_isDigit_0 : decode cX3_isDigit 0 = .ok (.iload_n 0, 1) := by decide +kernel
theorem dX3_isDigit_1 : decode cX3_isDigit 1 = .ok (.bipush 48, 2) := by decide +kernel
theorem dX3_isDigit_3 : decode cX3_isDigit 3 = .ok (.if_icmp .lt 13, 3) := by decide +kernel
theorem dX3_isDigit_6 : decode cX3_isDigit 6 = .ok (.iload_n 0, 1) := by decide +kernel
theorem dX3_isDigit_7 : decode cX3_isDigit 7 = .ok (.bipush 57, 2) := by decide +kernel
theorem dX3_isDigit_9 : decode cX3_isDigit 9 = .ok (.if_icmp .gt 7, 3) := by decide +kernel
theorem dX3_isDigit_12 : decode cX3_isDigit 12 = .ok (.iconst 1, 1) := by decide +kernel
theorem dX3_isDigit_13 : decode cX3_isDigit 13 = .ok (.goto 4, 3) := by decide +kernel
theorem dX3_isDigit_16 : decode cX3_isDigit 16 = .ok (.iconst 0, 1) := by decide +kernel
theorem dX3_isDigit_17 : decode cX3_isDigit 17 = .ok (.ireturn, 1) := by decide +kernel
theorem dX4_init_0 : decode cX4_init 0 = .ok (.aload_n 0, 1) := by decide +kernel
theorem dX4_init_1 : decode cX4_init 1 = .ok (.invokespecial 3, 3) := by decide +kernel
theorem dX4_init_4 : decode cX4_init 4 = .ok (.aload_n 0, 1) := by decide +kernel
theorem dX4_init_5 : decode cX4_init 5 = .ok (.bipush 12, 2) := by decide +kernel
theorem dX4_init_7 : decode cX4_init 7 = .ok (.newarray .int, 2) := by decide +kernel
theorem dX4_init_9 : decode cX4_init 9 = .ok (.putfield 11, 3) := by decide +kernel
theorem dX4_init_12 : decode cX4_init 12 = .ok (.aload_n 0, 1) := by decide +kernel
theorem dX4_init_13 : decode cX4_init 13 = .ok (.bipush 12, 2) := by decide +kernel
theorem dX4_init_15 : decode cX4_init 15 = .ok (.newarray .int, 2) := by decide +kernel
theorem dX4_init_17 : decode cX4_init 17 = .ok (.putfield 15, 3) := by decide +kernel
theorem dX4_init_20 : decode cX4_init 20 = .ok (.aload_n 0, 1) := by decide +kernel
theorem dX4_init_21 : decode cX4_init 21 = .ok (.bipush 12, 2) := by decide +kernel
theorem dX4_init_23 : decode cX4_init 23 = .ok (.newarray .int, 2) := by decide +kernel
theorem dX4_init_25 : decode cX4_init 25 = .ok (.putfield 18, 3) := by decide +kernel
theorem dX4_init_28 : decode cX4_init 28 = .ok (.aload_n 0, 1) := by decide +kernel
theorem dX4_init_29 : decode cX4_init 29 = .ok (.bipush 12, 2) := by decide +kernel
theorem dX4_init_31 : decode cX4_init 31 = .ok (.newarray .boolean, 2) := by decide +kernel
theorem dX4_init_33 : decode cX4_init 33 = .ok (.putfield 21, 3) := by decide +kernel
theorem dX4_init_36 : decode cX4_init 36 = .ok (.aload_n 0, 1) := by decide +kernel
theorem dX4_init_37 : decode cX4_init 37 = .ok (.invokevirtual 25, 3) := by decide +kernel
theorem dX4_init_40 : decode cX4_init 40 = .ok (.return_, 1) := by decide +kernel
theorem dX4_forget_0 : decode cX4_forget 0 = .ok (.aload_n 0, 1) := by decide +kernel
theorem dX4_forget_1 : decode cX4_forget 1 = .ok (.bipush 21, 2) := by decide +kernel
theorem dX4_forget_3 : decode cX4_forget 3 = .ok (.putfield 28, 3) := by decide +kernel
theorem dX4_forget_6 : decode cX4_forget 6 = .ok (.aload_n 0, 1) := by decide +kernel
theorem dX4_forget_7 : decode cX4_forget 7 = .ok (.bipush 60, 2) := by decide +kernel
theorem dX4_forget_9 : decode cX4_forget 9 = .ok (.putfield 32, 3) := by decide +kernel
theorem dX4_forget_12 : decode cX4_forget 12 = .ok (.aload_n 0, 1) := by decide +kernel
theorem dX4_forget_13 : decode cX4_forget 13 = .ok (.bipush 7, 2) := by decide +kernel
theorem dX4_forget_15 : decode cX4_forget 15 = .ok (.putfield 35, 3) := by decide +kernel
theorem dX4_forget_18 : decode cX4_forget 18 = .ok (.aload_n 0, 1) := by decide +kernel
theorem dX4_forget_19 : decode cX4_forget 19 = .ok (.bipush 100, 2) := by decide +kernel
theorem dX4_forget_21 : decode cX4_forget 21 = .ok (.putfield 38, 3) := by decide +kernel
theorem dX4_forget_24 : decode cX4_forget 24 = .ok (.aload_n 0, 1) := by decide +kernel
theorem dX4_forget_25 : decode cX4_forget 25 = .ok (.iconst (-1), 1) := by decide +kernel
theorem dX4_forget_26 : decode cX4_forget 26 = .ok (.putfield 41, 3) := by decide +kernel
theorem dX4_forget_29 : decode cX4_forget 29 = .ok (.aload_n 0, 1) := by decide +kernel
theorem dX4_forget_30 : decode cX4_forget 30 = .ok (.iconst (-1), 1) := by decide +kernel
theorem dX4_forget_31 : decode cX4_forget 31 = .ok (.putfield 44, 3) := by decide +kernel
theorem dX4_forget_34 : decode cX4_forget 34 = .ok (.aload_n 0, 1) := by decide +kernel
theorem dX4_forget_35 : decode cX4_forget 35 = .ok (.iconst 0, 1) := by decide +kernel
theorem dX4_forget_36 : decode cX4_forget 36 = .ok (.putfield 47, 3) := by decide +kernel
theorem dX4_forget_39 : decode cX4_forget 39 = .ok (.aload_n 0, 1) := by decide +kernel
theorem dX4_forget_40 : decode cX4_forget 40 = .ok (.iconst 4, 1) := by decide +kernel
theorem dX4_forget_41 : decode cX4_forget 41 = .ok (.putfield 51, 3) := by decide +kernel
theorem dX4_forget_44 : decode cX4_forget 44 = .ok (.aload_n 0, 1) := by decide +kernel
theorem dX4_forget_45 : decode cX4_forget 45 = .ok (.iconst 0, 1) := by decide +kernel
theorem dX4_forget_46 : decode cX4_forget 46 = .ok (.putfield 54, 3) := by decide +kernel
theorem dX4_forget_49 : decode cX4_forget 49 = .ok (.return_, 1) := by decide +kernel
theorem dX4_hasRoomForPower_0 : decode cX4_hasRoomForPower 0 = .ok (.aload_n 0, 1) := by decide +kernel
theorem dX4_hasRoomForPower_1 : decode cX4_hasRoomForPower 1 = .ok (.getfield 54, 3) := by decide +kernel
theorem dX4_hasRoomForPower_4 : decode cX4_hasRoomForPower 4 = .ok (.bipush 12, 2) := by decide +kernel
theorem dX4_hasRoomForPower_6 : decode cX4_hasRoomForPower 6 = .ok (.if_icmp .ge 7, 3) := by decide +kernel
theorem dX4_hasRoomForPower_9 : decode cX4_hasRoomForPower 9 = .ok (.iconst 1, 1) := by decide +kernel
theorem dX4_hasRoomForPower_10 : decode cX4_hasRoomForPower 10 = .ok (.goto 4, 3) := by decide +kernel
theorem dX4_hasRoomForPower_13 : decode cX4_hasRoomForPower 13 = .ok (.iconst 0, 1) := by decide +kernel
theorem dX4_hasRoomForPower_14 : decode cX4_hasRoomForPower 14 = .ok (.ireturn, 1) := by decide +kernel
theorem dX4_addPower_0 : decode cX4_addPower 0 = .ok (.aload_n 0, 1) := by decide +kernel
theorem dX4_addPower_1 : decode cX4_addPower 1 = .ok (.invokevirtual 57, 3) := by decide +kernel
theorem dX4_addPower_4 : decode cX4_addPower 4 = .ok (.ifCond .eq 54, 3) := by decide +kernel
theorem dX4_addPower_7 : decode cX4_addPower 7 = .ok (.aload_n 0, 1) := by decide +kernel
theorem dX4_addPower_8 : decode cX4_addPower 8 = .ok (.getfield 11, 3) := by decide +kernel
theorem dX4_addPower_11 : decode cX4_addPower 11 = .ok (.aload_n 0, 1) := by decide +kernel
theorem dX4_addPower_12 : decode cX4_addPower 12 = .ok (.getfield 54, 3) := by decide +kernel
theorem dX4_addPower_15 : decode cX4_addPower 15 = .ok (.iload_n 1, 1) := by decide +kernel
theorem dX4_addPower_16 : decode cX4_addPower 16 = .ok (.iastore, 1) := by decide +kernel
theorem dX4_addPower_17 : decode cX4_addPower 17 = .ok (.aload_n 0, 1) := by decide +kernel
theorem dX4_addPower_18 : decode cX4_addPower 18 = .ok (.getfield 15, 3) := by decide +kernel
theorem dX4_addPower_21 : decode cX4_addPower 21 = .ok (.aload_n 0, 1) := by decide +kernel
theorem dX4_addPower_22 : decode cX4_addPower 22 = .ok (.getfield 54, 3) := by decide +kernel
theorem dX4_addPower_25 : decode cX4_addPower 25 = .ok (.iload_n 2, 1) := by decide +kernel
theorem dX4_addPower_26 : decode cX4_addPower 26 = .ok (.iastore, 1) := by decide +kernel
theorem dX4_addPower_27 : decode cX4_addPower 27 = .ok (.aload_n 0, 1) := by decide +kernel
theorem dX4_addPower_28 : decode cX4_addPower 28 = .ok (.getfield 18, 3) := by decide +kernel
theorem dX4_addPower_31 : decode cX4_addPower 31 = .ok (.aload_n 0, 1) := by decide +kernel
theorem dX4_addPower_32 : decode cX4_addPower 32 = .ok (.getfield 54, 3) := by decide +kernel
theorem dX4_addPower_35 : decode cX4_addPower 35 = .ok (.iload_n 3, 1) := by decide +kernel
theorem dX4_addPower_36 : decode cX4_addPower 36 = .ok (.iastore, 1) := by decide +kernel
end
section
theorem dX4_addPower_37 : decode cX4_addPower 37 = .ok (.aload_n 0, 1) := by decide +kernel
theorem dX4_addPower_38 : decode cX4_addPower 38 = .ok (.getfield 21, 3) := by decide +kernel
theorem dX4_addPower_41 : decode cX4_addPower 41 = .ok (.aload_n 0, 1) := by decide +kernel
theorem dX4_addPower_42 : decode cX4_addPower 42 = .ok (.getfield 54, 3) := by decide +kernel
theorem dX4_addPower_45 : decode cX4_addPower 45 = .ok (.iload 4, 2) := by decide +kernel
theorem dX4_addPower_47 : decode cX4_addPower 47 = .ok (.bastore, 1) := by decide +kernel
theorem dX4_addPower_48 : decode cX4_addPower 48 = .ok (.aload_n 0, 1) := by decide +kernel
theorem dX4_addPower_49 : decode cX4_addPower 49 = .ok (.dup, 1) := by decide +kernel
theorem dX4_addPower_50 : decode cX4_addPower 50 = .ok (.getfield 54, 3) := by decide +kernel
theorem dX4_addPower_53 : decode cX4_addPower 53 = .ok (.iconst 1, 1) := by decide +kernel
theorem dX4_addPower_54 : decode cX4_addPower 54 = .ok (.iadd, 1) := by decide +kernel
theorem dX4_addPower_55 : decode cX4_addPower 55 = .ok (.putfield 54, 3) := by decide +kernel
theorem dX4_addPower_58 : decode cX4_addPower 58 = .ok (.return_, 1) := by decide +kernel
theorem dX4_tell_0 : decode cX4_tell 0 = .ok (.iload_n 1, 1) := by decide +kernel
theorem dX4_tell_1 : decode cX4_tell 1 = .ok (.tableswitch 104 0 8 #[51, 56, 61, 66, 71, 76, 81, 94, 99], 51) := by decide +kernel
theorem dX4_tell_52 : decode cX4_tell 52 = .ok (.aload_n 0, 1) := by decide +kernel
theorem dX4_tell_53 : decode cX4_tell 53 = .ok (.getfield 28, 3) := by decide +kernel
theorem dX4_tell_56 : decode cX4_tell 56 = .ok (.ireturn, 1) := by decide +kernel
theorem dX4_tell_57 : decode cX4_tell 57 = .ok (.aload_n 0, 1) := by decide +kernel
theorem dX4_tell_58 : decode cX4_tell 58 = .ok (.getfield 32, 3) := by decide +kernel
theorem dX4_tell_61 : decode cX4_tell 61 = .ok (.ireturn, 1) := by decide +kernel
theorem dX4_tell_62 : decode cX4_tell 62 = .ok (.aload_n 0, 1) := by decide +kernel
theorem dX4_tell_63 : decode cX4_tell 63 = .ok (.getfield 35, 3) := by decide +kernel
theorem dX4_tell_66 : decode cX4_tell 66 = .ok (.ireturn, 1) := by decide +kernel
theorem dX4_tell_67 : decode cX4_tell 67 = .ok (.aload_n 0, 1) := by decide +kernel
theorem dX4_tell_68 : decode cX4_tell 68 = .ok (.getfield 38, 3) := by decide +kernel
theorem dX4_tell_71 : decode cX4_tell 71 = .ok (.ireturn, 1) := by decide +kernel
theorem dX4_tell_72 : decode cX4_tell 72 = .ok (.aload_n 0, 1) := by decide +kernel
theorem dX4_tell_73 : decode cX4_tell 73 = .ok (.getfield 41, 3) := by decide +kernel
theorem dX4_tell_76 : decode cX4_tell 76 = .ok (.ireturn, 1) := by decide +kernel
theorem dX4_tell_77 : decode cX4_tell 77 = .ok (.aload_n 0, 1) := by decide +kernel
theorem dX4_tell_78 : decode cX4_tell 78 = .ok (.getfield 44, 3) := by decide +kernel
theorem dX4_tell_81 : decode cX4_tell 81 = .ok (.ireturn, 1) := by decide +kernel
theorem dX4_tell_82 : decode cX4_tell 82 = .ok (.aload_n 0, 1) := by decide +kernel
theorem dX4_tell_83 : decode cX4_tell 83 = .ok (.getfield 47, 3) := by decide +kernel
theorem dX4_tell_86 : decode cX4_tell 86 = .ok (.ifCond .eq 7, 3) := by decide +kernel
theorem dX4_tell_89 : decode cX4_tell 89 = .ok (.iconst 1, 1) := by decide +kernel
theorem dX4_tell_90 : decode cX4_tell 90 = .ok (.goto 4, 3) := by decide +kernel
theorem dX4_tell_93 : decode cX4_tell 93 = .ok (.iconst 0, 1) := by decide +kernel
theorem dX4_tell_94 : decode cX4_tell 94 = .ok (.ireturn, 1) := by decide +kernel
theorem dX4_tell_95 : decode cX4_tell 95 = .ok (.aload_n 0, 1) := by decide +kernel
theorem dX4_tell_96 : decode cX4_tell 96 = .ok (.getfield 51, 3) := by decide +kernel
theorem dX4_tell_99 : decode cX4_tell 99 = .ok (.ireturn, 1) := by decide +kernel
theorem dX4_tell_100 : decode cX4_tell 100 = .ok (.aload_n 0, 1) := by decide +kernel
theorem dX4_tell_101 : decode cX4_tell 101 = .ok (.getfield 54, 3) := by decide +kernel
theorem dX4_tell_104 : decode cX4_tell 104 = .ok (.ireturn, 1) := by decide +kernel
theorem dX4_tell_105 : decode cX4_tell 105 = .ok (.bipush (-9), 2) := by decide +kernel
theorem dX4_tell_107 : decode cX4_tell 107 = .ok (.ireturn, 1) := by decide +kernel
theorem dX4_gives_0 : decode cX4_gives 0 = .ok (.iconst 0, 1) := by decide +kernel
theorem dX4_gives_1 : decode cX4_gives 1 = .ok (.istore 4, 2) := by decide +kernel
theorem dX4_gives_3 : decode cX4_gives 3 = .ok (.iload 4, 2) := by decide +kernel
theorem dX4_gives_5 : decode cX4_gives 5 = .ok (.aload_n 0, 1) := by decide +kernel
theorem dX4_gives_6 : decode cX4_gives 6 = .ok (.getfield 54, 3) := by decide +kernel
theorem dX4_gives_9 : decode cX4_gives 9 = .ok (.if_icmp .ge 46, 3) := by decide +kernel
theorem dX4_gives_12 : decode cX4_gives 12 = .ok (.aload_n 0, 1) := by decide +kernel
theorem dX4_gives_13 : decode cX4_gives 13 = .ok (.getfield 11, 3) := by decide +kernel
theorem dX4_gives_16 : decode cX4_gives 16 = .ok (.iload 4, 2) := by decide +kernel
theorem dX4_gives_18 : decode cX4_gives 18 = .ok (.iaload, 1) := by decide +kernel
theorem dX4_gives_19 : decode cX4_gives 19 = .ok (.iload_n 1, 1) := by decide +kernel
theorem dX4_gives_20 : decode cX4_gives 20 = .ok (.if_icmp .ne 29, 3) := by decide +kernel
theorem dX4_gives_23 : decode cX4_gives 23 = .ok (.aload_n 0, 1) := by decide +kernel
theorem dX4_gives_24 : decode cX4_gives 24 = .ok (.iload 4, 2) := by decide +kernel
theorem dX4_gives_26 : decode cX4_gives 26 = .ok (.iload_n 2, 1) := by decide +kernel
theorem dX4_gives_27 : decode cX4_gives 27 = .ok (.invokevirtual 61, 3) := by decide +kernel
theorem dX4_gives_30 : decode cX4_gives 30 = .ok (.ifCond .eq 19, 3) := by decide +kernel
theorem dX4_gives_33 : decode cX4_gives 33 = .ok (.iload_n 3, 1) := by decide +kernel
theorem dX4_gives_34 : decode cX4_gives 34 = .ok (.ifCond .ne 13, 3) := by decide +kernel
theorem dX4_gives_37 : decode cX4_gives 37 = .ok (.aload_n 0, 1) := by decide +kernel
theorem dX4_gives_38 : decode cX4_gives 38 = .ok (.getfield 21, 3) := by decide +kernel
theorem dX4_gives_41 : decode cX4_gives 41 = .ok (.iload 4, 2) := by decide +kernel
theorem dX4_gives_43 : decode cX4_gives 43 = .ok (.baload, 1) := by decide +kernel
theorem dX4_gives_44 : decode cX4_gives 44 = .ok (.ifCond .ne 5, 3) := by decide +kernel
theorem dX4_gives_47 : decode cX4_gives 47 = .ok (.iconst 1, 1) := by decide +kernel
theorem dX4_gives_48 : decode cX4_gives 48 = .ok (.ireturn, 1) := by decide +kernel
theorem dX4_gives_49 : decode cX4_gives 49 = .ok (.iinc 4 1, 3) := by decide +kernel
theorem dX4_gives_52 : decode cX4_gives 52 = .ok (.goto (-49), 3) := by decide +kernel
theorem dX4_gives_55 : decode cX4_gives 55 = .ok (.iconst 0, 1) := by decide +kernel
theorem dX4_gives_56 : decode cX4_gives 56 = .ok (.ireturn, 1) := by decide +kernel
theorem dX4_hasHour_0 : decode cX4_hasHour 0 = .ok (.aload_n 0, 1) := by decide +kernel
theorem dX4_hasHour_1 : decode cX4_hasHour 1 = .ok (.getfield 18, 3) := by decide +kernel
theorem dX4_hasHour_4 : decode cX4_hasHour 4 = .ok (.iload_n 1, 1) := by decide +kernel
theorem dX4_hasHour_5 : decode cX4_hasHour 5 = .ok (.iaload, 1) := by decide +kernel
theorem dX4_hasHour_6 : decode cX4_hasHour 6 = .ok (.aload_n 0, 1) := by decide +kernel
theorem dX4_hasHour_7 : decode cX4_hasHour 7 = .ok (.getfield 15, 3) := by decide +kernel
theorem dX4_hasHour_10 : decode cX4_hasHour 10 = .ok (.iload_n 1, 1) := by decide +kernel
theorem dX4_hasHour_11 : decode cX4_hasHour 11 = .ok (.iaload, 1) := by decide +kernel
theorem dX4_hasHour_12 : decode cX4_hasHour 12 = .ok (.if_icmp .ge 29, 3) := by decide +kernel
theorem dX4_hasHour_15 : decode cX4_hasHour 15 = .ok (.iload_n 2, 1) := by decide +kernel
theorem dX4_hasHour_16 : decode cX4_hasHour 16 = .ok (.aload_n 0, 1) := by decide +kernel
theorem dX4_hasHour_17 : decode cX4_hasHour 17 = .ok (.getfield 15, 3) := by decide +kernel
theorem dX4_hasHour_20 : decode cX4_hasHour 20 = .ok (.iload_n 1, 1) := by decide +kernel
theorem dX4_hasHour_21 : decode cX4_hasHour 21 = .ok (.iaload, 1) := by decide +kernel
theorem dX4_hasHour_22 : decode cX4_hasHour 22 = .ok (.if_icmp .ge 13, 3) := by decide +kernel
theorem dX4_hasHour_25 : decode cX4_hasHour 25 = .ok (.iload_n 2, 1) := by decide +kernel
theorem dX4_hasHour_26 : decode cX4_hasHour 26 = .ok (.aload_n 0, 1) := by decide +kernel
theorem dX4_hasHour_27 : decode cX4_hasHour 27 = .ok (.getfield 18, 3) := by decide +kernel
theorem dX4_hasHour_30 : decode cX4_hasHour 30 = .ok (.iload_n 1, 1) := by decide +kernel
theorem dX4_hasHour_31 : decode cX4_hasHour 31 = .ok (.iaload, 1) := by decide +kernel
theorem dX4_hasHour_32 : decode cX4_hasHour 32 = .ok (.if_icmp .gt 7, 3) := by decide +kernel
theorem dX4_hasHour_35 : decode cX4_hasHour 35 = .ok (.iconst 1, 1) := by decide +kernel
theorem dX4_hasHour_36 : decode cX4_hasHour 36 = .ok (.goto 4, 3) := by decide +kernel
theorem dX4_hasHour_39 : decode cX4_hasHour 39 = .ok (.iconst 0, 1) := by decide +kernel
theorem dX4_hasHour_40 : decode cX4_hasHour 40 = .ok (.ireturn, 1) := by decide +kernel
theorem dX4_hasHour_41 : decode cX4_hasHour 41 = .ok (.iload_n 2, 1) := by decide +kernel
theorem dX4_hasHour_42 : decode cX4_hasHour 42 = .ok (.aload_n 0, 1) := by decide +kernel
theorem dX4_hasHour_43 : decode cX4_hasHour 43 = .ok (.getfield 15, 3) := by decide +kernel
theorem dX4_hasHour_46 : decode cX4_hasHour 46 = .ok (.iload_n 1, 1) := by decide +kernel
theorem dX4_hasHour_47 : decode cX4_hasHour 47 = .ok (.iaload, 1) := by decide +kernel
theorem dX4_hasHour_48 : decode cX4_hasHour 48 = .ok (.if_icmp .lt 17, 3) := by decide +kernel
theorem dX4_hasHour_51 : decode cX4_hasHour 51 = .ok (.iload_n 2, 1) := by decide +kernel
theorem dX4_hasHour_52 : decode cX4_hasHour 52 = .ok (.aload_n 0, 1) := by decide +kernel
theorem dX4_hasHour_53 : decode cX4_hasHour 53 = .ok (.getfield 18, 3) := by decide +kernel
theorem dX4_hasHour_56 : decode cX4_hasHour 56 = .ok (.iload_n 1, 1) := by decide +kernel
theorem dX4_hasHour_57 : decode cX4_hasHour 57 = .ok (.iaload, 1) := by decide +kernel
theorem dX4_hasHour_58 : decode cX4_hasHour 58 = .ok (.if_icmp .gt 7, 3) := by decide +kernel
theorem dX4_hasHour_61 : decode cX4_hasHour 61 = .ok (.iconst 1, 1) := by decide +kernel
theorem dX4_hasHour_62 : decode cX4_hasHour 62 = .ok (.goto 4, 3) := by decide +kernel
theorem dX4_hasHour_65 : decode cX4_hasHour 65 = .ok (.iconst 0, 1) := by decide +kernel
theorem dX4_hasHour_66 : decode cX4_hasHour 66 = .ok (.ireturn, 1) := by decide +kernel
theorem dX4_letFollow_0 : decode cX4_letFollow 0 = .ok (.aload_n 0, 1) := by decide +kernel
theorem dX4_letFollow_1 : decode cX4_letFollow 1 = .ok (.getfield 44, 3) := by decide +kernel
theorem dX4_letFollow_4 : decode cX4_letFollow 4 = .ok (.iconst (-1), 1) := by decide +kernel
theorem dX4_letFollow_5 : decode cX4_letFollow 5 = .ok (.if_icmp .eq 18, 3) := by decide +kernel
theorem dX4_letFollow_8 : decode cX4_letFollow 8 = .ok (.iload_n 1, 1) := by decide +kernel
theorem dX4_letFollow_9 : decode cX4_letFollow 9 = .ok (.ifCond .ne 10, 3) := by decide +kernel
theorem dX4_letFollow_12 : decode cX4_letFollow 12 = .ok (.aload_n 0, 1) := by decide +kernel
theorem dX4_letFollow_13 : decode cX4_letFollow 13 = .ok (.getfield 47, 3) := by decide +kernel
theorem dX4_letFollow_16 : decode cX4_letFollow 16 = .ok (.ifCond .ne 7, 3) := by decide +kernel
theorem dX4_letFollow_19 : decode cX4_letFollow 19 = .ok (.iconst 1, 1) := by decide +kernel
theorem dX4_letFollow_20 : decode cX4_letFollow 20 = .ok (.goto 4, 3) := by decide +kernel
theorem dX4_letFollow_23 : decode cX4_letFollow 23 = .ok (.iconst 0, 1) := by decide +kernel
theorem dX4_letFollow_24 : decode cX4_letFollow 24 = .ok (.ireturn, 1) := by decide +kernel
theorem dX5_init_0 : decode cX5_init 0 = .ok (.aload_n 0, 1) := by decide +kernel
theorem dX5_init_1 : decode cX5_init 1 = .ok (.invokespecial 3, 3) := by decide +kernel
theorem dX5_init_4 : decode cX5_init 4 = .ok (.aload_n 0, 1) := by decide +kernel
theorem dX5_init_5 : decode cX5_init 5 = .ok (.bipush 100, 2) := by decide +kernel
theorem dX5_init_7 : decode cX5_init 7 = .ok (.anewarray 11, 3) := by decide +kernel
theorem dX5_init_10 : decode cX5_init 10 = .ok (.putfield 13, 3) := by decide +kernel
theorem dX5_init_13 : decode cX5_init 13 = .ok (.return_, 1) := by decide +kernel
theorem dX5_size_0 : decode cX5_size 0 = .ok (.aload_n 0, 1) := by decide +kernel
theorem dX5_size_1 : decode cX5_size 1 = .ok (.getfield 17, 3) := by decide +kernel
theorem dX5_size_4 : decode cX5_size 4 = .ok (.ireturn, 1) := by decide +kernel
theorem dX5_isFull_0 : decode cX5_isFull 0 = .ok (.aload_n 0, 1) := by decide +kernel
theorem dX5_isFull_1 : decode cX5_isFull 1 = .ok (.getfield 17, 3) := by decide +kernel
theorem dX5_isFull_4 : decode cX5_isFull 4 = .ok (.bipush 100, 2) := by decide +kernel
theorem dX5_isFull_6 : decode cX5_isFull 6 = .ok (.if_icmp .lt 7, 3) := by decide +kernel
theorem dX5_isFull_9 : decode cX5_isFull 9 = .ok (.iconst 1, 1) := by decide +kernel
theorem dX5_isFull_10 : decode cX5_isFull 10 = .ok (.goto 4, 3) := by decide +kernel
theorem dX5_isFull_13 : decode cX5_isFull 13 = .ok (.iconst 0, 1) := by decide +kernel
theorem dX5_isFull_14 : decode cX5_isFull 14 = .ok (.ireturn, 1) := by decide +kernel
theorem dX5_find_0 : decode cX5_find 0 = .ok (.iload_n 1, 1) := by decide +kernel
theorem dX5_find_1 : decode cX5_find 1 = .ok (.ifCond .lt 20, 3) := by decide +kernel
theorem dX5_find_4 : decode cX5_find 4 = .ok (.iload_n 1, 1) := by decide +kernel
theorem dX5_find_5 : decode cX5_find 5 = .ok (.aload_n 0, 1) := by decide +kernel
theorem dX5_find_6 : decode cX5_find 6 = .ok (.getfield 17, 3) := by decide +kernel
theorem dX5_find_9 : decode cX5_find 9 = .ok (.if_icmp .ge 12, 3) := by decide +kernel
theorem dX5_find_12 : decode cX5_find 12 = .ok (.aload_n 0, 1) := by decide +kernel
theorem dX5_find_13 : decode cX5_find 13 = .ok (.getfield 13, 3) := by decide +kernel
theorem dX5_find_16 : decode cX5_find 16 = .ok (.iload_n 1, 1) := by decide +kernel
theorem dX5_find_17 : decode cX5_find 17 = .ok (.aaload, 1) := by decide +kernel
theorem dX5_find_18 : decode cX5_find 18 = .ok (.goto 4, 3) := by decide +kernel
theorem dX5_find_21 : decode cX5_find 21 = .ok (.aconst_null, 1) := by decide +kernel
theorem dX5_find_22 : decode cX5_find 22 = .ok (.areturn, 1) := by decide +kernel
theorem dX5_take_0 : decode cX5_take 0 = .ok (.aload_n 2, 1) := by decide +kernel
theorem dX5_take_1 : decode cX5_take 1 = .ok (.aload_n 1, 1) := by decide +kernel
theorem dX5_take_2 : decode cX5_take 2 = .ok (.getfield 21, 3) := by decide +kernel
theorem dX5_take_5 : decode cX5_take 5 = .ok (.aaload, 1) := by decide +kernel
theorem dX5_take_6 : decode cX5_take 6 = .ok (.astore 4, 2) := by decide +kernel
theorem dX5_take_8 : decode cX5_take 8 = .ok (.aload 4, 2) := by decide +kernel
theorem dX5_take_10 : decode cX5_take 10 = .ok (.getfield 24, 3) := by decide +kernel
theorem dX5_take_13 : decode cX5_take 13 = .ok (.aload_n 1, 1) := by decide +kernel
theorem dX5_take_14 : decode cX5_take 14 = .ok (.getfield 30, 3) := by decide +kernel
theorem dX5_take_17 : decode cX5_take 17 = .ok (.aload_n 1, 1) := by decide +kernel
theorem dX5_take_18 : decode cX5_take 18 = .ok (.getfield 33, 3) := by decide +kernel
theorem dX5_take_21 : decode cX5_take 21 = .ok (.iload_n 3, 1) := by decide +kernel
theorem dX5_take_22 : decode cX5_take 22 = .ok (.invokevirtual 36, 3) := by decide +kernel
theorem dX5_take_25 : decode cX5_take 25 = .ok (.ifCond .eq 13, 3) := by decide +kernel
theorem dX5_take_28 : decode cX5_take 28 = .ok (.aload_n 0, 1) := by decide +kernel
theorem dX5_take_29 : decode cX5_take 29 = .ok (.aload_n 1, 1) := by decide +kernel
theorem dX5_take_30 : decode cX5_take 30 = .ok (.aload_n 2, 1) := by decide +kernel
theorem dX5_take_31 : decode cX5_take 31 = .ok (.iload_n 3, 1) := by decide +kernel
theorem dX5_take_32 : decode cX5_take 32 = .ok (.invokevirtual 42, 3) := by decide +kernel
theorem dX5_take_35 : decode cX5_take 35 = .ok (.goto 19, 3) := by decide +kernel
theorem dX5_take_38 : decode cX5_take 38 = .ok (.aload_n 1, 1) := by decide +kernel
theorem dX5_take_39 : decode cX5_take 39 = .ok (.iconst 1, 1) := by decide +kernel
theorem dX5_take_40 : decode cX5_take 40 = .ok (.putfield 46, 3) := by decide +kernel
theorem dX5_take_43 : decode cX5_take 43 = .ok (.aload 4, 2) := by decide +kernel
theorem dX5_take_45 : decode cX5_take 45 = .ok (.dup, 1) := by decide +kernel
theorem dX5_take_46 : decode cX5_take 46 = .ok (.getfield 49, 3) := by decide +kernel
theorem dX5_take_49 : decode cX5_take 49 = .ok (.iconst 5, 1) := by decide +kernel
theorem dX5_take_50 : decode cX5_take 50 = .ok (.isub, 1) := by decide +kernel
theorem dX5_take_51 : decode cX5_take 51 = .ok (.putfield 49, 3) := by decide +kernel
theorem dX5_take_54 : decode cX5_take 54 = .ok (.aload_n 0, 1) := by decide +kernel
theorem dX5_take_55 : decode cX5_take 55 = .ok (.getfield 13, 3) := by decide +kernel
theorem dX5_take_58 : decode cX5_take 58 = .ok (.aload_n 0, 1) := by decide +kernel
theorem dX5_take_59 : decode cX5_take 59 = .ok (.getfield 17, 3) := by decide +kernel
theorem dX5_take_62 : decode cX5_take 62 = .ok (.aload_n 1, 1) := by decide +kernel
theorem dX5_take_63 : decode cX5_take 63 = .ok (.aastore, 1) := by decide +kernel
theorem dX5_take_64 : decode cX5_take 64 = .ok (.aload_n 0, 1) := by decide +kernel
theorem dX5_take_65 : decode cX5_take 65 = .ok (.dup, 1) := by decide +kernel
theorem dX5_take_66 : decode cX5_take 66 = .ok (.getfield 17, 3) := by decide +kernel
theorem dX5_take_69 : decode cX5_take 69 = .ok (.iconst 1, 1) := by decide +kernel
theorem dX5_take_70 : decode cX5_take 70 = .ok (.iadd, 1) := by decide +kernel
theorem dX5_take_71 : decode cX5_take 71 = .ok (.putfield 17, 3) := by decide +kernel
theorem dX5_take_74 : decode cX5_take 74 = .ok (.aload_n 0, 1) := by decide +kernel
theorem dX5_take_75 : decode cX5_take 75 = .ok (.getfield 17, 3) := by decide +kernel
theorem dX5_take_78 : decode cX5_take 78 = .ok (.iconst 1, 1) := by decide +kernel
theorem dX5_take_79 : decode cX5_take 79 = .ok (.isub, 1) := by decide +kernel
theorem dX5_take_80 : decode cX5_take 80 = .ok (.ireturn, 1) := by decide +kernel
theorem dX5_lockUp_0 : decode cX5_lockUp 0 = .ok (.aload_n 1, 1) := by decide +kernel
theorem dX5_lockUp_1 : decode cX5_lockUp 1 = .ok (.getfield 21, 3) := by decide +kernel
theorem dX5_lockUp_4 : decode cX5_lockUp 4 = .ok (.aload_n 2, 1) := by decide +kernel
theorem dX5_lockUp_5 : decode cX5_lockUp 5 = .ok (.invokestatic 52, 3) := by decide +kernel
theorem dX5_lockUp_8 : decode cX5_lockUp 8 = .ok (.istore 4, 2) := by decide +kernel
theorem dX5_lockUp_10 : decode cX5_lockUp 10 = .ok (.iload 4, 2) := by decide +kernel
theorem dX5_lockUp_12 : decode cX5_lockUp 12 = .ok (.iconst (-1), 1) := by decide +kernel
theorem dX5_lockUp_13 : decode cX5_lockUp 13 = .ok (.if_icmp .eq 26, 3) := by decide +kernel
theorem dX5_lockUp_16 : decode cX5_lockUp 16 = .ok (.iload 4, 2) := by decide +kernel
theorem dX5_lockUp_18 : decode cX5_lockUp 18 = .ok (.aload_n 1, 1) := by decide +kernel
theorem dX5_lockUp_19 : decode cX5_lockUp 19 = .ok (.getfield 21, 3) := by decide +kernel
theorem dX5_lockUp_22 : decode cX5_lockUp 22 = .ok (.if_icmp .eq 23, 3) := by decide +kernel
theorem dX5_lockUp_25 : decode cX5_lockUp 25 = .ok (.aload_n 2, 1) := by decide +kernel
theorem dX5_lockUp_26 : decode cX5_lockUp 26 = .ok (.iload 4, 2) := by decide +kernel
theorem dX5_lockUp_28 : decode cX5_lockUp 28 = .ok (.aaload, 1) := by decide +kernel
theorem dX5_lockUp_29 : decode cX5_lockUp 29 = .ok (.getfield 24, 3) := by decide +kernel
theorem dX5_lockUp_32 : decode cX5_lockUp 32 = .ok (.iload_n 3, 1) := by decide +kernel
theorem dX5_lockUp_33 : decode cX5_lockUp 33 = .ok (.invokevirtual 56, 3) := by decide +kernel
theorem dX5_lockUp_36 : decode cX5_lockUp 36 = .ok (.ifCond .ne 9, 3) := by decide +kernel
theorem dX5_lockUp_39 : decode cX5_lockUp 39 = .ok (.aload_n 1, 1) := by decide +kernel
theorem dX5_lockUp_40 : decode cX5_lockUp 40 = .ok (.iconst 2, 1) := by decide +kernel
theorem dX5_lockUp_41 : decode cX5_lockUp 41 = .ok (.putfield 46, 3) := by decide +kernel
theorem dX5_lockUp_44 : decode cX5_lockUp 44 = .ok (.return_, 1) := by decide +kernel
theorem dX5_lockUp_45 : decode cX5_lockUp 45 = .ok (.aload_n 1, 1) := by decide +kernel
theorem dX5_lockUp_46 : decode cX5_lockUp 46 = .ok (.iload 4, 2) := by decide +kernel
theorem dX5_lockUp_48 : decode cX5_lockUp 48 = .ok (.putfield 60, 3) := by decide +kernel
theorem dX5_lockUp_51 : decode cX5_lockUp 51 = .ok (.aload_n 2, 1) := by decide +kernel
theorem dX5_lockUp_52 : decode cX5_lockUp 52 = .ok (.iload 4, 2) := by decide +kernel
theorem dX5_lockUp_54 : decode cX5_lockUp 54 = .ok (.aaload, 1) := by decide +kernel
theorem dX5_lockUp_55 : decode cX5_lockUp 55 = .ok (.dup, 1) := by decide +kernel
theorem dX5_lockUp_56 : decode cX5_lockUp 56 = .ok (.getfield 63, 3) := by decide +kernel
theorem dX5_lockUp_59 : decode cX5_lockUp 59 = .ok (.iconst 1, 1) := by decide +kernel
theorem dX5_lockUp_60 : decode cX5_lockUp 60 = .ok (.iadd, 1) := by decide +kernel
theorem dX5_lockUp_61 : decode cX5_lockUp 61 = .ok (.putfield 63, 3) := by decide +kernel
theorem dX5_lockUp_64 : decode cX5_lockUp 64 = .ok (.return_, 1) := by decide +kernel
theorem dX5_firstWithPlace_0 : decode cX5_firstWithPlace 0 = .ok (.iconst 0, 1) := by decide +kernel
theorem dX5_firstWithPlace_1 : decode cX5_firstWithPlace 1 = .ok (.istore_n 2, 1) := by decide +kernel
theorem dX5_firstWithPlace_2 : decode cX5_firstWithPlace 2 = .ok (.iload_n 2, 1) := by decide +kernel
theorem dX5_firstWithPlace_3 : decode cX5_firstWithPlace 3 = .ok (.iconst 4, 1) := by decide +kernel
theorem dX5_firstWithPlace_4 : decode cX5_firstWithPlace 4 = .ok (.if_icmp .ge 26, 3) := by decide +kernel
theorem dX5_firstWithPlace_7 : decode cX5_firstWithPlace 7 = .ok (.iload_n 0, 1) := by decide +kernel
theorem dX5_firstWithPlace_8 : decode cX5_firstWithPlace 8 = .ok (.iload_n 2, 1) := by decide +kernel
theorem dX5_firstWithPlace_9 : decode cX5_firstWithPlace 9 = .ok (.iadd, 1) := by decide +kernel
theorem dX5_firstWithPlace_10 : decode cX5_firstWithPlace 10 = .ok (.iconst 4, 1) := by decide +kernel
theorem dX5_firstWithPlace_11 : decode cX5_firstWithPlace 11 = .ok (.irem, 1) := by decide +kernel
theorem dX5_firstWithPlace_12 : decode cX5_firstWithPlace 12 = .ok (.istore_n 3, 1) := by decide +kernel
theorem dX5_firstWithPlace_13 : decode cX5_firstWithPlace 13 = .ok (.aload_n 1, 1) := by decide +kernel
theorem dX5_firstWithPlace_14 : decode cX5_firstWithPlace 14 = .ok (.iload_n 3, 1) := by decide +kernel
theorem dX5_firstWithPlace_15 : decode cX5_firstWithPlace 15 = .ok (.aaload, 1) := by decide +kernel
theorem dX5_firstWithPlace_16 : decode cX5_firstWithPlace 16 = .ok (.invokevirtual 66, 3) := by decide +kernel
theorem dX5_firstWithPlace_19 : decode cX5_firstWithPlace 19 = .ok (.ifCond .eq 5, 3) := by decide +kernel
theorem dX5_firstWithPlace_22 : decode cX5_firstWithPlace 22 = .ok (.iload_n 3, 1) := by decide +kernel
theorem dX5_firstWithPlace_23 : decode cX5_firstWithPlace 23 = .ok (.ireturn, 1) := by decide +kernel
theorem dX5_firstWithPlace_24 : decode cX5_firstWithPlace 24 = .ok (.iinc 2 1, 3) := by decide +kernel
theorem dX5_firstWithPlace_27 : decode cX5_firstWithPlace 27 = .ok (.goto (-25), 3) := by decide +kernel
theorem dX5_firstWithPlace_30 : decode cX5_firstWithPlace 30 = .ok (.iconst (-1), 1) := by decide +kernel
theorem dX5_firstWithPlace_31 : decode cX5_firstWithPlace 31 = .ok (.ireturn, 1) := by decide +kernel
theorem dX5_bringAll_0 : decode cX5_bringAll 0 = .ok (.iconst 0, 1) := by decide +kernel
theorem dX5_bringAll_1 : decode cX5_bringAll 1 = .ok (.istore_n 1, 1) := by decide +kernel
theorem dX5_bringAll_2 : decode cX5_bringAll 2 = .ok (.iconst 0, 1) := by decide +kernel
theorem dX5_bringAll_3 : decode cX5_bringAll 3 = .ok (.istore_n 2, 1) := by decide +kernel
theorem dX5_bringAll_4 : decode cX5_bringAll 4 = .ok (.iload_n 2, 1) := by decide +kernel
theorem dX5_bringAll_5 : decode cX5_bringAll 5 = .ok (.aload_n 0, 1) := by decide +kernel
theorem dX5_bringAll_6 : decode cX5_bringAll 6 = .ok (.getfield 17, 3) := by decide +kernel
theorem dX5_bringAll_9 : decode cX5_bringAll 9 = .ok (.if_icmp .ge 34, 3) := by decide +kernel
theorem dX5_bringAll_12 : decode cX5_bringAll 12 = .ok (.aload_n 0, 1) := by decide +kernel
theorem dX5_bringAll_13 : decode cX5_bringAll 13 = .ok (.getfield 13, 3) := by decide +kernel
theorem dX5_bringAll_16 : decode cX5_bringAll 16 = .ok (.iload_n 2, 1) := by decide +kernel
theorem dX5_bringAll_17 : decode cX5_bringAll 17 = .ok (.aaload, 1) := by decide +kernel
theorem dX5_bringAll_18 : decode cX5_bringAll 18 = .ok (.getfield 46, 3) := by decide +kernel
theorem dX5_bringAll_21 : decode cX5_bringAll 21 = .ok (.ifCond .ne 16, 3) := by decide +kernel
theorem dX5_bringAll_24 : decode cX5_bringAll 24 = .ok (.aload_n 0, 1) := by decide +kernel
theorem dX5_bringAll_25 : decode cX5_bringAll 25 = .ok (.getfield 13, 3) := by decide +kernel
theorem dX5_bringAll_28 : decode cX5_bringAll 28 = .ok (.iload_n 2, 1) := by decide +kernel
theorem dX5_bringAll_29 : decode cX5_bringAll 29 = .ok (.aaload, 1) := by decide +kernel
theorem dX5_bringAll_30 : decode cX5_bringAll 30 = .ok (.iconst 3, 1) := by decide +kernel
theorem dX5_bringAll_31 : decode cX5_bringAll 31 = .ok (.putfield 46, 3) := by decide +kernel
theorem dX5_bringAll_34 : decode cX5_bringAll 34 = .ok (.iinc 1 1, 3) := by decide +kernel
theorem dX5_bringAll_37 : decode cX5_bringAll 37 = .ok (.iinc 2 1, 3) := by decide +kernel
theorem dX5_bringAll_40 : decode cX5_bringAll 40 = .ok (.goto (-36), 3) := by decide +kernel
theorem dX5_bringAll_43 : decode cX5_bringAll 43 = .ok (.iload_n 1, 1) := by decide +kernel
theorem dX5_bringAll_44 : decode cX5_bringAll 44 = .ok (.ireturn, 1) := by decide +kernel
theorem dX6_init_0 : decode cX6_init 0 = .ok (.aload_n 0, 1) := by decide +kernel
theorem dX6_init_1 : decode cX6_init 1 = .ok (.invokespecial 5, 3) := by decide +kernel
theorem dX6_init_4 : decode cX6_init 4 = .ok (.aload_n 0, 1) := by decide +kernel
theorem dX6_init_5 : decode cX6_init 5 = .ok (.bipush 10, 2) := by decide +kernel
theorem dX6_init_7 : decode cX6_init 7 = .ok (.newarray .int, 2) := by decide +kernel
theorem dX6_init_9 : decode cX6_init 9 = .ok (.putfield 11, 3) := by decide +kernel
theorem dX6_init_12 : decode cX6_init 12 = .ok (.aload_n 0, 1) := by decide +kernel
theorem dX6_init_13 : decode cX6_init 13 = .ok (.bipush 100, 2) := by decide +kernel
theorem dX6_init_15 : decode cX6_init 15 = .ok (.newarray .int, 2) := by decide +kernel
theorem dX6_init_17 : decode cX6_init 17 = .ok (.putfield 15, 3) := by decide +kernel
theorem dX6_init_20 : decode cX6_init 20 = .ok (.aload_n 0, 1) := by decide +kernel
theorem dX6_init_21 : decode cX6_init 21 = .ok (.sipush 4608, 3) := by decide +kernel
theorem dX6_init_24 : decode cX6_init 24 = .ok (.newarray .int, 2) := by decide +kernel
theorem dX6_init_26 : decode cX6_init 26 = .ok (.putfield 18, 3) := by decide +kernel
theorem dX6_init_29 : decode cX6_init 29 = .ok (.aload_n 0, 1) := by decide +kernel
theorem dX6_init_30 : decode cX6_init 30 = .ok (.sipush 1024, 3) := by decide +kernel
theorem dX6_init_33 : decode cX6_init 33 = .ok (.newarray .int, 2) := by decide +kernel
theorem dX6_init_35 : decode cX6_init 35 = .ok (.putfield 21, 3) := by decide +kernel
theorem dX6_init_38 : decode cX6_init 38 = .ok (.aload_n 0, 1) := by decide +kernel
theorem dX6_init_39 : decode cX6_init 39 = .ok (.sipush 1024, 3) := by decide +kernel
theorem dX6_init_42 : decode cX6_init 42 = .ok (.newarray .long, 2) := by decide +kernel
theorem dX6_init_44 : decode cX6_init 44 = .ok (.putfield 24, 3) := by decide +kernel
theorem dX6_init_47 : decode cX6_init 47 = .ok (.aload_n 0, 1) := by decide +kernel
theorem dX6_init_48 : decode cX6_init 48 = .ok (.sipush 1024, 3) := by decide +kernel
theorem dX6_init_51 : decode cX6_init 51 = .ok (.newarray .long, 2) := by decide +kernel
theorem dX6_init_53 : decode cX6_init 53 = .ok (.putfield 28, 3) := by decide +kernel
theorem dX6_init_56 : decode cX6_init 56 = .ok (.aload_n 0, 1) := by decide +kernel
theorem dX6_init_57 : decode cX6_init 57 = .ok (.bipush 12, 2) := by decide +kernel
theorem dX6_init_59 : decode cX6_init 59 = .ok (.newarray .int, 2) := by decide +kernel
theorem dX6_init_61 : decode cX6_init 61 = .ok (.putfield 31, 3) := by decide +kernel
theorem dX6_init_64 : decode cX6_init 64 = .ok (.aload_n 0, 1) := by decide +kernel
theorem dX6_init_65 : decode cX6_init 65 = .ok (.bipush 10, 2) := by decide +kernel
theorem dX6_init_67 : decode cX6_init 67 = .ok (.newarray .int, 2) := by decide +kernel
theorem dX6_init_69 : decode cX6_init 69 = .ok (.putfield 34, 3) := by decide +kernel
theorem dX6_init_72 : decode cX6_init 72 = .ok (.aload_n 0, 1) := by decide +kernel
theorem dX6_init_73 : decode cX6_init 73 = .ok (.bipush 10, 2) := by decide +kernel
theorem dX6_init_75 : decode cX6_init 75 = .ok (.newarray .int, 2) := by decide +kernel
theorem dX6_init_77 : decode cX6_init 77 = .ok (.putfield 37, 3) := by decide +kernel
theorem dX6_init_80 : decode cX6_init 80 = .ok (.iconst 1, 1) := by decide +kernel
theorem dX6_init_81 : decode cX6_init 81 = .ok (.istore_n 1, 1) := by decide +kernel
theorem dX6_init_82 : decode cX6_init 82 = .ok (.iload_n 1, 1) := by decide +kernel
theorem dX6_init_83 : decode cX6_init 83 = .ok (.sipush 1024, 3) := by decide +kernel
theorem dX6_init_86 : decode cX6_init 86 = .ok (.if_icmp .ge 37, 3) := by decide +kernel
theorem dX6_init_89 : decode cX6_init 89 = .ok (.iload_n 1, 1) := by decide +kernel
theorem dX6_init_90 : decode cX6_init 90 = .ok (.invokestatic 40, 3) := by decide +kernel
theorem dX6_init_93 : decode cX6_init 93 = .ok (.istore_n 2, 1) := by decide +kernel
theorem dX6_init_94 : decode cX6_init 94 = .ok (.aload_n 0, 1) := by decide +kernel
theorem dX6_init_95 : decode cX6_init 95 = .ok (.getfield 28, 3) := by decide +kernel
theorem dX6_init_98 : decode cX6_init 98 = .ok (.iload_n 1, 1) := by decide +kernel
theorem dX6_init_99 : decode cX6_init 99 = .ok (.aload_n 0, 1) := by decide +kernel
theorem dX6_init_100 : decode cX6_init 100 = .ok (.getfield 28, 3) := by decide +kernel
theorem dX6_init_103 : decode cX6_init 103 = .ok (.iload_n 1, 1) := by decide +kernel
theorem dX6_init_104 : decode cX6_init 104 = .ok (.iload_n 1, 1) := by decide +kernel
theorem dX6_init_105 : decode cX6_init 105 = .ok (.iconst 1, 1) := by decide +kernel
theorem dX6_init_106 : decode cX6_init 106 = .ok (.isub, 1) := by decide +kernel
theorem dX6_init_107 : decode cX6_init 107 = .ok (.iand, 1) := by decide +kernel
theorem dX6_init_108 : decode cX6_init 108 = .ok (.laload, 1) := by decide +kernel
theorem dX6_init_109 : decode cX6_init 109 = .ok (.lconst 1, 1) := by decide +kernel
theorem dX6_init_110 : decode cX6_init 110 = .ok (.iload_n 2, 1) := by decide +kernel
theorem dX6_init_111 : decode cX6_init 111 = .ok (.invokestatic 46, 3) := by decide +kernel
theorem dX6_init_114 : decode cX6_init 114 = .ok (.lshl, 1) := by decide +kernel
theorem dX6_init_115 : decode cX6_init 115 = .ok (.lor, 1) := by decide +kernel
theorem dX6_init_116 : decode cX6_init 116 = .ok (.lastore, 1) := by decide +kernel
theorem dX6_init_117 : decode cX6_init 117 = .ok (.iinc 1 1, 3) := by decide +kernel
theorem dX6_init_120 : decode cX6_init 120 = .ok (.goto (-38), 3) := by decide +kernel
theorem dX6_init_123 : decode cX6_init 123 = .ok (.return_, 1) := by decide +kernel
theorem dX6_plan_0 : decode cX6_plan 0 = .ok (.aload_n 0, 1) := by decide +kernel
theorem dX6_plan_1 : decode cX6_plan 1 = .ok (.iload_n 1, 1) := by decide +kernel
theorem dX6_plan_2 : decode cX6_plan 2 = .ok (.invokevirtual 49, 3) := by decide +kernel
theorem dX6_plan_5 : decode cX6_plan 5 = .ok (.aload_n 0, 1) := by decide +kernel
theorem dX6_plan_6 : decode cX6_plan 6 = .ok (.aload_n 2, 1) := by decide +kernel
theorem dX6_plan_7 : decode cX6_plan 7 = .ok (.invokevirtual 53, 3) := by decide +kernel
theorem dX6_plan_10 : decode cX6_plan 10 = .ok (.iconst 0, 1) := by decide +kernel
theorem dX6_plan_11 : decode cX6_plan 11 = .ok (.istore_n 3, 1) := by decide +kernel
theorem dX6_plan_12 : decode cX6_plan 12 = .ok (.iload_n 3, 1) := by decide +kernel
theorem dX6_plan_13 : decode cX6_plan 13 = .ok (.aload_n 0, 1) := by decide +kernel
theorem dX6_plan_14 : decode cX6_plan 14 = .ok (.getfield 57, 3) := by decide +kernel
theorem dX6_plan_17 : decode cX6_plan 17 = .ok (.if_icmp .ge 15, 3) := by decide +kernel
theorem dX6_plan_20 : decode cX6_plan 20 = .ok (.aload_n 0, 1) := by decide +kernel
theorem dX6_plan_21 : decode cX6_plan 21 = .ok (.iload_n 3, 1) := by decide +kernel
theorem dX6_plan_22 : decode cX6_plan 22 = .ok (.aload_n 2, 1) := by decide +kernel
theorem dX6_plan_23 : decode cX6_plan 23 = .ok (.invokevirtual 61, 3) := by decide +kernel
theorem dX6_plan_26 : decode cX6_plan 26 = .ok (.iinc 3 1, 3) := by decide +kernel
theorem dX6_plan_29 : decode cX6_plan 29 = .ok (.goto (-17), 3) := by decide +kernel
theorem dX6_plan_32 : decode cX6_plan 32 = .ok (.aload_n 0, 1) := by decide +kernel
theorem dX6_plan_33 : decode cX6_plan 33 = .ok (.invokevirtual 65, 3) := by decide +kernel
theorem dX6_plan_36 : decode cX6_plan 36 = .ok (.aload_n 0, 1) := by decide +kernel
theorem dX6_plan_37 : decode cX6_plan 37 = .ok (.aload_n 0, 1) := by decide +kernel
theorem dX6_plan_38 : decode cX6_plan 38 = .ok (.getfield 24, 3) := by decide +kernel
theorem dX6_plan_41 : decode cX6_plan 41 = .ok (.iconst 1, 1) := by decide +kernel
theorem dX6_plan_42 : decode cX6_plan 42 = .ok (.aload_n 0, 1) := by decide +kernel
theorem dX6_plan_43 : decode cX6_plan 43 = .ok (.getfield 57, 3) := by decide +kernel
theorem dX6_plan_46 : decode cX6_plan 46 = .ok (.ishl, 1) := by decide +kernel
theorem dX6_plan_47 : decode cX6_plan 47 = .ok (.iconst 1, 1) := by decide +kernel
theorem dX6_plan_48 : decode cX6_plan 48 = .ok (.isub, 1) := by decide +kernel
theorem dX6_plan_49 : decode cX6_plan 49 = .ok (.laload, 1) := by decide +kernel
theorem dX6_plan_50 : decode cX6_plan 50 = .ok (.invokevirtual 68, 3) := by decide +kernel
theorem dX6_plan_53 : decode cX6_plan 53 = .ok (.aload_n 0, 1) := by decide +kernel
theorem dX6_plan_54 : decode cX6_plan 54 = .ok (.getfield 72, 3) := by decide +kernel
theorem dX6_plan_57 : decode cX6_plan 57 = .ok (.ireturn, 1) := by decide +kernel
theorem dX6_tell_0 : decode cX6_tell 0 = .ok (.aload_n 0, 1) := by decide +kernel
theorem dX6_tell_1 : decode cX6_tell 1 = .ok (.getfield 72, 3) := by decide +kernel
theorem dX6_tell_4 : decode cX6_tell 4 = .ok (.ifCond .ne 6, 3) := by decide +kernel
theorem dX6_tell_7 : decode cX6_tell 7 = .ok (.bipush (-9), 2) := by decide +kernel
theorem dX6_tell_9 : decode cX6_tell 9 = .ok (.ireturn, 1) := by decide +kernel
theorem dX6_tell_10 : decode cX6_tell 10 = .ok (.iload_n 1, 1) := by decide +kernel
theorem dX6_tell_11 : decode cX6_tell 11 = .ok (.ifCond .ne 8, 3) := by decide +kernel
theorem dX6_tell_14 : decode cX6_tell 14 = .ok (.aload_n 0, 1) := by decide +kernel
theorem dX6_tell_15 : decode cX6_tell 15 = .ok (.getfield 75, 3) := by decide +kernel
theorem dX6_tell_18 : decode cX6_tell 18 = .ok (.ireturn, 1) := by decide +kernel
theorem dX6_tell_19 : decode cX6_tell 19 = .ok (.iload_n 1, 1) := by decide +kernel
theorem dX6_tell_20 : decode cX6_tell 20 = .ok (.bipush 10, 2) := by decide +kernel
theorem dX6_tell_22 : decode cX6_tell 22 = .ok (.bipush 21, 2) := by decide +kernel
theorem dX6_tell_24 : decode cX6_tell 24 = .ok (.invokestatic 78, 3) := by decide +kernel
theorem dX6_tell_27 : decode cX6_tell 27 = .ok (.ifCond .eq 13, 3) := by decide +kernel
theorem dX6_tell_30 : decode cX6_tell 30 = .ok (.aload_n 0, 1) := by decide +kernel
theorem dX6_tell_31 : decode cX6_tell 31 = .ok (.getfield 31, 3) := by decide +kernel
theorem dX6_tell_34 : decode cX6_tell 34 = .ok (.iload_n 1, 1) := by decide +kernel
theorem dX6_tell_35 : decode cX6_tell 35 = .ok (.bipush 10, 2) := by decide +kernel
theorem dX6_tell_37 : decode cX6_tell 37 = .ok (.isub, 1) := by decide +kernel
theorem dX6_tell_38 : decode cX6_tell 38 = .ok (.iaload, 1) := by decide +kernel
theorem dX6_tell_39 : decode cX6_tell 39 = .ok (.ireturn, 1) := by decide +kernel
theorem dX6_tell_40 : decode cX6_tell 40 = .ok (.iload_n 1, 1) := by decide +kernel
theorem dX6_tell_41 : decode cX6_tell 41 = .ok (.bipush 30, 2) := by decide +kernel
theorem dX6_tell_43 : decode cX6_tell 43 = .ok (.bipush 30, 2) := by decide +kernel
theorem dX6_tell_45 : decode cX6_tell 45 = .ok (.aload_n 0, 1) := by decide +kernel
theorem dX6_tell_46 : decode cX6_tell 46 = .ok (.getfield 72, 3) := by decide +kernel
theorem dX6_tell_49 : decode cX6_tell 49 = .ok (.iadd, 1) := by decide +kernel
theorem dX6_tell_50 : decode cX6_tell 50 = .ok (.iconst 1, 1) := by decide +kernel
theorem dX6_tell_51 : decode cX6_tell 51 = .ok (.isub, 1) := by decide +kernel
theorem dX6_tell_52 : decode cX6_tell 52 = .ok (.invokestatic 78, 3) := by decide +kernel
theorem dX6_tell_55 : decode cX6_tell 55 = .ok (.ifCond .eq 13, 3) := by decide +kernel
theorem dX6_tell_58 : decode cX6_tell 58 = .ok (.aload_n 0, 1) := by decide +kernel
theorem dX6_tell_59 : decode cX6_tell 59 = .ok (.getfield 34, 3) := by decide +kernel
theorem dX6_tell_62 : decode cX6_tell 62 = .ok (.iload_n 1, 1) := by decide +kernel
theorem dX6_tell_63 : decode cX6_tell 63 = .ok (.bipush 30, 2) := by decide +kernel
theorem dX6_tell_65 : decode cX6_tell 65 = .ok (.isub, 1) := by decide +kernel
theorem dX6_tell_66 : decode cX6_tell 66 = .ok (.iaload, 1) := by decide +kernel
theorem dX6_tell_67 : decode cX6_tell 67 = .ok (.ireturn, 1) := by decide +kernel
theorem dX6_tell_68 : decode cX6_tell 68 = .ok (.iload_n 1, 1) := by decide +kernel
theorem dX6_tell_69 : decode cX6_tell 69 = .ok (.bipush 50, 2) := by decide +kernel
theorem dX6_tell_71 : decode cX6_tell 71 = .ok (.bipush 50, 2) := by decide +kernel
theorem dX6_tell_73 : decode cX6_tell 73 = .ok (.aload_n 0, 1) := by decide +kernel
theorem dX6_tell_74 : decode cX6_tell 74 = .ok (.getfield 72, 3) := by decide +kernel
theorem dX6_tell_77 : decode cX6_tell 77 = .ok (.iadd, 1) := by decide +kernel
theorem dX6_tell_78 : decode cX6_tell 78 = .ok (.iconst 1, 1) := by decide +kernel
theorem dX6_tell_79 : decode cX6_tell 79 = .ok (.isub, 1) := by decide +kernel
theorem dX6_tell_80 : decode cX6_tell 80 = .ok (.invokestatic 78, 3) := by decide +kernel
theorem dX6_tell_83 : decode cX6_tell 83 = .ok (.ifCond .eq 15, 3) := by decide +kernel
theorem dX6_tell_86 : decode cX6_tell 86 = .ok (.aload_n 0, 1) := by decide +kernel
theorem dX6_tell_87 : decode cX6_tell 87 = .ok (.getfield 37, 3) := by decide +kernel
theorem dX6_tell_90 : decode cX6_tell 90 = .ok (.iload_n 1, 1) := by decide +kernel
theorem dX6_tell_91 : decode cX6_tell 91 = .ok (.bipush 50, 2) := by decide +kernel
theorem dX6_tell_93 : decode cX6_tell 93 = .ok (.isub, 1) := by decide +kernel
theorem dX6_tell_94 : decode cX6_tell 94 = .ok (.iaload, 1) := by decide +kernel
theorem dX6_tell_95 : decode cX6_tell 95 = .ok (.goto 5, 3) := by decide +kernel
theorem dX6_tell_98 : decode cX6_tell 98 = .ok (.bipush (-9), 2) := by decide +kernel
theorem dX6_tell_100 : decode cX6_tell 100 = .ok (.ireturn, 1) := by decide +kernel
theorem dX6_rowShift_0 : decode cX6_rowShift 0 = .ok (.iconst 4, 1) := by decide +kernel
theorem dX6_rowShift_1 : decode cX6_rowShift 1 = .ok (.bipush 9, 2) := by decide +kernel
theorem dX6_rowShift_3 : decode cX6_rowShift 3 = .ok (.iload_n 0, 1) := by decide +kernel
theorem dX6_rowShift_4 : decode cX6_rowShift 4 = .ok (.isub, 1) := by decide +kernel
theorem dX6_rowShift_5 : decode cX6_rowShift 5 = .ok (.imul, 1) := by decide +kernel
theorem dX6_rowShift_6 : decode cX6_rowShift 6 = .ok (.ireturn, 1) := by decide +kernel
theorem dX6_listCourts_0 : decode cX6_listCourts 0 = .ok (.aload_n 0, 1) := by decide +kernel
theorem dX6_listCourts_1 : decode cX6_listCourts 1 = .ok (.iconst 0, 1) := by decide +kernel
theorem dX6_listCourts_2 : decode cX6_listCourts 2 = .ok (.putfield 57, 3) := by decide +kernel
theorem dX6_listCourts_5 : decode cX6_listCourts 5 = .ok (.iconst 0, 1) := by decide +kernel
theorem dX6_listCourts_6 : decode cX6_listCourts 6 = .ok (.istore_n 2, 1) := by decide +kernel
theorem dX6_listCourts_7 : decode cX6_listCourts 7 = .ok (.iload_n 2, 1) := by decide +kernel
theorem dX6_listCourts_8 : decode cX6_listCourts 8 = .ok (.bipush 12, 2) := by decide +kernel
theorem dX6_listCourts_10 : decode cX6_listCourts 10 = .ok (.if_icmp .ge 47, 3) := by decide +kernel
theorem dX6_listCourts_13 : decode cX6_listCourts 13 = .ok (.aload_n 0, 1) := by decide +kernel
theorem dX6_listCourts_14 : decode cX6_listCourts 14 = .ok (.getfield 57, 3) := by decide +kernel
theorem dX6_listCourts_17 : decode cX6_listCourts 17 = .ok (.bipush 10, 2) := by decide +kernel
theorem dX6_listCourts_19 : decode cX6_listCourts 19 = .ok (.if_icmp .ge 38, 3) := by decide +kernel
theorem dX6_listCourts_22 : decode cX6_listCourts 22 = .ok (.iload_n 1, 1) := by decide +kernel
theorem dX6_listCourts_23 : decode cX6_listCourts 23 = .ok (.iload_n 2, 1) := by decide +kernel
theorem dX6_listCourts_24 : decode cX6_listCourts 24 = .ok (.ishr, 1) := by decide +kernel
theorem dX6_listCourts_25 : decode cX6_listCourts 25 = .ok (.iconst 1, 1) := by decide +kernel
theorem dX6_listCourts_26 : decode cX6_listCourts 26 = .ok (.iand, 1) := by decide +kernel
theorem dX6_listCourts_27 : decode cX6_listCourts 27 = .ok (.iconst 1, 1) := by decide +kernel
theorem dX6_listCourts_28 : decode cX6_listCourts 28 = .ok (.if_icmp .ne 23, 3) := by decide +kernel
theorem dX6_listCourts_31 : decode cX6_listCourts 31 = .ok (.aload_n 0, 1) := by decide +kernel
theorem dX6_listCourts_32 : decode cX6_listCourts 32 = .ok (.getfield 11, 3) := by decide +kernel
theorem dX6_listCourts_35 : decode cX6_listCourts 35 = .ok (.aload_n 0, 1) := by decide +kernel
theorem dX6_listCourts_36 : decode cX6_listCourts 36 = .ok (.getfield 57, 3) := by decide +kernel
theorem dX6_listCourts_39 : decode cX6_listCourts 39 = .ok (.iload_n 2, 1) := by decide +kernel
theorem dX6_listCourts_40 : decode cX6_listCourts 40 = .ok (.iastore, 1) := by decide +kernel
theorem dX6_listCourts_41 : decode cX6_listCourts 41 = .ok (.aload_n 0, 1) := by decide +kernel
theorem dX6_listCourts_42 : decode cX6_listCourts 42 = .ok (.dup, 1) := by decide +kernel
theorem dX6_listCourts_43 : decode cX6_listCourts 43 = .ok (.getfield 57, 3) := by decide +kernel
theorem dX6_listCourts_46 : decode cX6_listCourts 46 = .ok (.iconst 1, 1) := by decide +kernel
theorem dX6_listCourts_47 : decode cX6_listCourts 47 = .ok (.iadd, 1) := by decide +kernel
theorem dX6_listCourts_48 : decode cX6_listCourts 48 = .ok (.putfield 57, 3) := by decide +kernel
theorem dX6_listCourts_51 : decode cX6_listCourts 51 = .ok (.iinc 2 1, 3) := by decide +kernel
theorem dX6_listCourts_54 : decode cX6_listCourts 54 = .ok (.goto (-47), 3) := by decide +kernel
theorem dX6_listCourts_57 : decode cX6_listCourts 57 = .ok (.return_, 1) := by decide +kernel
theorem dX6_measureSteps_0 : decode cX6_measureSteps 0 = .ok (.iconst 0, 1) := by decide +kernel
theorem dX6_measureSteps_1 : decode cX6_measureSteps 1 = .ok (.istore_n 2, 1) := by decide +kernel
theorem dX6_measureSteps_2 : decode cX6_measureSteps 2 = .ok (.iload_n 2, 1) := by decide +kernel
theorem dX6_measureSteps_3 : decode cX6_measureSteps 3 = .ok (.aload_n 0, 1) := by decide +kernel
theorem dX6_measureSteps_4 : decode cX6_measureSteps 4 = .ok (.getfield 57, 3) := by decide +kernel
theorem dX6_measureSteps_7 : decode cX6_measureSteps 7 = .ok (.if_icmp .ge 67, 3) := by decide +kernel
theorem dX6_measureSteps_10 : decode cX6_measureSteps 10 = .ok (.iconst 0, 1) := by decide +kernel
theorem dX6_measureSteps_11 : decode cX6_measureSteps 11 = .ok (.istore_n 3, 1) := by decide +kernel
theorem dX6_measureSteps_12 : decode cX6_measureSteps 12 = .ok (.iload_n 3, 1) := by decide +kernel
theorem dX6_measureSteps_13 : decode cX6_measureSteps 13 = .ok (.aload_n 0, 1) := by decide +kernel
theorem dX6_measureSteps_14 : decode cX6_measureSteps 14 = .ok (.getfield 57, 3) := by decide +kernel
theorem dX6_measureSteps_17 : decode cX6_measureSteps 17 = .ok (.if_icmp .ge 51, 3) := by decide +kernel
theorem dX6_measureSteps_20 : decode cX6_measureSteps 20 = .ok (.aload_n 1, 1) := by decide +kernel
theorem dX6_measureSteps_21 : decode cX6_measureSteps 21 = .ok (.aload_n 0, 1) := by decide +kernel
theorem dX6_measureSteps_22 : decode cX6_measureSteps 22 = .ok (.getfield 11, 3) := by decide +kernel
theorem dX6_measureSteps_25 : decode cX6_measureSteps 25 = .ok (.iload_n 2, 1) := by decide +kernel
theorem dX6_measureSteps_26 : decode cX6_measureSteps 26 = .ok (.iaload, 1) := by decide +kernel
theorem dX6_measureSteps_27 : decode cX6_measureSteps 27 = .ok (.aload_n 0, 1) := by decide +kernel
theorem dX6_measureSteps_28 : decode cX6_measureSteps 28 = .ok (.getfield 11, 3) := by decide +kernel
theorem dX6_measureSteps_31 : decode cX6_measureSteps 31 = .ok (.iload_n 3, 1) := by decide +kernel
theorem dX6_measureSteps_32 : decode cX6_measureSteps 32 = .ok (.iaload, 1) := by decide +kernel
theorem dX6_measureSteps_33 : decode cX6_measureSteps 33 = .ok (.invokevirtual 82, 3) := by decide +kernel
theorem dX6_measureSteps_36 : decode cX6_measureSteps 36 = .ok (.istore 4, 2) := by decide +kernel
theorem dX6_measureSteps_38 : decode cX6_measureSteps 38 = .ok (.aload_n 0, 1) := by decide +kernel
theorem dX6_measureSteps_39 : decode cX6_measureSteps 39 = .ok (.getfield 15, 3) := by decide +kernel
theorem dX6_measureSteps_42 : decode cX6_measureSteps 42 = .ok (.iload_n 2, 1) := by decide +kernel
theorem dX6_measureSteps_43 : decode cX6_measureSteps 43 = .ok (.bipush 10, 2) := by decide +kernel
theorem dX6_measureSteps_45 : decode cX6_measureSteps 45 = .ok (.imul, 1) := by decide +kernel
theorem dX6_measureSteps_46 : decode cX6_measureSteps 46 = .ok (.iload_n 3, 1) := by decide +kernel
theorem dX6_measureSteps_47 : decode cX6_measureSteps 47 = .ok (.iadd, 1) := by decide +kernel
theorem dX6_measureSteps_48 : decode cX6_measureSteps 48 = .ok (.iload 4, 2) := by decide +kernel
theorem dX6_measureSteps_50 : decode cX6_measureSteps 50 = .ok (.iconst (-1), 1) := by decide +kernel
theorem dX6_measureSteps_51 : decode cX6_measureSteps 51 = .ok (.if_icmp .ne 8, 3) := by decide +kernel
theorem dX6_measureSteps_54 : decode cX6_measureSteps 54 = .ok (.ldc 88, 2) := by decide +kernel
theorem dX6_measureSteps_56 : decode cX6_measureSteps 56 = .ok (.goto 5, 3) := by decide +kernel
theorem dX6_measureSteps_59 : decode cX6_measureSteps 59 = .ok (.iload 4, 2) := by decide +kernel
theorem dX6_measureSteps_61 : decode cX6_measureSteps 61 = .ok (.iastore, 1) := by decide +kernel
theorem dX6_measureSteps_62 : decode cX6_measureSteps 62 = .ok (.iinc 3 1, 3) := by decide +kernel
theorem dX6_measureSteps_65 : decode cX6_measureSteps 65 = .ok (.goto (-53), 3) := by decide +kernel
theorem dX6_measureSteps_68 : decode cX6_measureSteps 68 = .ok (.iinc 2 1, 3) := by decide +kernel
theorem dX6_measureSteps_71 : decode cX6_measureSteps 71 = .ok (.goto (-69), 3) := by decide +kernel
theorem dX6_measureSteps_74 : decode cX6_measureSteps 74 = .ok (.return_, 1) := by decide +kernel
theorem dX6_measureTours_0 : decode cX6_measureTours 0 = .ok (.aload_n 0, 1) := by decide +kernel
theorem dX6_measureTours_1 : decode cX6_measureTours 1 = .ok (.getfield 21, 3) := by decide +kernel
theorem dX6_measureTours_4 : decode cX6_measureTours 4 = .ok (.iconst 1, 1) := by decide +kernel
theorem dX6_measureTours_5 : decode cX6_measureTours 5 = .ok (.iload_n 1, 1) := by decide +kernel
theorem dX6_measureTours_6 : decode cX6_measureTours 6 = .ok (.ishl, 1) := by decide +kernel
theorem dX6_measureTours_7 : decode cX6_measureTours 7 = .ok (.iconst 0, 1) := by decide +kernel
theorem dX6_measureTours_8 : decode cX6_measureTours 8 = .ok (.iastore, 1) := by decide +kernel
theorem dX6_measureTours_9 : decode cX6_measureTours 9 = .ok (.aload_n 0, 1) := by decide +kernel
theorem dX6_measureTours_10 : decode cX6_measureTours 10 = .ok (.getfield 57, 3) := by decide +kernel
theorem dX6_measureTours_13 : decode cX6_measureTours 13 = .ok (.iconst 1, 1) := by decide +kernel
theorem dX6_measureTours_14 : decode cX6_measureTours 14 = .ok (.isub, 1) := by decide +kernel
theorem dX6_measureTours_15 : decode cX6_measureTours 15 = .ok (.iload_n 1, 1) := by decide +kernel
theorem dX6_measureTours_16 : decode cX6_measureTours 16 = .ok (.isub, 1) := by decide +kernel
theorem dX6_measureTours_17 : decode cX6_measureTours 17 = .ok (.istore_n 3, 1) := by decide +kernel
theorem dX6_measureTours_18 : decode cX6_measureTours 18 = .ok (.iconst 1, 1) := by decide +kernel
theorem dX6_measureTours_19 : decode cX6_measureTours 19 = .ok (.istore 4, 2) := by decide +kernel
theorem dX6_measureTours_21 : decode cX6_measureTours 21 = .ok (.iload 4, 2) := by decide +kernel
theorem dX6_measureTours_23 : decode cX6_measureTours 23 = .ok (.iconst 1, 1) := by decide +kernel
theorem dX6_measureTours_24 : decode cX6_measureTours 24 = .ok (.iload_n 3, 1) := by decide +kernel
theorem dX6_measureTours_25 : decode cX6_measureTours 25 = .ok (.ishl, 1) := by decide +kernel
theorem dX6_measureTours_26 : decode cX6_measureTours 26 = .ok (.if_icmp .ge 55, 3) := by decide +kernel
theorem dX6_measureTours_29 : decode cX6_measureTours 29 = .ok (.iload 4, 2) := by decide +kernel
theorem dX6_measureTours_31 : decode cX6_measureTours 31 = .ok (.iconst 1, 1) := by decide +kernel
theorem dX6_measureTours_32 : decode cX6_measureTours 32 = .ok (.ishl, 1) := by decide +kernel
theorem dX6_measureTours_33 : decode cX6_measureTours 33 = .ok (.iconst 1, 1) := by decide +kernel
theorem dX6_measureTours_34 : decode cX6_measureTours 34 = .ok (.ior, 1) := by decide +kernel
theorem dX6_measureTours_35 : decode cX6_measureTours 35 = .ok (.iload_n 1, 1) := by decide +kernel
theorem dX6_measureTours_36 : decode cX6_measureTours 36 = .ok (.ishl, 1) := by decide +kernel
theorem dX6_measureTours_37 : decode cX6_measureTours 37 = .ok (.istore 5, 2) := by decide +kernel
theorem dX6_measureTours_39 : decode cX6_measureTours 39 = .ok (.aload_n 0, 1) := by decide +kernel
theorem dX6_measureTours_40 : decode cX6_measureTours 40 = .ok (.iload_n 1, 1) := by decide +kernel
theorem dX6_measureTours_41 : decode cX6_measureTours 41 = .ok (.iload_n 3, 1) := by decide +kernel
theorem dX6_measureTours_42 : decode cX6_measureTours 42 = .ok (.iload 4, 2) := by decide +kernel
theorem dX6_measureTours_44 : decode cX6_measureTours 44 = .ok (.invokevirtual 89, 3) := by decide +kernel
theorem dX6_measureTours_47 : decode cX6_measureTours 47 = .ok (.istore 6, 2) := by decide +kernel
theorem dX6_measureTours_49 : decode cX6_measureTours 49 = .ok (.aload_n 0, 1) := by decide +kernel
theorem dX6_measureTours_50 : decode cX6_measureTours 50 = .ok (.getfield 21, 3) := by decide +kernel
theorem dX6_measureTours_53 : decode cX6_measureTours 53 = .ok (.iload 5, 2) := by decide +kernel
theorem dX6_measureTours_55 : decode cX6_measureTours 55 = .ok (.iload 6, 2) := by decide +kernel
theorem dX6_measureTours_57 : decode cX6_measureTours 57 = .ok (.aload_n 0, 1) := by decide +kernel
theorem dX6_measureTours_58 : decode cX6_measureTours 58 = .ok (.iload 5, 2) := by decide +kernel
theorem dX6_measureTours_60 : decode cX6_measureTours 60 = .ok (.aload_n 2, 1) := by decide +kernel
theorem dX6_measureTours_61 : decode cX6_measureTours 61 = .ok (.invokevirtual 93, 3) := by decide +kernel
theorem dX6_measureTours_64 : decode cX6_measureTours 64 = .ok (.if_icmp .gt 8, 3) := by decide +kernel
theorem dX6_measureTours_67 : decode cX6_measureTours 67 = .ok (.iload 6, 2) := by decide +kernel
theorem dX6_measureTours_69 : decode cX6_measureTours 69 = .ok (.goto 5, 3) := by decide +kernel
theorem dX6_measureTours_72 : decode cX6_measureTours 72 = .ok (.ldc 88, 2) := by decide +kernel
theorem dX6_measureTours_74 : decode cX6_measureTours 74 = .ok (.iastore, 1) := by decide +kernel
theorem dX6_measureTours_75 : decode cX6_measureTours 75 = .ok (.iinc 4 1, 3) := by decide +kernel
theorem dX6_measureTours_78 : decode cX6_measureTours 78 = .ok (.goto (-57), 3) := by decide +kernel
theorem dX6_measureTours_81 : decode cX6_measureTours 81 = .ok (.return_, 1) := by decide +kernel
theorem dX6_shortestTour_0 : decode cX6_shortestTour 0 = .ok (.ldc 88, 2) := by decide +kernel
theorem dX6_shortestTour_2 : decode cX6_shortestTour 2 = .ok (.istore 4, 2) := by decide +kernel
theorem dX6_shortestTour_4 : decode cX6_shortestTour 4 = .ok (.iconst 0, 1) := by decide +kernel
theorem dX6_shortestTour_5 : decode cX6_shortestTour 5 = .ok (.istore 5, 2) := by decide +kernel
theorem dX6_shortestTour_7 : decode cX6_shortestTour 7 = .ok (.iload 5, 2) := by decide +kernel
theorem dX6_shortestTour_9 : decode cX6_shortestTour 9 = .ok (.iload_n 2, 1) := by decide +kernel
theorem dX6_shortestTour_10 : decode cX6_shortestTour 10 = .ok (.if_icmp .ge 77, 3) := by decide +kernel
theorem dX6_shortestTour_13 : decode cX6_shortestTour 13 = .ok (.iload_n 3, 1) := by decide +kernel
theorem dX6_shortestTour_14 : decode cX6_shortestTour 14 = .ok (.iload 5, 2) := by decide +kernel
theorem dX6_shortestTour_16 : decode cX6_shortestTour 16 = .ok (.ishr, 1) := by decide +kernel
theorem dX6_shortestTour_17 : decode cX6_shortestTour 17 = .ok (.iconst 1, 1) := by decide +kernel
theorem dX6_shortestTour_18 : decode cX6_shortestTour 18 = .ok (.iand, 1) := by decide +kernel
theorem dX6_shortestTour_19 : decode cX6_shortestTour 19 = .ok (.iconst 1, 1) := by decide +kernel
theorem dX6_shortestTour_20 : decode cX6_shortestTour 20 = .ok (.if_icmp .ne 61, 3) := by decide +kernel
theorem dX6_shortestTour_23 : decode cX6_shortestTour 23 = .ok (.aload_n 0, 1) := by decide +kernel
theorem dX6_shortestTour_24 : decode cX6_shortestTour 24 = .ok (.iload_n 1, 1) := by decide +kernel
theorem dX6_shortestTour_25 : decode cX6_shortestTour 25 = .ok (.iload_n 2, 1) := by decide +kernel
theorem dX6_shortestTour_26 : decode cX6_shortestTour 26 = .ok (.iload_n 3, 1) := by decide +kernel
theorem dX6_shortestTour_27 : decode cX6_shortestTour 27 = .ok (.iconst 1, 1) := by decide +kernel
theorem dX6_shortestTour_28 : decode cX6_shortestTour 28 = .ok (.iload 5, 2) := by decide +kernel
theorem dX6_shortestTour_30 : decode cX6_shortestTour 30 = .ok (.ishl, 1) := by decide +kernel
theorem dX6_shortestTour_31 : decode cX6_shortestTour 31 = .ok (.iconst (-1), 1) := by decide +kernel
theorem dX6_shortestTour_32 : decode cX6_shortestTour 32 = .ok (.ixor, 1) := by decide +kernel
theorem dX6_shortestTour_33 : decode cX6_shortestTour 33 = .ok (.iand, 1) := by decide +kernel
theorem dX6_shortestTour_34 : decode cX6_shortestTour 34 = .ok (.iload 5, 2) := by decide +kernel
theorem dX6_shortestTour_36 : decode cX6_shortestTour 36 = .ok (.invokevirtual 97, 3) := by decide +kernel
theorem dX6_shortestTour_39 : decode cX6_shortestTour 39 = .ok (.istore 6, 2) := by decide +kernel
theorem dX6_shortestTour_41 : decode cX6_shortestTour 41 = .ok (.aload_n 0, 1) := by decide +kernel
theorem dX6_shortestTour_42 : decode cX6_shortestTour 42 = .ok (.getfield 18, 3) := by decide +kernel
theorem dX6_shortestTour_45 : decode cX6_shortestTour 45 = .ok (.iload_n 3, 1) := by decide +kernel
theorem dX6_shortestTour_46 : decode cX6_shortestTour 46 = .ok (.bipush 9, 2) := by decide +kernel
theorem dX6_shortestTour_48 : decode cX6_shortestTour 48 = .ok (.imul, 1) := by decide +kernel
theorem dX6_shortestTour_49 : decode cX6_shortestTour 49 = .ok (.iload 5, 2) := by decide +kernel
theorem dX6_shortestTour_51 : decode cX6_shortestTour 51 = .ok (.iadd, 1) := by decide +kernel
theorem dX6_shortestTour_52 : decode cX6_shortestTour 52 = .ok (.iload 6, 2) := by decide +kernel
theorem dX6_shortestTour_54 : decode cX6_shortestTour 54 = .ok (.iastore, 1) := by decide +kernel
theorem dX6_shortestTour_55 : decode cX6_shortestTour 55 = .ok (.iload 4, 2) := by decide +kernel
theorem dX6_shortestTour_57 : decode cX6_shortestTour 57 = .ok (.iload 6, 2) := by decide +kernel
theorem dX6_shortestTour_59 : decode cX6_shortestTour 59 = .ok (.aload_n 0, 1) := by decide +kernel
theorem dX6_shortestTour_60 : decode cX6_shortestTour 60 = .ok (.getfield 15, 3) := by decide +kernel
theorem dX6_shortestTour_63 : decode cX6_shortestTour 63 = .ok (.iload_n 1, 1) := by decide +kernel
theorem dX6_shortestTour_64 : decode cX6_shortestTour 64 = .ok (.iconst 1, 1) := by decide +kernel
theorem dX6_shortestTour_65 : decode cX6_shortestTour 65 = .ok (.iadd, 1) := by decide +kernel
theorem dX6_shortestTour_66 : decode cX6_shortestTour 66 = .ok (.iload 5, 2) := by decide +kernel
theorem dX6_shortestTour_68 : decode cX6_shortestTour 68 = .ok (.iadd, 1) := by decide +kernel
theorem dX6_shortestTour_69 : decode cX6_shortestTour 69 = .ok (.bipush 10, 2) := by decide +kernel
theorem dX6_shortestTour_71 : decode cX6_shortestTour 71 = .ok (.imul, 1) := by decide +kernel
theorem dX6_shortestTour_72 : decode cX6_shortestTour 72 = .ok (.iload_n 1, 1) := by decide +kernel
theorem dX6_shortestTour_73 : decode cX6_shortestTour 73 = .ok (.iadd, 1) := by decide +kernel
theorem dX6_shortestTour_74 : decode cX6_shortestTour 74 = .ok (.iaload, 1) := by decide +kernel
theorem dX6_shortestTour_75 : decode cX6_shortestTour 75 = .ok (.iadd, 1) := by decide +kernel
theorem dX6_shortestTour_76 : decode cX6_shortestTour 76 = .ok (.invokestatic 101, 3) := by decide +kernel
theorem dX6_shortestTour_79 : decode cX6_shortestTour 79 = .ok (.istore 4, 2) := by decide +kernel
theorem dX6_shortestTour_81 : decode cX6_shortestTour 81 = .ok (.iinc 5 1, 3) := by decide +kernel
theorem dX6_shortestTour_84 : decode cX6_shortestTour 84 = .ok (.goto (-77), 3) := by decide +kernel
theorem dX6_shortestTour_87 : decode cX6_shortestTour 87 = .ok (.iload 4, 2) := by decide +kernel
theorem dX6_shortestTour_89 : decode cX6_shortestTour 89 = .ok (.ireturn, 1) := by decide +kernel
theorem dX6_shortestPath_0 : decode cX6_shortestPath 0 = .ok (.iload_n 1, 1) := by decide +kernel
theorem dX6_shortestPath_1 : decode cX6_shortestPath 1 = .ok (.iconst 1, 1) := by decide +kernel
theorem dX6_shortestPath_2 : decode cX6_shortestPath 2 = .ok (.iadd, 1) := by decide +kernel
theorem dX6_shortestPath_3 : decode cX6_shortestPath 3 = .ok (.iload 4, 2) := by decide +kernel
theorem dX6_shortestPath_5 : decode cX6_shortestPath 5 = .ok (.iadd, 1) := by decide +kernel
theorem dX6_shortestPath_6 : decode cX6_shortestPath 6 = .ok (.istore 5, 2) := by decide +kernel
theorem dX6_shortestPath_8 : decode cX6_shortestPath 8 = .ok (.iload_n 3, 1) := by decide +kernel
theorem dX6_shortestPath_9 : decode cX6_shortestPath 9 = .ok (.ifCond .ne 16, 3) := by decide +kernel
theorem dX6_shortestPath_12 : decode cX6_shortestPath 12 = .ok (.aload_n 0, 1) := by decide +kernel
theorem dX6_shortestPath_13 : decode cX6_shortestPath 13 = .ok (.getfield 15, 3) := by decide +kernel
theorem dX6_shortestPath_16 : decode cX6_shortestPath 16 = .ok (.iload_n 1, 1) := by decide +kernel
theorem dX6_shortestPath_17 : decode cX6_shortestPath 17 = .ok (.bipush 10, 2) := by decide +kernel
theorem dX6_shortestPath_19 : decode cX6_shortestPath 19 = .ok (.imul, 1) := by decide +kernel
theorem dX6_shortestPath_20 : decode cX6_shortestPath 20 = .ok (.iload 5, 2) := by decide +kernel
theorem dX6_shortestPath_22 : decode cX6_shortestPath 22 = .ok (.iadd, 1) := by decide +kernel
theorem dX6_shortestPath_23 : decode cX6_shortestPath 23 = .ok (.iaload, 1) := by decide +kernel
theorem dX6_shortestPath_24 : decode cX6_shortestPath 24 = .ok (.ireturn, 1) := by decide +kernel
theorem dX6_shortestPath_25 : decode cX6_shortestPath 25 = .ok (.ldc 88, 2) := by decide +kernel
theorem dX6_shortestPath_27 : decode cX6_shortestPath 27 = .ok (.istore 6, 2) := by decide +kernel
theorem dX6_shortestPath_29 : decode cX6_shortestPath 29 = .ok (.iconst 0, 1) := by decide +kernel
theorem dX6_shortestPath_30 : decode cX6_shortestPath 30 = .ok (.istore 7, 2) := by decide +kernel
theorem dX6_shortestPath_32 : decode cX6_shortestPath 32 = .ok (.iload 7, 2) := by decide +kernel
theorem dX6_shortestPath_34 : decode cX6_shortestPath 34 = .ok (.iload_n 2, 1) := by decide +kernel
theorem dX6_shortestPath_35 : decode cX6_shortestPath 35 = .ok (.if_icmp .ge 60, 3) := by decide +kernel
theorem dX6_shortestPath_38 : decode cX6_shortestPath 38 = .ok (.iload_n 3, 1) := by decide +kernel
theorem dX6_shortestPath_39 : decode cX6_shortestPath 39 = .ok (.iload 7, 2) := by decide +kernel
theorem dX6_shortestPath_41 : decode cX6_shortestPath 41 = .ok (.ishr, 1) := by decide +kernel
theorem dX6_shortestPath_42 : decode cX6_shortestPath 42 = .ok (.iconst 1, 1) := by decide +kernel
theorem dX6_shortestPath_43 : decode cX6_shortestPath 43 = .ok (.iand, 1) := by decide +kernel
theorem dX6_shortestPath_44 : decode cX6_shortestPath 44 = .ok (.iconst 1, 1) := by decide +kernel
theorem dX6_shortestPath_45 : decode cX6_shortestPath 45 = .ok (.if_icmp .ne 44, 3) := by decide +kernel
theorem dX6_shortestPath_48 : decode cX6_shortestPath 48 = .ok (.aload_n 0, 1) := by decide +kernel
theorem dX6_shortestPath_49 : decode cX6_shortestPath 49 = .ok (.getfield 18, 3) := by decide +kernel
theorem dX6_shortestPath_52 : decode cX6_shortestPath 52 = .ok (.iload_n 3, 1) := by decide +kernel
theorem dX6_shortestPath_53 : decode cX6_shortestPath 53 = .ok (.bipush 9, 2) := by decide +kernel
theorem dX6_shortestPath_55 : decode cX6_shortestPath 55 = .ok (.imul, 1) := by decide +kernel
theorem dX6_shortestPath_56 : decode cX6_shortestPath 56 = .ok (.iload 7, 2) := by decide +kernel
theorem dX6_shortestPath_58 : decode cX6_shortestPath 58 = .ok (.iadd, 1) := by decide +kernel
theorem dX6_shortestPath_59 : decode cX6_shortestPath 59 = .ok (.iaload, 1) := by decide +kernel
theorem dX6_shortestPath_60 : decode cX6_shortestPath 60 = .ok (.aload_n 0, 1) := by decide +kernel
theorem dX6_shortestPath_61 : decode cX6_shortestPath 61 = .ok (.getfield 15, 3) := by decide +kernel
theorem dX6_shortestPath_64 : decode cX6_shortestPath 64 = .ok (.iload_n 1, 1) := by decide +kernel
theorem dX6_shortestPath_65 : decode cX6_shortestPath 65 = .ok (.iconst 1, 1) := by decide +kernel
theorem dX6_shortestPath_66 : decode cX6_shortestPath 66 = .ok (.iadd, 1) := by decide +kernel
theorem dX6_shortestPath_67 : decode cX6_shortestPath 67 = .ok (.iload 7, 2) := by decide +kernel
theorem dX6_shortestPath_69 : decode cX6_shortestPath 69 = .ok (.iadd, 1) := by decide +kernel
theorem dX6_shortestPath_70 : decode cX6_shortestPath 70 = .ok (.bipush 10, 2) := by decide +kernel
theorem dX6_shortestPath_72 : decode cX6_shortestPath 72 = .ok (.imul, 1) := by decide +kernel
theorem dX6_shortestPath_73 : decode cX6_shortestPath 73 = .ok (.iload 5, 2) := by decide +kernel
theorem dX6_shortestPath_75 : decode cX6_shortestPath 75 = .ok (.iadd, 1) := by decide +kernel
theorem dX6_shortestPath_76 : decode cX6_shortestPath 76 = .ok (.iaload, 1) := by decide +kernel
theorem dX6_shortestPath_77 : decode cX6_shortestPath 77 = .ok (.iadd, 1) := by decide +kernel
theorem dX6_shortestPath_78 : decode cX6_shortestPath 78 = .ok (.istore 8, 2) := by decide +kernel
theorem dX6_shortestPath_80 : decode cX6_shortestPath 80 = .ok (.iload 6, 2) := by decide +kernel
theorem dX6_shortestPath_82 : decode cX6_shortestPath 82 = .ok (.iload 8, 2) := by decide +kernel
theorem dX6_shortestPath_84 : decode cX6_shortestPath 84 = .ok (.invokestatic 101, 3) := by decide +kernel
theorem dX6_shortestPath_87 : decode cX6_shortestPath 87 = .ok (.istore 6, 2) := by decide +kernel
theorem dX6_shortestPath_89 : decode cX6_shortestPath 89 = .ok (.iinc 7 1, 3) := by decide +kernel
theorem dX6_shortestPath_92 : decode cX6_shortestPath 92 = .ok (.goto (-60), 3) := by decide +kernel
theorem dX6_shortestPath_95 : decode cX6_shortestPath 95 = .ok (.iload 6, 2) := by decide +kernel
theorem dX6_shortestPath_97 : decode cX6_shortestPath 97 = .ok (.ireturn, 1) := by decide +kernel
theorem dX6_leastWithin_0 : decode cX6_leastWithin 0 = .ok (.sipush 999, 3) := by decide +kernel
theorem dX6_leastWithin_3 : decode cX6_leastWithin 3 = .ok (.istore_n 3, 1) := by decide +kernel
theorem dX6_leastWithin_4 : decode cX6_leastWithin 4 = .ok (.iconst 0, 1) := by decide +kernel
theorem dX6_leastWithin_5 : decode cX6_leastWithin 5 = .ok (.istore 4, 2) := by decide +kernel
theorem dX6_leastWithin_7 : decode cX6_leastWithin 7 = .ok (.iload 4, 2) := by decide +kernel
theorem dX6_leastWithin_9 : decode cX6_leastWithin 9 = .ok (.aload_n 0, 1) := by decide +kernel
theorem dX6_leastWithin_10 : decode cX6_leastWithin 10 = .ok (.getfield 57, 3) := by decide +kernel
theorem dX6_leastWithin_13 : decode cX6_leastWithin 13 = .ok (.if_icmp .ge 35, 3) := by decide +kernel
theorem dX6_leastWithin_16 : decode cX6_leastWithin 16 = .ok (.iload_n 1, 1) := by decide +kernel
theorem dX6_leastWithin_17 : decode cX6_leastWithin 17 = .ok (.iload 4, 2) := by decide +kernel
theorem dX6_leastWithin_19 : decode cX6_leastWithin 19 = .ok (.ishr, 1) := by decide +kernel
theorem dX6_leastWithin_20 : decode cX6_leastWithin 20 = .ok (.iconst 1, 1) := by decide +kernel
theorem dX6_leastWithin_21 : decode cX6_leastWithin 21 = .ok (.iand, 1) := by decide +kernel
theorem dX6_leastWithin_22 : decode cX6_leastWithin 22 = .ok (.iconst 1, 1) := by decide +kernel
theorem dX6_leastWithin_23 : decode cX6_leastWithin 23 = .ok (.if_icmp .ne 19, 3) := by decide +kernel
theorem dX6_leastWithin_26 : decode cX6_leastWithin 26 = .ok (.iload_n 3, 1) := by decide +kernel
theorem dX6_leastWithin_27 : decode cX6_leastWithin 27 = .ok (.aload_n 2, 1) := by decide +kernel
theorem dX6_leastWithin_28 : decode cX6_leastWithin 28 = .ok (.aload_n 0, 1) := by decide +kernel
theorem dX6_leastWithin_29 : decode cX6_leastWithin 29 = .ok (.getfield 11, 3) := by decide +kernel
theorem dX6_leastWithin_32 : decode cX6_leastWithin 32 = .ok (.iload 4, 2) := by decide +kernel
theorem dX6_leastWithin_34 : decode cX6_leastWithin 34 = .ok (.iaload, 1) := by decide +kernel
theorem dX6_leastWithin_35 : decode cX6_leastWithin 35 = .ok (.invokevirtual 106, 3) := by decide +kernel
theorem dX6_leastWithin_38 : decode cX6_leastWithin 38 = .ok (.invokestatic 101, 3) := by decide +kernel
theorem dX6_leastWithin_41 : decode cX6_leastWithin 41 = .ok (.istore_n 3, 1) := by decide +kernel
theorem dX6_leastWithin_42 : decode cX6_leastWithin 42 = .ok (.iinc 4 1, 3) := by decide +kernel
theorem dX6_leastWithin_45 : decode cX6_leastWithin 45 = .ok (.goto (-38), 3) := by decide +kernel
theorem dX6_leastWithin_48 : decode cX6_leastWithin 48 = .ok (.iload_n 3, 1) := by decide +kernel
theorem dX6_leastWithin_49 : decode cX6_leastWithin 49 = .ok (.ireturn, 1) := by decide +kernel
theorem dX6_joinParts_0 : decode cX6_joinParts 0 = .ok (.iconst 1, 1) := by decide +kernel
theorem dX6_joinParts_1 : decode cX6_joinParts 1 = .ok (.istore_n 1, 1) := by decide +kernel
theorem dX6_joinParts_2 : decode cX6_joinParts 2 = .ok (.iload_n 1, 1) := by decide +kernel
theorem dX6_joinParts_3 : decode cX6_joinParts 3 = .ok (.iconst 1, 1) := by decide +kernel
theorem dX6_joinParts_4 : decode cX6_joinParts 4 = .ok (.aload_n 0, 1) := by decide +kernel
theorem dX6_joinParts_5 : decode cX6_joinParts 5 = .ok (.getfield 57, 3) := by decide +kernel
theorem dX6_joinParts_8 : decode cX6_joinParts 8 = .ok (.ishl, 1) := by decide +kernel
theorem dX6_joinParts_9 : decode cX6_joinParts 9 = .ok (.if_icmp .ge 20, 3) := by decide +kernel
theorem dX6_joinParts_12 : decode cX6_joinParts 12 = .ok (.aload_n 0, 1) := by decide +kernel
theorem dX6_joinParts_13 : decode cX6_joinParts 13 = .ok (.getfield 24, 3) := by decide +kernel
theorem dX6_joinParts_16 : decode cX6_joinParts 16 = .ok (.iload_n 1, 1) := by decide +kernel
theorem dX6_joinParts_17 : decode cX6_joinParts 17 = .ok (.aload_n 0, 1) := by decide +kernel
theorem dX6_joinParts_18 : decode cX6_joinParts 18 = .ok (.iload_n 1, 1) := by decide +kernel
theorem dX6_joinParts_19 : decode cX6_joinParts 19 = .ok (.invokevirtual 109, 3) := by decide +kernel
theorem dX6_joinParts_22 : decode cX6_joinParts 22 = .ok (.lastore, 1) := by decide +kernel
theorem dX6_joinParts_23 : decode cX6_joinParts 23 = .ok (.iinc 1 1, 3) := by decide +kernel
theorem dX6_joinParts_26 : decode cX6_joinParts 26 = .ok (.goto (-24), 3) := by decide +kernel
theorem dX6_joinParts_29 : decode cX6_joinParts 29 = .ok (.return_, 1) := by decide +kernel
theorem dX6_bestPlan_0 : decode cX6_bestPlan 0 = .ok (.iload_n 1, 1) := by decide +kernel
theorem dX6_bestPlan_1 : decode cX6_bestPlan 1 = .ok (.iload_n 1, 1) := by decide +kernel
theorem dX6_bestPlan_2 : decode cX6_bestPlan 2 = .ok (.iconst 1, 1) := by decide +kernel
theorem dX6_bestPlan_3 : decode cX6_bestPlan 3 = .ok (.isub, 1) := by decide +kernel
theorem dX6_bestPlan_4 : decode cX6_bestPlan 4 = .ok (.iand, 1) := by decide +kernel
theorem dX6_bestPlan_5 : decode cX6_bestPlan 5 = .ok (.istore_n 2, 1) := by decide +kernel
theorem dX6_bestPlan_6 : decode cX6_bestPlan 6 = .ok (.ldc2_w 115, 3) := by decide +kernel
theorem dX6_bestPlan_9 : decode cX6_bestPlan 9 = .ok (.lstore_n 3, 1) := by decide +kernel
theorem dX6_bestPlan_10 : decode cX6_bestPlan 10 = .ok (.iload_n 2, 1) := by decide +kernel
theorem dX6_bestPlan_11 : decode cX6_bestPlan 11 = .ok (.istore 5, 2) := by decide +kernel
theorem dX6_bestPlan_13 : decode cX6_bestPlan 13 = .ok (.iload 5, 2) := by decide +kernel
theorem dX6_bestPlan_15 : decode cX6_bestPlan 15 = .ok (.ifCond .lt 76, 3) := by decide +kernel
theorem dX6_bestPlan_18 : decode cX6_bestPlan 18 = .ok (.aload_n 0, 1) := by decide +kernel
theorem dX6_bestPlan_19 : decode cX6_bestPlan 19 = .ok (.getfield 21, 3) := by decide +kernel
theorem dX6_bestPlan_22 : decode cX6_bestPlan 22 = .ok (.iload_n 1, 1) := by decide +kernel
theorem dX6_bestPlan_23 : decode cX6_bestPlan 23 = .ok (.iload 5, 2) := by decide +kernel
theorem dX6_bestPlan_25 : decode cX6_bestPlan 25 = .ok (.ixor, 1) := by decide +kernel
theorem dX6_bestPlan_26 : decode cX6_bestPlan 26 = .ok (.iaload, 1) := by decide +kernel
theorem dX6_bestPlan_27 : decode cX6_bestPlan 27 = .ok (.istore 6, 2) := by decide +kernel
theorem dX6_bestPlan_29 : decode cX6_bestPlan 29 = .ok (.iload 6, 2) := by decide +kernel
theorem dX6_bestPlan_31 : decode cX6_bestPlan 31 = .ok (.ldc 88, 2) := by decide +kernel
theorem dX6_bestPlan_33 : decode cX6_bestPlan 33 = .ok (.if_icmp .eq 38, 3) := by decide +kernel
theorem dX6_bestPlan_36 : decode cX6_bestPlan 36 = .ok (.aload_n 0, 1) := by decide +kernel
theorem dX6_bestPlan_37 : decode cX6_bestPlan 37 = .ok (.getfield 24, 3) := by decide +kernel
theorem dX6_bestPlan_40 : decode cX6_bestPlan 40 = .ok (.iload 5, 2) := by decide +kernel
theorem dX6_bestPlan_42 : decode cX6_bestPlan 42 = .ok (.laload, 1) := by decide +kernel
theorem dX6_bestPlan_43 : decode cX6_bestPlan 43 = .ok (.aload_n 0, 1) := by decide +kernel
theorem dX6_bestPlan_44 : decode cX6_bestPlan 44 = .ok (.getfield 28, 3) := by decide +kernel
theorem dX6_bestPlan_47 : decode cX6_bestPlan 47 = .ok (.iload 5, 2) := by decide +kernel
theorem dX6_bestPlan_49 : decode cX6_bestPlan 49 = .ok (.laload, 1) := by decide +kernel
theorem dX6_bestPlan_50 : decode cX6_bestPlan 50 = .ok (.ladd, 1) := by decide +kernel
theorem dX6_bestPlan_51 : decode cX6_bestPlan 51 = .ok (.ldc2_w 117, 3) := by decide +kernel
theorem dX6_bestPlan_54 : decode cX6_bestPlan 54 = .ok (.ladd, 1) := by decide +kernel
theorem dX6_bestPlan_55 : decode cX6_bestPlan 55 = .ok (.iload 6, 2) := by decide +kernel
theorem dX6_bestPlan_57 : decode cX6_bestPlan 57 = .ok (.i2l, 1) := by decide +kernel
theorem dX6_bestPlan_58 : decode cX6_bestPlan 58 = .ok (.bipush 40, 2) := by decide +kernel
theorem dX6_bestPlan_60 : decode cX6_bestPlan 60 = .ok (.lshl, 1) := by decide +kernel
theorem dX6_bestPlan_61 : decode cX6_bestPlan 61 = .ok (.ladd, 1) := by decide +kernel
theorem dX6_bestPlan_62 : decode cX6_bestPlan 62 = .ok (.lstore 7, 2) := by decide +kernel
theorem dX6_bestPlan_64 : decode cX6_bestPlan 64 = .ok (.lload_n 3, 1) := by decide +kernel
theorem dX6_bestPlan_65 : decode cX6_bestPlan 65 = .ok (.lload 7, 2) := by decide +kernel
theorem dX6_bestPlan_67 : decode cX6_bestPlan 67 = .ok (.invokestatic 119, 3) := by decide +kernel
theorem dX6_bestPlan_70 : decode cX6_bestPlan 70 = .ok (.lstore_n 3, 1) := by decide +kernel
theorem dX6_bestPlan_71 : decode cX6_bestPlan 71 = .ok (.iload 5, 2) := by decide +kernel
theorem dX6_bestPlan_73 : decode cX6_bestPlan 73 = .ok (.ifCond .ne 7, 3) := by decide +kernel
theorem dX6_bestPlan_76 : decode cX6_bestPlan 76 = .ok (.iconst (-1), 1) := by decide +kernel
theorem dX6_bestPlan_77 : decode cX6_bestPlan 77 = .ok (.goto 9, 3) := by decide +kernel
theorem dX6_bestPlan_80 : decode cX6_bestPlan 80 = .ok (.iload 5, 2) := by decide +kernel
theorem dX6_bestPlan_82 : decode cX6_bestPlan 82 = .ok (.iconst 1, 1) := by decide +kernel
theorem dX6_bestPlan_83 : decode cX6_bestPlan 83 = .ok (.isub, 1) := by decide +kernel
theorem dX6_bestPlan_84 : decode cX6_bestPlan 84 = .ok (.iload_n 2, 1) := by decide +kernel
theorem dX6_bestPlan_85 : decode cX6_bestPlan 85 = .ok (.iand, 1) := by decide +kernel
theorem dX6_bestPlan_86 : decode cX6_bestPlan 86 = .ok (.istore 5, 2) := by decide +kernel
theorem dX6_bestPlan_88 : decode cX6_bestPlan 88 = .ok (.goto (-75), 3) := by decide +kernel
theorem dX6_bestPlan_91 : decode cX6_bestPlan 91 = .ok (.lload_n 3, 1) := by decide +kernel
theorem dX6_bestPlan_92 : decode cX6_bestPlan 92 = .ok (.lreturn, 1) := by decide +kernel
theorem dX6_keepPlan_0 : decode cX6_keepPlan 0 = .ok (.aload_n 0, 1) := by decide +kernel
theorem dX6_keepPlan_1 : decode cX6_keepPlan 1 = .ok (.lload_n 1, 1) := by decide +kernel
theorem dX6_keepPlan_2 : decode cX6_keepPlan 2 = .ok (.bipush 54, 2) := by decide +kernel
theorem dX6_keepPlan_4 : decode cX6_keepPlan 4 = .ok (.lshr, 1) := by decide +kernel
theorem dX6_keepPlan_5 : decode cX6_keepPlan 5 = .ok (.l2i, 1) := by decide +kernel
theorem dX6_keepPlan_6 : decode cX6_keepPlan 6 = .ok (.putfield 72, 3) := by decide +kernel
theorem dX6_keepPlan_9 : decode cX6_keepPlan 9 = .ok (.aload_n 0, 1) := by decide +kernel
theorem dX6_keepPlan_10 : decode cX6_keepPlan 10 = .ok (.lload_n 1, 1) := by decide +kernel
theorem dX6_keepPlan_11 : decode cX6_keepPlan 11 = .ok (.bipush 40, 2) := by decide +kernel
theorem dX6_keepPlan_13 : decode cX6_keepPlan 13 = .ok (.lshr, 1) := by decide +kernel
theorem dX6_keepPlan_14 : decode cX6_keepPlan 14 = .ok (.l2i, 1) := by decide +kernel
theorem dX6_keepPlan_15 : decode cX6_keepPlan 15 = .ok (.sipush 16383, 3) := by decide +kernel
theorem dX6_keepPlan_18 : decode cX6_keepPlan 18 = .ok (.iand, 1) := by decide +kernel
theorem dX6_keepPlan_19 : decode cX6_keepPlan 19 = .ok (.putfield 75, 3) := by decide +kernel
theorem dX6_keepPlan_22 : decode cX6_keepPlan 22 = .ok (.aload_n 0, 1) := by decide +kernel
theorem dX6_keepPlan_23 : decode cX6_keepPlan 23 = .ok (.getfield 31, 3) := by decide +kernel
theorem dX6_keepPlan_26 : decode cX6_keepPlan 26 = .ok (.iconst (-1), 1) := by decide +kernel
theorem dX6_keepPlan_27 : decode cX6_keepPlan 27 = .ok (.invokestatic 122, 3) := by decide +kernel
theorem dX6_keepPlan_30 : decode cX6_keepPlan 30 = .ok (.aload_n 0, 1) := by decide +kernel
theorem dX6_keepPlan_31 : decode cX6_keepPlan 31 = .ok (.getfield 37, 3) := by decide +kernel
theorem dX6_keepPlan_34 : decode cX6_keepPlan 34 = .ok (.iconst 0, 1) := by decide +kernel
theorem dX6_keepPlan_35 : decode cX6_keepPlan 35 = .ok (.invokestatic 122, 3) := by decide +kernel
theorem dX6_keepPlan_38 : decode cX6_keepPlan 38 = .ok (.iconst 0, 1) := by decide +kernel
theorem dX6_keepPlan_39 : decode cX6_keepPlan 39 = .ok (.istore_n 3, 1) := by decide +kernel
theorem dX6_keepPlan_40 : decode cX6_keepPlan 40 = .ok (.iload_n 3, 1) := by decide +kernel
theorem dX6_keepPlan_41 : decode cX6_keepPlan 41 = .ok (.aload_n 0, 1) := by decide +kernel
theorem dX6_keepPlan_42 : decode cX6_keepPlan 42 = .ok (.getfield 72, 3) := by decide +kernel
theorem dX6_keepPlan_45 : decode cX6_keepPlan 45 = .ok (.if_icmp .ge 32, 3) := by decide +kernel
theorem dX6_keepPlan_48 : decode cX6_keepPlan 48 = .ok (.iload_n 3, 1) := by decide +kernel
theorem dX6_keepPlan_49 : decode cX6_keepPlan 49 = .ok (.bipush 10, 2) := by decide +kernel
theorem dX6_keepPlan_51 : decode cX6_keepPlan 51 = .ok (.if_icmp .ge 26, 3) := by decide +kernel
theorem dX6_keepPlan_54 : decode cX6_keepPlan 54 = .ok (.aload_n 0, 1) := by decide +kernel
theorem dX6_keepPlan_55 : decode cX6_keepPlan 55 = .ok (.getfield 34, 3) := by decide +kernel
theorem dX6_keepPlan_58 : decode cX6_keepPlan 58 = .ok (.iload_n 3, 1) := by decide +kernel
theorem dX6_keepPlan_59 : decode cX6_keepPlan 59 = .ok (.aload_n 0, 1) := by decide +kernel
theorem dX6_keepPlan_60 : decode cX6_keepPlan 60 = .ok (.getfield 21, 3) := by decide +kernel
theorem dX6_keepPlan_63 : decode cX6_keepPlan 63 = .ok (.aload_n 0, 1) := by decide +kernel
theorem dX6_keepPlan_64 : decode cX6_keepPlan 64 = .ok (.iload_n 3, 1) := by decide +kernel
theorem dX6_keepPlan_65 : decode cX6_keepPlan 65 = .ok (.lload_n 1, 1) := by decide +kernel
theorem dX6_keepPlan_66 : decode cX6_keepPlan 66 = .ok (.invokevirtual 128, 3) := by decide +kernel
theorem dX6_keepPlan_69 : decode cX6_keepPlan 69 = .ok (.iaload, 1) := by decide +kernel
theorem dX6_keepPlan_70 : decode cX6_keepPlan 70 = .ok (.iastore, 1) := by decide +kernel
theorem dX6_keepPlan_71 : decode cX6_keepPlan 71 = .ok (.iinc 3 1, 3) := by decide +kernel
theorem dX6_keepPlan_74 : decode cX6_keepPlan 74 = .ok (.goto (-34), 3) := by decide +kernel
theorem dX6_keepPlan_77 : decode cX6_keepPlan 77 = .ok (.return_, 1) := by decide +kernel
theorem dX6_keepPartOf_0 : decode cX6_keepPartOf 0 = .ok (.iconst 0, 1) := by decide +kernel
theorem dX6_keepPartOf_1 : decode cX6_keepPartOf 1 = .ok (.istore 4, 2) := by decide +kernel
theorem dX6_keepPartOf_3 : decode cX6_keepPartOf 3 = .ok (.iconst 0, 1) := by decide +kernel
theorem dX6_keepPartOf_4 : decode cX6_keepPartOf 4 = .ok (.istore 5, 2) := by decide +kernel
theorem dX6_keepPartOf_6 : decode cX6_keepPartOf 6 = .ok (.iload 5, 2) := by decide +kernel
theorem dX6_keepPartOf_8 : decode cX6_keepPartOf 8 = .ok (.aload_n 0, 1) := by decide +kernel
theorem dX6_keepPartOf_9 : decode cX6_keepPartOf 9 = .ok (.getfield 57, 3) := by decide +kernel
theorem dX6_keepPartOf_12 : decode cX6_keepPartOf 12 = .ok (.if_icmp .ge 68, 3) := by decide +kernel
theorem dX6_keepPartOf_15 : decode cX6_keepPartOf 15 = .ok (.lload_n 2, 1) := by decide +kernel
theorem dX6_keepPartOf_16 : decode cX6_keepPartOf 16 = .ok (.iload 5, 2) := by decide +kernel
theorem dX6_keepPartOf_18 : decode cX6_keepPartOf 18 = .ok (.invokestatic 46, 3) := by decide +kernel
theorem dX6_keepPartOf_21 : decode cX6_keepPartOf 21 = .ok (.lshr, 1) := by decide +kernel
theorem dX6_keepPartOf_22 : decode cX6_keepPartOf 22 = .ok (.l2i, 1) := by decide +kernel
theorem dX6_keepPartOf_23 : decode cX6_keepPartOf 23 = .ok (.bipush 15, 2) := by decide +kernel
theorem dX6_keepPartOf_25 : decode cX6_keepPartOf 25 = .ok (.iand, 1) := by decide +kernel
theorem dX6_keepPartOf_26 : decode cX6_keepPartOf 26 = .ok (.istore 6, 2) := by decide +kernel
theorem dX6_keepPartOf_28 : decode cX6_keepPartOf 28 = .ok (.iload 6, 2) := by decide +kernel
theorem dX6_keepPartOf_30 : decode cX6_keepPartOf 30 = .ok (.iload_n 1, 1) := by decide +kernel
theorem dX6_keepPartOf_31 : decode cX6_keepPartOf 31 = .ok (.if_icmp .ne 43, 3) := by decide +kernel
theorem dX6_keepPartOf_34 : decode cX6_keepPartOf 34 = .ok (.iload 4, 2) := by decide +kernel
theorem dX6_keepPartOf_36 : decode cX6_keepPartOf 36 = .ok (.iconst 1, 1) := by decide +kernel
theorem dX6_keepPartOf_37 : decode cX6_keepPartOf 37 = .ok (.iload 5, 2) := by decide +kernel
theorem dX6_keepPartOf_39 : decode cX6_keepPartOf 39 = .ok (.ishl, 1) := by decide +kernel
theorem dX6_keepPartOf_40 : decode cX6_keepPartOf 40 = .ok (.ior, 1) := by decide +kernel
theorem dX6_keepPartOf_41 : decode cX6_keepPartOf 41 = .ok (.istore 4, 2) := by decide +kernel
theorem dX6_keepPartOf_43 : decode cX6_keepPartOf 43 = .ok (.aload_n 0, 1) := by decide +kernel
theorem dX6_keepPartOf_44 : decode cX6_keepPartOf 44 = .ok (.getfield 31, 3) := by decide +kernel
theorem dX6_keepPartOf_47 : decode cX6_keepPartOf 47 = .ok (.aload_n 0, 1) := by decide +kernel
theorem dX6_keepPartOf_48 : decode cX6_keepPartOf 48 = .ok (.getfield 11, 3) := by decide +kernel
theorem dX6_keepPartOf_51 : decode cX6_keepPartOf 51 = .ok (.iload 5, 2) := by decide +kernel
theorem dX6_keepPartOf_53 : decode cX6_keepPartOf 53 = .ok (.iaload, 1) := by decide +kernel
theorem dX6_keepPartOf_54 : decode cX6_keepPartOf 54 = .ok (.iload_n 1, 1) := by decide +kernel
theorem dX6_keepPartOf_55 : decode cX6_keepPartOf 55 = .ok (.iastore, 1) := by decide +kernel
theorem dX6_keepPartOf_56 : decode cX6_keepPartOf 56 = .ok (.aload_n 0, 1) := by decide +kernel
theorem dX6_keepPartOf_57 : decode cX6_keepPartOf 57 = .ok (.getfield 37, 3) := by decide +kernel
theorem dX6_keepPartOf_60 : decode cX6_keepPartOf 60 = .ok (.iload_n 1, 1) := by decide +kernel
theorem dX6_keepPartOf_61 : decode cX6_keepPartOf 61 = .ok (.dup2, 1) := by decide +kernel
theorem dX6_keepPartOf_62 : decode cX6_keepPartOf 62 = .ok (.iaload, 1) := by decide +kernel
theorem dX6_keepPartOf_63 : decode cX6_keepPartOf 63 = .ok (.iconst 1, 1) := by decide +kernel
theorem dX6_keepPartOf_64 : decode cX6_keepPartOf 64 = .ok (.aload_n 0, 1) := by decide +kernel
theorem dX6_keepPartOf_65 : decode cX6_keepPartOf 65 = .ok (.getfield 11, 3) := by decide +kernel
theorem dX6_keepPartOf_68 : decode cX6_keepPartOf 68 = .ok (.iload 5, 2) := by decide +kernel
theorem dX6_keepPartOf_70 : decode cX6_keepPartOf 70 = .ok (.iaload, 1) := by decide +kernel
theorem dX6_keepPartOf_71 : decode cX6_keepPartOf 71 = .ok (.ishl, 1) := by decide +kernel
theorem dX6_keepPartOf_72 : decode cX6_keepPartOf 72 = .ok (.ior, 1) := by decide +kernel
theorem dX6_keepPartOf_73 : decode cX6_keepPartOf 73 = .ok (.iastore, 1) := by decide +kernel
theorem dX6_keepPartOf_74 : decode cX6_keepPartOf 74 = .ok (.iinc 5 1, 3) := by decide +kernel
theorem dX6_keepPartOf_77 : decode cX6_keepPartOf 77 = .ok (.goto (-71), 3) := by decide +kernel
theorem dX6_keepPartOf_80 : decode cX6_keepPartOf 80 = .ok (.iload 4, 2) := by decide +kernel
theorem dX6_keepPartOf_82 : decode cX6_keepPartOf 82 = .ok (.ireturn, 1) := by decide +kernel
theorem dX7_init_0 : decode cX7_init 0 = .ok (.aload_n 0, 1) := by decide +kernel
theorem dX7_init_1 : decode cX7_init 1 = .ok (.invokespecial 3, 3) := by decide +kernel
theorem dX7_init_4 : decode cX7_init 4 = .ok (.aload_n 0, 1) := by decide +kernel
end
section
theorem dX7_init_5 : decode cX7_init 5 = .ok (.bipush 60, 2) := by decide +kernel
theorem dX7_init_7 : decode cX7_init 7 = .ok (.anewarray 11, 3) := by decide +kernel
theorem dX7_init_10 : decode cX7_init 10 = .ok (.putfield 13, 3) := by decide +kernel
theorem dX7_init_13 : decode cX7_init 13 = .ok (.return_, 1) := by decide +kernel
theorem dX7_size_0 : decode cX7_size 0 = .ok (.aload_n 0, 1) := by decide +kernel
theorem dX7_size_1 : decode cX7_size 1 = .ok (.getfield 17, 3) := by decide +kernel
theorem dX7_size_4 : decode cX7_size 4 = .ok (.ireturn, 1) := by decide +kernel
theorem dX7_add_0 : decode cX7_add 0 = .ok (.aload_n 0, 1) := by decide +kernel
theorem dX7_add_1 : decode cX7_add 1 = .ok (.getfield 17, 3) := by decide +kernel
theorem dX7_add_4 : decode cX7_add 4 = .ok (.bipush 60, 2) := by decide +kernel
theorem dX7_add_6 : decode cX7_add 6 = .ok (.if_icmp .lt 6, 3) := by decide +kernel
theorem dX7_add_9 : decode cX7_add 9 = .ok (.bipush (-3), 2) := by decide +kernel
theorem dX7_add_11 : decode cX7_add 11 = .ok (.ireturn, 1) := by decide +kernel
theorem dX7_add_12 : decode cX7_add 12 = .ok (.aload_n 0, 1) := by decide +kernel
theorem dX7_add_13 : decode cX7_add 13 = .ok (.getfield 13, 3) := by decide +kernel
theorem dX7_add_16 : decode cX7_add 16 = .ok (.aload_n 0, 1) := by decide +kernel
theorem dX7_add_17 : decode cX7_add 17 = .ok (.getfield 17, 3) := by decide +kernel
theorem dX7_add_20 : decode cX7_add 20 = .ok (.new 11, 3) := by decide +kernel
theorem dX7_add_23 : decode cX7_add 23 = .ok (.dup, 1) := by decide +kernel
theorem dX7_add_24 : decode cX7_add 24 = .ok (.iload_n 1, 1) := by decide +kernel
theorem dX7_add_25 : decode cX7_add 25 = .ok (.iload_n 2, 1) := by decide +kernel
theorem dX7_add_26 : decode cX7_add 26 = .ok (.invokespecial 21, 3) := by decide +kernel
theorem dX7_add_29 : decode cX7_add 29 = .ok (.aastore, 1) := by decide +kernel
theorem dX7_add_30 : decode cX7_add 30 = .ok (.aload_n 0, 1) := by decide +kernel
theorem dX7_add_31 : decode cX7_add 31 = .ok (.dup, 1) := by decide +kernel
theorem dX7_add_32 : decode cX7_add 32 = .ok (.getfield 17, 3) := by decide +kernel
theorem dX7_add_35 : decode cX7_add 35 = .ok (.iconst 1, 1) := by decide +kernel
theorem dX7_add_36 : decode cX7_add 36 = .ok (.iadd, 1) := by decide +kernel
theorem dX7_add_37 : decode cX7_add 37 = .ok (.putfield 17, 3) := by decide +kernel
theorem dX7_add_40 : decode cX7_add 40 = .ok (.aload_n 0, 1) := by decide +kernel
theorem dX7_add_41 : decode cX7_add 41 = .ok (.getfield 17, 3) := by decide +kernel
theorem dX7_add_44 : decode cX7_add 44 = .ok (.iconst 1, 1) := by decide +kernel
theorem dX7_add_45 : decode cX7_add 45 = .ok (.isub, 1) := by decide +kernel
theorem dX7_add_46 : decode cX7_add 46 = .ok (.ireturn, 1) := by decide +kernel
theorem dX7_find_0 : decode cX7_find 0 = .ok (.iload_n 1, 1) := by decide +kernel
theorem dX7_find_1 : decode cX7_find 1 = .ok (.ifCond .lt 20, 3) := by decide +kernel
theorem dX7_find_4 : decode cX7_find 4 = .ok (.iload_n 1, 1) := by decide +kernel
theorem dX7_find_5 : decode cX7_find 5 = .ok (.aload_n 0, 1) := by decide +kernel
theorem dX7_find_6 : decode cX7_find 6 = .ok (.getfield 17, 3) := by decide +kernel
theorem dX7_find_9 : decode cX7_find 9 = .ok (.if_icmp .ge 12, 3) := by decide +kernel
theorem dX7_find_12 : decode cX7_find 12 = .ok (.aload_n 0, 1) := by decide +kernel
theorem dX7_find_13 : decode cX7_find 13 = .ok (.getfield 13, 3) := by decide +kernel
theorem dX7_find_16 : decode cX7_find 16 = .ok (.iload_n 1, 1) := by decide +kernel
theorem dX7_find_17 : decode cX7_find 17 = .ok (.aaload, 1) := by decide +kernel
theorem dX7_find_18 : decode cX7_find 18 = .ok (.goto 4, 3) := by decide +kernel
theorem dX7_find_21 : decode cX7_find 21 = .ok (.aconst_null, 1) := by decide +kernel
theorem dX7_find_22 : decode cX7_find 22 = .ok (.areturn, 1) := by decide +kernel
theorem dX7_fillYear_0 : decode cX7_fillYear 0 = .ok (.aload_n 2, 1) := by decide +kernel
theorem dX7_fillYear_1 : decode cX7_fillYear 1 = .ok (.iload_n 3, 1) := by decide +kernel
theorem dX7_fillYear_2 : decode cX7_fillYear 2 = .ok (.invokevirtual 24, 3) := by decide +kernel
theorem dX7_fillYear_5 : decode cX7_fillYear 5 = .ok (.aload_n 2, 1) := by decide +kernel
theorem dX7_fillYear_6 : decode cX7_fillYear 6 = .ok (.getfield 30, 3) := by decide +kernel
theorem dX7_fillYear_9 : decode cX7_fillYear 9 = .ok (.iconst 1, 1) := by decide +kernel
theorem dX7_fillYear_10 : decode cX7_fillYear 10 = .ok (.iadd, 1) := by decide +kernel
theorem dX7_fillYear_11 : decode cX7_fillYear 11 = .ok (.istore 4, 2) := by decide +kernel
theorem dX7_fillYear_13 : decode cX7_fillYear 13 = .ok (.iconst 0, 1) := by decide +kernel
theorem dX7_fillYear_14 : decode cX7_fillYear 14 = .ok (.istore 5, 2) := by decide +kernel
theorem dX7_fillYear_16 : decode cX7_fillYear 16 = .ok (.iload 5, 2) := by decide +kernel
theorem dX7_fillYear_18 : decode cX7_fillYear 18 = .ok (.aload_n 0, 1) := by decide +kernel
theorem dX7_fillYear_19 : decode cX7_fillYear 19 = .ok (.getfield 17, 3) := by decide +kernel
theorem dX7_fillYear_22 : decode cX7_fillYear 22 = .ok (.if_icmp .ge 109, 3) := by decide +kernel
theorem dX7_fillYear_25 : decode cX7_fillYear 25 = .ok (.iload 4, 2) := by decide +kernel
theorem dX7_fillYear_27 : decode cX7_fillYear 27 = .ok (.iload 5, 2) := by decide +kernel
theorem dX7_fillYear_29 : decode cX7_fillYear 29 = .ok (.iadd, 1) := by decide +kernel
theorem dX7_fillYear_30 : decode cX7_fillYear 30 = .ok (.aload_n 0, 1) := by decide +kernel
theorem dX7_fillYear_31 : decode cX7_fillYear 31 = .ok (.getfield 17, 3) := by decide +kernel
theorem dX7_fillYear_34 : decode cX7_fillYear 34 = .ok (.irem, 1) := by decide +kernel
theorem dX7_fillYear_35 : decode cX7_fillYear 35 = .ok (.istore 6, 2) := by decide +kernel
theorem dX7_fillYear_37 : decode cX7_fillYear 37 = .ok (.aload_n 0, 1) := by decide +kernel
theorem dX7_fillYear_38 : decode cX7_fillYear 38 = .ok (.getfield 13, 3) := by decide +kernel
theorem dX7_fillYear_41 : decode cX7_fillYear 41 = .ok (.iload 6, 2) := by decide +kernel
theorem dX7_fillYear_43 : decode cX7_fillYear 43 = .ok (.aaload, 1) := by decide +kernel
theorem dX7_fillYear_44 : decode cX7_fillYear 44 = .ok (.astore 7, 2) := by decide +kernel
theorem dX7_fillYear_46 : decode cX7_fillYear 46 = .ok (.aload 7, 2) := by decide +kernel
theorem dX7_fillYear_48 : decode cX7_fillYear 48 = .ok (.getfield 33, 3) := by decide +kernel
theorem dX7_fillYear_51 : decode cX7_fillYear 51 = .ok (.iload_n 1, 1) := by decide +kernel
theorem dX7_fillYear_52 : decode cX7_fillYear 52 = .ok (.if_icmp .ne 73, 3) := by decide +kernel
theorem dX7_fillYear_55 : decode cX7_fillYear 55 = .ok (.aload 7, 2) := by decide +kernel
theorem dX7_fillYear_57 : decode cX7_fillYear 57 = .ok (.aload_n 2, 1) := by decide +kernel
theorem dX7_fillYear_58 : decode cX7_fillYear 58 = .ok (.getfield 36, 3) := by decide +kernel
theorem dX7_fillYear_61 : decode cX7_fillYear 61 = .ok (.iload_n 3, 1) := by decide +kernel
theorem dX7_fillYear_62 : decode cX7_fillYear 62 = .ok (.invokevirtual 40, 3) := by decide +kernel
theorem dX7_fillYear_65 : decode cX7_fillYear 65 = .ok (.ifCond .eq 60, 3) := by decide +kernel
theorem dX7_fillYear_68 : decode cX7_fillYear 68 = .ok (.aload 7, 2) := by decide +kernel
theorem dX7_fillYear_70 : decode cX7_fillYear 70 = .ok (.iload_n 3, 1) := by decide +kernel
theorem dX7_fillYear_71 : decode cX7_fillYear 71 = .ok (.invokevirtual 44, 3) := by decide +kernel
theorem dX7_fillYear_74 : decode cX7_fillYear 74 = .ok (.aload_n 2, 1) := by decide +kernel
theorem dX7_fillYear_75 : decode cX7_fillYear 75 = .ok (.iload 6, 2) := by decide +kernel
theorem dX7_fillYear_77 : decode cX7_fillYear 77 = .ok (.putfield 30, 3) := by decide +kernel
theorem dX7_fillYear_80 : decode cX7_fillYear 80 = .ok (.aload 7, 2) := by decide +kernel
theorem dX7_fillYear_82 : decode cX7_fillYear 82 = .ok (.aload_n 2, 1) := by decide +kernel
theorem dX7_fillYear_83 : decode cX7_fillYear 83 = .ok (.getfield 36, 3) := by decide +kernel
theorem dX7_fillYear_86 : decode cX7_fillYear 86 = .ok (.invokevirtual 47, 3) := by decide +kernel
theorem dX7_fillYear_89 : decode cX7_fillYear 89 = .ok (.ifCond .ne 14, 3) := by decide +kernel
theorem dX7_fillYear_92 : decode cX7_fillYear 92 = .ok (.aload_n 0, 1) := by decide +kernel
theorem dX7_fillYear_93 : decode cX7_fillYear 93 = .ok (.iload 6, 2) := by decide +kernel
theorem dX7_fillYear_95 : decode cX7_fillYear 95 = .ok (.aload_n 2, 1) := by decide +kernel
theorem dX7_fillYear_96 : decode cX7_fillYear 96 = .ok (.iload_n 3, 1) := by decide +kernel
theorem dX7_fillYear_97 : decode cX7_fillYear 97 = .ok (.invokevirtual 51, 3) := by decide +kernel
theorem dX7_fillYear_100 : decode cX7_fillYear 100 = .ok (.iload 6, 2) := by decide +kernel
theorem dX7_fillYear_102 : decode cX7_fillYear 102 = .ok (.ireturn, 1) := by decide +kernel
theorem dX7_fillYear_103 : decode cX7_fillYear 103 = .ok (.aload 7, 2) := by decide +kernel
theorem dX7_fillYear_105 : decode cX7_fillYear 105 = .ok (.dup, 1) := by decide +kernel
theorem dX7_fillYear_106 : decode cX7_fillYear 106 = .ok (.getfield 55, 3) := by decide +kernel
theorem dX7_fillYear_109 : decode cX7_fillYear 109 = .ok (.aload_n 2, 1) := by decide +kernel
theorem dX7_fillYear_110 : decode cX7_fillYear 110 = .ok (.getfield 36, 3) := by decide +kernel
theorem dX7_fillYear_113 : decode cX7_fillYear 113 = .ok (.getfield 58, 3) := by decide +kernel
theorem dX7_fillYear_116 : decode cX7_fillYear 116 = .ok (.isub, 1) := by decide +kernel
theorem dX7_fillYear_117 : decode cX7_fillYear 117 = .ok (.putfield 55, 3) := by decide +kernel
theorem dX7_fillYear_120 : decode cX7_fillYear 120 = .ok (.aload_n 2, 1) := by decide +kernel
theorem dX7_fillYear_121 : decode cX7_fillYear 121 = .ok (.iload_n 3, 1) := by decide +kernel
theorem dX7_fillYear_122 : decode cX7_fillYear 122 = .ok (.invokevirtual 63, 3) := by decide +kernel
theorem dX7_fillYear_125 : decode cX7_fillYear 125 = .ok (.iinc 5 1, 3) := by decide +kernel
theorem dX7_fillYear_128 : decode cX7_fillYear 128 = .ok (.goto (-112), 3) := by decide +kernel
theorem dX7_fillYear_131 : decode cX7_fillYear 131 = .ok (.iconst (-1), 1) := by decide +kernel
theorem dX7_fillYear_132 : decode cX7_fillYear 132 = .ok (.ireturn, 1) := by decide +kernel
theorem dX7_appoint_0 : decode cX7_appoint 0 = .ok (.aload_n 0, 1) := by decide +kernel
theorem dX7_appoint_1 : decode cX7_appoint 1 = .ok (.getfield 13, 3) := by decide +kernel
theorem dX7_appoint_4 : decode cX7_appoint 4 = .ok (.iload_n 1, 1) := by decide +kernel
theorem dX7_appoint_5 : decode cX7_appoint 5 = .ok (.aaload, 1) := by decide +kernel
theorem dX7_appoint_6 : decode cX7_appoint 6 = .ok (.aload_n 2, 1) := by decide +kernel
theorem dX7_appoint_7 : decode cX7_appoint 7 = .ok (.getfield 36, 3) := by decide +kernel
theorem dX7_appoint_10 : decode cX7_appoint 10 = .ok (.invokevirtual 66, 3) := by decide +kernel
theorem dX7_appoint_13 : decode cX7_appoint 13 = .ok (.istore 4, 2) := by decide +kernel
theorem dX7_appoint_15 : decode cX7_appoint 15 = .ok (.iload 4, 2) := by decide +kernel
theorem dX7_appoint_17 : decode cX7_appoint 17 = .ok (.ifCond .eq 24, 3) := by decide +kernel
theorem dX7_appoint_20 : decode cX7_appoint 20 = .ok (.aload_n 0, 1) := by decide +kernel
theorem dX7_appoint_21 : decode cX7_appoint 21 = .ok (.getfield 13, 3) := by decide +kernel
theorem dX7_appoint_24 : decode cX7_appoint 24 = .ok (.iload_n 1, 1) := by decide +kernel
theorem dX7_appoint_25 : decode cX7_appoint 25 = .ok (.aaload, 1) := by decide +kernel
theorem dX7_appoint_26 : decode cX7_appoint 26 = .ok (.dup, 1) := by decide +kernel
theorem dX7_appoint_27 : decode cX7_appoint 27 = .ok (.getfield 55, 3) := by decide +kernel
theorem dX7_appoint_30 : decode cX7_appoint 30 = .ok (.aload_n 2, 1) := by decide +kernel
theorem dX7_appoint_31 : decode cX7_appoint 31 = .ok (.getfield 36, 3) := by decide +kernel
theorem dX7_appoint_34 : decode cX7_appoint 34 = .ok (.getfield 69, 3) := by decide +kernel
theorem dX7_appoint_37 : decode cX7_appoint 37 = .ok (.isub, 1) := by decide +kernel
theorem dX7_appoint_38 : decode cX7_appoint 38 = .ok (.putfield 55, 3) := by decide +kernel
theorem dX7_appoint_41 : decode cX7_appoint 41 = .ok (.aload_n 2, 1) := by decide +kernel
theorem dX7_appoint_42 : decode cX7_appoint 42 = .ok (.iload_n 3, 1) := by decide +kernel
theorem dX7_appoint_43 : decode cX7_appoint 43 = .ok (.iload_n 1, 1) := by decide +kernel
theorem dX7_appoint_44 : decode cX7_appoint 44 = .ok (.iload 4, 2) := by decide +kernel
theorem dX7_appoint_46 : decode cX7_appoint 46 = .ok (.invokevirtual 72, 3) := by decide +kernel
theorem dX7_appoint_49 : decode cX7_appoint 49 = .ok (.return_, 1) := by decide +kernel
theorem dX8_init_0 : decode cX8_init 0 = .ok (.aload_n 0, 1) := by decide +kernel
theorem dX8_init_1 : decode cX8_init 1 = .ok (.invokespecial 1, 3) := by decide +kernel
theorem dX8_init_4 : decode cX8_init 4 = .ok (.aload_n 0, 1) := by decide +kernel
theorem dX8_init_5 : decode cX8_init 5 = .ok (.sipush 800, 3) := by decide +kernel
theorem dX8_init_8 : decode cX8_init 8 = .ok (.newarray .byte, 2) := by decide +kernel
theorem dX8_init_10 : decode cX8_init 10 = .ok (.putfield 9, 3) := by decide +kernel
theorem dX8_init_13 : decode cX8_init 13 = .ok (.return_, 1) := by decide +kernel
theorem dX8_length_0 : decode cX8_length 0 = .ok (.aload_n 0, 1) := by decide +kernel
theorem dX8_length_1 : decode cX8_length 1 = .ok (.getfield 13, 3) := by decide +kernel
theorem dX8_length_4 : decode cX8_length 4 = .ok (.ireturn, 1) := by decide +kernel
theorem dX8_hasRoomFor_0 : decode cX8_hasRoomFor 0 = .ok (.aload_n 0, 1) := by decide +kernel
theorem dX8_hasRoomFor_1 : decode cX8_hasRoomFor 1 = .ok (.getfield 13, 3) := by decide +kernel
theorem dX8_hasRoomFor_4 : decode cX8_hasRoomFor 4 = .ok (.iload_n 1, 1) := by decide +kernel
theorem dX8_hasRoomFor_5 : decode cX8_hasRoomFor 5 = .ok (.iadd, 1) := by decide +kernel
theorem dX8_hasRoomFor_6 : decode cX8_hasRoomFor 6 = .ok (.sipush 800, 3) := by decide +kernel
theorem dX8_hasRoomFor_9 : decode cX8_hasRoomFor 9 = .ok (.if_icmp .gt 7, 3) := by decide +kernel
theorem dX8_hasRoomFor_12 : decode cX8_hasRoomFor 12 = .ok (.iconst 1, 1) := by decide +kernel
theorem dX8_hasRoomFor_13 : decode cX8_hasRoomFor 13 = .ok (.goto 4, 3) := by decide +kernel
theorem dX8_hasRoomFor_16 : decode cX8_hasRoomFor 16 = .ok (.iconst 0, 1) := by decide +kernel
theorem dX8_hasRoomFor_17 : decode cX8_hasRoomFor 17 = .ok (.ireturn, 1) := by decide +kernel
theorem dX8_append_0 : decode cX8_append 0 = .ok (.bipush 24, 2) := by decide +kernel
theorem dX8_append_2 : decode cX8_append 2 = .ok (.istore_n 2, 1) := by decide +kernel
theorem dX8_append_3 : decode cX8_append 3 = .ok (.iload_n 2, 1) := by decide +kernel
theorem dX8_append_4 : decode cX8_append 4 = .ok (.ifCond .lt 42, 3) := by decide +kernel
theorem dX8_append_7 : decode cX8_append 7 = .ok (.aload_n 0, 1) := by decide +kernel
theorem dX8_append_8 : decode cX8_append 8 = .ok (.getfield 13, 3) := by decide +kernel
theorem dX8_append_11 : decode cX8_append 11 = .ok (.sipush 800, 3) := by decide +kernel
theorem dX8_append_14 : decode cX8_append 14 = .ok (.if_icmp .ge 32, 3) := by decide +kernel
theorem dX8_append_17 : decode cX8_append 17 = .ok (.aload_n 0, 1) := by decide +kernel
theorem dX8_append_18 : decode cX8_append 18 = .ok (.getfield 9, 3) := by decide +kernel
theorem dX8_append_21 : decode cX8_append 21 = .ok (.aload_n 0, 1) := by decide +kernel
theorem dX8_append_22 : decode cX8_append 22 = .ok (.getfield 13, 3) := by decide +kernel
theorem dX8_append_25 : decode cX8_append 25 = .ok (.iload_n 1, 1) := by decide +kernel
theorem dX8_append_26 : decode cX8_append 26 = .ok (.iload_n 2, 1) := by decide +kernel
theorem dX8_append_27 : decode cX8_append 27 = .ok (.ishr, 1) := by decide +kernel
theorem dX8_append_28 : decode cX8_append 28 = .ok (.i2b, 1) := by decide +kernel
theorem dX8_append_29 : decode cX8_append 29 = .ok (.bastore, 1) := by decide +kernel
theorem dX8_append_30 : decode cX8_append 30 = .ok (.aload_n 0, 1) := by decide +kernel
theorem dX8_append_31 : decode cX8_append 31 = .ok (.dup, 1) := by decide +kernel
theorem dX8_append_32 : decode cX8_append 32 = .ok (.getfield 13, 3) := by decide +kernel
theorem dX8_append_35 : decode cX8_append 35 = .ok (.iconst 1, 1) := by decide +kernel
theorem dX8_append_36 : decode cX8_append 36 = .ok (.iadd, 1) := by decide +kernel
theorem dX8_append_37 : decode cX8_append 37 = .ok (.putfield 13, 3) := by decide +kernel
theorem dX8_append_40 : decode cX8_append 40 = .ok (.iinc 2 (-8), 3) := by decide +kernel
theorem dX8_append_43 : decode cX8_append 43 = .ok (.goto (-40), 3) := by decide +kernel
theorem dX8_append_46 : decode cX8_append 46 = .ok (.return_, 1) := by decide +kernel
theorem dX8_cut_0 : decode cX8_cut 0 = .ok (.aload_n 0, 1) := by decide +kernel
theorem dX8_cut_1 : decode cX8_cut 1 = .ok (.iload_n 1, 1) := by decide +kernel
theorem dX8_cut_2 : decode cX8_cut 2 = .ok (.putfield 13, 3) := by decide +kernel
theorem dX8_cut_5 : decode cX8_cut 5 = .ok (.return_, 1) := by decide +kernel
theorem dX8_at_0 : decode cX8_at 0 = .ok (.iload_n 1, 1) := by decide +kernel
theorem dX8_at_1 : decode cX8_at 1 = .ok (.ifCond .lt 24, 3) := by decide +kernel
theorem dX8_at_4 : decode cX8_at 4 = .ok (.iload_n 1, 1) := by decide +kernel
theorem dX8_at_5 : decode cX8_at 5 = .ok (.aload_n 0, 1) := by decide +kernel
theorem dX8_at_6 : decode cX8_at 6 = .ok (.getfield 13, 3) := by decide +kernel
theorem dX8_at_9 : decode cX8_at 9 = .ok (.if_icmp .ge 16, 3) := by decide +kernel
theorem dX8_at_12 : decode cX8_at 12 = .ok (.aload_n 0, 1) := by decide +kernel
theorem dX8_at_13 : decode cX8_at 13 = .ok (.getfield 9, 3) := by decide +kernel
theorem dX8_at_16 : decode cX8_at 16 = .ok (.iload_n 1, 1) := by decide +kernel
theorem dX8_at_17 : decode cX8_at 17 = .ok (.baload, 1) := by decide +kernel
theorem dX8_at_18 : decode cX8_at 18 = .ok (.sipush 255, 3) := by decide +kernel
theorem dX8_at_21 : decode cX8_at 21 = .ok (.iand, 1) := by decide +kernel
theorem dX8_at_22 : decode cX8_at 22 = .ok (.goto 4, 3) := by decide +kernel
theorem dX8_at_25 : decode cX8_at 25 = .ok (.iconst (-1), 1) := by decide +kernel
theorem dX8_at_26 : decode cX8_at 26 = .ok (.ireturn, 1) := by decide +kernel
theorem dX9_init_0 : decode cX9_init 0 = .ok (.aload_n 0, 1) := by decide +kernel
theorem dX9_init_1 : decode cX9_init 1 = .ok (.invokespecial 3, 3) := by decide +kernel
theorem dX9_init_4 : decode cX9_init 4 = .ok (.aload_n 0, 1) := by decide +kernel
theorem dX9_init_5 : decode cX9_init 5 = .ok (.bipush 12, 2) := by decide +kernel
theorem dX9_init_7 : decode cX9_init 7 = .ok (.newarray .int, 2) := by decide +kernel
theorem dX9_init_9 : decode cX9_init 9 = .ok (.putfield 9, 3) := by decide +kernel
theorem dX9_init_12 : decode cX9_init 12 = .ok (.aload_n 0, 1) := by decide +kernel
theorem dX9_init_13 : decode cX9_init 13 = .ok (.bipush 12, 2) := by decide +kernel
theorem dX9_init_15 : decode cX9_init 15 = .ok (.newarray .int, 2) := by decide +kernel
theorem dX9_init_17 : decode cX9_init 17 = .ok (.putfield 15, 3) := by decide +kernel
theorem dX9_init_20 : decode cX9_init 20 = .ok (.aload_n 0, 1) := by decide +kernel
theorem dX9_init_21 : decode cX9_init 21 = .ok (.sipush 144, 3) := by decide +kernel
theorem dX9_init_24 : decode cX9_init 24 = .ok (.newarray .int, 2) := by decide +kernel
theorem dX9_init_26 : decode cX9_init 26 = .ok (.putfield 18, 3) := by decide +kernel
theorem dX9_init_29 : decode cX9_init 29 = .ok (.aload_n 0, 1) := by decide +kernel
theorem dX9_init_30 : decode cX9_init 30 = .ok (.sipush 144, 3) := by decide +kernel
theorem dX9_init_33 : decode cX9_init 33 = .ok (.newarray .int, 2) := by decide +kernel
theorem dX9_init_35 : decode cX9_init 35 = .ok (.putfield 21, 3) := by decide +kernel
theorem dX9_init_38 : decode cX9_init 38 = .ok (.aload_n 0, 1) := by decide +kernel
theorem dX9_init_39 : decode cX9_init 39 = .ok (.iconst 1, 1) := by decide +kernel
theorem dX9_init_40 : decode cX9_init 40 = .ok (.putfield 24, 3) := by decide +kernel
theorem dX9_init_43 : decode cX9_init 43 = .ok (.aload_n 0, 1) := by decide +kernel
theorem dX9_init_44 : decode cX9_init 44 = .ok (.getfield 15, 3) := by decide +kernel
theorem dX9_init_47 : decode cX9_init 47 = .ok (.bipush 60, 2) := by decide +kernel
theorem dX9_init_49 : decode cX9_init 49 = .ok (.invokestatic 28, 3) := by decide +kernel
theorem dX9_init_52 : decode cX9_init 52 = .ok (.aload_n 0, 1) := by decide +kernel
theorem dX9_init_53 : decode cX9_init 53 = .ok (.getfield 18, 3) := by decide +kernel
theorem dX9_init_56 : decode cX9_init 56 = .ok (.iconst (-1), 1) := by decide +kernel
theorem dX9_init_57 : decode cX9_init 57 = .ok (.invokestatic 28, 3) := by decide +kernel
theorem dX9_init_60 : decode cX9_init 60 = .ok (.return_, 1) := by decide +kernel
theorem dX9_place_0 : decode cX9_place 0 = .ok (.aload_n 0, 1) := by decide +kernel
theorem dX9_place_1 : decode cX9_place 1 = .ok (.getfield 9, 3) := by decide +kernel
theorem dX9_place_4 : decode cX9_place 4 = .ok (.iload_n 1, 1) := by decide +kernel
theorem dX9_place_5 : decode cX9_place 5 = .ok (.iload_n 2, 1) := by decide +kernel
theorem dX9_place_6 : decode cX9_place 6 = .ok (.iastore, 1) := by decide +kernel
theorem dX9_place_7 : decode cX9_place 7 = .ok (.aload_n 0, 1) := by decide +kernel
theorem dX9_place_8 : decode cX9_place 8 = .ok (.getfield 15, 3) := by decide +kernel
theorem dX9_place_11 : decode cX9_place 11 = .ok (.iload_n 1, 1) := by decide +kernel
theorem dX9_place_12 : decode cX9_place 12 = .ok (.iload_n 3, 1) := by decide +kernel
theorem dX9_place_13 : decode cX9_place 13 = .ok (.iastore, 1) := by decide +kernel
theorem dX9_place_14 : decode cX9_place 14 = .ok (.return_, 1) := by decide +kernel
theorem dX9_wardAt_0 : decode cX9_wardAt 0 = .ok (.aload_n 0, 1) := by decide +kernel
theorem dX9_wardAt_1 : decode cX9_wardAt 1 = .ok (.getfield 9, 3) := by decide +kernel
theorem dX9_wardAt_4 : decode cX9_wardAt 4 = .ok (.iload_n 1, 1) := by decide +kernel
theorem dX9_wardAt_5 : decode cX9_wardAt 5 = .ok (.iaload, 1) := by decide +kernel
theorem dX9_wardAt_6 : decode cX9_wardAt 6 = .ok (.ireturn, 1) := by decide +kernel
theorem dX9_withinAt_0 : decode cX9_withinAt 0 = .ok (.aload_n 0, 1) := by decide +kernel
theorem dX9_withinAt_1 : decode cX9_withinAt 1 = .ok (.getfield 15, 3) := by decide +kernel
theorem dX9_withinAt_4 : decode cX9_withinAt 4 = .ok (.iload_n 1, 1) := by decide +kernel
theorem dX9_withinAt_5 : decode cX9_withinAt 5 = .ok (.iaload, 1) := by decide +kernel
theorem dX9_withinAt_6 : decode cX9_withinAt 6 = .ok (.ireturn, 1) := by decide +kernel
theorem dX9_minutesOfWay_0 : decode cX9_minutesOfWay 0 = .ok (.aload_n 0, 1) := by decide +kernel
theorem dX9_minutesOfWay_1 : decode cX9_minutesOfWay 1 = .ok (.getfield 18, 3) := by decide +kernel
theorem dX9_minutesOfWay_4 : decode cX9_minutesOfWay 4 = .ok (.iload_n 1, 1) := by decide +kernel
theorem dX9_minutesOfWay_5 : decode cX9_minutesOfWay 5 = .ok (.bipush 12, 2) := by decide +kernel
theorem dX9_minutesOfWay_7 : decode cX9_minutesOfWay 7 = .ok (.imul, 1) := by decide +kernel
theorem dX9_minutesOfWay_8 : decode cX9_minutesOfWay 8 = .ok (.iload_n 2, 1) := by decide +kernel
theorem dX9_minutesOfWay_9 : decode cX9_minutesOfWay 9 = .ok (.iadd, 1) := by decide +kernel
theorem dX9_minutesOfWay_10 : decode cX9_minutesOfWay 10 = .ok (.iaload, 1) := by decide +kernel
theorem dX9_minutesOfWay_11 : decode cX9_minutesOfWay 11 = .ok (.ireturn, 1) := by decide +kernel
theorem dX9_setWay_0 : decode cX9_setWay 0 = .ok (.aload_n 0, 1) := by decide +kernel
theorem dX9_setWay_1 : decode cX9_setWay 1 = .ok (.getfield 18, 3) := by decide +kernel
theorem dX9_setWay_4 : decode cX9_setWay 4 = .ok (.iload_n 1, 1) := by decide +kernel
theorem dX9_setWay_5 : decode cX9_setWay 5 = .ok (.bipush 12, 2) := by decide +kernel
theorem dX9_setWay_7 : decode cX9_setWay 7 = .ok (.imul, 1) := by decide +kernel
theorem dX9_setWay_8 : decode cX9_setWay 8 = .ok (.iload_n 2, 1) := by decide +kernel
theorem dX9_setWay_9 : decode cX9_setWay 9 = .ok (.iadd, 1) := by decide +kernel
theorem dX9_setWay_10 : decode cX9_setWay 10 = .ok (.iload_n 3, 1) := by decide +kernel
theorem dX9_setWay_11 : decode cX9_setWay 11 = .ok (.iastore, 1) := by decide +kernel
theorem dX9_setWay_12 : decode cX9_setWay 12 = .ok (.aload_n 0, 1) := by decide +kernel
theorem dX9_setWay_13 : decode cX9_setWay 13 = .ok (.getfield 18, 3) := by decide +kernel
theorem dX9_setWay_16 : decode cX9_setWay 16 = .ok (.iload_n 2, 1) := by decide +kernel
theorem dX9_setWay_17 : decode cX9_setWay 17 = .ok (.bipush 12, 2) := by decide +kernel
theorem dX9_setWay_19 : decode cX9_setWay 19 = .ok (.imul, 1) := by decide +kernel
theorem dX9_setWay_20 : decode cX9_setWay 20 = .ok (.iload_n 1, 1) := by decide +kernel
theorem dX9_setWay_21 : decode cX9_setWay 21 = .ok (.iadd, 1) := by decide +kernel
theorem dX9_setWay_22 : decode cX9_setWay 22 = .ok (.iload_n 3, 1) := by decide +kernel
theorem dX9_setWay_23 : decode cX9_setWay 23 = .ok (.iastore, 1) := by decide +kernel
theorem dX9_setWay_24 : decode cX9_setWay 24 = .ok (.aload_n 0, 1) := by decide +kernel
theorem dX9_setWay_25 : decode cX9_setWay 25 = .ok (.iconst 1, 1) := by decide +kernel
theorem dX9_setWay_26 : decode cX9_setWay 26 = .ok (.putfield 24, 3) := by decide +kernel
theorem dX9_setWay_29 : decode cX9_setWay 29 = .ok (.return_, 1) := by decide +kernel
theorem dX9_leastMinutes_0 : decode cX9_leastMinutes 0 = .ok (.aload_n 0, 1) := by decide +kernel
theorem dX9_leastMinutes_1 : decode cX9_leastMinutes 1 = .ok (.getfield 24, 3) := by decide +kernel
theorem dX9_leastMinutes_4 : decode cX9_leastMinutes 4 = .ok (.ifCond .eq 12, 3) := by decide +kernel
theorem dX9_leastMinutes_7 : decode cX9_leastMinutes 7 = .ok (.aload_n 0, 1) := by decide +kernel
theorem dX9_leastMinutes_8 : decode cX9_leastMinutes 8 = .ok (.invokevirtual 34, 3) := by decide +kernel
theorem dX9_leastMinutes_11 : decode cX9_leastMinutes 11 = .ok (.aload_n 0, 1) := by decide +kernel
theorem dX9_leastMinutes_12 : decode cX9_leastMinutes 12 = .ok (.iconst 0, 1) := by decide +kernel
theorem dX9_leastMinutes_13 : decode cX9_leastMinutes 13 = .ok (.putfield 24, 3) := by decide +kernel
theorem dX9_leastMinutes_16 : decode cX9_leastMinutes 16 = .ok (.aload_n 0, 1) := by decide +kernel
theorem dX9_leastMinutes_17 : decode cX9_leastMinutes 17 = .ok (.getfield 21, 3) := by decide +kernel
theorem dX9_leastMinutes_20 : decode cX9_leastMinutes 20 = .ok (.iload_n 1, 1) := by decide +kernel
theorem dX9_leastMinutes_21 : decode cX9_leastMinutes 21 = .ok (.bipush 12, 2) := by decide +kernel
theorem dX9_leastMinutes_23 : decode cX9_leastMinutes 23 = .ok (.imul, 1) := by decide +kernel
theorem dX9_leastMinutes_24 : decode cX9_leastMinutes 24 = .ok (.iload_n 2, 1) := by decide +kernel
theorem dX9_leastMinutes_25 : decode cX9_leastMinutes 25 = .ok (.iadd, 1) := by decide +kernel
theorem dX9_leastMinutes_26 : decode cX9_leastMinutes 26 = .ok (.iaload, 1) := by decide +kernel
theorem dX9_leastMinutes_27 : decode cX9_leastMinutes 27 = .ok (.ireturn, 1) := by decide +kernel
theorem dX9_measure_0 : decode cX9_measure 0 = .ok (.aload_n 0, 1) := by decide +kernel
theorem dX9_measure_1 : decode cX9_measure 1 = .ok (.getfield 18, 3) := by decide +kernel
theorem dX9_measure_4 : decode cX9_measure 4 = .ok (.iconst 0, 1) := by decide +kernel
theorem dX9_measure_5 : decode cX9_measure 5 = .ok (.aload_n 0, 1) := by decide +kernel
theorem dX9_measure_6 : decode cX9_measure 6 = .ok (.getfield 21, 3) := by decide +kernel
theorem dX9_measure_9 : decode cX9_measure 9 = .ok (.iconst 0, 1) := by decide +kernel
theorem dX9_measure_10 : decode cX9_measure 10 = .ok (.sipush 144, 3) := by decide +kernel
theorem dX9_measure_13 : decode cX9_measure 13 = .ok (.invokestatic 37, 3) := by decide +kernel
theorem dX9_measure_16 : decode cX9_measure 16 = .ok (.iconst 0, 1) := by decide +kernel
theorem dX9_measure_17 : decode cX9_measure 17 = .ok (.istore_n 1, 1) := by decide +kernel
theorem dX9_measure_18 : decode cX9_measure 18 = .ok (.iload_n 1, 1) := by decide +kernel
theorem dX9_measure_19 : decode cX9_measure 19 = .ok (.bipush 12, 2) := by decide +kernel
theorem dX9_measure_21 : decode cX9_measure 21 = .ok (.if_icmp .ge 21, 3) := by decide +kernel
theorem dX9_measure_24 : decode cX9_measure 24 = .ok (.aload_n 0, 1) := by decide +kernel
theorem dX9_measure_25 : decode cX9_measure 25 = .ok (.getfield 21, 3) := by decide +kernel
theorem dX9_measure_28 : decode cX9_measure 28 = .ok (.iload_n 1, 1) := by decide +kernel
theorem dX9_measure_29 : decode cX9_measure 29 = .ok (.bipush 12, 2) := by decide +kernel
theorem dX9_measure_31 : decode cX9_measure 31 = .ok (.imul, 1) := by decide +kernel
theorem dX9_measure_32 : decode cX9_measure 32 = .ok (.iload_n 1, 1) := by decide +kernel
theorem dX9_measure_33 : decode cX9_measure 33 = .ok (.iadd, 1) := by decide +kernel
theorem dX9_measure_34 : decode cX9_measure 34 = .ok (.iconst 0, 1) := by decide +kernel
theorem dX9_measure_35 : decode cX9_measure 35 = .ok (.iastore, 1) := by decide +kernel
theorem dX9_measure_36 : decode cX9_measure 36 = .ok (.iinc 1 1, 3) := by decide +kernel
theorem dX9_measure_39 : decode cX9_measure 39 = .ok (.goto (-21), 3) := by decide +kernel
theorem dX9_measure_42 : decode cX9_measure 42 = .ok (.iconst 0, 1) := by decide +kernel
theorem dX9_measure_43 : decode cX9_measure 43 = .ok (.istore_n 1, 1) := by decide +kernel
theorem dX9_measure_44 : decode cX9_measure 44 = .ok (.iload_n 1, 1) := by decide +kernel
theorem dX9_measure_45 : decode cX9_measure 45 = .ok (.bipush 12, 2) := by decide +kernel
theorem dX9_measure_47 : decode cX9_measure 47 = .ok (.if_icmp .ge 29, 3) := by decide +kernel
theorem dX9_measure_50 : decode cX9_measure 50 = .ok (.iconst 0, 1) := by decide +kernel
theorem dX9_measure_51 : decode cX9_measure 51 = .ok (.istore_n 2, 1) := by decide +kernel
theorem dX9_measure_52 : decode cX9_measure 52 = .ok (.iload_n 2, 1) := by decide +kernel
theorem dX9_measure_53 : decode cX9_measure 53 = .ok (.bipush 12, 2) := by decide +kernel
theorem dX9_measure_55 : decode cX9_measure 55 = .ok (.if_icmp .ge 15, 3) := by decide +kernel
theorem dX9_measure_58 : decode cX9_measure 58 = .ok (.aload_n 0, 1) := by decide +kernel
theorem dX9_measure_59 : decode cX9_measure 59 = .ok (.iload_n 2, 1) := by decide +kernel
theorem dX9_measure_60 : decode cX9_measure 60 = .ok (.iload_n 1, 1) := by decide +kernel
theorem dX9_measure_61 : decode cX9_measure 61 = .ok (.invokevirtual 43, 3) := by decide +kernel
theorem dX9_measure_64 : decode cX9_measure 64 = .ok (.iinc 2 1, 3) := by decide +kernel
theorem dX9_measure_67 : decode cX9_measure 67 = .ok (.goto (-15), 3) := by decide +kernel
theorem dX9_measure_70 : decode cX9_measure 70 = .ok (.iinc 1 1, 3) := by decide +kernel
theorem dX9_measure_73 : decode cX9_measure 73 = .ok (.goto (-29), 3) := by decide +kernel
theorem dX9_measure_76 : decode cX9_measure 76 = .ok (.return_, 1) := by decide +kernel
theorem dX9_shortenFrom_0 : decode cX9_shortenFrom 0 = .ok (.aload_n 0, 1) := by decide +kernel
theorem dX9_shortenFrom_1 : decode cX9_shortenFrom 1 = .ok (.getfield 21, 3) := by decide +kernel
theorem dX9_shortenFrom_4 : decode cX9_shortenFrom 4 = .ok (.iload_n 1, 1) := by decide +kernel
theorem dX9_shortenFrom_5 : decode cX9_shortenFrom 5 = .ok (.bipush 12, 2) := by decide +kernel
theorem dX9_shortenFrom_7 : decode cX9_shortenFrom 7 = .ok (.imul, 1) := by decide +kernel
theorem dX9_shortenFrom_8 : decode cX9_shortenFrom 8 = .ok (.iload_n 2, 1) := by decide +kernel
theorem dX9_shortenFrom_9 : decode cX9_shortenFrom 9 = .ok (.iadd, 1) := by decide +kernel
theorem dX9_shortenFrom_10 : decode cX9_shortenFrom 10 = .ok (.iaload, 1) := by decide +kernel
theorem dX9_shortenFrom_11 : decode cX9_shortenFrom 11 = .ok (.istore_n 3, 1) := by decide +kernel
theorem dX9_shortenFrom_12 : decode cX9_shortenFrom 12 = .ok (.iload_n 3, 1) := by decide +kernel
theorem dX9_shortenFrom_13 : decode cX9_shortenFrom 13 = .ok (.iconst (-1), 1) := by decide +kernel
theorem dX9_shortenFrom_14 : decode cX9_shortenFrom 14 = .ok (.if_icmp .ne 4, 3) := by decide +kernel
theorem dX9_shortenFrom_17 : decode cX9_shortenFrom 17 = .ok (.return_, 1) := by decide +kernel
theorem dX9_shortenFrom_18 : decode cX9_shortenFrom 18 = .ok (.iconst 0, 1) := by decide +kernel
theorem dX9_shortenFrom_19 : decode cX9_shortenFrom 19 = .ok (.istore 4, 2) := by decide +kernel
theorem dX9_shortenFrom_21 : decode cX9_shortenFrom 21 = .ok (.iload 4, 2) := by decide +kernel
theorem dX9_shortenFrom_23 : decode cX9_shortenFrom 23 = .ok (.bipush 12, 2) := by decide +kernel
theorem dX9_shortenFrom_25 : decode cX9_shortenFrom 25 = .ok (.if_icmp .ge 74, 3) := by decide +kernel
theorem dX9_shortenFrom_28 : decode cX9_shortenFrom 28 = .ok (.aload_n 0, 1) := by decide +kernel
theorem dX9_shortenFrom_29 : decode cX9_shortenFrom 29 = .ok (.getfield 21, 3) := by decide +kernel
theorem dX9_shortenFrom_32 : decode cX9_shortenFrom 32 = .ok (.iload_n 2, 1) := by decide +kernel
theorem dX9_shortenFrom_33 : decode cX9_shortenFrom 33 = .ok (.bipush 12, 2) := by decide +kernel
theorem dX9_shortenFrom_35 : decode cX9_shortenFrom 35 = .ok (.imul, 1) := by decide +kernel
theorem dX9_shortenFrom_36 : decode cX9_shortenFrom 36 = .ok (.iload 4, 2) := by decide +kernel
theorem dX9_shortenFrom_38 : decode cX9_shortenFrom 38 = .ok (.iadd, 1) := by decide +kernel
theorem dX9_shortenFrom_39 : decode cX9_shortenFrom 39 = .ok (.iaload, 1) := by decide +kernel
theorem dX9_shortenFrom_40 : decode cX9_shortenFrom 40 = .ok (.istore 5, 2) := by decide +kernel
theorem dX9_shortenFrom_42 : decode cX9_shortenFrom 42 = .ok (.aload_n 0, 1) := by decide +kernel
theorem dX9_shortenFrom_43 : decode cX9_shortenFrom 43 = .ok (.getfield 21, 3) := by decide +kernel
theorem dX9_shortenFrom_46 : decode cX9_shortenFrom 46 = .ok (.iload_n 1, 1) := by decide +kernel
theorem dX9_shortenFrom_47 : decode cX9_shortenFrom 47 = .ok (.bipush 12, 2) := by decide +kernel
theorem dX9_shortenFrom_49 : decode cX9_shortenFrom 49 = .ok (.imul, 1) := by decide +kernel
theorem dX9_shortenFrom_50 : decode cX9_shortenFrom 50 = .ok (.iload 4, 2) := by decide +kernel
theorem dX9_shortenFrom_52 : decode cX9_shortenFrom 52 = .ok (.iadd, 1) := by decide +kernel
theorem dX9_shortenFrom_53 : decode cX9_shortenFrom 53 = .ok (.iaload, 1) := by decide +kernel
theorem dX9_shortenFrom_54 : decode cX9_shortenFrom 54 = .ok (.istore 6, 2) := by decide +kernel
theorem dX9_shortenFrom_56 : decode cX9_shortenFrom 56 = .ok (.iload 5, 2) := by decide +kernel
theorem dX9_shortenFrom_58 : decode cX9_shortenFrom 58 = .ok (.iconst (-1), 1) := by decide +kernel
theorem dX9_shortenFrom_59 : decode cX9_shortenFrom 59 = .ok (.if_icmp .eq 34, 3) := by decide +kernel
theorem dX9_shortenFrom_62 : decode cX9_shortenFrom 62 = .ok (.iload 6, 2) := by decide +kernel
theorem dX9_shortenFrom_64 : decode cX9_shortenFrom 64 = .ok (.iconst (-1), 1) := by decide +kernel
theorem dX9_shortenFrom_65 : decode cX9_shortenFrom 65 = .ok (.if_icmp .eq 12, 3) := by decide +kernel
theorem dX9_shortenFrom_68 : decode cX9_shortenFrom 68 = .ok (.iload_n 3, 1) := by decide +kernel
theorem dX9_shortenFrom_69 : decode cX9_shortenFrom 69 = .ok (.iload 5, 2) := by decide +kernel
theorem dX9_shortenFrom_71 : decode cX9_shortenFrom 71 = .ok (.iadd, 1) := by decide +kernel
theorem dX9_shortenFrom_72 : decode cX9_shortenFrom 72 = .ok (.iload 6, 2) := by decide +kernel
theorem dX9_shortenFrom_74 : decode cX9_shortenFrom 74 = .ok (.if_icmp .ge 19, 3) := by decide +kernel
theorem dX9_shortenFrom_77 : decode cX9_shortenFrom 77 = .ok (.aload_n 0, 1) := by decide +kernel
theorem dX9_shortenFrom_78 : decode cX9_shortenFrom 78 = .ok (.getfield 21, 3) := by decide +kernel
theorem dX9_shortenFrom_81 : decode cX9_shortenFrom 81 = .ok (.iload_n 1, 1) := by decide +kernel
theorem dX9_shortenFrom_82 : decode cX9_shortenFrom 82 = .ok (.bipush 12, 2) := by decide +kernel
theorem dX9_shortenFrom_84 : decode cX9_shortenFrom 84 = .ok (.imul, 1) := by decide +kernel
theorem dX9_shortenFrom_85 : decode cX9_shortenFrom 85 = .ok (.iload 4, 2) := by decide +kernel
theorem dX9_shortenFrom_87 : decode cX9_shortenFrom 87 = .ok (.iadd, 1) := by decide +kernel
theorem dX9_shortenFrom_88 : decode cX9_shortenFrom 88 = .ok (.iload_n 3, 1) := by decide +kernel
theorem dX9_shortenFrom_89 : decode cX9_shortenFrom 89 = .ok (.iload 5, 2) := by decide +kernel
theorem dX9_shortenFrom_91 : decode cX9_shortenFrom 91 = .ok (.iadd, 1) := by decide +kernel
theorem dX9_shortenFrom_92 : decode cX9_shortenFrom 92 = .ok (.iastore, 1) := by decide +kernel
theorem dX9_shortenFrom_93 : decode cX9_shortenFrom 93 = .ok (.iinc 4 1, 3) := by decide +kernel
theorem dX9_shortenFrom_96 : decode cX9_shortenFrom 96 = .ok (.goto (-75), 3) := by decide +kernel
theorem dX9_shortenFrom_99 : decode cX9_shortenFrom 99 = .ok (.return_, 1) := by decide +kernel
theorem dX10_init_0 : decode cX10_init 0 = .ok (.aload_n 0, 1) := by decide +kernel
theorem dX10_init_1 : decode cX10_init 1 = .ok (.invokespecial 3, 3) := by decide +kernel
theorem dX10_init_4 : decode cX10_init 4 = .ok (.aload_n 0, 1) := by decide +kernel
theorem dX10_init_5 : decode cX10_init 5 = .ok (.new 9, 3) := by decide +kernel
theorem dX10_init_8 : decode cX10_init 8 = .ok (.dup, 1) := by decide +kernel
theorem dX10_init_9 : decode cX10_init 9 = .ok (.invokespecial 11, 3) := by decide +kernel
theorem dX10_init_12 : decode cX10_init 12 = .ok (.putfield 12, 3) := by decide +kernel
theorem dX10_init_15 : decode cX10_init 15 = .ok (.aload_n 0, 1) := by decide +kernel
theorem dX10_init_16 : decode cX10_init 16 = .ok (.iconst (-1), 1) := by decide +kernel
theorem dX10_init_17 : decode cX10_init 17 = .ok (.putfield 18, 3) := by decide +kernel
theorem dX10_init_20 : decode cX10_init 20 = .ok (.aload_n 0, 1) := by decide +kernel
theorem dX10_init_21 : decode cX10_init 21 = .ok (.iconst (-1), 1) := by decide +kernel
theorem dX10_init_22 : decode cX10_init 22 = .ok (.putfield 22, 3) := by decide +kernel
theorem dX10_init_25 : decode cX10_init 25 = .ok (.aload_n 0, 1) := by decide +kernel
theorem dX10_init_26 : decode cX10_init 26 = .ok (.iconst (-1), 1) := by decide +kernel
theorem dX10_init_27 : decode cX10_init 27 = .ok (.putfield 25, 3) := by decide +kernel
theorem dX10_init_30 : decode cX10_init 30 = .ok (.aload_n 0, 1) := by decide +kernel
theorem dX10_init_31 : decode cX10_init 31 = .ok (.sipush 200, 3) := by decide +kernel
theorem dX10_init_34 : decode cX10_init 34 = .ok (.newarray .int, 2) := by decide +kernel
theorem dX10_init_36 : decode cX10_init 36 = .ok (.putfield 28, 3) := by decide +kernel
theorem dX10_init_39 : decode cX10_init 39 = .ok (.aload_n 0, 1) := by decide +kernel
theorem dX10_init_40 : decode cX10_init 40 = .ok (.sipush 200, 3) := by decide +kernel
theorem dX10_init_43 : decode cX10_init 43 = .ok (.newarray .boolean, 2) := by decide +kernel
theorem dX10_init_45 : decode cX10_init 45 = .ok (.putfield 32, 3) := by decide +kernel
theorem dX10_init_48 : decode cX10_init 48 = .ok (.aload_n 0, 1) := by decide +kernel
theorem dX10_init_49 : decode cX10_init 49 = .ok (.sipush 200, 3) := by decide +kernel
theorem dX10_init_52 : decode cX10_init 52 = .ok (.newarray .int, 2) := by decide +kernel
theorem dX10_init_54 : decode cX10_init 54 = .ok (.putfield 36, 3) := by decide +kernel
theorem dX10_init_57 : decode cX10_init 57 = .ok (.return_, 1) := by decide +kernel
theorem dX10_hasPlace_0 : decode cX10_hasPlace 0 = .ok (.aload_n 0, 1) := by decide +kernel
theorem dX10_hasPlace_1 : decode cX10_hasPlace 1 = .ok (.getfield 39, 3) := by decide +kernel
theorem dX10_hasPlace_4 : decode cX10_hasPlace 4 = .ok (.aload_n 0, 1) := by decide +kernel
theorem dX10_hasPlace_5 : decode cX10_hasPlace 5 = .ok (.getfield 12, 3) := by decide +kernel
theorem dX10_hasPlace_8 : decode cX10_hasPlace 8 = .ok (.getfield 42, 3) := by decide +kernel
theorem dX10_hasPlace_11 : decode cX10_hasPlace 11 = .ok (.if_icmp .ge 7, 3) := by decide +kernel
theorem dX10_hasPlace_14 : decode cX10_hasPlace 14 = .ok (.iconst 1, 1) := by decide +kernel
theorem dX10_hasPlace_15 : decode cX10_hasPlace 15 = .ok (.goto 4, 3) := by decide +kernel
theorem dX10_hasPlace_18 : decode cX10_hasPlace 18 = .ok (.iconst 0, 1) := by decide +kernel
theorem dX10_hasPlace_19 : decode cX10_hasPlace 19 = .ok (.ireturn, 1) := by decide +kernel
theorem dX10_nextYear_0 : decode cX10_nextYear 0 = .ok (.aload_n 0, 1) := by decide +kernel
theorem dX10_nextYear_1 : decode cX10_nextYear 1 = .ok (.getfield 25, 3) := by decide +kernel
theorem dX10_nextYear_4 : decode cX10_nextYear 4 = .ok (.iconst (-1), 1) := by decide +kernel
theorem dX10_nextYear_5 : decode cX10_nextYear 5 = .ok (.if_icmp .ne 22, 3) := by decide +kernel
theorem dX10_nextYear_8 : decode cX10_nextYear 8 = .ok (.iload_n 1, 1) := by decide +kernel
theorem dX10_nextYear_9 : decode cX10_nextYear 9 = .ok (.sipush 1600, 3) := by decide +kernel
theorem dX10_nextYear_12 : decode cX10_nextYear 12 = .ok (.sipush 1799, 3) := by decide +kernel
theorem dX10_nextYear_15 : decode cX10_nextYear 15 = .ok (.invokestatic 45, 3) := by decide +kernel
theorem dX10_nextYear_18 : decode cX10_nextYear 18 = .ok (.ifCond .eq 7, 3) := by decide +kernel
theorem dX10_nextYear_21 : decode cX10_nextYear 21 = .ok (.iload_n 1, 1) := by decide +kernel
theorem dX10_nextYear_22 : decode cX10_nextYear 22 = .ok (.goto 4, 3) := by decide +kernel
theorem dX10_nextYear_25 : decode cX10_nextYear 25 = .ok (.iconst (-1), 1) := by decide +kernel
theorem dX10_nextYear_26 : decode cX10_nextYear 26 = .ok (.ireturn, 1) := by decide +kernel
theorem dX10_nextYear_27 : decode cX10_nextYear 27 = .ok (.aload_n 0, 1) := by decide +kernel
theorem dX10_nextYear_28 : decode cX10_nextYear 28 = .ok (.getfield 25, 3) := by decide +kernel
theorem dX10_nextYear_31 : decode cX10_nextYear 31 = .ok (.iconst 1, 1) := by decide +kernel
theorem dX10_nextYear_32 : decode cX10_nextYear 32 = .ok (.iadd, 1) := by decide +kernel
theorem dX10_nextYear_33 : decode cX10_nextYear 33 = .ok (.istore_n 2, 1) := by decide +kernel
theorem dX10_nextYear_34 : decode cX10_nextYear 34 = .ok (.iload_n 2, 1) := by decide +kernel
theorem dX10_nextYear_35 : decode cX10_nextYear 35 = .ok (.sipush 1799, 3) := by decide +kernel
theorem dX10_nextYear_38 : decode cX10_nextYear 38 = .ok (.if_icmp .gt 17, 3) := by decide +kernel
theorem dX10_nextYear_41 : decode cX10_nextYear 41 = .ok (.iload_n 1, 1) := by decide +kernel
theorem dX10_nextYear_42 : decode cX10_nextYear 42 = .ok (.iconst (-1), 1) := by decide +kernel
theorem dX10_nextYear_43 : decode cX10_nextYear 43 = .ok (.if_icmp .eq 8, 3) := by decide +kernel
theorem dX10_nextYear_46 : decode cX10_nextYear 46 = .ok (.iload_n 1, 1) := by decide +kernel
theorem dX10_nextYear_47 : decode cX10_nextYear 47 = .ok (.iload_n 2, 1) := by decide +kernel
theorem dX10_nextYear_48 : decode cX10_nextYear 48 = .ok (.if_icmp .ne 7, 3) := by decide +kernel
theorem dX10_nextYear_51 : decode cX10_nextYear 51 = .ok (.iload_n 2, 1) := by decide +kernel
theorem dX10_nextYear_52 : decode cX10_nextYear 52 = .ok (.goto 4, 3) := by decide +kernel
theorem dX10_nextYear_55 : decode cX10_nextYear 55 = .ok (.iconst (-1), 1) := by decide +kernel
theorem dX10_nextYear_56 : decode cX10_nextYear 56 = .ok (.ireturn, 1) := by decide +kernel
theorem dX10_openYear_0 : decode cX10_openYear 0 = .ok (.aload_n 0, 1) := by decide +kernel
theorem dX10_openYear_1 : decode cX10_openYear 1 = .ok (.getfield 25, 3) := by decide +kernel
theorem dX10_openYear_4 : decode cX10_openYear 4 = .ok (.iconst (-1), 1) := by decide +kernel
theorem dX10_openYear_5 : decode cX10_openYear 5 = .ok (.if_icmp .ne 8, 3) := by decide +kernel
theorem dX10_openYear_8 : decode cX10_openYear 8 = .ok (.aload_n 0, 1) := by decide +kernel
theorem dX10_openYear_9 : decode cX10_openYear 9 = .ok (.iload_n 1, 1) := by decide +kernel
theorem dX10_openYear_10 : decode cX10_openYear 10 = .ok (.putfield 22, 3) := by decide +kernel
theorem dX10_openYear_13 : decode cX10_openYear 13 = .ok (.aload_n 0, 1) := by decide +kernel
theorem dX10_openYear_14 : decode cX10_openYear 14 = .ok (.iload_n 1, 1) := by decide +kernel
theorem dX10_openYear_15 : decode cX10_openYear 15 = .ok (.putfield 25, 3) := by decide +kernel
theorem dX10_openYear_18 : decode cX10_openYear 18 = .ok (.aload_n 0, 1) := by decide +kernel
theorem dX10_openYear_19 : decode cX10_openYear 19 = .ok (.getfield 28, 3) := by decide +kernel
theorem dX10_openYear_22 : decode cX10_openYear 22 = .ok (.iload_n 1, 1) := by decide +kernel
theorem dX10_openYear_23 : decode cX10_openYear 23 = .ok (.sipush 1600, 3) := by decide +kernel
theorem dX10_openYear_26 : decode cX10_openYear 26 = .ok (.isub, 1) := by decide +kernel
theorem dX10_openYear_27 : decode cX10_openYear 27 = .ok (.iconst (-1), 1) := by decide +kernel
theorem dX10_openYear_28 : decode cX10_openYear 28 = .ok (.iastore, 1) := by decide +kernel
theorem dX10_openYear_29 : decode cX10_openYear 29 = .ok (.return_, 1) := by decide +kernel
theorem dX10_takeFine_0 : decode cX10_takeFine 0 = .ok (.aload_n 0, 1) := by decide +kernel
theorem dX10_takeFine_1 : decode cX10_takeFine 1 = .ok (.dup, 1) := by decide +kernel
theorem dX10_takeFine_2 : decode cX10_takeFine 2 = .ok (.getfield 49, 3) := by decide +kernel
theorem dX10_takeFine_5 : decode cX10_takeFine 5 = .ok (.aload_n 0, 1) := by decide +kernel
theorem dX10_takeFine_6 : decode cX10_takeFine 6 = .ok (.getfield 12, 3) := by decide +kernel
theorem dX10_takeFine_9 : decode cX10_takeFine 9 = .ok (.getfield 52, 3) := by decide +kernel
theorem dX10_takeFine_12 : decode cX10_takeFine 12 = .ok (.iadd, 1) := by decide +kernel
theorem dX10_takeFine_13 : decode cX10_takeFine 13 = .ok (.putfield 49, 3) := by decide +kernel
theorem dX10_takeFine_16 : decode cX10_takeFine 16 = .ok (.aload_n 0, 1) := by decide +kernel
theorem dX10_takeFine_17 : decode cX10_takeFine 17 = .ok (.getfield 36, 3) := by decide +kernel
theorem dX10_takeFine_20 : decode cX10_takeFine 20 = .ok (.iload_n 1, 1) := by decide +kernel
theorem dX10_takeFine_21 : decode cX10_takeFine 21 = .ok (.sipush 1600, 3) := by decide +kernel
theorem dX10_takeFine_24 : decode cX10_takeFine 24 = .ok (.isub, 1) := by decide +kernel
theorem dX10_takeFine_25 : decode cX10_takeFine 25 = .ok (.dup2, 1) := by decide +kernel
theorem dX10_takeFine_26 : decode cX10_takeFine 26 = .ok (.iaload, 1) := by decide +kernel
theorem dX10_takeFine_27 : decode cX10_takeFine 27 = .ok (.iconst 1, 1) := by decide +kernel
theorem dX10_takeFine_28 : decode cX10_takeFine 28 = .ok (.iadd, 1) := by decide +kernel
theorem dX10_takeFine_29 : decode cX10_takeFine 29 = .ok (.iastore, 1) := by decide +kernel
theorem dX10_takeFine_30 : decode cX10_takeFine 30 = .ok (.return_, 1) := by decide +kernel
theorem dX10_appoint_0 : decode cX10_appoint 0 = .ok (.aload_n 0, 1) := by decide +kernel
theorem dX10_appoint_1 : decode cX10_appoint 1 = .ok (.getfield 28, 3) := by decide +kernel
theorem dX10_appoint_4 : decode cX10_appoint 4 = .ok (.iload_n 1, 1) := by decide +kernel
theorem dX10_appoint_5 : decode cX10_appoint 5 = .ok (.sipush 1600, 3) := by decide +kernel
theorem dX10_appoint_8 : decode cX10_appoint 8 = .ok (.isub, 1) := by decide +kernel
theorem dX10_appoint_9 : decode cX10_appoint 9 = .ok (.iload_n 2, 1) := by decide +kernel
theorem dX10_appoint_10 : decode cX10_appoint 10 = .ok (.iastore, 1) := by decide +kernel
theorem dX10_appoint_11 : decode cX10_appoint 11 = .ok (.aload_n 0, 1) := by decide +kernel
theorem dX10_appoint_12 : decode cX10_appoint 12 = .ok (.getfield 32, 3) := by decide +kernel
theorem dX10_appoint_15 : decode cX10_appoint 15 = .ok (.iload_n 1, 1) := by decide +kernel
theorem dX10_appoint_16 : decode cX10_appoint 16 = .ok (.sipush 1600, 3) := by decide +kernel
theorem dX10_appoint_19 : decode cX10_appoint 19 = .ok (.isub, 1) := by decide +kernel
theorem dX10_appoint_20 : decode cX10_appoint 20 = .ok (.iload_n 3, 1) := by decide +kernel
theorem dX10_appoint_21 : decode cX10_appoint 21 = .ok (.bastore, 1) := by decide +kernel
theorem dX10_appoint_22 : decode cX10_appoint 22 = .ok (.return_, 1) := by decide +kernel
theorem dX10_tellYear_0 : decode cX10_tellYear 0 = .ok (.aload_n 0, 1) := by decide +kernel
theorem dX10_tellYear_1 : decode cX10_tellYear 1 = .ok (.getfield 25, 3) := by decide +kernel
theorem dX10_tellYear_4 : decode cX10_tellYear 4 = .ok (.iconst (-1), 1) := by decide +kernel
theorem dX10_tellYear_5 : decode cX10_tellYear 5 = .ok (.if_icmp .eq 18, 3) := by decide +kernel
theorem dX10_tellYear_8 : decode cX10_tellYear 8 = .ok (.iload_n 1, 1) := by decide +kernel
theorem dX10_tellYear_9 : decode cX10_tellYear 9 = .ok (.aload_n 0, 1) := by decide +kernel
theorem dX10_tellYear_10 : decode cX10_tellYear 10 = .ok (.getfield 22, 3) := by decide +kernel
theorem dX10_tellYear_13 : decode cX10_tellYear 13 = .ok (.aload_n 0, 1) := by decide +kernel
theorem dX10_tellYear_14 : decode cX10_tellYear 14 = .ok (.getfield 25, 3) := by decide +kernel
theorem dX10_tellYear_17 : decode cX10_tellYear 17 = .ok (.invokestatic 45, 3) := by decide +kernel
theorem dX10_tellYear_20 : decode cX10_tellYear 20 = .ok (.ifCond .ne 6, 3) := by decide +kernel
theorem dX10_tellYear_23 : decode cX10_tellYear 23 = .ok (.bipush (-9), 2) := by decide +kernel
theorem dX10_tellYear_25 : decode cX10_tellYear 25 = .ok (.ireturn, 1) := by decide +kernel
theorem dX10_tellYear_26 : decode cX10_tellYear 26 = .ok (.iload_n 2, 1) := by decide +kernel
theorem dX10_tellYear_27 : decode cX10_tellYear 27 = .ok (.tableswitch 66 0 2 #[25, 36, 55], 25) := by decide +kernel
theorem dX10_tellYear_52 : decode cX10_tellYear 52 = .ok (.aload_n 0, 1) := by decide +kernel
theorem dX10_tellYear_53 : decode cX10_tellYear 53 = .ok (.getfield 28, 3) := by decide +kernel
theorem dX10_tellYear_56 : decode cX10_tellYear 56 = .ok (.iload_n 1, 1) := by decide +kernel
theorem dX10_tellYear_57 : decode cX10_tellYear 57 = .ok (.sipush 1600, 3) := by decide +kernel
theorem dX10_tellYear_60 : decode cX10_tellYear 60 = .ok (.isub, 1) := by decide +kernel
theorem dX10_tellYear_61 : decode cX10_tellYear 61 = .ok (.iaload, 1) := by decide +kernel
theorem dX10_tellYear_62 : decode cX10_tellYear 62 = .ok (.ireturn, 1) := by decide +kernel
theorem dX10_tellYear_63 : decode cX10_tellYear 63 = .ok (.aload_n 0, 1) := by decide +kernel
theorem dX10_tellYear_64 : decode cX10_tellYear 64 = .ok (.getfield 32, 3) := by decide +kernel
theorem dX10_tellYear_67 : decode cX10_tellYear 67 = .ok (.iload_n 1, 1) := by decide +kernel
theorem dX10_tellYear_68 : decode cX10_tellYear 68 = .ok (.sipush 1600, 3) := by decide +kernel
theorem dX10_tellYear_71 : decode cX10_tellYear 71 = .ok (.isub, 1) := by decide +kernel
theorem dX10_tellYear_72 : decode cX10_tellYear 72 = .ok (.baload, 1) := by decide +kernel
theorem dX10_tellYear_73 : decode cX10_tellYear 73 = .ok (.ifCond .eq 7, 3) := by decide +kernel
theorem dX10_tellYear_76 : decode cX10_tellYear 76 = .ok (.iconst 1, 1) := by decide +kernel
theorem dX10_tellYear_77 : decode cX10_tellYear 77 = .ok (.goto 4, 3) := by decide +kernel
theorem dX10_tellYear_80 : decode cX10_tellYear 80 = .ok (.iconst 0, 1) := by decide +kernel
theorem dX10_tellYear_81 : decode cX10_tellYear 81 = .ok (.ireturn, 1) := by decide +kernel
theorem dX10_tellYear_82 : decode cX10_tellYear 82 = .ok (.aload_n 0, 1) := by decide +kernel
theorem dX10_tellYear_83 : decode cX10_tellYear 83 = .ok (.getfield 36, 3) := by decide +kernel
theorem dX10_tellYear_86 : decode cX10_tellYear 86 = .ok (.iload_n 1, 1) := by decide +kernel
theorem dX10_tellYear_87 : decode cX10_tellYear 87 = .ok (.sipush 1600, 3) := by decide +kernel
theorem dX10_tellYear_90 : decode cX10_tellYear 90 = .ok (.isub, 1) := by decide +kernel
theorem dX10_tellYear_91 : decode cX10_tellYear 91 = .ok (.iaload, 1) := by decide +kernel
theorem dX10_tellYear_92 : decode cX10_tellYear 92 = .ok (.ireturn, 1) := by decide +kernel
theorem dX10_tellYear_93 : decode cX10_tellYear 93 = .ok (.bipush (-9), 2) := by decide +kernel
theorem dX10_tellYear_95 : decode cX10_tellYear 95 = .ok (.ireturn, 1) := by decide +kernel
theorem dX11_init_0 : decode cX11_init 0 = .ok (.aload_n 0, 1) := by decide +kernel
theorem dX11_init_1 : decode cX11_init 1 = .ok (.invokespecial 1, 3) := by decide +kernel
theorem dX11_init_4 : decode cX11_init 4 = .ok (.aload_n 0, 1) := by decide +kernel
theorem dX11_init_5 : decode cX11_init 5 = .ok (.new 7, 3) := by decide +kernel
theorem dX11_init_8 : decode cX11_init 8 = .ok (.dup, 1) := by decide +kernel
theorem dX11_init_9 : decode cX11_init 9 = .ok (.invokespecial 9, 3) := by decide +kernel
theorem dX11_init_12 : decode cX11_init 12 = .ok (.putfield 10, 3) := by decide +kernel
theorem dX11_init_15 : decode cX11_init 15 = .ok (.aload_n 0, 1) := by decide +kernel
theorem dX11_init_16 : decode cX11_init 16 = .ok (.new 16, 3) := by decide +kernel
theorem dX11_init_19 : decode cX11_init 19 = .ok (.dup, 1) := by decide +kernel
theorem dX11_init_20 : decode cX11_init 20 = .ok (.invokespecial 18, 3) := by decide +kernel
theorem dX11_init_23 : decode cX11_init 23 = .ok (.putfield 19, 3) := by decide +kernel
theorem dX11_init_26 : decode cX11_init 26 = .ok (.aload_n 0, 1) := by decide +kernel
theorem dX11_init_27 : decode cX11_init 27 = .ok (.new 23, 3) := by decide +kernel
theorem dX11_init_30 : decode cX11_init 30 = .ok (.dup, 1) := by decide +kernel
theorem dX11_init_31 : decode cX11_init 31 = .ok (.invokespecial 25, 3) := by decide +kernel
theorem dX11_init_34 : decode cX11_init 34 = .ok (.putfield 26, 3) := by decide +kernel
theorem dX11_init_37 : decode cX11_init 37 = .ok (.aload_n 0, 1) := by decide +kernel
theorem dX11_init_38 : decode cX11_init 38 = .ok (.new 30, 3) := by decide +kernel
theorem dX11_init_41 : decode cX11_init 41 = .ok (.dup, 1) := by decide +kernel
theorem dX11_init_42 : decode cX11_init 42 = .ok (.aload_n 0, 1) := by decide +kernel
theorem dX11_init_43 : decode cX11_init 43 = .ok (.getfield 10, 3) := by decide +kernel
theorem dX11_init_46 : decode cX11_init 46 = .ok (.invokespecial 32, 3) := by decide +kernel
theorem dX11_init_49 : decode cX11_init 49 = .ok (.putfield 35, 3) := by decide +kernel
theorem dX11_init_52 : decode cX11_init 52 = .ok (.aload_n 0, 1) := by decide +kernel
theorem dX11_init_53 : decode cX11_init 53 = .ok (.iconst 4, 1) := by decide +kernel
theorem dX11_init_54 : decode cX11_init 54 = .ok (.anewarray 39, 3) := by decide +kernel
theorem dX11_init_57 : decode cX11_init 57 = .ok (.putfield 41, 3) := by decide +kernel
theorem dX11_init_60 : decode cX11_init 60 = .ok (.aload_n 0, 1) := by decide +kernel
theorem dX11_init_61 : decode cX11_init 61 = .ok (.new 45, 3) := by decide +kernel
theorem dX11_init_64 : decode cX11_init 64 = .ok (.dup, 1) := by decide +kernel
theorem dX11_init_65 : decode cX11_init 65 = .ok (.invokespecial 47, 3) := by decide +kernel
theorem dX11_init_68 : decode cX11_init 68 = .ok (.putfield 48, 3) := by decide +kernel
theorem dX11_init_71 : decode cX11_init 71 = .ok (.aload_n 0, 1) := by decide +kernel
theorem dX11_init_72 : decode cX11_init 72 = .ok (.new 52, 3) := by decide +kernel
theorem dX11_init_75 : decode cX11_init 75 = .ok (.dup, 1) := by decide +kernel
theorem dX11_init_76 : decode cX11_init 76 = .ok (.invokespecial 54, 3) := by decide +kernel
theorem dX11_init_79 : decode cX11_init 79 = .ok (.putfield 55, 3) := by decide +kernel
theorem dX11_init_82 : decode cX11_init 82 = .ok (.aload_n 0, 1) := by decide +kernel
theorem dX11_init_83 : decode cX11_init 83 = .ok (.new 59, 3) := by decide +kernel
theorem dX11_init_86 : decode cX11_init 86 = .ok (.dup, 1) := by decide +kernel
theorem dX11_init_87 : decode cX11_init 87 = .ok (.invokespecial 61, 3) := by decide +kernel
theorem dX11_init_90 : decode cX11_init 90 = .ok (.putfield 62, 3) := by decide +kernel
theorem dX11_init_93 : decode cX11_init 93 = .ok (.aload_n 0, 1) := by decide +kernel
theorem dX11_init_94 : decode cX11_init 94 = .ok (.new 66, 3) := by decide +kernel
theorem dX11_init_97 : decode cX11_init 97 = .ok (.dup, 1) := by decide +kernel
theorem dX11_init_98 : decode cX11_init 98 = .ok (.invokespecial 68, 3) := by decide +kernel
theorem dX11_init_101 : decode cX11_init 101 = .ok (.putfield 69, 3) := by decide +kernel
theorem dX11_init_104 : decode cX11_init 104 = .ok (.iconst 0, 1) := by decide +kernel
theorem dX11_init_105 : decode cX11_init 105 = .ok (.istore_n 1, 1) := by decide +kernel
theorem dX11_init_106 : decode cX11_init 106 = .ok (.iload_n 1, 1) := by decide +kernel
theorem dX11_init_107 : decode cX11_init 107 = .ok (.iconst 4, 1) := by decide +kernel
theorem dX11_init_108 : decode cX11_init 108 = .ok (.if_icmp .ge 22, 3) := by decide +kernel
theorem dX11_init_111 : decode cX11_init 111 = .ok (.aload_n 0, 1) := by decide +kernel
theorem dX11_init_112 : decode cX11_init 112 = .ok (.getfield 41, 3) := by decide +kernel
theorem dX11_init_115 : decode cX11_init 115 = .ok (.iload_n 1, 1) := by decide +kernel
theorem dX11_init_116 : decode cX11_init 116 = .ok (.new 39, 3) := by decide +kernel
theorem dX11_init_119 : decode cX11_init 119 = .ok (.dup, 1) := by decide +kernel
theorem dX11_init_120 : decode cX11_init 120 = .ok (.invokespecial 73, 3) := by decide +kernel
theorem dX11_init_123 : decode cX11_init 123 = .ok (.aastore, 1) := by decide +kernel
theorem dX11_init_124 : decode cX11_init 124 = .ok (.iinc 1 1, 3) := by decide +kernel
theorem dX11_init_127 : decode cX11_init 127 = .ok (.goto (-21), 3) := by decide +kernel
theorem dX11_init_130 : decode cX11_init 130 = .ok (.return_, 1) := by decide +kernel
theorem dX11_feed_0 : decode cX11_feed 0 = .ok (.aload_n 0, 1) := by decide +kernel
theorem dX11_feed_1 : decode cX11_feed 1 = .ok (.getfield 10, 3) := by decide +kernel
theorem dX11_feed_4 : decode cX11_feed 4 = .ok (.bipush 20, 2) := by decide +kernel
theorem dX11_feed_6 : decode cX11_feed 6 = .ok (.invokevirtual 74, 3) := by decide +kernel
theorem dX11_feed_9 : decode cX11_feed 9 = .ok (.ifCond .ne 6, 3) := by decide +kernel
theorem dX11_feed_12 : decode cX11_feed 12 = .ok (.bipush (-3), 2) := by decide +kernel
theorem dX11_feed_14 : decode cX11_feed 14 = .ok (.ireturn, 1) := by decide +kernel
theorem dX11_feed_15 : decode cX11_feed 15 = .ok (.aload_n 0, 1) := by decide +kernel
theorem dX11_feed_16 : decode cX11_feed 16 = .ok (.getfield 10, 3) := by decide +kernel
theorem dX11_feed_19 : decode cX11_feed 19 = .ok (.iload_n 1, 1) := by decide +kernel
theorem dX11_feed_20 : decode cX11_feed 20 = .ok (.invokevirtual 78, 3) := by decide +kernel
theorem dX11_feed_23 : decode cX11_feed 23 = .ok (.aload_n 0, 1) := by decide +kernel
theorem dX11_feed_24 : decode cX11_feed 24 = .ok (.getfield 10, 3) := by decide +kernel
theorem dX11_feed_27 : decode cX11_feed 27 = .ok (.iload_n 2, 1) := by decide +kernel
theorem dX11_feed_28 : decode cX11_feed 28 = .ok (.invokevirtual 78, 3) := by decide +kernel
theorem dX11_feed_31 : decode cX11_feed 31 = .ok (.aload_n 0, 1) := by decide +kernel
theorem dX11_feed_32 : decode cX11_feed 32 = .ok (.getfield 10, 3) := by decide +kernel
theorem dX11_feed_35 : decode cX11_feed 35 = .ok (.iload_n 3, 1) := by decide +kernel
theorem dX11_feed_36 : decode cX11_feed 36 = .ok (.invokevirtual 78, 3) := by decide +kernel
theorem dX11_feed_39 : decode cX11_feed 39 = .ok (.aload_n 0, 1) := by decide +kernel
theorem dX11_feed_40 : decode cX11_feed 40 = .ok (.getfield 10, 3) := by decide +kernel
theorem dX11_feed_43 : decode cX11_feed 43 = .ok (.iload 4, 2) := by decide +kernel
theorem dX11_feed_45 : decode cX11_feed 45 = .ok (.invokevirtual 78, 3) := by decide +kernel
theorem dX11_feed_48 : decode cX11_feed 48 = .ok (.aload_n 0, 1) := by decide +kernel
theorem dX11_feed_49 : decode cX11_feed 49 = .ok (.getfield 10, 3) := by decide +kernel
theorem dX11_feed_52 : decode cX11_feed 52 = .ok (.iload 5, 2) := by decide +kernel
theorem dX11_feed_54 : decode cX11_feed 54 = .ok (.invokevirtual 78, 3) := by decide +kernel
theorem dX11_feed_57 : decode cX11_feed 57 = .ok (.aload_n 0, 1) := by decide +kernel
theorem dX11_feed_58 : decode cX11_feed 58 = .ok (.getfield 10, 3) := by decide +kernel
theorem dX11_feed_61 : decode cX11_feed 61 = .ok (.invokevirtual 82, 3) := by decide +kernel
theorem dX11_feed_64 : decode cX11_feed 64 = .ok (.ireturn, 1) := by decide +kernel
theorem dX11_end_0 : decode cX11_end 0 = .ok (.iload_n 1, 1) := by decide +kernel
theorem dX11_end_1 : decode cX11_end 1 = .ok (.ifCond .lt 14, 3) := by decide +kernel
theorem dX11_end_4 : decode cX11_end 4 = .ok (.iload_n 1, 1) := by decide +kernel
theorem dX11_end_5 : decode cX11_end 5 = .ok (.aload_n 0, 1) := by decide +kernel
theorem dX11_end_6 : decode cX11_end 6 = .ok (.getfield 10, 3) := by decide +kernel
theorem dX11_end_9 : decode cX11_end 9 = .ok (.invokevirtual 82, 3) := by decide +kernel
theorem dX11_end_12 : decode cX11_end 12 = .ok (.if_icmp .le 5, 3) := by decide +kernel
theorem dX11_end_15 : decode cX11_end 15 = .ok (.iconst (-1), 1) := by decide +kernel
theorem dX11_end_16 : decode cX11_end 16 = .ok (.ireturn, 1) := by decide +kernel
theorem dX11_end_17 : decode cX11_end 17 = .ok (.aload_n 0, 1) := by decide +kernel
theorem dX11_end_18 : decode cX11_end 18 = .ok (.getfield 10, 3) := by decide +kernel
theorem dX11_end_21 : decode cX11_end 21 = .ok (.iload_n 1, 1) := by decide +kernel
theorem dX11_end_22 : decode cX11_end 22 = .ok (.invokevirtual 86, 3) := by decide +kernel
theorem dX11_end_25 : decode cX11_end 25 = .ok (.iload_n 1, 1) := by decide +kernel
theorem dX11_end_26 : decode cX11_end 26 = .ok (.ireturn, 1) := by decide +kernel
theorem dX11_court_0 : decode cX11_court 0 = .ok (.iload_n 1, 1) := by decide +kernel
theorem dX11_court_1 : decode cX11_court 1 = .ok (.invokestatic 89, 3) := by decide +kernel
theorem dX11_court_4 : decode cX11_court 4 = .ok (.ifCond .eq 21, 3) := by decide +kernel
theorem dX11_court_7 : decode cX11_court 7 = .ok (.iload_n 2, 1) := by decide +kernel
theorem dX11_court_8 : decode cX11_court 8 = .ok (.invokestatic 92, 3) := by decide +kernel
theorem dX11_court_11 : decode cX11_court 11 = .ok (.ifCond .eq 14, 3) := by decide +kernel
theorem dX11_court_14 : decode cX11_court 14 = .ok (.iload_n 3, 1) := by decide +kernel
theorem dX11_court_15 : decode cX11_court 15 = .ok (.iconst 1, 1) := by decide +kernel
theorem dX11_court_16 : decode cX11_court 16 = .ok (.sipush 999, 3) := by decide +kernel
theorem dX11_court_19 : decode cX11_court 19 = .ok (.invokestatic 95, 3) := by decide +kernel
theorem dX11_court_22 : decode cX11_court 22 = .ok (.ifCond .ne 6, 3) := by decide +kernel
theorem dX11_court_25 : decode cX11_court 25 = .ok (.bipush (-2), 2) := by decide +kernel
theorem dX11_court_27 : decode cX11_court 27 = .ok (.ireturn, 1) := by decide +kernel
theorem dX11_court_28 : decode cX11_court 28 = .ok (.aload_n 0, 1) := by decide +kernel
theorem dX11_court_29 : decode cX11_court 29 = .ok (.getfield 19, 3) := by decide +kernel
theorem dX11_court_32 : decode cX11_court 32 = .ok (.iload_n 1, 1) := by decide +kernel
theorem dX11_court_33 : decode cX11_court 33 = .ok (.iload_n 2, 1) := by decide +kernel
theorem dX11_court_34 : decode cX11_court 34 = .ok (.iload_n 3, 1) := by decide +kernel
theorem dX11_court_35 : decode cX11_court 35 = .ok (.invokevirtual 99, 3) := by decide +kernel
theorem dX11_court_38 : decode cX11_court 38 = .ok (.iconst 1, 1) := by decide +kernel
theorem dX11_court_39 : decode cX11_court 39 = .ok (.ireturn, 1) := by decide +kernel
theorem dX11_way_0 : decode cX11_way 0 = .ok (.iload_n 3, 1) := by decide +kernel
theorem dX11_way_1 : decode cX11_way 1 = .ok (.iconst (-1), 1) := by decide +kernel
theorem dX11_way_2 : decode cX11_way 2 = .ok (.if_icmp .eq 13, 3) := by decide +kernel
theorem dX11_way_5 : decode cX11_way 5 = .ok (.iload_n 3, 1) := by decide +kernel
theorem dX11_way_6 : decode cX11_way 6 = .ok (.iconst 1, 1) := by decide +kernel
theorem dX11_way_7 : decode cX11_way 7 = .ok (.bipush 99, 2) := by decide +kernel
theorem dX11_way_9 : decode cX11_way 9 = .ok (.invokestatic 95, 3) := by decide +kernel
theorem dX11_way_12 : decode cX11_way 12 = .ok (.ifCond .eq 7, 3) := by decide +kernel
theorem dX11_way_15 : decode cX11_way 15 = .ok (.iconst 1, 1) := by decide +kernel
theorem dX11_way_16 : decode cX11_way 16 = .ok (.goto 4, 3) := by decide +kernel
theorem dX11_way_19 : decode cX11_way 19 = .ok (.iconst 0, 1) := by decide +kernel
theorem dX11_way_20 : decode cX11_way 20 = .ok (.istore 4, 2) := by decide +kernel
theorem dX11_way_22 : decode cX11_way 22 = .ok (.iload_n 1, 1) := by decide +kernel
theorem dX11_way_23 : decode cX11_way 23 = .ok (.invokestatic 89, 3) := by decide +kernel
theorem dX11_way_26 : decode cX11_way 26 = .ok (.ifCond .eq 20, 3) := by decide +kernel
theorem dX11_way_29 : decode cX11_way 29 = .ok (.iload_n 2, 1) := by decide +kernel
theorem dX11_way_30 : decode cX11_way 30 = .ok (.invokestatic 89, 3) := by decide +kernel
theorem dX11_way_33 : decode cX11_way 33 = .ok (.ifCond .eq 13, 3) := by decide +kernel
theorem dX11_way_36 : decode cX11_way 36 = .ok (.iload_n 1, 1) := by decide +kernel
theorem dX11_way_37 : decode cX11_way 37 = .ok (.iload_n 2, 1) := by decide +kernel
theorem dX11_way_38 : decode cX11_way 38 = .ok (.if_icmp .eq 8, 3) := by decide +kernel
theorem dX11_way_41 : decode cX11_way 41 = .ok (.iload 4, 2) := by decide +kernel
theorem dX11_way_43 : decode cX11_way 43 = .ok (.ifCond .ne 6, 3) := by decide +kernel
theorem dX11_way_46 : decode cX11_way 46 = .ok (.bipush (-2), 2) := by decide +kernel
theorem dX11_way_48 : decode cX11_way 48 = .ok (.ireturn, 1) := by decide +kernel
theorem dX11_way_49 : decode cX11_way 49 = .ok (.aload_n 0, 1) := by decide +kernel
theorem dX11_way_50 : decode cX11_way 50 = .ok (.getfield 19, 3) := by decide +kernel
theorem dX11_way_53 : decode cX11_way 53 = .ok (.iload_n 1, 1) := by decide +kernel
theorem dX11_way_54 : decode cX11_way 54 = .ok (.iload_n 2, 1) := by decide +kernel
theorem dX11_way_55 : decode cX11_way 55 = .ok (.invokevirtual 103, 3) := by decide +kernel
theorem dX11_way_58 : decode cX11_way 58 = .ok (.istore 5, 2) := by decide +kernel
theorem dX11_way_60 : decode cX11_way 60 = .ok (.aload_n 0, 1) := by decide +kernel
theorem dX11_way_61 : decode cX11_way 61 = .ok (.getfield 19, 3) := by decide +kernel
theorem dX11_way_64 : decode cX11_way 64 = .ok (.iload_n 1, 1) := by decide +kernel
theorem dX11_way_65 : decode cX11_way 65 = .ok (.iload_n 2, 1) := by decide +kernel
theorem dX11_way_66 : decode cX11_way 66 = .ok (.iload_n 3, 1) := by decide +kernel
theorem dX11_way_67 : decode cX11_way 67 = .ok (.invokevirtual 107, 3) := by decide +kernel
theorem dX11_way_70 : decode cX11_way 70 = .ok (.iload 5, 2) := by decide +kernel
theorem dX11_way_72 : decode cX11_way 72 = .ok (.ireturn, 1) := by decide +kernel
theorem dX11_far_0 : decode cX11_far 0 = .ok (.iload_n 1, 1) := by decide +kernel
theorem dX11_far_1 : decode cX11_far 1 = .ok (.invokestatic 89, 3) := by decide +kernel
theorem dX11_far_4 : decode cX11_far 4 = .ok (.ifCond .eq 10, 3) := by decide +kernel
theorem dX11_far_7 : decode cX11_far 7 = .ok (.iload_n 2, 1) := by decide +kernel
theorem dX11_far_8 : decode cX11_far 8 = .ok (.invokestatic 89, 3) := by decide +kernel
theorem dX11_far_11 : decode cX11_far 11 = .ok (.ifCond .ne 6, 3) := by decide +kernel
theorem dX11_far_14 : decode cX11_far 14 = .ok (.bipush (-2), 2) := by decide +kernel
theorem dX11_far_16 : decode cX11_far 16 = .ok (.ireturn, 1) := by decide +kernel
theorem dX11_far_17 : decode cX11_far 17 = .ok (.aload_n 0, 1) := by decide +kernel
theorem dX11_far_18 : decode cX11_far 18 = .ok (.getfield 19, 3) := by decide +kernel
theorem dX11_far_21 : decode cX11_far 21 = .ok (.iload_n 1, 1) := by decide +kernel
theorem dX11_far_22 : decode cX11_far 22 = .ok (.iload_n 2, 1) := by decide +kernel
theorem dX11_far_23 : decode cX11_far 23 = .ok (.invokevirtual 110, 3) := by decide +kernel
theorem dX11_far_26 : decode cX11_far 26 = .ok (.ireturn, 1) := by decide +kernel
theorem dX11_rounds_0 : decode cX11_rounds 0 = .ok (.iload_n 1, 1) := by decide +kernel
theorem dX11_rounds_1 : decode cX11_rounds 1 = .ok (.iconst 1, 1) := by decide +kernel
theorem dX11_rounds_2 : decode cX11_rounds 2 = .ok (.if_icmp .lt 10, 3) := by decide +kernel
theorem dX11_rounds_5 : decode cX11_rounds 5 = .ok (.iload_n 1, 1) := by decide +kernel
theorem dX11_rounds_6 : decode cX11_rounds 6 = .ok (.sipush 4096, 3) := by decide +kernel
theorem dX11_rounds_9 : decode cX11_rounds 9 = .ok (.if_icmp .lt 6, 3) := by decide +kernel
theorem dX11_rounds_12 : decode cX11_rounds 12 = .ok (.bipush (-2), 2) := by decide +kernel
theorem dX11_rounds_14 : decode cX11_rounds 14 = .ok (.ireturn, 1) := by decide +kernel
theorem dX11_rounds_15 : decode cX11_rounds 15 = .ok (.iload_n 1, 1) := by decide +kernel
theorem dX11_rounds_16 : decode cX11_rounds 16 = .ok (.invokestatic 113, 3) := by decide +kernel
theorem dX11_rounds_19 : decode cX11_rounds 19 = .ok (.bipush 10, 2) := by decide +kernel
theorem dX11_rounds_21 : decode cX11_rounds 21 = .ok (.if_icmp .le 6, 3) := by decide +kernel
theorem dX11_rounds_24 : decode cX11_rounds 24 = .ok (.bipush (-3), 2) := by decide +kernel
theorem dX11_rounds_26 : decode cX11_rounds 26 = .ok (.ireturn, 1) := by decide +kernel
theorem dX11_rounds_27 : decode cX11_rounds 27 = .ok (.aload_n 0, 1) := by decide +kernel
theorem dX11_rounds_28 : decode cX11_rounds 28 = .ok (.getfield 26, 3) := by decide +kernel
theorem dX11_rounds_31 : decode cX11_rounds 31 = .ok (.iload_n 1, 1) := by decide +kernel
theorem dX11_rounds_32 : decode cX11_rounds 32 = .ok (.aload_n 0, 1) := by decide +kernel
theorem dX11_rounds_33 : decode cX11_rounds 33 = .ok (.getfield 19, 3) := by decide +kernel
theorem dX11_rounds_36 : decode cX11_rounds 36 = .ok (.invokevirtual 119, 3) := by decide +kernel
theorem dX11_rounds_39 : decode cX11_rounds 39 = .ok (.ireturn, 1) := by decide +kernel
theorem dX11_round_0 : decode cX11_round 0 = .ok (.aload_n 0, 1) := by decide +kernel
theorem dX11_round_1 : decode cX11_round 1 = .ok (.getfield 26, 3) := by decide +kernel
theorem dX11_round_4 : decode cX11_round 4 = .ok (.iload_n 1, 1) := by decide +kernel
theorem dX11_round_5 : decode cX11_round 5 = .ok (.invokevirtual 123, 3) := by decide +kernel
theorem dX11_round_8 : decode cX11_round 8 = .ok (.ireturn, 1) := by decide +kernel
theorem dX11_cry_0 : decode cX11_cry 0 = .ok (.iload_n 1, 1) := by decide +kernel
theorem dX11_cry_1 : decode cX11_cry 1 = .ok (.invokestatic 89, 3) := by decide +kernel
theorem dX11_cry_4 : decode cX11_cry 4 = .ok (.ifCond .eq 14, 3) := by decide +kernel
theorem dX11_cry_7 : decode cX11_cry 7 = .ok (.iload_n 2, 1) := by decide +kernel
theorem dX11_cry_8 : decode cX11_cry 8 = .ok (.iconst 0, 1) := by decide +kernel
theorem dX11_cry_9 : decode cX11_cry 9 = .ok (.sipush 999, 3) := by decide +kernel
theorem dX11_cry_12 : decode cX11_cry 12 = .ok (.invokestatic 95, 3) := by decide +kernel
theorem dX11_cry_15 : decode cX11_cry 15 = .ok (.ifCond .ne 6, 3) := by decide +kernel
theorem dX11_cry_18 : decode cX11_cry 18 = .ok (.bipush (-2), 2) := by decide +kernel
theorem dX11_cry_20 : decode cX11_cry 20 = .ok (.ireturn, 1) := by decide +kernel
theorem dX11_cry_21 : decode cX11_cry 21 = .ok (.iconst 0, 1) := by decide +kernel
theorem dX11_cry_22 : decode cX11_cry 22 = .ok (.istore_n 3, 1) := by decide +kernel
theorem dX11_cry_23 : decode cX11_cry 23 = .ok (.iconst 0, 1) := by decide +kernel
theorem dX11_cry_24 : decode cX11_cry 24 = .ok (.istore 4, 2) := by decide +kernel
theorem dX11_cry_26 : decode cX11_cry 26 = .ok (.iload 4, 2) := by decide +kernel
theorem dX11_cry_28 : decode cX11_cry 28 = .ok (.bipush 12, 2) := by decide +kernel
theorem dX11_cry_30 : decode cX11_cry 30 = .ok (.if_icmp .ge 40, 3) := by decide +kernel
theorem dX11_cry_33 : decode cX11_cry 33 = .ok (.aload_n 0, 1) := by decide +kernel
theorem dX11_cry_34 : decode cX11_cry 34 = .ok (.getfield 19, 3) := by decide +kernel
theorem dX11_cry_37 : decode cX11_cry 37 = .ok (.iload_n 1, 1) := by decide +kernel
theorem dX11_cry_38 : decode cX11_cry 38 = .ok (.iload 4, 2) := by decide +kernel
theorem dX11_cry_40 : decode cX11_cry 40 = .ok (.invokevirtual 110, 3) := by decide +kernel
theorem dX11_cry_43 : decode cX11_cry 43 = .ok (.istore 5, 2) := by decide +kernel
theorem dX11_cry_45 : decode cX11_cry 45 = .ok (.iload 5, 2) := by decide +kernel
theorem dX11_cry_47 : decode cX11_cry 47 = .ok (.iconst (-1), 1) := by decide +kernel
theorem dX11_cry_48 : decode cX11_cry 48 = .ok (.if_icmp .eq 16, 3) := by decide +kernel
theorem dX11_cry_51 : decode cX11_cry 51 = .ok (.iload 5, 2) := by decide +kernel
theorem dX11_cry_53 : decode cX11_cry 53 = .ok (.iload_n 2, 1) := by decide +kernel
theorem dX11_cry_54 : decode cX11_cry 54 = .ok (.if_icmp .gt 10, 3) := by decide +kernel
theorem dX11_cry_57 : decode cX11_cry 57 = .ok (.iload_n 3, 1) := by decide +kernel
theorem dX11_cry_58 : decode cX11_cry 58 = .ok (.iconst 1, 1) := by decide +kernel
theorem dX11_cry_59 : decode cX11_cry 59 = .ok (.iload 4, 2) := by decide +kernel
theorem dX11_cry_61 : decode cX11_cry 61 = .ok (.ishl, 1) := by decide +kernel
theorem dX11_cry_62 : decode cX11_cry 62 = .ok (.ior, 1) := by decide +kernel
theorem dX11_cry_63 : decode cX11_cry 63 = .ok (.istore_n 3, 1) := by decide +kernel
theorem dX11_cry_64 : decode cX11_cry 64 = .ok (.iinc 4 1, 3) := by decide +kernel
theorem dX11_cry_67 : decode cX11_cry 67 = .ok (.goto (-41), 3) := by decide +kernel
theorem dX11_cry_70 : decode cX11_cry 70 = .ok (.iload_n 3, 1) := by decide +kernel
theorem dX11_cry_71 : decode cX11_cry 71 = .ok (.ireturn, 1) := by decide +kernel
theorem dX11_laws_0 : decode cX11_laws 0 = .ok (.bipush (-2), 2) := by decide +kernel
theorem dX11_laws_2 : decode cX11_laws 2 = .ok (.istore_n 2, 1) := by decide +kernel
theorem dX11_laws_3 : decode cX11_laws 3 = .ok (.iload_n 1, 1) := by decide +kernel
theorem dX11_laws_4 : decode cX11_laws 4 = .ok (.invokestatic 92, 3) := by decide +kernel
theorem dX11_laws_7 : decode cX11_laws 7 = .ok (.ifCond .eq 30, 3) := by decide +kernel
theorem dX11_laws_10 : decode cX11_laws 10 = .ok (.aload_n 0, 1) := by decide +kernel
theorem dX11_laws_11 : decode cX11_laws 11 = .ok (.getfield 35, 3) := by decide +kernel
theorem dX11_laws_14 : decode cX11_laws 14 = .ok (.aload_n 0, 1) := by decide +kernel
theorem dX11_laws_15 : decode cX11_laws 15 = .ok (.getfield 69, 3) := by decide +kernel
theorem dX11_laws_18 : decode cX11_laws 18 = .ok (.invokevirtual 126, 3) := by decide +kernel
theorem dX11_laws_21 : decode cX11_laws 21 = .ok (.istore_n 2, 1) := by decide +kernel
theorem dX11_laws_22 : decode cX11_laws 22 = .ok (.iload_n 2, 1) := by decide +kernel
theorem dX11_laws_23 : decode cX11_laws 23 = .ok (.iconst (-1), 1) := by decide +kernel
theorem dX11_laws_24 : decode cX11_laws 24 = .ok (.if_icmp .eq 13, 3) := by decide +kernel
theorem dX11_laws_27 : decode cX11_laws 27 = .ok (.aload_n 0, 1) := by decide +kernel
theorem dX11_laws_28 : decode cX11_laws 28 = .ok (.aload_n 0, 1) := by decide +kernel
theorem dX11_laws_29 : decode cX11_laws 29 = .ok (.getfield 41, 3) := by decide +kernel
theorem dX11_laws_32 : decode cX11_laws 32 = .ok (.iload_n 1, 1) := by decide +kernel
theorem dX11_laws_33 : decode cX11_laws 33 = .ok (.aaload, 1) := by decide +kernel
theorem dX11_laws_34 : decode cX11_laws 34 = .ok (.invokevirtual 130, 3) := by decide +kernel
theorem dX11_laws_37 : decode cX11_laws 37 = .ok (.aload_n 0, 1) := by decide +kernel
theorem dX11_laws_38 : decode cX11_laws 38 = .ok (.getfield 10, 3) := by decide +kernel
theorem dX11_laws_41 : decode cX11_laws 41 = .ok (.iconst 0, 1) := by decide +kernel
theorem dX11_laws_42 : decode cX11_laws 42 = .ok (.invokevirtual 86, 3) := by decide +kernel
theorem dX11_laws_45 : decode cX11_laws 45 = .ok (.iload_n 2, 1) := by decide +kernel
theorem dX11_laws_46 : decode cX11_laws 46 = .ok (.ireturn, 1) := by decide +kernel
theorem dX11_enactDraft_0 : decode cX11_enactDraft 0 = .ok (.aload_n 0, 1) := by decide +kernel
theorem dX11_enactDraft_1 : decode cX11_enactDraft 1 = .ok (.getfield 69, 3) := by decide +kernel
theorem dX11_enactDraft_4 : decode cX11_enactDraft 4 = .ok (.astore_n 2, 1) := by decide +kernel
theorem dX11_enactDraft_5 : decode cX11_enactDraft 5 = .ok (.aload_n 0, 1) := by decide +kernel
theorem dX11_enactDraft_6 : decode cX11_enactDraft 6 = .ok (.aload_n 1, 1) := by decide +kernel
theorem dX11_enactDraft_7 : decode cX11_enactDraft 7 = .ok (.getfield 134, 3) := by decide +kernel
theorem dX11_enactDraft_10 : decode cX11_enactDraft 10 = .ok (.putfield 69, 3) := by decide +kernel
theorem dX11_enactDraft_13 : decode cX11_enactDraft 13 = .ok (.aload_n 1, 1) := by decide +kernel
theorem dX11_enactDraft_14 : decode cX11_enactDraft 14 = .ok (.aload_n 2, 1) := by decide +kernel
theorem dX11_enactDraft_15 : decode cX11_enactDraft 15 = .ok (.putfield 134, 3) := by decide +kernel
theorem dX11_enactDraft_18 : decode cX11_enactDraft 18 = .ok (.return_, 1) := by decide +kernel
theorem dX11_fault_0 : decode cX11_fault 0 = .ok (.iload_n 1, 1) := by decide +kernel
theorem dX11_fault_1 : decode cX11_fault 1 = .ok (.lookupswitch 43 #[(0, 27), (1, 35)], 27) := by decide +kernel
theorem dX11_fault_28 : decode cX11_fault 28 = .ok (.aload_n 0, 1) := by decide +kernel
theorem dX11_fault_29 : decode cX11_fault 29 = .ok (.getfield 35, 3) := by decide +kernel
theorem dX11_fault_32 : decode cX11_fault 32 = .ok (.invokevirtual 137, 3) := by decide +kernel
theorem dX11_fault_35 : decode cX11_fault 35 = .ok (.ireturn, 1) := by decide +kernel
theorem dX11_fault_36 : decode cX11_fault 36 = .ok (.aload_n 0, 1) := by decide +kernel
theorem dX11_fault_37 : decode cX11_fault 37 = .ok (.getfield 35, 3) := by decide +kernel
theorem dX11_fault_40 : decode cX11_fault 40 = .ok (.invokevirtual 140, 3) := by decide +kernel
theorem dX11_fault_43 : decode cX11_fault 43 = .ok (.ireturn, 1) := by decide +kernel
theorem dX11_fault_44 : decode cX11_fault 44 = .ok (.iconst (-1), 1) := by decide +kernel
theorem dX11_fault_45 : decode cX11_fault 45 = .ok (.ireturn, 1) := by decide +kernel
theorem dX11_law_0 : decode cX11_law 0 = .ok (.iload_n 1, 1) := by decide +kernel
theorem dX11_law_1 : decode cX11_law 1 = .ok (.invokestatic 92, 3) := by decide +kernel
theorem dX11_law_4 : decode cX11_law 4 = .ok (.ifCond .eq 19, 3) := by decide +kernel
theorem dX11_law_7 : decode cX11_law 7 = .ok (.aload_n 0, 1) := by decide +kernel
theorem dX11_law_8 : decode cX11_law 8 = .ok (.getfield 41, 3) := by decide +kernel
theorem dX11_law_11 : decode cX11_law 11 = .ok (.iload_n 1, 1) := by decide +kernel
theorem dX11_law_12 : decode cX11_law 12 = .ok (.aaload, 1) := by decide +kernel
theorem dX11_law_13 : decode cX11_law 13 = .ok (.getfield 134, 3) := by decide +kernel
theorem dX11_law_16 : decode cX11_law 16 = .ok (.iload_n 2, 1) := by decide +kernel
theorem dX11_law_17 : decode cX11_law 17 = .ok (.invokevirtual 143, 3) := by decide +kernel
theorem dX11_law_20 : decode cX11_law 20 = .ok (.goto 5, 3) := by decide +kernel
theorem dX11_law_23 : decode cX11_law 23 = .ok (.bipush (-9), 2) := by decide +kernel
theorem dX11_law_25 : decode cX11_law 25 = .ok (.ireturn, 1) := by decide +kernel
theorem dX11_may_0 : decode cX11_may 0 = .ok (.iload_n 1, 1) := by decide +kernel
theorem dX11_may_1 : decode cX11_may 1 = .ok (.iload_n 2, 1) := by decide +kernel
theorem dX11_may_2 : decode cX11_may 2 = .ok (.iload_n 3, 1) := by decide +kernel
theorem dX11_may_3 : decode cX11_may 3 = .ok (.invokestatic 144, 3) := by decide +kernel
theorem dX11_may_6 : decode cX11_may 6 = .ok (.ifCond .ne 6, 3) := by decide +kernel
theorem dX11_may_9 : decode cX11_may 9 = .ok (.bipush (-2), 2) := by decide +kernel
theorem dX11_may_11 : decode cX11_may 11 = .ok (.ireturn, 1) := by decide +kernel
theorem dX11_may_12 : decode cX11_may 12 = .ok (.aload_n 0, 1) := by decide +kernel
theorem dX11_may_13 : decode cX11_may 13 = .ok (.getfield 41, 3) := by decide +kernel
theorem dX11_may_16 : decode cX11_may 16 = .ok (.iload_n 1, 1) := by decide +kernel
theorem dX11_may_17 : decode cX11_may 17 = .ok (.aaload, 1) := by decide +kernel
theorem dX11_may_18 : decode cX11_may 18 = .ok (.getfield 134, 3) := by decide +kernel
theorem dX11_may_21 : decode cX11_may 21 = .ok (.iload_n 2, 1) := by decide +kernel
theorem dX11_may_22 : decode cX11_may 22 = .ok (.iload_n 3, 1) := by decide +kernel
theorem dX11_may_23 : decode cX11_may 23 = .ok (.iload 4, 2) := by decide +kernel
end
section
theorem dX11_may_25 : decode cX11_may 25 = .ok (.invokevirtual 147, 3) := by decide +kernel
theorem dX11_may_28 : decode cX11_may 28 = .ok (.ifCond .eq 7, 3) := by decide +kernel
theorem dX11_may_31 : decode cX11_may 31 = .ok (.iconst 1, 1) := by decide +kernel
theorem dX11_may_32 : decode cX11_may 32 = .ok (.goto 4, 3) := by decide +kernel
theorem dX11_may_35 : decode cX11_may 35 = .ok (.iconst 0, 1) := by decide +kernel
theorem dX11_may_36 : decode cX11_may 36 = .ok (.ireturn, 1) := by decide +kernel
theorem dX11_house_0 : decode cX11_house 0 = .ok (.iload_n 1, 1) := by decide +kernel
theorem dX11_house_1 : decode cX11_house 1 = .ok (.invokestatic 92, 3) := by decide +kernel
theorem dX11_house_4 : decode cX11_house 4 = .ok (.ifCond .eq 16, 3) := by decide +kernel
theorem dX11_house_7 : decode cX11_house 7 = .ok (.iload_n 2, 1) := by decide +kernel
theorem dX11_house_8 : decode cX11_house 8 = .ok (.sipush 1500, 3) := by decide +kernel
theorem dX11_house_11 : decode cX11_house 11 = .ok (.sipush 1799, 3) := by decide +kernel
theorem dX11_house_14 : decode cX11_house 14 = .ok (.invokestatic 95, 3) := by decide +kernel
theorem dX11_house_17 : decode cX11_house 17 = .ok (.ifCond .ne 6, 3) := by decide +kernel
theorem dX11_house_20 : decode cX11_house 20 = .ok (.bipush (-2), 2) := by decide +kernel
theorem dX11_house_22 : decode cX11_house 22 = .ok (.ireturn, 1) := by decide +kernel
theorem dX11_house_23 : decode cX11_house 23 = .ok (.aload_n 0, 1) := by decide +kernel
theorem dX11_house_24 : decode cX11_house 24 = .ok (.getfield 48, 3) := by decide +kernel
theorem dX11_house_27 : decode cX11_house 27 = .ok (.iload_n 1, 1) := by decide +kernel
theorem dX11_house_28 : decode cX11_house 28 = .ok (.iload_n 2, 1) := by decide +kernel
theorem dX11_house_29 : decode cX11_house 29 = .ok (.invokevirtual 151, 3) := by decide +kernel
theorem dX11_house_32 : decode cX11_house 32 = .ok (.ireturn, 1) := by decide +kernel
theorem dX11_purse_0 : decode cX11_purse 0 = .ok (.aload_n 0, 1) := by decide +kernel
theorem dX11_purse_1 : decode cX11_purse 1 = .ok (.getfield 48, 3) := by decide +kernel
theorem dX11_purse_4 : decode cX11_purse 4 = .ok (.iload_n 1, 1) := by decide +kernel
theorem dX11_purse_5 : decode cX11_purse 5 = .ok (.invokevirtual 154, 3) := by decide +kernel
theorem dX11_purse_8 : decode cX11_purse 8 = .ok (.astore_n 3, 1) := by decide +kernel
theorem dX11_purse_9 : decode cX11_purse 9 = .ok (.aload_n 3, 1) := by decide +kernel
theorem dX11_purse_10 : decode cX11_purse 10 = .ok (.ifnull 24, 3) := by decide +kernel
theorem dX11_purse_13 : decode cX11_purse 13 = .ok (.iload_n 2, 1) := by decide +kernel
theorem dX11_purse_14 : decode cX11_purse 14 = .ok (.iconst 1, 1) := by decide +kernel
theorem dX11_purse_15 : decode cX11_purse 15 = .ok (.ldc 158, 2) := by decide +kernel
theorem dX11_purse_17 : decode cX11_purse 17 = .ok (.invokestatic 95, 3) := by decide +kernel
theorem dX11_purse_20 : decode cX11_purse 20 = .ok (.ifCond .eq 14, 3) := by decide +kernel
theorem dX11_purse_23 : decode cX11_purse 23 = .ok (.aload_n 3, 1) := by decide +kernel
theorem dX11_purse_24 : decode cX11_purse 24 = .ok (.getfield 159, 3) := by decide +kernel
theorem dX11_purse_27 : decode cX11_purse 27 = .ok (.iload_n 2, 1) := by decide +kernel
theorem dX11_purse_28 : decode cX11_purse 28 = .ok (.iadd, 1) := by decide +kernel
theorem dX11_purse_29 : decode cX11_purse 29 = .ok (.ldc 165, 2) := by decide +kernel
theorem dX11_purse_31 : decode cX11_purse 31 = .ok (.if_icmp .le 6, 3) := by decide +kernel
theorem dX11_purse_34 : decode cX11_purse 34 = .ok (.bipush (-2), 2) := by decide +kernel
theorem dX11_purse_36 : decode cX11_purse 36 = .ok (.ireturn, 1) := by decide +kernel
theorem dX11_purse_37 : decode cX11_purse 37 = .ok (.aload_n 3, 1) := by decide +kernel
theorem dX11_purse_38 : decode cX11_purse 38 = .ok (.dup, 1) := by decide +kernel
theorem dX11_purse_39 : decode cX11_purse 39 = .ok (.getfield 159, 3) := by decide +kernel
theorem dX11_purse_42 : decode cX11_purse 42 = .ok (.iload_n 2, 1) := by decide +kernel
theorem dX11_purse_43 : decode cX11_purse 43 = .ok (.iadd, 1) := by decide +kernel
theorem dX11_purse_44 : decode cX11_purse 44 = .ok (.putfield 159, 3) := by decide +kernel
theorem dX11_purse_47 : decode cX11_purse 47 = .ok (.aload_n 3, 1) := by decide +kernel
theorem dX11_purse_48 : decode cX11_purse 48 = .ok (.getfield 159, 3) := by decide +kernel
theorem dX11_purse_51 : decode cX11_purse 51 = .ok (.ireturn, 1) := by decide +kernel
theorem dX11_would_0 : decode cX11_would 0 = .ok (.aload_n 0, 1) := by decide +kernel
theorem dX11_would_1 : decode cX11_would 1 = .ok (.getfield 48, 3) := by decide +kernel
theorem dX11_would_4 : decode cX11_would 4 = .ok (.iload_n 1, 1) := by decide +kernel
theorem dX11_would_5 : decode cX11_would 5 = .ok (.invokevirtual 154, 3) := by decide +kernel
theorem dX11_would_8 : decode cX11_would 8 = .ok (.astore_n 3, 1) := by decide +kernel
theorem dX11_would_9 : decode cX11_would 9 = .ok (.aload_n 3, 1) := by decide +kernel
theorem dX11_would_10 : decode cX11_would 10 = .ok (.ifnull 12, 3) := by decide +kernel
theorem dX11_would_13 : decode cX11_would 13 = .ok (.iload_n 2, 1) := by decide +kernel
theorem dX11_would_14 : decode cX11_would 14 = .ok (.iconst 0, 1) := by decide +kernel
theorem dX11_would_15 : decode cX11_would 15 = .ok (.iconst 2, 1) := by decide +kernel
theorem dX11_would_16 : decode cX11_would 16 = .ok (.invokestatic 95, 3) := by decide +kernel
theorem dX11_would_19 : decode cX11_would 19 = .ok (.ifCond .ne 6, 3) := by decide +kernel
theorem dX11_would_22 : decode cX11_would 22 = .ok (.bipush (-2), 2) := by decide +kernel
theorem dX11_would_24 : decode cX11_would 24 = .ok (.ireturn, 1) := by decide +kernel
theorem dX11_would_25 : decode cX11_would 25 = .ok (.aload_n 3, 1) := by decide +kernel
theorem dX11_would_26 : decode cX11_would 26 = .ok (.getfield 166, 3) := by decide +kernel
theorem dX11_would_29 : decode cX11_would 29 = .ok (.istore 4, 2) := by decide +kernel
theorem dX11_would_31 : decode cX11_would 31 = .ok (.aload_n 3, 1) := by decide +kernel
theorem dX11_would_32 : decode cX11_would 32 = .ok (.iload_n 2, 1) := by decide +kernel
theorem dX11_would_33 : decode cX11_would 33 = .ok (.putfield 166, 3) := by decide +kernel
theorem dX11_would_36 : decode cX11_would 36 = .ok (.iload 4, 2) := by decide +kernel
theorem dX11_would_38 : decode cX11_would 38 = .ok (.ireturn, 1) := by decide +kernel
theorem dX11_fill_0 : decode cX11_fill 0 = .ok (.iload_n 1, 1) := by decide +kernel
theorem dX11_fill_1 : decode cX11_fill 1 = .ok (.invokestatic 92, 3) := by decide +kernel
theorem dX11_fill_4 : decode cX11_fill 4 = .ok (.ifCond .ne 6, 3) := by decide +kernel
theorem dX11_fill_7 : decode cX11_fill 7 = .ok (.bipush (-2), 2) := by decide +kernel
theorem dX11_fill_9 : decode cX11_fill 9 = .ok (.ireturn, 1) := by decide +kernel
theorem dX11_fill_10 : decode cX11_fill 10 = .ok (.aload_n 0, 1) := by decide +kernel
theorem dX11_fill_11 : decode cX11_fill 11 = .ok (.getfield 41, 3) := by decide +kernel
theorem dX11_fill_14 : decode cX11_fill 14 = .ok (.iload_n 1, 1) := by decide +kernel
theorem dX11_fill_15 : decode cX11_fill 15 = .ok (.aaload, 1) := by decide +kernel
theorem dX11_fill_16 : decode cX11_fill 16 = .ok (.iload_n 2, 1) := by decide +kernel
theorem dX11_fill_17 : decode cX11_fill 17 = .ok (.invokevirtual 169, 3) := by decide +kernel
theorem dX11_fill_20 : decode cX11_fill 20 = .ok (.istore_n 3, 1) := by decide +kernel
theorem dX11_fill_21 : decode cX11_fill 21 = .ok (.iload_n 3, 1) := by decide +kernel
theorem dX11_fill_22 : decode cX11_fill 22 = .ok (.iconst (-1), 1) := by decide +kernel
theorem dX11_fill_23 : decode cX11_fill 23 = .ok (.if_icmp .ne 8, 3) := by decide +kernel
theorem dX11_fill_26 : decode cX11_fill 26 = .ok (.bipush (-2), 2) := by decide +kernel
theorem dX11_fill_28 : decode cX11_fill 28 = .ok (.goto 18, 3) := by decide +kernel
theorem dX11_fill_31 : decode cX11_fill 31 = .ok (.aload_n 0, 1) := by decide +kernel
theorem dX11_fill_32 : decode cX11_fill 32 = .ok (.getfield 48, 3) := by decide +kernel
theorem dX11_fill_35 : decode cX11_fill 35 = .ok (.iload_n 1, 1) := by decide +kernel
theorem dX11_fill_36 : decode cX11_fill 36 = .ok (.aload_n 0, 1) := by decide +kernel
theorem dX11_fill_37 : decode cX11_fill 37 = .ok (.getfield 41, 3) := by decide +kernel
theorem dX11_fill_40 : decode cX11_fill 40 = .ok (.iload_n 1, 1) := by decide +kernel
theorem dX11_fill_41 : decode cX11_fill 41 = .ok (.aaload, 1) := by decide +kernel
theorem dX11_fill_42 : decode cX11_fill 42 = .ok (.iload_n 3, 1) := by decide +kernel
theorem dX11_fill_43 : decode cX11_fill 43 = .ok (.invokevirtual 172, 3) := by decide +kernel
theorem dX11_fill_46 : decode cX11_fill 46 = .ok (.ireturn, 1) := by decide +kernel
theorem dX11_year_0 : decode cX11_year 0 = .ok (.iload_n 1, 1) := by decide +kernel
theorem dX11_year_1 : decode cX11_year 1 = .ok (.invokestatic 92, 3) := by decide +kernel
theorem dX11_year_4 : decode cX11_year 4 = .ok (.ifCond .eq 17, 3) := by decide +kernel
theorem dX11_year_7 : decode cX11_year 7 = .ok (.aload_n 0, 1) := by decide +kernel
theorem dX11_year_8 : decode cX11_year 8 = .ok (.getfield 41, 3) := by decide +kernel
theorem dX11_year_11 : decode cX11_year 11 = .ok (.iload_n 1, 1) := by decide +kernel
theorem dX11_year_12 : decode cX11_year 12 = .ok (.aaload, 1) := by decide +kernel
theorem dX11_year_13 : decode cX11_year 13 = .ok (.iload_n 2, 1) := by decide +kernel
theorem dX11_year_14 : decode cX11_year 14 = .ok (.iload_n 3, 1) := by decide +kernel
theorem dX11_year_15 : decode cX11_year 15 = .ok (.invokevirtual 176, 3) := by decide +kernel
theorem dX11_year_18 : decode cX11_year 18 = .ok (.goto 5, 3) := by decide +kernel
theorem dX11_year_21 : decode cX11_year 21 = .ok (.bipush (-9), 2) := by decide +kernel
theorem dX11_year_23 : decode cX11_year 23 = .ok (.ireturn, 1) := by decide +kernel
theorem dX11_about_0 : decode cX11_about 0 = .ok (.aload_n 0, 1) := by decide +kernel
theorem dX11_about_1 : decode cX11_about 1 = .ok (.getfield 48, 3) := by decide +kernel
theorem dX11_about_4 : decode cX11_about 4 = .ok (.iload_n 1, 1) := by decide +kernel
theorem dX11_about_5 : decode cX11_about 5 = .ok (.invokevirtual 154, 3) := by decide +kernel
theorem dX11_about_8 : decode cX11_about 8 = .ok (.astore_n 3, 1) := by decide +kernel
theorem dX11_about_9 : decode cX11_about 9 = .ok (.aload_n 3, 1) := by decide +kernel
theorem dX11_about_10 : decode cX11_about 10 = .ok (.ifnonnull 7, 3) := by decide +kernel
theorem dX11_about_13 : decode cX11_about 13 = .ok (.iconst (-1), 1) := by decide +kernel
theorem dX11_about_14 : decode cX11_about 14 = .ok (.goto 8, 3) := by decide +kernel
theorem dX11_about_17 : decode cX11_about 17 = .ok (.aload_n 3, 1) := by decide +kernel
theorem dX11_about_18 : decode cX11_about 18 = .ok (.iload_n 2, 1) := by decide +kernel
theorem dX11_about_19 : decode cX11_about 19 = .ok (.invokevirtual 179, 3) := by decide +kernel
theorem dX11_about_22 : decode cX11_about 22 = .ok (.ireturn, 1) := by decide +kernel
theorem dX11_charge_0 : decode cX11_charge 0 = .ok (.iload_n 1, 1) := by decide +kernel
theorem dX11_charge_1 : decode cX11_charge 1 = .ok (.iload_n 2, 1) := by decide +kernel
theorem dX11_charge_2 : decode cX11_charge 2 = .ok (.iload_n 3, 1) := by decide +kernel
theorem dX11_charge_3 : decode cX11_charge 3 = .ok (.invokestatic 144, 3) := by decide +kernel
theorem dX11_charge_6 : decode cX11_charge 6 = .ok (.ifCond .ne 6, 3) := by decide +kernel
theorem dX11_charge_9 : decode cX11_charge 9 = .ok (.bipush (-2), 2) := by decide +kernel
theorem dX11_charge_11 : decode cX11_charge 11 = .ok (.ireturn, 1) := by decide +kernel
theorem dX11_charge_12 : decode cX11_charge 12 = .ok (.aload_n 0, 1) := by decide +kernel
theorem dX11_charge_13 : decode cX11_charge 13 = .ok (.getfield 55, 3) := by decide +kernel
theorem dX11_charge_16 : decode cX11_charge 16 = .ok (.invokevirtual 180, 3) := by decide +kernel
theorem dX11_charge_19 : decode cX11_charge 19 = .ok (.ifCond .eq 6, 3) := by decide +kernel
theorem dX11_charge_22 : decode cX11_charge 22 = .ok (.bipush (-3), 2) := by decide +kernel
theorem dX11_charge_24 : decode cX11_charge 24 = .ok (.ireturn, 1) := by decide +kernel
theorem dX11_charge_25 : decode cX11_charge 25 = .ok (.aload_n 0, 1) := by decide +kernel
theorem dX11_charge_26 : decode cX11_charge 26 = .ok (.getfield 55, 3) := by decide +kernel
theorem dX11_charge_29 : decode cX11_charge 29 = .ok (.new 184, 3) := by decide +kernel
theorem dX11_charge_32 : decode cX11_charge 32 = .ok (.dup, 1) := by decide +kernel
theorem dX11_charge_33 : decode cX11_charge 33 = .ok (.iload_n 1, 1) := by decide +kernel
theorem dX11_charge_34 : decode cX11_charge 34 = .ok (.iload_n 2, 1) := by decide +kernel
theorem dX11_charge_35 : decode cX11_charge 35 = .ok (.iload_n 3, 1) := by decide +kernel
theorem dX11_charge_36 : decode cX11_charge 36 = .ok (.invokespecial 186, 3) := by decide +kernel
theorem dX11_charge_39 : decode cX11_charge 39 = .ok (.aload_n 0, 1) := by decide +kernel
theorem dX11_charge_40 : decode cX11_charge 40 = .ok (.getfield 41, 3) := by decide +kernel
theorem dX11_charge_43 : decode cX11_charge 43 = .ok (.iload 4, 2) := by decide +kernel
theorem dX11_charge_45 : decode cX11_charge 45 = .ok (.invokevirtual 188, 3) := by decide +kernel
theorem dX11_charge_48 : decode cX11_charge 48 = .ok (.ireturn, 1) := by decide +kernel
theorem dX11_charged_0 : decode cX11_charged 0 = .ok (.aload_n 0, 1) := by decide +kernel
theorem dX11_charged_1 : decode cX11_charged 1 = .ok (.getfield 55, 3) := by decide +kernel
theorem dX11_charged_4 : decode cX11_charged 4 = .ok (.iload_n 1, 1) := by decide +kernel
theorem dX11_charged_5 : decode cX11_charged 5 = .ok (.invokevirtual 192, 3) := by decide +kernel
theorem dX11_charged_8 : decode cX11_charged 8 = .ok (.astore_n 3, 1) := by decide +kernel
theorem dX11_charged_9 : decode cX11_charged 9 = .ok (.aload_n 3, 1) := by decide +kernel
theorem dX11_charged_10 : decode cX11_charged 10 = .ok (.ifnonnull 7, 3) := by decide +kernel
theorem dX11_charged_13 : decode cX11_charged 13 = .ok (.iconst (-1), 1) := by decide +kernel
theorem dX11_charged_14 : decode cX11_charged 14 = .ok (.goto 8, 3) := by decide +kernel
theorem dX11_charged_17 : decode cX11_charged 17 = .ok (.aload_n 3, 1) := by decide +kernel
theorem dX11_charged_18 : decode cX11_charged 18 = .ok (.iload_n 2, 1) := by decide +kernel
theorem dX11_charged_19 : decode cX11_charged 19 = .ok (.invokevirtual 195, 3) := by decide +kernel
theorem dX11_charged_22 : decode cX11_charged 22 = .ok (.ireturn, 1) := by decide +kernel
theorem dX11_morning_0 : decode cX11_morning 0 = .ok (.iconst 0, 1) := by decide +kernel
theorem dX11_morning_1 : decode cX11_morning 1 = .ok (.istore_n 1, 1) := by decide +kernel
theorem dX11_morning_2 : decode cX11_morning 2 = .ok (.iload_n 1, 1) := by decide +kernel
theorem dX11_morning_3 : decode cX11_morning 3 = .ok (.iconst 4, 1) := by decide +kernel
theorem dX11_morning_4 : decode cX11_morning 4 = .ok (.if_icmp .ge 19, 3) := by decide +kernel
theorem dX11_morning_7 : decode cX11_morning 7 = .ok (.aload_n 0, 1) := by decide +kernel
theorem dX11_morning_8 : decode cX11_morning 8 = .ok (.getfield 41, 3) := by decide +kernel
theorem dX11_morning_11 : decode cX11_morning 11 = .ok (.iload_n 1, 1) := by decide +kernel
theorem dX11_morning_12 : decode cX11_morning 12 = .ok (.aaload, 1) := by decide +kernel
theorem dX11_morning_13 : decode cX11_morning 13 = .ok (.iconst 0, 1) := by decide +kernel
theorem dX11_morning_14 : decode cX11_morning 14 = .ok (.putfield 196, 3) := by decide +kernel
theorem dX11_morning_17 : decode cX11_morning 17 = .ok (.iinc 1 1, 3) := by decide +kernel
theorem dX11_morning_20 : decode cX11_morning 20 = .ok (.goto (-18), 3) := by decide +kernel
theorem dX11_morning_23 : decode cX11_morning 23 = .ok (.aload_n 0, 1) := by decide +kernel
theorem dX11_morning_24 : decode cX11_morning 24 = .ok (.getfield 55, 3) := by decide +kernel
theorem dX11_morning_27 : decode cX11_morning 27 = .ok (.invokevirtual 199, 3) := by decide +kernel
theorem dX11_morning_30 : decode cX11_morning 30 = .ok (.ireturn, 1) := by decide +kernel
theorem dX11_flee_0 : decode cX11_flee 0 = .ok (.aload_n 0, 1) := by decide +kernel
theorem dX11_flee_1 : decode cX11_flee 1 = .ok (.getfield 62, 3) := by decide +kernel
theorem dX11_flee_4 : decode cX11_flee 4 = .ok (.aload_n 0, 1) := by decide +kernel
theorem dX11_flee_5 : decode cX11_flee 5 = .ok (.getfield 10, 3) := by decide +kernel
theorem dX11_flee_8 : decode cX11_flee 8 = .ok (.aload_n 0, 1) := by decide +kernel
theorem dX11_flee_9 : decode cX11_flee 9 = .ok (.getfield 19, 3) := by decide +kernel
theorem dX11_flee_12 : decode cX11_flee 12 = .ok (.invokevirtual 202, 3) := by decide +kernel
theorem dX11_flee_15 : decode cX11_flee 15 = .ok (.ifCond .eq 22, 3) := by decide +kernel
theorem dX11_flee_18 : decode cX11_flee 18 = .ok (.aload_n 0, 1) := by decide +kernel
theorem dX11_flee_19 : decode cX11_flee 19 = .ok (.getfield 62, 3) := by decide +kernel
theorem dX11_flee_22 : decode cX11_flee 22 = .ok (.aload_n 0, 1) := by decide +kernel
theorem dX11_flee_23 : decode cX11_flee 23 = .ok (.getfield 19, 3) := by decide +kernel
theorem dX11_flee_26 : decode cX11_flee 26 = .ok (.aload_n 0, 1) := by decide +kernel
theorem dX11_flee_27 : decode cX11_flee 27 = .ok (.getfield 41, 3) := by decide +kernel
theorem dX11_flee_30 : decode cX11_flee 30 = .ok (.iload_n 1, 1) := by decide +kernel
theorem dX11_flee_31 : decode cX11_flee 31 = .ok (.invokevirtual 205, 3) := by decide +kernel
theorem dX11_flee_34 : decode cX11_flee 34 = .ok (.goto 4, 3) := by decide +kernel
theorem dX11_flee_37 : decode cX11_flee 37 = .ok (.iconst (-1), 1) := by decide +kernel
theorem dX11_flee_38 : decode cX11_flee 38 = .ok (.istore_n 2, 1) := by decide +kernel
theorem dX11_flee_39 : decode cX11_flee 39 = .ok (.aload_n 0, 1) := by decide +kernel
theorem dX11_flee_40 : decode cX11_flee 40 = .ok (.getfield 10, 3) := by decide +kernel
theorem dX11_flee_43 : decode cX11_flee 43 = .ok (.iconst 0, 1) := by decide +kernel
theorem dX11_flee_44 : decode cX11_flee 44 = .ok (.invokevirtual 86, 3) := by decide +kernel
theorem dX11_flee_47 : decode cX11_flee 47 = .ok (.iload_n 2, 1) := by decide +kernel
theorem dX11_flee_48 : decode cX11_flee 48 = .ok (.ireturn, 1) := by decide +kernel
theorem dX11_fled_0 : decode cX11_fled 0 = .ok (.aload_n 0, 1) := by decide +kernel
theorem dX11_fled_1 : decode cX11_fled 1 = .ok (.getfield 62, 3) := by decide +kernel
theorem dX11_fled_4 : decode cX11_fled 4 = .ok (.iload_n 1, 1) := by decide +kernel
theorem dX11_fled_5 : decode cX11_fled 5 = .ok (.invokevirtual 209, 3) := by decide +kernel
theorem dX11_fled_8 : decode cX11_fled 8 = .ok (.ireturn, 1) := by decide +kernel
theorem dX11_doubt_0 : decode cX11_doubt 0 = .ok (.iload_n 1, 1) := by decide +kernel
theorem dX11_doubt_1 : decode cX11_doubt 1 = .ok (.invokestatic 210, 3) := by decide +kernel
theorem dX11_doubt_4 : decode cX11_doubt 4 = .ok (.ifCond .eq 35, 3) := by decide +kernel
theorem dX11_doubt_7 : decode cX11_doubt 7 = .ok (.iload_n 2, 1) := by decide +kernel
theorem dX11_doubt_8 : decode cX11_doubt 8 = .ok (.invokestatic 210, 3) := by decide +kernel
theorem dX11_doubt_11 : decode cX11_doubt 11 = .ok (.ifCond .eq 28, 3) := by decide +kernel
theorem dX11_doubt_14 : decode cX11_doubt 14 = .ok (.iload_n 3, 1) := by decide +kernel
theorem dX11_doubt_15 : decode cX11_doubt 15 = .ok (.invokestatic 210, 3) := by decide +kernel
theorem dX11_doubt_18 : decode cX11_doubt 18 = .ok (.ifCond .eq 21, 3) := by decide +kernel
theorem dX11_doubt_21 : decode cX11_doubt 21 = .ok (.iload 4, 2) := by decide +kernel
theorem dX11_doubt_23 : decode cX11_doubt 23 = .ok (.invokestatic 210, 3) := by decide +kernel
theorem dX11_doubt_26 : decode cX11_doubt 26 = .ok (.ifCond .eq 13, 3) := by decide +kernel
theorem dX11_doubt_29 : decode cX11_doubt 29 = .ok (.iload 5, 2) := by decide +kernel
theorem dX11_doubt_31 : decode cX11_doubt 31 = .ok (.iconst 0, 1) := by decide +kernel
theorem dX11_doubt_32 : decode cX11_doubt 32 = .ok (.iconst 2, 1) := by decide +kernel
theorem dX11_doubt_33 : decode cX11_doubt 33 = .ok (.invokestatic 95, 3) := by decide +kernel
theorem dX11_doubt_36 : decode cX11_doubt 36 = .ok (.ifCond .ne 7, 3) := by decide +kernel
theorem dX11_doubt_39 : decode cX11_doubt 39 = .ok (.ldc2_w 213, 3) := by decide +kernel
theorem dX11_doubt_42 : decode cX11_doubt 42 = .ok (.lreturn, 1) := by decide +kernel
theorem dX11_doubt_43 : decode cX11_doubt 43 = .ok (.iload_n 1, 1) := by decide +kernel
theorem dX11_doubt_44 : decode cX11_doubt 44 = .ok (.iload_n 2, 1) := by decide +kernel
theorem dX11_doubt_45 : decode cX11_doubt 45 = .ok (.iadd, 1) := by decide +kernel
theorem dX11_doubt_46 : decode cX11_doubt 46 = .ok (.istore 6, 2) := by decide +kernel
theorem dX11_doubt_48 : decode cX11_doubt 48 = .ok (.iload_n 3, 1) := by decide +kernel
theorem dX11_doubt_49 : decode cX11_doubt 49 = .ok (.iload 4, 2) := by decide +kernel
theorem dX11_doubt_51 : decode cX11_doubt 51 = .ok (.iadd, 1) := by decide +kernel
theorem dX11_doubt_52 : decode cX11_doubt 52 = .ok (.istore 7, 2) := by decide +kernel
theorem dX11_doubt_54 : decode cX11_doubt 54 = .ok (.iload_n 1, 1) := by decide +kernel
theorem dX11_doubt_55 : decode cX11_doubt 55 = .ok (.iload_n 3, 1) := by decide +kernel
theorem dX11_doubt_56 : decode cX11_doubt 56 = .ok (.iadd, 1) := by decide +kernel
theorem dX11_doubt_57 : decode cX11_doubt 57 = .ok (.istore 8, 2) := by decide +kernel
theorem dX11_doubt_59 : decode cX11_doubt 59 = .ok (.iload 6, 2) := by decide +kernel
theorem dX11_doubt_61 : decode cX11_doubt 61 = .ok (.iload 7, 2) := by decide +kernel
theorem dX11_doubt_63 : decode cX11_doubt 63 = .ok (.iadd, 1) := by decide +kernel
theorem dX11_doubt_64 : decode cX11_doubt 64 = .ok (.ifCond .ne 7, 3) := by decide +kernel
theorem dX11_doubt_67 : decode cX11_doubt 67 = .ok (.ldc2_w 213, 3) := by decide +kernel
theorem dX11_doubt_70 : decode cX11_doubt 70 = .ok (.lreturn, 1) := by decide +kernel
theorem dX11_doubt_71 : decode cX11_doubt 71 = .ok (.iload 6, 2) := by decide +kernel
theorem dX11_doubt_73 : decode cX11_doubt 73 = .ok (.iload 7, 2) := by decide +kernel
theorem dX11_doubt_75 : decode cX11_doubt 75 = .ok (.iadd, 1) := by decide +kernel
theorem dX11_doubt_76 : decode cX11_doubt 76 = .ok (.iload 8, 2) := by decide +kernel
theorem dX11_doubt_78 : decode cX11_doubt 78 = .ok (.invokestatic 215, 3) := by decide +kernel
theorem dX11_doubt_81 : decode cX11_doubt 81 = .ok (.lstore 9, 2) := by decide +kernel
theorem dX11_doubt_83 : decode cX11_doubt 83 = .ok (.lconst 0, 1) := by decide +kernel
theorem dX11_doubt_84 : decode cX11_doubt 84 = .ok (.lstore 11, 2) := by decide +kernel
theorem dX11_doubt_86 : decode cX11_doubt 86 = .ok (.iconst 0, 1) := by decide +kernel
theorem dX11_doubt_87 : decode cX11_doubt 87 = .ok (.istore 13, 2) := by decide +kernel
theorem dX11_doubt_89 : decode cX11_doubt 89 = .ok (.iload 13, 2) := by decide +kernel
theorem dX11_doubt_91 : decode cX11_doubt 91 = .ok (.iload_n 1, 1) := by decide +kernel
theorem dX11_doubt_92 : decode cX11_doubt 92 = .ok (.if_icmp .gt 32, 3) := by decide +kernel
theorem dX11_doubt_95 : decode cX11_doubt 95 = .ok (.lload 11, 2) := by decide +kernel
theorem dX11_doubt_97 : decode cX11_doubt 97 = .ok (.iload 6, 2) := by decide +kernel
theorem dX11_doubt_99 : decode cX11_doubt 99 = .ok (.iload 13, 2) := by decide +kernel
theorem dX11_doubt_101 : decode cX11_doubt 101 = .ok (.invokestatic 215, 3) := by decide +kernel
theorem dX11_doubt_104 : decode cX11_doubt 104 = .ok (.iload 7, 2) := by decide +kernel
theorem dX11_doubt_106 : decode cX11_doubt 106 = .ok (.iload 8, 2) := by decide +kernel
theorem dX11_doubt_108 : decode cX11_doubt 108 = .ok (.iload 13, 2) := by decide +kernel
theorem dX11_doubt_110 : decode cX11_doubt 110 = .ok (.isub, 1) := by decide +kernel
theorem dX11_doubt_111 : decode cX11_doubt 111 = .ok (.invokestatic 215, 3) := by decide +kernel
theorem dX11_doubt_114 : decode cX11_doubt 114 = .ok (.lmul, 1) := by decide +kernel
theorem dX11_doubt_115 : decode cX11_doubt 115 = .ok (.ladd, 1) := by decide +kernel
theorem dX11_doubt_116 : decode cX11_doubt 116 = .ok (.lstore 11, 2) := by decide +kernel
theorem dX11_doubt_118 : decode cX11_doubt 118 = .ok (.iinc 13 1, 3) := by decide +kernel
theorem dX11_doubt_121 : decode cX11_doubt 121 = .ok (.goto (-32), 3) := by decide +kernel
theorem dX11_doubt_124 : decode cX11_doubt 124 = .ok (.iload 5, 2) := by decide +kernel
theorem dX11_doubt_126 : decode cX11_doubt 126 = .ok (.iconst 2, 1) := by decide +kernel
theorem dX11_doubt_127 : decode cX11_doubt 127 = .ok (.if_icmp .ne 21, 3) := by decide +kernel
theorem dX11_doubt_130 : decode cX11_doubt 130 = .ok (.ldc2_w 219, 3) := by decide +kernel
theorem dX11_doubt_133 : decode cX11_doubt 133 = .ok (.lload 11, 2) := by decide +kernel
theorem dX11_doubt_135 : decode cX11_doubt 135 = .ok (.lmul, 1) := by decide +kernel
theorem dX11_doubt_136 : decode cX11_doubt 136 = .ok (.lload 9, 2) := by decide +kernel
theorem dX11_doubt_138 : decode cX11_doubt 138 = .ok (.lcmp, 1) := by decide +kernel
theorem dX11_doubt_139 : decode cX11_doubt 139 = .ok (.ifCond .gt 7, 3) := by decide +kernel
theorem dX11_doubt_142 : decode cX11_doubt 142 = .ok (.lconst 1, 1) := by decide +kernel
theorem dX11_doubt_143 : decode cX11_doubt 143 = .ok (.goto 4, 3) := by decide +kernel
theorem dX11_doubt_146 : decode cX11_doubt 146 = .ok (.lconst 0, 1) := by decide +kernel
theorem dX11_doubt_147 : decode cX11_doubt 147 = .ok (.lreturn, 1) := by decide +kernel
theorem dX11_doubt_148 : decode cX11_doubt 148 = .ok (.iload 5, 2) := by decide +kernel
theorem dX11_doubt_150 : decode cX11_doubt 150 = .ok (.ifCond .ne 8, 3) := by decide +kernel
theorem dX11_doubt_153 : decode cX11_doubt 153 = .ok (.lload 11, 2) := by decide +kernel
theorem dX11_doubt_155 : decode cX11_doubt 155 = .ok (.goto 5, 3) := by decide +kernel
theorem dX11_doubt_158 : decode cX11_doubt 158 = .ok (.lload 9, 2) := by decide +kernel
theorem dX11_doubt_160 : decode cX11_doubt 160 = .ok (.lload 11, 2) := by decide +kernel
theorem dX11_doubt_162 : decode cX11_doubt 162 = .ok (.lload 9, 2) := by decide +kernel
theorem dX11_doubt_164 : decode cX11_doubt 164 = .ok (.invokestatic 221, 3) := by decide +kernel
theorem dX11_doubt_167 : decode cX11_doubt 167 = .ok (.ldiv, 1) := by decide +kernel
theorem dX11_doubt_168 : decode cX11_doubt 168 = .ok (.lreturn, 1) := by decide +kernel
theorem dX11_count_0 : decode cX11_count 0 = .ok (.iload_n 1, 1) := by decide +kernel
theorem dX11_count_1 : decode cX11_count 1 = .ok (.tableswitch 51 0 2 #[27, 35, 43], 27) := by decide +kernel
theorem dX11_count_28 : decode cX11_count 28 = .ok (.aload_n 0, 1) := by decide +kernel
theorem dX11_count_29 : decode cX11_count 29 = .ok (.getfield 48, 3) := by decide +kernel
theorem dX11_count_32 : decode cX11_count 32 = .ok (.invokevirtual 225, 3) := by decide +kernel
theorem dX11_count_35 : decode cX11_count 35 = .ok (.ireturn, 1) := by decide +kernel
theorem dX11_count_36 : decode cX11_count 36 = .ok (.aload_n 0, 1) := by decide +kernel
theorem dX11_count_37 : decode cX11_count 37 = .ok (.getfield 55, 3) := by decide +kernel
theorem dX11_count_40 : decode cX11_count 40 = .ok (.invokevirtual 228, 3) := by decide +kernel
theorem dX11_count_43 : decode cX11_count 43 = .ok (.ireturn, 1) := by decide +kernel
theorem dX11_count_44 : decode cX11_count 44 = .ok (.aload_n 0, 1) := by decide +kernel
theorem dX11_count_45 : decode cX11_count 45 = .ok (.getfield 10, 3) := by decide +kernel
theorem dX11_count_48 : decode cX11_count 48 = .ok (.invokevirtual 82, 3) := by decide +kernel
theorem dX11_count_51 : decode cX11_count 51 = .ok (.ireturn, 1) := by decide +kernel
theorem dX11_count_52 : decode cX11_count 52 = .ok (.iload_n 1, 1) := by decide +kernel
theorem dX11_count_53 : decode cX11_count 53 = .ok (.bipush 10, 2) := by decide +kernel
theorem dX11_count_55 : decode cX11_count 55 = .ok (.bipush 13, 2) := by decide +kernel
theorem dX11_count_57 : decode cX11_count 57 = .ok (.invokestatic 95, 3) := by decide +kernel
theorem dX11_count_60 : decode cX11_count 60 = .ok (.ifCond .eq 16, 3) := by decide +kernel
theorem dX11_count_63 : decode cX11_count 63 = .ok (.aload_n 0, 1) := by decide +kernel
theorem dX11_count_64 : decode cX11_count 64 = .ok (.getfield 41, 3) := by decide +kernel
theorem dX11_count_67 : decode cX11_count 67 = .ok (.iload_n 1, 1) := by decide +kernel
theorem dX11_count_68 : decode cX11_count 68 = .ok (.bipush 10, 2) := by decide +kernel
theorem dX11_count_70 : decode cX11_count 70 = .ok (.isub, 1) := by decide +kernel
theorem dX11_count_71 : decode cX11_count 71 = .ok (.aaload, 1) := by decide +kernel
theorem dX11_count_72 : decode cX11_count 72 = .ok (.getfield 229, 3) := by decide +kernel
theorem dX11_count_75 : decode cX11_count 75 = .ok (.ireturn, 1) := by decide +kernel
theorem dX11_count_76 : decode cX11_count 76 = .ok (.iload_n 1, 1) := by decide +kernel
theorem dX11_count_77 : decode cX11_count 77 = .ok (.bipush 20, 2) := by decide +kernel
theorem dX11_count_79 : decode cX11_count 79 = .ok (.bipush 23, 2) := by decide +kernel
theorem dX11_count_81 : decode cX11_count 81 = .ok (.invokestatic 95, 3) := by decide +kernel
theorem dX11_count_84 : decode cX11_count 84 = .ok (.ifCond .eq 16, 3) := by decide +kernel
theorem dX11_count_87 : decode cX11_count 87 = .ok (.aload_n 0, 1) := by decide +kernel
theorem dX11_count_88 : decode cX11_count 88 = .ok (.getfield 41, 3) := by decide +kernel
theorem dX11_count_91 : decode cX11_count 91 = .ok (.iload_n 1, 1) := by decide +kernel
theorem dX11_count_92 : decode cX11_count 92 = .ok (.bipush 20, 2) := by decide +kernel
theorem dX11_count_94 : decode cX11_count 94 = .ok (.isub, 1) := by decide +kernel
theorem dX11_count_95 : decode cX11_count 95 = .ok (.aaload, 1) := by decide +kernel
theorem dX11_count_96 : decode cX11_count 96 = .ok (.getfield 196, 3) := by decide +kernel
theorem dX11_count_99 : decode cX11_count 99 = .ok (.ireturn, 1) := by decide +kernel
theorem dX11_count_100 : decode cX11_count 100 = .ok (.iload_n 1, 1) := by decide +kernel
theorem dX11_count_101 : decode cX11_count 101 = .ok (.bipush 30, 2) := by decide +kernel
theorem dX11_count_103 : decode cX11_count 103 = .ok (.bipush 33, 2) := by decide +kernel
theorem dX11_count_105 : decode cX11_count 105 = .ok (.invokestatic 95, 3) := by decide +kernel
theorem dX11_count_108 : decode cX11_count 108 = .ok (.ifCond .eq 16, 3) := by decide +kernel
theorem dX11_count_111 : decode cX11_count 111 = .ok (.aload_n 0, 1) := by decide +kernel
theorem dX11_count_112 : decode cX11_count 112 = .ok (.getfield 41, 3) := by decide +kernel
theorem dX11_count_115 : decode cX11_count 115 = .ok (.iload_n 1, 1) := by decide +kernel
theorem dX11_count_116 : decode cX11_count 116 = .ok (.bipush 30, 2) := by decide +kernel
theorem dX11_count_118 : decode cX11_count 118 = .ok (.isub, 1) := by decide +kernel
theorem dX11_count_119 : decode cX11_count 119 = .ok (.aaload, 1) := by decide +kernel
theorem dX11_count_120 : decode cX11_count 120 = .ok (.getfield 232, 3) := by decide +kernel
theorem dX11_count_123 : decode cX11_count 123 = .ok (.ireturn, 1) := by decide +kernel
theorem dX11_count_124 : decode cX11_count 124 = .ok (.iconst (-1), 1) := by decide +kernel
theorem dX11_count_125 : decode cX11_count 125 = .ok (.ireturn, 1) := by decide +kernel
theorem dX11_isFrom_0 : decode cX11_isFrom 0 = .ok (.iload_n 0, 1) := by decide +kernel
theorem dX11_isFrom_1 : decode cX11_isFrom 1 = .ok (.iload_n 1, 1) := by decide +kernel
theorem dX11_isFrom_2 : decode cX11_isFrom 2 = .ok (.if_icmp .lt 12, 3) := by decide +kernel
theorem dX11_isFrom_5 : decode cX11_isFrom 5 = .ok (.iload_n 0, 1) := by decide +kernel
theorem dX11_isFrom_6 : decode cX11_isFrom 6 = .ok (.iload_n 2, 1) := by decide +kernel
theorem dX11_isFrom_7 : decode cX11_isFrom 7 = .ok (.if_icmp .gt 7, 3) := by decide +kernel
theorem dX11_isFrom_10 : decode cX11_isFrom 10 = .ok (.iconst 1, 1) := by decide +kernel
theorem dX11_isFrom_11 : decode cX11_isFrom 11 = .ok (.goto 4, 3) := by decide +kernel
theorem dX11_isFrom_14 : decode cX11_isFrom 14 = .ok (.iconst 0, 1) := by decide +kernel
theorem dX11_isFrom_15 : decode cX11_isFrom 15 = .ok (.ireturn, 1) := by decide +kernel
theorem dX11_isCourt_0 : decode cX11_isCourt 0 = .ok (.iload_n 0, 1) := by decide +kernel
theorem dX11_isCourt_1 : decode cX11_isCourt 1 = .ok (.iconst 0, 1) := by decide +kernel
theorem dX11_isCourt_2 : decode cX11_isCourt 2 = .ok (.bipush 11, 2) := by decide +kernel
theorem dX11_isCourt_4 : decode cX11_isCourt 4 = .ok (.invokestatic 95, 3) := by decide +kernel
theorem dX11_isCourt_7 : decode cX11_isCourt 7 = .ok (.ireturn, 1) := by decide +kernel
theorem dX11_isWard_0 : decode cX11_isWard 0 = .ok (.iload_n 0, 1) := by decide +kernel
theorem dX11_isWard_1 : decode cX11_isWard 1 = .ok (.iconst 0, 1) := by decide +kernel
theorem dX11_isWard_2 : decode cX11_isWard 2 = .ok (.iconst 3, 1) := by decide +kernel
theorem dX11_isWard_3 : decode cX11_isWard 3 = .ok (.invokestatic 95, 3) := by decide +kernel
theorem dX11_isWard_6 : decode cX11_isWard 6 = .ok (.ireturn, 1) := by decide +kernel
theorem dX11_isTaking_0 : decode cX11_isTaking 0 = .ok (.iload_n 0, 1) := by decide +kernel
theorem dX11_isTaking_1 : decode cX11_isTaking 1 = .ok (.invokestatic 92, 3) := by decide +kernel
theorem dX11_isTaking_4 : decode cX11_isTaking 4 = .ok (.ifCond .eq 26, 3) := by decide +kernel
theorem dX11_isTaking_7 : decode cX11_isTaking 7 = .ok (.iload_n 1, 1) := by decide +kernel
theorem dX11_isTaking_8 : decode cX11_isTaking 8 = .ok (.iconst 0, 1) := by decide +kernel
theorem dX11_isTaking_9 : decode cX11_isTaking 9 = .ok (.iconst 2, 1) := by decide +kernel
theorem dX11_isTaking_10 : decode cX11_isTaking 10 = .ok (.invokestatic 95, 3) := by decide +kernel
theorem dX11_isTaking_13 : decode cX11_isTaking 13 = .ok (.ifCond .eq 17, 3) := by decide +kernel
theorem dX11_isTaking_16 : decode cX11_isTaking 16 = .ok (.iload_n 2, 1) := by decide +kernel
theorem dX11_isTaking_17 : decode cX11_isTaking 17 = .ok (.iconst 0, 1) := by decide +kernel
theorem dX11_isTaking_18 : decode cX11_isTaking 18 = .ok (.bipush 23, 2) := by decide +kernel
theorem dX11_isTaking_20 : decode cX11_isTaking 20 = .ok (.invokestatic 95, 3) := by decide +kernel
theorem dX11_isTaking_23 : decode cX11_isTaking 23 = .ok (.ifCond .eq 7, 3) := by decide +kernel
theorem dX11_isTaking_26 : decode cX11_isTaking 26 = .ok (.iconst 1, 1) := by decide +kernel
theorem dX11_isTaking_27 : decode cX11_isTaking 27 = .ok (.goto 4, 3) := by decide +kernel
theorem dX11_isTaking_30 : decode cX11_isTaking 30 = .ok (.iconst 0, 1) := by decide +kernel
theorem dX11_isTaking_31 : decode cX11_isTaking 31 = .ok (.ireturn, 1) := by decide +kernel
theorem dX11_isInTable_0 : decode cX11_isInTable 0 = .ok (.iload_n 0, 1) := by decide +kernel
theorem dX11_isInTable_1 : decode cX11_isInTable 1 = .ok (.iconst 0, 1) := by decide +kernel
theorem dX11_isInTable_2 : decode cX11_isInTable 2 = .ok (.bipush 15, 2) := by decide +kernel
theorem dX11_isInTable_4 : decode cX11_isInTable 4 = .ok (.invokestatic 95, 3) := by decide +kernel
theorem dX11_isInTable_7 : decode cX11_isInTable 7 = .ok (.ireturn, 1) := by decide +kernel
theorem dX11_waysToChoose_0 : decode cX11_waysToChoose 0 = .ok (.iload_n 1, 1) := by decide +kernel
theorem dX11_waysToChoose_1 : decode cX11_waysToChoose 1 = .ok (.ifCond .lt 8, 3) := by decide +kernel
theorem dX11_waysToChoose_4 : decode cX11_waysToChoose 4 = .ok (.iload_n 1, 1) := by decide +kernel
theorem dX11_waysToChoose_5 : decode cX11_waysToChoose 5 = .ok (.iload_n 0, 1) := by decide +kernel
theorem dX11_waysToChoose_6 : decode cX11_waysToChoose 6 = .ok (.if_icmp .le 5, 3) := by decide +kernel
theorem dX11_waysToChoose_9 : decode cX11_waysToChoose 9 = .ok (.lconst 0, 1) := by decide +kernel
theorem dX11_waysToChoose_10 : decode cX11_waysToChoose 10 = .ok (.lreturn, 1) := by decide +kernel
theorem dX11_waysToChoose_11 : decode cX11_waysToChoose 11 = .ok (.iload_n 1, 1) := by decide +kernel
theorem dX11_waysToChoose_12 : decode cX11_waysToChoose 12 = .ok (.iload_n 0, 1) := by decide +kernel
theorem dX11_waysToChoose_13 : decode cX11_waysToChoose 13 = .ok (.iload_n 1, 1) := by decide +kernel
theorem dX11_waysToChoose_14 : decode cX11_waysToChoose 14 = .ok (.isub, 1) := by decide +kernel
theorem dX11_waysToChoose_15 : decode cX11_waysToChoose 15 = .ok (.invokestatic 235, 3) := by decide +kernel
theorem dX11_waysToChoose_18 : decode cX11_waysToChoose 18 = .ok (.istore_n 2, 1) := by decide +kernel
theorem dX11_waysToChoose_19 : decode cX11_waysToChoose 19 = .ok (.lconst 1, 1) := by decide +kernel
theorem dX11_waysToChoose_20 : decode cX11_waysToChoose 20 = .ok (.lstore_n 3, 1) := by decide +kernel
theorem dX11_waysToChoose_21 : decode cX11_waysToChoose 21 = .ok (.iconst 1, 1) := by decide +kernel
theorem dX11_waysToChoose_22 : decode cX11_waysToChoose 22 = .ok (.istore 5, 2) := by decide +kernel
theorem dX11_waysToChoose_24 : decode cX11_waysToChoose 24 = .ok (.iload 5, 2) := by decide +kernel
theorem dX11_waysToChoose_26 : decode cX11_waysToChoose 26 = .ok (.iload_n 2, 1) := by decide +kernel
theorem dX11_waysToChoose_27 : decode cX11_waysToChoose 27 = .ok (.if_icmp .gt 23, 3) := by decide +kernel
theorem dX11_waysToChoose_30 : decode cX11_waysToChoose 30 = .ok (.lload_n 3, 1) := by decide +kernel
theorem dX11_waysToChoose_31 : decode cX11_waysToChoose 31 = .ok (.iload_n 0, 1) := by decide +kernel
theorem dX11_waysToChoose_32 : decode cX11_waysToChoose 32 = .ok (.iload_n 2, 1) := by decide +kernel
theorem dX11_waysToChoose_33 : decode cX11_waysToChoose 33 = .ok (.isub, 1) := by decide +kernel
theorem dX11_waysToChoose_34 : decode cX11_waysToChoose 34 = .ok (.iload 5, 2) := by decide +kernel
theorem dX11_waysToChoose_36 : decode cX11_waysToChoose 36 = .ok (.iadd, 1) := by decide +kernel
theorem dX11_waysToChoose_37 : decode cX11_waysToChoose 37 = .ok (.i2l, 1) := by decide +kernel
theorem dX11_waysToChoose_38 : decode cX11_waysToChoose 38 = .ok (.lmul, 1) := by decide +kernel
theorem dX11_waysToChoose_39 : decode cX11_waysToChoose 39 = .ok (.iload 5, 2) := by decide +kernel
theorem dX11_waysToChoose_41 : decode cX11_waysToChoose 41 = .ok (.i2l, 1) := by decide +kernel
theorem dX11_waysToChoose_42 : decode cX11_waysToChoose 42 = .ok (.ldiv, 1) := by decide +kernel
theorem dX11_waysToChoose_43 : decode cX11_waysToChoose 43 = .ok (.lstore_n 3, 1) := by decide +kernel
theorem dX11_waysToChoose_44 : decode cX11_waysToChoose 44 = .ok (.iinc 5 1, 3) := by decide +kernel
theorem dX11_waysToChoose_47 : decode cX11_waysToChoose 47 = .ok (.goto (-23), 3) := by decide +kernel
theorem dX11_waysToChoose_50 : decode cX11_waysToChoose 50 = .ok (.lload_n 3, 1) := by decide +kernel
theorem dX11_waysToChoose_51 : decode cX11_waysToChoose 51 = .ok (.lreturn, 1) := by decide +kernel
theorem dX11_greatestCommonPart_0 : decode cX11_greatestCommonPart 0 = .ok (.lload_n 0, 1) := by decide +kernel
theorem dX11_greatestCommonPart_1 : decode cX11_greatestCommonPart 1 = .ok (.lstore 4, 2) := by decide +kernel
theorem dX11_greatestCommonPart_3 : decode cX11_greatestCommonPart 3 = .ok (.lload_n 2, 1) := by decide +kernel
theorem dX11_greatestCommonPart_4 : decode cX11_greatestCommonPart 4 = .ok (.lstore 6, 2) := by decide +kernel
theorem dX11_greatestCommonPart_6 : decode cX11_greatestCommonPart 6 = .ok (.iconst 0, 1) := by decide +kernel
theorem dX11_greatestCommonPart_7 : decode cX11_greatestCommonPart 7 = .ok (.istore 8, 2) := by decide +kernel
theorem dX11_greatestCommonPart_9 : decode cX11_greatestCommonPart 9 = .ok (.iload 8, 2) := by decide +kernel
theorem dX11_greatestCommonPart_11 : decode cX11_greatestCommonPart 11 = .ok (.bipush 100, 2) := by decide +kernel
theorem dX11_greatestCommonPart_13 : decode cX11_greatestCommonPart 13 = .ok (.if_icmp .ge 31, 3) := by decide +kernel
theorem dX11_greatestCommonPart_16 : decode cX11_greatestCommonPart 16 = .ok (.lload 6, 2) := by decide +kernel
theorem dX11_greatestCommonPart_18 : decode cX11_greatestCommonPart 18 = .ok (.lconst 0, 1) := by decide +kernel
theorem dX11_greatestCommonPart_19 : decode cX11_greatestCommonPart 19 = .ok (.lcmp, 1) := by decide +kernel
theorem dX11_greatestCommonPart_20 : decode cX11_greatestCommonPart 20 = .ok (.ifCond .le 24, 3) := by decide +kernel
theorem dX11_greatestCommonPart_23 : decode cX11_greatestCommonPart 23 = .ok (.lload 4, 2) := by decide +kernel
theorem dX11_greatestCommonPart_25 : decode cX11_greatestCommonPart 25 = .ok (.lload 6, 2) := by decide +kernel
theorem dX11_greatestCommonPart_27 : decode cX11_greatestCommonPart 27 = .ok (.lrem, 1) := by decide +kernel
theorem dX11_greatestCommonPart_28 : decode cX11_greatestCommonPart 28 = .ok (.lstore 9, 2) := by decide +kernel
theorem dX11_greatestCommonPart_30 : decode cX11_greatestCommonPart 30 = .ok (.lload 6, 2) := by decide +kernel
theorem dX11_greatestCommonPart_32 : decode cX11_greatestCommonPart 32 = .ok (.lstore 4, 2) := by decide +kernel
theorem dX11_greatestCommonPart_34 : decode cX11_greatestCommonPart 34 = .ok (.lload 9, 2) := by decide +kernel
theorem dX11_greatestCommonPart_36 : decode cX11_greatestCommonPart 36 = .ok (.lstore 6, 2) := by decide +kernel
theorem dX11_greatestCommonPart_38 : decode cX11_greatestCommonPart 38 = .ok (.iinc 8 1, 3) := by decide +kernel
theorem dX11_greatestCommonPart_41 : decode cX11_greatestCommonPart 41 = .ok (.goto (-32), 3) := by decide +kernel
theorem dX11_greatestCommonPart_44 : decode cX11_greatestCommonPart 44 = .ok (.lload 4, 2) := by decide +kernel
theorem dX11_greatestCommonPart_46 : decode cX11_greatestCommonPart 46 = .ok (.lconst 1, 1) := by decide +kernel
theorem dX11_greatestCommonPart_47 : decode cX11_greatestCommonPart 47 = .ok (.invokestatic 240, 3) := by decide +kernel
theorem dX11_greatestCommonPart_50 : decode cX11_greatestCommonPart 50 = .ok (.lreturn, 1) := by decide +kernel
theorem dX12_init_0 : decode cX12_init 0 = .ok (.aload_n 0, 1) := by decide +kernel
theorem dX12_init_1 : decode cX12_init 1 = .ok (.invokespecial 1, 3) := by decide +kernel
theorem dX12_init_4 : decode cX12_init 4 = .ok (.aload_n 0, 1) := by decide +kernel
theorem dX12_init_5 : decode cX12_init 5 = .ok (.sipush 800, 3) := by decide +kernel
theorem dX12_init_8 : decode cX12_init 8 = .ok (.newarray .byte, 2) := by decide +kernel
theorem dX12_init_10 : decode cX12_init 10 = .ok (.putfield 7, 3) := by decide +kernel
theorem dX12_init_13 : decode cX12_init 13 = .ok (.aload_n 0, 1) := by decide +kernel
theorem dX12_init_14 : decode cX12_init 14 = .ok (.iconst (-1), 1) := by decide +kernel
theorem dX12_init_15 : decode cX12_init 15 = .ok (.putfield 13, 3) := by decide +kernel
theorem dX12_init_18 : decode cX12_init 18 = .ok (.aload_n 0, 1) := by decide +kernel
theorem dX12_init_19 : decode cX12_init 19 = .ok (.bipush 12, 2) := by decide +kernel
theorem dX12_init_21 : decode cX12_init 21 = .ok (.newarray .int, 2) := by decide +kernel
theorem dX12_init_23 : decode cX12_init 23 = .ok (.putfield 17, 3) := by decide +kernel
theorem dX12_init_26 : decode cX12_init 26 = .ok (.aload_n 0, 1) := by decide +kernel
theorem dX12_init_27 : decode cX12_init 27 = .ok (.bipush 12, 2) := by decide +kernel
theorem dX12_init_29 : decode cX12_init 29 = .ok (.newarray .int, 2) := by decide +kernel
theorem dX12_init_31 : decode cX12_init 31 = .ok (.putfield 21, 3) := by decide +kernel
theorem dX12_init_34 : decode cX12_init 34 = .ok (.aload_n 0, 1) := by decide +kernel
theorem dX12_init_35 : decode cX12_init 35 = .ok (.sipush 144, 3) := by decide +kernel
theorem dX12_init_38 : decode cX12_init 38 = .ok (.newarray .int, 2) := by decide +kernel
theorem dX12_init_40 : decode cX12_init 40 = .ok (.putfield 24, 3) := by decide +kernel
theorem dX12_init_43 : decode cX12_init 43 = .ok (.aload_n 0, 1) := by decide +kernel
theorem dX12_init_44 : decode cX12_init 44 = .ok (.sipush 144, 3) := by decide +kernel
theorem dX12_init_47 : decode cX12_init 47 = .ok (.newarray .int, 2) := by decide +kernel
theorem dX12_init_49 : decode cX12_init 49 = .ok (.putfield 27, 3) := by decide +kernel
theorem dX12_init_52 : decode cX12_init 52 = .ok (.aload_n 0, 1) := by decide +kernel
theorem dX12_init_53 : decode cX12_init 53 = .ok (.bipush 10, 2) := by decide +kernel
theorem dX12_init_55 : decode cX12_init 55 = .ok (.newarray .int, 2) := by decide +kernel
theorem dX12_init_57 : decode cX12_init 57 = .ok (.putfield 30, 3) := by decide +kernel
theorem dX12_init_60 : decode cX12_init 60 = .ok (.aload_n 0, 1) := by decide +kernel
theorem dX12_init_61 : decode cX12_init 61 = .ok (.sipush 10240, 3) := by decide +kernel
theorem dX12_init_64 : decode cX12_init 64 = .ok (.newarray .int, 2) := by decide +kernel
theorem dX12_init_66 : decode cX12_init 66 = .ok (.putfield 33, 3) := by decide +kernel
theorem dX12_init_69 : decode cX12_init 69 = .ok (.aload_n 0, 1) := by decide +kernel
theorem dX12_init_70 : decode cX12_init 70 = .ok (.sipush 1024, 3) := by decide +kernel
theorem dX12_init_73 : decode cX12_init 73 = .ok (.newarray .int, 2) := by decide +kernel
theorem dX12_init_75 : decode cX12_init 75 = .ok (.putfield 36, 3) := by decide +kernel
theorem dX12_init_78 : decode cX12_init 78 = .ok (.aload_n 0, 1) := by decide +kernel
theorem dX12_init_79 : decode cX12_init 79 = .ok (.bipush 10, 2) := by decide +kernel
theorem dX12_init_81 : decode cX12_init 81 = .ok (.newarray .int, 2) := by decide +kernel
theorem dX12_init_83 : decode cX12_init 83 = .ok (.putfield 39, 3) := by decide +kernel
theorem dX12_init_86 : decode cX12_init 86 = .ok (.aload_n 0, 1) := by decide +kernel
theorem dX12_init_87 : decode cX12_init 87 = .ok (.bipush 10, 2) := by decide +kernel
theorem dX12_init_89 : decode cX12_init 89 = .ok (.newarray .int, 2) := by decide +kernel
theorem dX12_init_91 : decode cX12_init 91 = .ok (.putfield 42, 3) := by decide +kernel
theorem dX12_init_94 : decode cX12_init 94 = .ok (.aload_n 0, 1) := by decide +kernel
theorem dX12_init_95 : decode cX12_init 95 = .ok (.bipush 10, 2) := by decide +kernel
theorem dX12_init_97 : decode cX12_init 97 = .ok (.newarray .int, 2) := by decide +kernel
theorem dX12_init_99 : decode cX12_init 99 = .ok (.putfield 45, 3) := by decide +kernel
theorem dX12_init_102 : decode cX12_init 102 = .ok (.aload_n 0, 1) := by decide +kernel
theorem dX12_init_103 : decode cX12_init 103 = .ok (.bipush 12, 2) := by decide +kernel
theorem dX12_init_105 : decode cX12_init 105 = .ok (.newarray .int, 2) := by decide +kernel
theorem dX12_init_107 : decode cX12_init 107 = .ok (.putfield 48, 3) := by decide +kernel
theorem dX12_init_110 : decode cX12_init 110 = .ok (.aload_n 0, 1) := by decide +kernel
theorem dX12_init_111 : decode cX12_init 111 = .ok (.bipush 10, 2) := by decide +kernel
theorem dX12_init_113 : decode cX12_init 113 = .ok (.newarray .int, 2) := by decide +kernel
theorem dX12_init_115 : decode cX12_init 115 = .ok (.putfield 51, 3) := by decide +kernel
theorem dX12_init_118 : decode cX12_init 118 = .ok (.aload_n 0, 1) := by decide +kernel
theorem dX12_init_119 : decode cX12_init 119 = .ok (.bipush 10, 2) := by decide +kernel
theorem dX12_init_121 : decode cX12_init 121 = .ok (.newarray .int, 2) := by decide +kernel
theorem dX12_init_123 : decode cX12_init 123 = .ok (.putfield 54, 3) := by decide +kernel
theorem dX12_init_126 : decode cX12_init 126 = .ok (.aload_n 0, 1) := by decide +kernel
theorem dX12_init_127 : decode cX12_init 127 = .ok (.bipush 40, 2) := by decide +kernel
theorem dX12_init_129 : decode cX12_init 129 = .ok (.newarray .int, 2) := by decide +kernel
theorem dX12_init_131 : decode cX12_init 131 = .ok (.putfield 57, 3) := by decide +kernel
theorem dX12_init_134 : decode cX12_init 134 = .ok (.aload_n 0, 1) := by decide +kernel
theorem dX12_init_135 : decode cX12_init 135 = .ok (.sipush 240, 3) := by decide +kernel
theorem dX12_init_138 : decode cX12_init 138 = .ok (.newarray .int, 2) := by decide +kernel
theorem dX12_init_140 : decode cX12_init 140 = .ok (.putfield 60, 3) := by decide +kernel
theorem dX12_init_143 : decode cX12_init 143 = .ok (.aload_n 0, 1) := by decide +kernel
theorem dX12_init_144 : decode cX12_init 144 = .ok (.iconst 5, 1) := by decide +kernel
theorem dX12_init_145 : decode cX12_init 145 = .ok (.newarray .int, 2) := by decide +kernel
theorem dX12_init_147 : decode cX12_init 147 = .ok (.putfield 63, 3) := by decide +kernel
theorem dX12_init_150 : decode cX12_init 150 = .ok (.aload_n 0, 1) := by decide +kernel
theorem dX12_init_151 : decode cX12_init 151 = .ok (.bipush 60, 2) := by decide +kernel
theorem dX12_init_153 : decode cX12_init 153 = .ok (.newarray .int, 2) := by decide +kernel
theorem dX12_init_155 : decode cX12_init 155 = .ok (.putfield 66, 3) := by decide +kernel
theorem dX12_init_158 : decode cX12_init 158 = .ok (.aload_n 0, 1) := by decide +kernel
theorem dX12_init_159 : decode cX12_init 159 = .ok (.bipush 60, 2) := by decide +kernel
theorem dX12_init_161 : decode cX12_init 161 = .ok (.newarray .int, 2) := by decide +kernel
theorem dX12_init_163 : decode cX12_init 163 = .ok (.putfield 69, 3) := by decide +kernel
theorem dX12_init_166 : decode cX12_init 166 = .ok (.aload_n 0, 1) := by decide +kernel
theorem dX12_init_167 : decode cX12_init 167 = .ok (.bipush 60, 2) := by decide +kernel
theorem dX12_init_169 : decode cX12_init 169 = .ok (.newarray .int, 2) := by decide +kernel
theorem dX12_init_171 : decode cX12_init 171 = .ok (.putfield 72, 3) := by decide +kernel
theorem dX12_init_174 : decode cX12_init 174 = .ok (.aload_n 0, 1) := by decide +kernel
theorem dX12_init_175 : decode cX12_init 175 = .ok (.bipush 60, 2) := by decide +kernel
theorem dX12_init_177 : decode cX12_init 177 = .ok (.newarray .int, 2) := by decide +kernel
theorem dX12_init_179 : decode cX12_init 179 = .ok (.putfield 75, 3) := by decide +kernel
theorem dX12_init_182 : decode cX12_init 182 = .ok (.aload_n 0, 1) := by decide +kernel
theorem dX12_init_183 : decode cX12_init 183 = .ok (.bipush 60, 2) := by decide +kernel
theorem dX12_init_185 : decode cX12_init 185 = .ok (.newarray .int, 2) := by decide +kernel
theorem dX12_init_187 : decode cX12_init 187 = .ok (.putfield 78, 3) := by decide +kernel
theorem dX12_init_190 : decode cX12_init 190 = .ok (.aload_n 0, 1) := by decide +kernel
theorem dX12_init_191 : decode cX12_init 191 = .ok (.bipush 60, 2) := by decide +kernel
theorem dX12_init_193 : decode cX12_init 193 = .ok (.newarray .int, 2) := by decide +kernel
theorem dX12_init_195 : decode cX12_init 195 = .ok (.putfield 81, 3) := by decide +kernel
theorem dX12_init_198 : decode cX12_init 198 = .ok (.aload_n 0, 1) := by decide +kernel
theorem dX12_init_199 : decode cX12_init 199 = .ok (.iconst 4, 1) := by decide +kernel
theorem dX12_init_200 : decode cX12_init 200 = .ok (.newarray .int, 2) := by decide +kernel
theorem dX12_init_202 : decode cX12_init 202 = .ok (.putfield 84, 3) := by decide +kernel
theorem dX12_init_205 : decode cX12_init 205 = .ok (.aload_n 0, 1) := by decide +kernel
theorem dX12_init_206 : decode cX12_init 206 = .ok (.iconst 4, 1) := by decide +kernel
theorem dX12_init_207 : decode cX12_init 207 = .ok (.newarray .int, 2) := by decide +kernel
theorem dX12_init_209 : decode cX12_init 209 = .ok (.putfield 87, 3) := by decide +kernel
theorem dX12_init_212 : decode cX12_init 212 = .ok (.aload_n 0, 1) := by decide +kernel
theorem dX12_init_213 : decode cX12_init 213 = .ok (.iconst 4, 1) := by decide +kernel
theorem dX12_init_214 : decode cX12_init 214 = .ok (.newarray .int, 2) := by decide +kernel
theorem dX12_init_216 : decode cX12_init 216 = .ok (.putfield 90, 3) := by decide +kernel
theorem dX12_init_219 : decode cX12_init 219 = .ok (.aload_n 0, 1) := by decide +kernel
theorem dX12_init_220 : decode cX12_init 220 = .ok (.sipush 800, 3) := by decide +kernel
theorem dX12_init_223 : decode cX12_init 223 = .ok (.newarray .int, 2) := by decide +kernel
theorem dX12_init_225 : decode cX12_init 225 = .ok (.putfield 93, 3) := by decide +kernel
theorem dX12_init_228 : decode cX12_init 228 = .ok (.aload_n 0, 1) := by decide +kernel
theorem dX12_init_229 : decode cX12_init 229 = .ok (.sipush 800, 3) := by decide +kernel
theorem dX12_init_232 : decode cX12_init 232 = .ok (.newarray .boolean, 2) := by decide +kernel
theorem dX12_init_234 : decode cX12_init 234 = .ok (.putfield 96, 3) := by decide +kernel
theorem dX12_init_237 : decode cX12_init 237 = .ok (.aload_n 0, 1) := by decide +kernel
theorem dX12_init_238 : decode cX12_init 238 = .ok (.sipush 800, 3) := by decide +kernel
theorem dX12_init_241 : decode cX12_init 241 = .ok (.newarray .int, 2) := by decide +kernel
theorem dX12_init_243 : decode cX12_init 243 = .ok (.putfield 100, 3) := by decide +kernel
theorem dX12_init_246 : decode cX12_init 246 = .ok (.aload_n 0, 1) := by decide +kernel
theorem dX12_init_247 : decode cX12_init 247 = .ok (.iconst 4, 1) := by decide +kernel
theorem dX12_init_248 : decode cX12_init 248 = .ok (.newarray .int, 2) := by decide +kernel
theorem dX12_init_250 : decode cX12_init 250 = .ok (.putfield 103, 3) := by decide +kernel
theorem dX12_init_253 : decode cX12_init 253 = .ok (.aload_n 0, 1) := by decide +kernel
theorem dX12_init_254 : decode cX12_init 254 = .ok (.bipush 100, 2) := by decide +kernel
theorem dX12_init_256 : decode cX12_init 256 = .ok (.newarray .int, 2) := by decide +kernel
theorem dX12_init_258 : decode cX12_init 258 = .ok (.putfield 106, 3) := by decide +kernel
theorem dX12_init_261 : decode cX12_init 261 = .ok (.aload_n 0, 1) := by decide +kernel
theorem dX12_init_262 : decode cX12_init 262 = .ok (.bipush 100, 2) := by decide +kernel
theorem dX12_init_264 : decode cX12_init 264 = .ok (.newarray .int, 2) := by decide +kernel
theorem dX12_init_266 : decode cX12_init 266 = .ok (.putfield 109, 3) := by decide +kernel
theorem dX12_init_269 : decode cX12_init 269 = .ok (.aload_n 0, 1) := by decide +kernel
theorem dX12_init_270 : decode cX12_init 270 = .ok (.bipush 100, 2) := by decide +kernel
theorem dX12_init_272 : decode cX12_init 272 = .ok (.newarray .int, 2) := by decide +kernel
theorem dX12_init_274 : decode cX12_init 274 = .ok (.putfield 112, 3) := by decide +kernel
theorem dX12_init_277 : decode cX12_init 277 = .ok (.aload_n 0, 1) := by decide +kernel
theorem dX12_init_278 : decode cX12_init 278 = .ok (.bipush 100, 2) := by decide +kernel
theorem dX12_init_280 : decode cX12_init 280 = .ok (.newarray .int, 2) := by decide +kernel
theorem dX12_init_282 : decode cX12_init 282 = .ok (.putfield 115, 3) := by decide +kernel
theorem dX12_init_285 : decode cX12_init 285 = .ok (.aload_n 0, 1) := by decide +kernel
theorem dX12_init_286 : decode cX12_init 286 = .ok (.bipush 100, 2) := by decide +kernel
theorem dX12_init_288 : decode cX12_init 288 = .ok (.newarray .int, 2) := by decide +kernel
theorem dX12_init_290 : decode cX12_init 290 = .ok (.putfield 118, 3) := by decide +kernel
theorem dX12_init_293 : decode cX12_init 293 = .ok (.aload_n 0, 1) := by decide +kernel
theorem dX12_init_294 : decode cX12_init 294 = .ok (.bipush (-9), 2) := by decide +kernel
theorem dX12_init_296 : decode cX12_init 296 = .ok (.putfield 121, 3) := by decide +kernel
theorem dX12_init_299 : decode cX12_init 299 = .ok (.aload_n 0, 1) := by decide +kernel
theorem dX12_init_300 : decode cX12_init 300 = .ok (.bipush (-9), 2) := by decide +kernel
theorem dX12_init_302 : decode cX12_init 302 = .ok (.putfield 124, 3) := by decide +kernel
theorem dX12_init_305 : decode cX12_init 305 = .ok (.aload_n 0, 1) := by decide +kernel
theorem dX12_init_306 : decode cX12_init 306 = .ok (.sipush 3721, 3) := by decide +kernel
theorem dX12_init_309 : decode cX12_init 309 = .ok (.newarray .long, 2) := by decide +kernel
theorem dX12_init_311 : decode cX12_init 311 = .ok (.putfield 127, 3) := by decide +kernel
theorem dX12_init_314 : decode cX12_init 314 = .ok (.iconst 0, 1) := by decide +kernel
theorem dX12_init_315 : decode cX12_init 315 = .ok (.istore_n 1, 1) := by decide +kernel
theorem dX12_init_316 : decode cX12_init 316 = .ok (.iload_n 1, 1) := by decide +kernel
theorem dX12_init_317 : decode cX12_init 317 = .ok (.bipush 12, 2) := by decide +kernel
theorem dX12_init_319 : decode cX12_init 319 = .ok (.if_icmp .ge 24, 3) := by decide +kernel
theorem dX12_init_322 : decode cX12_init 322 = .ok (.aload_n 0, 1) := by decide +kernel
theorem dX12_init_323 : decode cX12_init 323 = .ok (.getfield 21, 3) := by decide +kernel
theorem dX12_init_326 : decode cX12_init 326 = .ok (.iload_n 1, 1) := by decide +kernel
theorem dX12_init_327 : decode cX12_init 327 = .ok (.bipush 60, 2) := by decide +kernel
theorem dX12_init_329 : decode cX12_init 329 = .ok (.iastore, 1) := by decide +kernel
theorem dX12_init_330 : decode cX12_init 330 = .ok (.aload_n 0, 1) := by decide +kernel
theorem dX12_init_331 : decode cX12_init 331 = .ok (.getfield 48, 3) := by decide +kernel
theorem dX12_init_334 : decode cX12_init 334 = .ok (.iload_n 1, 1) := by decide +kernel
theorem dX12_init_335 : decode cX12_init 335 = .ok (.iconst (-1), 1) := by decide +kernel
theorem dX12_init_336 : decode cX12_init 336 = .ok (.iastore, 1) := by decide +kernel
theorem dX12_init_337 : decode cX12_init 337 = .ok (.iinc 1 1, 3) := by decide +kernel
theorem dX12_init_340 : decode cX12_init 340 = .ok (.goto (-24), 3) := by decide +kernel
theorem dX12_init_343 : decode cX12_init 343 = .ok (.iconst 0, 1) := by decide +kernel
theorem dX12_init_344 : decode cX12_init 344 = .ok (.istore_n 1, 1) := by decide +kernel
theorem dX12_init_345 : decode cX12_init 345 = .ok (.iload_n 1, 1) := by decide +kernel
theorem dX12_init_346 : decode cX12_init 346 = .ok (.sipush 144, 3) := by decide +kernel
theorem dX12_init_349 : decode cX12_init 349 = .ok (.if_icmp .ge 16, 3) := by decide +kernel
theorem dX12_init_352 : decode cX12_init 352 = .ok (.aload_n 0, 1) := by decide +kernel
theorem dX12_init_353 : decode cX12_init 353 = .ok (.getfield 24, 3) := by decide +kernel
theorem dX12_init_356 : decode cX12_init 356 = .ok (.iload_n 1, 1) := by decide +kernel
theorem dX12_init_357 : decode cX12_init 357 = .ok (.iconst (-1), 1) := by decide +kernel
theorem dX12_init_358 : decode cX12_init 358 = .ok (.iastore, 1) := by decide +kernel
theorem dX12_init_359 : decode cX12_init 359 = .ok (.iinc 1 1, 3) := by decide +kernel
theorem dX12_init_362 : decode cX12_init 362 = .ok (.goto (-17), 3) := by decide +kernel
theorem dX12_init_365 : decode cX12_init 365 = .ok (.iconst 0, 1) := by decide +kernel
theorem dX12_init_366 : decode cX12_init 366 = .ok (.istore_n 1, 1) := by decide +kernel
theorem dX12_init_367 : decode cX12_init 367 = .ok (.iload_n 1, 1) := by decide +kernel
theorem dX12_init_368 : decode cX12_init 368 = .ok (.iconst 4, 1) := by decide +kernel
theorem dX12_init_369 : decode cX12_init 369 = .ok (.if_icmp .ge 52, 3) := by decide +kernel
theorem dX12_init_372 : decode cX12_init 372 = .ok (.aload_n 0, 1) := by decide +kernel
theorem dX12_init_373 : decode cX12_init 373 = .ok (.getfield 84, 3) := by decide +kernel
theorem dX12_init_376 : decode cX12_init 376 = .ok (.iload_n 1, 1) := by decide +kernel
theorem dX12_init_377 : decode cX12_init 377 = .ok (.iconst (-1), 1) := by decide +kernel
theorem dX12_init_378 : decode cX12_init 378 = .ok (.iastore, 1) := by decide +kernel
theorem dX12_init_379 : decode cX12_init 379 = .ok (.aload_n 0, 1) := by decide +kernel
theorem dX12_init_380 : decode cX12_init 380 = .ok (.getfield 87, 3) := by decide +kernel
theorem dX12_init_383 : decode cX12_init 383 = .ok (.iload_n 1, 1) := by decide +kernel
theorem dX12_init_384 : decode cX12_init 384 = .ok (.iconst (-1), 1) := by decide +kernel
theorem dX12_init_385 : decode cX12_init 385 = .ok (.iastore, 1) := by decide +kernel
theorem dX12_init_386 : decode cX12_init 386 = .ok (.iconst 0, 1) := by decide +kernel
theorem dX12_init_387 : decode cX12_init 387 = .ok (.istore_n 2, 1) := by decide +kernel
theorem dX12_init_388 : decode cX12_init 388 = .ok (.iload_n 2, 1) := by decide +kernel
theorem dX12_init_389 : decode cX12_init 389 = .ok (.bipush 8, 2) := by decide +kernel
theorem dX12_init_391 : decode cX12_init 391 = .ok (.if_icmp .ge 24, 3) := by decide +kernel
theorem dX12_init_394 : decode cX12_init 394 = .ok (.aload_n 0, 1) := by decide +kernel
theorem dX12_init_395 : decode cX12_init 395 = .ok (.getfield 57, 3) := by decide +kernel
theorem dX12_init_398 : decode cX12_init 398 = .ok (.bipush 8, 2) := by decide +kernel
theorem dX12_init_400 : decode cX12_init 400 = .ok (.iload_n 1, 1) := by decide +kernel
theorem dX12_init_401 : decode cX12_init 401 = .ok (.imul, 1) := by decide +kernel
theorem dX12_init_402 : decode cX12_init 402 = .ok (.iload_n 2, 1) := by decide +kernel
theorem dX12_init_403 : decode cX12_init 403 = .ok (.iadd, 1) := by decide +kernel
theorem dX12_init_404 : decode cX12_init 404 = .ok (.iload_n 2, 1) := by decide +kernel
theorem dX12_init_405 : decode cX12_init 405 = .ok (.invokestatic 131, 3) := by decide +kernel
theorem dX12_init_408 : decode cX12_init 408 = .ok (.iastore, 1) := by decide +kernel
theorem dX12_init_409 : decode cX12_init 409 = .ok (.iinc 2 1, 3) := by decide +kernel
theorem dX12_init_412 : decode cX12_init 412 = .ok (.goto (-24), 3) := by decide +kernel
theorem dX12_init_415 : decode cX12_init 415 = .ok (.iinc 1 1, 3) := by decide +kernel
theorem dX12_init_418 : decode cX12_init 418 = .ok (.goto (-51), 3) := by decide +kernel
theorem dX12_init_421 : decode cX12_init 421 = .ok (.aload_n 0, 1) := by decide +kernel
theorem dX12_init_422 : decode cX12_init 422 = .ok (.invokevirtual 135, 3) := by decide +kernel
theorem dX12_init_425 : decode cX12_init 425 = .ok (.return_, 1) := by decide +kernel
theorem dX12_in_0 : decode cX12_in 0 = .ok (.iload_n 0, 1) := by decide +kernel
theorem dX12_in_1 : decode cX12_in 1 = .ok (.iload_n 1, 1) := by decide +kernel
theorem dX12_in_2 : decode cX12_in 2 = .ok (.if_icmp .lt 12, 3) := by decide +kernel
theorem dX12_in_5 : decode cX12_in 5 = .ok (.iload_n 0, 1) := by decide +kernel
theorem dX12_in_6 : decode cX12_in 6 = .ok (.iload_n 2, 1) := by decide +kernel
theorem dX12_in_7 : decode cX12_in 7 = .ok (.if_icmp .gt 7, 3) := by decide +kernel
theorem dX12_in_10 : decode cX12_in 10 = .ok (.iconst 1, 1) := by decide +kernel
theorem dX12_in_11 : decode cX12_in 11 = .ok (.goto 4, 3) := by decide +kernel
theorem dX12_in_14 : decode cX12_in 14 = .ok (.iconst 0, 1) := by decide +kernel
theorem dX12_in_15 : decode cX12_in 15 = .ok (.ireturn, 1) := by decide +kernel
theorem dX12_feed_0 : decode cX12_feed 0 = .ok (.aload_n 0, 1) := by decide +kernel
theorem dX12_feed_1 : decode cX12_feed 1 = .ok (.getfield 138, 3) := by decide +kernel
theorem dX12_feed_4 : decode cX12_feed 4 = .ok (.bipush 20, 2) := by decide +kernel
theorem dX12_feed_6 : decode cX12_feed 6 = .ok (.iadd, 1) := by decide +kernel
theorem dX12_feed_7 : decode cX12_feed 7 = .ok (.sipush 800, 3) := by decide +kernel
theorem dX12_feed_10 : decode cX12_feed 10 = .ok (.if_icmp .le 6, 3) := by decide +kernel
theorem dX12_feed_13 : decode cX12_feed 13 = .ok (.bipush (-3), 2) := by decide +kernel
theorem dX12_feed_15 : decode cX12_feed 15 = .ok (.ireturn, 1) := by decide +kernel
theorem dX12_feed_16 : decode cX12_feed 16 = .ok (.iconst 0, 1) := by decide +kernel
theorem dX12_feed_17 : decode cX12_feed 17 = .ok (.istore 6, 2) := by decide +kernel
theorem dX12_feed_19 : decode cX12_feed 19 = .ok (.iload 6, 2) := by decide +kernel
theorem dX12_feed_21 : decode cX12_feed 21 = .ok (.iconst 5, 1) := by decide +kernel
theorem dX12_feed_22 : decode cX12_feed 22 = .ok (.if_icmp .ge 93, 3) := by decide +kernel
theorem dX12_feed_25 : decode cX12_feed 25 = .ok (.iload 6, 2) := by decide +kernel
theorem dX12_feed_27 : decode cX12_feed 27 = .ok (.ifCond .ne 7, 3) := by decide +kernel
theorem dX12_feed_30 : decode cX12_feed 30 = .ok (.iload_n 1, 1) := by decide +kernel
theorem dX12_feed_31 : decode cX12_feed 31 = .ok (.goto 36, 3) := by decide +kernel
theorem dX12_feed_34 : decode cX12_feed 34 = .ok (.iload 6, 2) := by decide +kernel
theorem dX12_feed_36 : decode cX12_feed 36 = .ok (.iconst 1, 1) := by decide +kernel
theorem dX12_feed_37 : decode cX12_feed 37 = .ok (.if_icmp .ne 7, 3) := by decide +kernel
theorem dX12_feed_40 : decode cX12_feed 40 = .ok (.iload_n 2, 1) := by decide +kernel
theorem dX12_feed_41 : decode cX12_feed 41 = .ok (.goto 26, 3) := by decide +kernel
theorem dX12_feed_44 : decode cX12_feed 44 = .ok (.iload 6, 2) := by decide +kernel
theorem dX12_feed_46 : decode cX12_feed 46 = .ok (.iconst 2, 1) := by decide +kernel
theorem dX12_feed_47 : decode cX12_feed 47 = .ok (.if_icmp .ne 7, 3) := by decide +kernel
theorem dX12_feed_50 : decode cX12_feed 50 = .ok (.iload_n 3, 1) := by decide +kernel
theorem dX12_feed_51 : decode cX12_feed 51 = .ok (.goto 16, 3) := by decide +kernel
theorem dX12_feed_54 : decode cX12_feed 54 = .ok (.iload 6, 2) := by decide +kernel
theorem dX12_feed_56 : decode cX12_feed 56 = .ok (.iconst 3, 1) := by decide +kernel
theorem dX12_feed_57 : decode cX12_feed 57 = .ok (.if_icmp .ne 8, 3) := by decide +kernel
theorem dX12_feed_60 : decode cX12_feed 60 = .ok (.iload 4, 2) := by decide +kernel
theorem dX12_feed_62 : decode cX12_feed 62 = .ok (.goto 5, 3) := by decide +kernel
theorem dX12_feed_65 : decode cX12_feed 65 = .ok (.iload 5, 2) := by decide +kernel
theorem dX12_feed_67 : decode cX12_feed 67 = .ok (.istore 7, 2) := by decide +kernel
theorem dX12_feed_69 : decode cX12_feed 69 = .ok (.bipush 24, 2) := by decide +kernel
theorem dX12_feed_71 : decode cX12_feed 71 = .ok (.istore 8, 2) := by decide +kernel
theorem dX12_feed_73 : decode cX12_feed 73 = .ok (.iload 8, 2) := by decide +kernel
theorem dX12_feed_75 : decode cX12_feed 75 = .ok (.ifCond .lt 34, 3) := by decide +kernel
theorem dX12_feed_78 : decode cX12_feed 78 = .ok (.aload_n 0, 1) := by decide +kernel
theorem dX12_feed_79 : decode cX12_feed 79 = .ok (.getfield 7, 3) := by decide +kernel
theorem dX12_feed_82 : decode cX12_feed 82 = .ok (.aload_n 0, 1) := by decide +kernel
theorem dX12_feed_83 : decode cX12_feed 83 = .ok (.getfield 138, 3) := by decide +kernel
theorem dX12_feed_86 : decode cX12_feed 86 = .ok (.iload 7, 2) := by decide +kernel
theorem dX12_feed_88 : decode cX12_feed 88 = .ok (.iload 8, 2) := by decide +kernel
theorem dX12_feed_90 : decode cX12_feed 90 = .ok (.ishr, 1) := by decide +kernel
theorem dX12_feed_91 : decode cX12_feed 91 = .ok (.i2b, 1) := by decide +kernel
theorem dX12_feed_92 : decode cX12_feed 92 = .ok (.bastore, 1) := by decide +kernel
theorem dX12_feed_93 : decode cX12_feed 93 = .ok (.aload_n 0, 1) := by decide +kernel
theorem dX12_feed_94 : decode cX12_feed 94 = .ok (.dup, 1) := by decide +kernel
theorem dX12_feed_95 : decode cX12_feed 95 = .ok (.getfield 138, 3) := by decide +kernel
theorem dX12_feed_98 : decode cX12_feed 98 = .ok (.iconst 1, 1) := by decide +kernel
theorem dX12_feed_99 : decode cX12_feed 99 = .ok (.iadd, 1) := by decide +kernel
theorem dX12_feed_100 : decode cX12_feed 100 = .ok (.putfield 138, 3) := by decide +kernel
theorem dX12_feed_103 : decode cX12_feed 103 = .ok (.iinc 8 (-8), 3) := by decide +kernel
theorem dX12_feed_106 : decode cX12_feed 106 = .ok (.goto (-33), 3) := by decide +kernel
theorem dX12_feed_109 : decode cX12_feed 109 = .ok (.iinc 6 1, 3) := by decide +kernel
theorem dX12_feed_112 : decode cX12_feed 112 = .ok (.goto (-93), 3) := by decide +kernel
theorem dX12_feed_115 : decode cX12_feed 115 = .ok (.aload_n 0, 1) := by decide +kernel
theorem dX12_feed_116 : decode cX12_feed 116 = .ok (.getfield 138, 3) := by decide +kernel
theorem dX12_feed_119 : decode cX12_feed 119 = .ok (.ireturn, 1) := by decide +kernel
theorem dX12_end_0 : decode cX12_end 0 = .ok (.iload_n 1, 1) := by decide +kernel
theorem dX12_end_1 : decode cX12_end 1 = .ok (.ifCond .lt 11, 3) := by decide +kernel
theorem dX12_end_4 : decode cX12_end 4 = .ok (.iload_n 1, 1) := by decide +kernel
theorem dX12_end_5 : decode cX12_end 5 = .ok (.aload_n 0, 1) := by decide +kernel
theorem dX12_end_6 : decode cX12_end 6 = .ok (.getfield 138, 3) := by decide +kernel
theorem dX12_end_9 : decode cX12_end 9 = .ok (.if_icmp .le 5, 3) := by decide +kernel
theorem dX12_end_12 : decode cX12_end 12 = .ok (.iconst (-1), 1) := by decide +kernel
theorem dX12_end_13 : decode cX12_end 13 = .ok (.ireturn, 1) := by decide +kernel
theorem dX12_end_14 : decode cX12_end 14 = .ok (.aload_n 0, 1) := by decide +kernel
theorem dX12_end_15 : decode cX12_end 15 = .ok (.iload_n 1, 1) := by decide +kernel
theorem dX12_end_16 : decode cX12_end 16 = .ok (.putfield 138, 3) := by decide +kernel
theorem dX12_end_19 : decode cX12_end 19 = .ok (.iload_n 1, 1) := by decide +kernel
theorem dX12_end_20 : decode cX12_end 20 = .ok (.ireturn, 1) := by decide +kernel
theorem dX12_see_0 : decode cX12_see 0 = .ok (.iload_n 1, 1) := by decide +kernel
theorem dX12_see_1 : decode cX12_see 1 = .ok (.aload_n 0, 1) := by decide +kernel
theorem dX12_see_2 : decode cX12_see 2 = .ok (.getfield 141, 3) := by decide +kernel
theorem dX12_see_5 : decode cX12_see 5 = .ok (.if_icmp .ge 16, 3) := by decide +kernel
theorem dX12_see_8 : decode cX12_see 8 = .ok (.aload_n 0, 1) := by decide +kernel
theorem dX12_see_9 : decode cX12_see 9 = .ok (.getfield 7, 3) := by decide +kernel
theorem dX12_see_12 : decode cX12_see 12 = .ok (.iload_n 1, 1) := by decide +kernel
theorem dX12_see_13 : decode cX12_see 13 = .ok (.baload, 1) := by decide +kernel
theorem dX12_see_14 : decode cX12_see 14 = .ok (.sipush 255, 3) := by decide +kernel
theorem dX12_see_17 : decode cX12_see 17 = .ok (.iand, 1) := by decide +kernel
theorem dX12_see_18 : decode cX12_see 18 = .ok (.goto 4, 3) := by decide +kernel
theorem dX12_see_21 : decode cX12_see 21 = .ok (.iconst (-1), 1) := by decide +kernel
theorem dX12_see_22 : decode cX12_see 22 = .ok (.ireturn, 1) := by decide +kernel
theorem dX12_isSmall_0 : decode cX12_isSmall 0 = .ok (.iload_n 0, 1) := by decide +kernel
theorem dX12_isSmall_1 : decode cX12_isSmall 1 = .ok (.bipush 97, 2) := by decide +kernel
theorem dX12_isSmall_3 : decode cX12_isSmall 3 = .ok (.if_icmp .lt 13, 3) := by decide +kernel
theorem dX12_isSmall_6 : decode cX12_isSmall 6 = .ok (.iload_n 0, 1) := by decide +kernel
theorem dX12_isSmall_7 : decode cX12_isSmall 7 = .ok (.bipush 122, 2) := by decide +kernel
theorem dX12_isSmall_9 : decode cX12_isSmall 9 = .ok (.if_icmp .gt 7, 3) := by decide +kernel
theorem dX12_isSmall_12 : decode cX12_isSmall 12 = .ok (.iconst 1, 1) := by decide +kernel
theorem dX12_isSmall_13 : decode cX12_isSmall 13 = .ok (.goto 4, 3) := by decide +kernel
theorem dX12_isSmall_16 : decode cX12_isSmall 16 = .ok (.iconst 0, 1) := by decide +kernel
theorem dX12_isSmall_17 : decode cX12_isSmall 17 = .ok (.ireturn, 1) := by decide +kernel
theorem dX12_isDigit_0 : decode cX12_isDigit 0 = .ok (.iload_n 0, 1) := by decide +kernel
theorem dX12_isDigit_1 : decode cX12_isDigit 1 = .ok (.bipush 48, 2) := by decide +kernel
theorem dX12_isDigit_3 : decode cX12_isDigit 3 = .ok (.if_icmp .lt 13, 3) := by decide +kernel
theorem dX12_isDigit_6 : decode cX12_isDigit 6 = .ok (.iload_n 0, 1) := by decide +kernel
theorem dX12_isDigit_7 : decode cX12_isDigit 7 = .ok (.bipush 57, 2) := by decide +kernel
theorem dX12_isDigit_9 : decode cX12_isDigit 9 = .ok (.if_icmp .gt 7, 3) := by decide +kernel
theorem dX12_isDigit_12 : decode cX12_isDigit 12 = .ok (.iconst 1, 1) := by decide +kernel
theorem dX12_isDigit_13 : decode cX12_isDigit 13 = .ok (.goto 4, 3) := by decide +kernel
theorem dX12_isDigit_16 : decode cX12_isDigit 16 = .ok (.iconst 0, 1) := by decide +kernel
theorem dX12_isDigit_17 : decode cX12_isDigit 17 = .ok (.ireturn, 1) := by decide +kernel
theorem dX12_keyAt_0 : decode cX12_keyAt 0 = .ok (.iconst 0, 1) := by decide +kernel
theorem dX12_keyAt_1 : decode cX12_keyAt 1 = .ok (.istore_n 3, 1) := by decide +kernel
theorem dX12_keyAt_2 : decode cX12_keyAt 2 = .ok (.iconst 0, 1) := by decide +kernel
theorem dX12_keyAt_3 : decode cX12_keyAt 3 = .ok (.istore 4, 2) := by decide +kernel
theorem dX12_keyAt_5 : decode cX12_keyAt 5 = .ok (.iconst 0, 1) := by decide +kernel
theorem dX12_keyAt_6 : decode cX12_keyAt 6 = .ok (.istore 5, 2) := by decide +kernel
theorem dX12_keyAt_8 : decode cX12_keyAt 8 = .ok (.iload 5, 2) := by decide +kernel
theorem dX12_keyAt_10 : decode cX12_keyAt 10 = .ok (.ldc 144, 2) := by decide +kernel
theorem dX12_keyAt_12 : decode cX12_keyAt 12 = .ok (.invokevirtual 146, 3) := by decide +kernel
theorem dX12_keyAt_15 : decode cX12_keyAt 15 = .ok (.if_icmp .ge 104, 3) := by decide +kernel
theorem dX12_keyAt_18 : decode cX12_keyAt 18 = .ok (.ldc 144, 2) := by decide +kernel
theorem dX12_keyAt_20 : decode cX12_keyAt 20 = .ok (.iload 5, 2) := by decide +kernel
theorem dX12_keyAt_22 : decode cX12_keyAt 22 = .ok (.invokevirtual 152, 3) := by decide +kernel
theorem dX12_keyAt_25 : decode cX12_keyAt 25 = .ok (.bipush 32, 2) := by decide +kernel
theorem dX12_keyAt_27 : decode cX12_keyAt 27 = .ok (.if_icmp .eq 6, 3) := by decide +kernel
theorem dX12_keyAt_30 : decode cX12_keyAt 30 = .ok (.goto 83, 3) := by decide +kernel
theorem dX12_keyAt_33 : decode cX12_keyAt 33 = .ok (.iload 5, 2) := by decide +kernel
theorem dX12_keyAt_35 : decode cX12_keyAt 35 = .ok (.iload 4, 2) := by decide +kernel
theorem dX12_keyAt_37 : decode cX12_keyAt 37 = .ok (.isub, 1) := by decide +kernel
theorem dX12_keyAt_38 : decode cX12_keyAt 38 = .ok (.iload_n 2, 1) := by decide +kernel
theorem dX12_keyAt_39 : decode cX12_keyAt 39 = .ok (.if_icmp .ne 7, 3) := by decide +kernel
theorem dX12_keyAt_42 : decode cX12_keyAt 42 = .ok (.iconst 1, 1) := by decide +kernel
theorem dX12_keyAt_43 : decode cX12_keyAt 43 = .ok (.goto 4, 3) := by decide +kernel
theorem dX12_keyAt_46 : decode cX12_keyAt 46 = .ok (.iconst 0, 1) := by decide +kernel
theorem dX12_keyAt_47 : decode cX12_keyAt 47 = .ok (.istore 6, 2) := by decide +kernel
theorem dX12_keyAt_49 : decode cX12_keyAt 49 = .ok (.iconst 0, 1) := by decide +kernel
theorem dX12_keyAt_50 : decode cX12_keyAt 50 = .ok (.istore 7, 2) := by decide +kernel
theorem dX12_keyAt_52 : decode cX12_keyAt 52 = .ok (.iload 7, 2) := by decide +kernel
theorem dX12_keyAt_54 : decode cX12_keyAt 54 = .ok (.iload_n 2, 1) := by decide +kernel
theorem dX12_keyAt_55 : decode cX12_keyAt 55 = .ok (.if_icmp .ge 42, 3) := by decide +kernel
theorem dX12_keyAt_58 : decode cX12_keyAt 58 = .ok (.iload 6, 2) := by decide +kernel
theorem dX12_keyAt_60 : decode cX12_keyAt 60 = .ok (.ifCond .eq 37, 3) := by decide +kernel
theorem dX12_keyAt_63 : decode cX12_keyAt 63 = .ok (.ldc 144, 2) := by decide +kernel
theorem dX12_keyAt_65 : decode cX12_keyAt 65 = .ok (.iload 4, 2) := by decide +kernel
theorem dX12_keyAt_67 : decode cX12_keyAt 67 = .ok (.iload 7, 2) := by decide +kernel
theorem dX12_keyAt_69 : decode cX12_keyAt 69 = .ok (.iadd, 1) := by decide +kernel
theorem dX12_keyAt_70 : decode cX12_keyAt 70 = .ok (.invokevirtual 152, 3) := by decide +kernel
theorem dX12_keyAt_73 : decode cX12_keyAt 73 = .ok (.aload_n 0, 1) := by decide +kernel
theorem dX12_keyAt_74 : decode cX12_keyAt 74 = .ok (.iload_n 1, 1) := by decide +kernel
theorem dX12_keyAt_75 : decode cX12_keyAt 75 = .ok (.iload 7, 2) := by decide +kernel
theorem dX12_keyAt_77 : decode cX12_keyAt 77 = .ok (.iadd, 1) := by decide +kernel
theorem dX12_keyAt_78 : decode cX12_keyAt 78 = .ok (.invokevirtual 156, 3) := by decide +kernel
theorem dX12_keyAt_81 : decode cX12_keyAt 81 = .ok (.if_icmp .ne 7, 3) := by decide +kernel
theorem dX12_keyAt_84 : decode cX12_keyAt 84 = .ok (.iconst 1, 1) := by decide +kernel
theorem dX12_keyAt_85 : decode cX12_keyAt 85 = .ok (.goto 4, 3) := by decide +kernel
theorem dX12_keyAt_88 : decode cX12_keyAt 88 = .ok (.iconst 0, 1) := by decide +kernel
theorem dX12_keyAt_89 : decode cX12_keyAt 89 = .ok (.istore 6, 2) := by decide +kernel
theorem dX12_keyAt_91 : decode cX12_keyAt 91 = .ok (.iinc 7 1, 3) := by decide +kernel
theorem dX12_keyAt_94 : decode cX12_keyAt 94 = .ok (.goto (-42), 3) := by decide +kernel
theorem dX12_keyAt_97 : decode cX12_keyAt 97 = .ok (.iload 6, 2) := by decide +kernel
theorem dX12_keyAt_99 : decode cX12_keyAt 99 = .ok (.ifCond .eq 5, 3) := by decide +kernel
theorem dX12_keyAt_102 : decode cX12_keyAt 102 = .ok (.iload_n 3, 1) := by decide +kernel
theorem dX12_keyAt_103 : decode cX12_keyAt 103 = .ok (.ireturn, 1) := by decide +kernel
theorem dX12_keyAt_104 : decode cX12_keyAt 104 = .ok (.iinc 3 1, 3) := by decide +kernel
theorem dX12_keyAt_107 : decode cX12_keyAt 107 = .ok (.iload 5, 2) := by decide +kernel
theorem dX12_keyAt_109 : decode cX12_keyAt 109 = .ok (.iconst 1, 1) := by decide +kernel
theorem dX12_keyAt_110 : decode cX12_keyAt 110 = .ok (.iadd, 1) := by decide +kernel
theorem dX12_keyAt_111 : decode cX12_keyAt 111 = .ok (.istore 4, 2) := by decide +kernel
theorem dX12_keyAt_113 : decode cX12_keyAt 113 = .ok (.iinc 5 1, 3) := by decide +kernel
theorem dX12_keyAt_116 : decode cX12_keyAt 116 = .ok (.goto (-108), 3) := by decide +kernel
theorem dX12_keyAt_119 : decode cX12_keyAt 119 = .ok (.iconst (-1), 1) := by decide +kernel
theorem dX12_keyAt_120 : decode cX12_keyAt 120 = .ok (.ireturn, 1) := by decide +kernel
theorem dX12_scan_0 : decode cX12_scan 0 = .ok (.aload_n 0, 1) := by decide +kernel
theorem dX12_scan_1 : decode cX12_scan 1 = .ok (.getfield 159, 3) := by decide +kernel
theorem dX12_scan_4 : decode cX12_scan 4 = .ok (.istore_n 1, 1) := by decide +kernel
theorem dX12_scan_5 : decode cX12_scan 5 = .ok (.aload_n 0, 1) := by decide +kernel
theorem dX12_scan_6 : decode cX12_scan 6 = .ok (.iload_n 1, 1) := by decide +kernel
theorem dX12_scan_7 : decode cX12_scan 7 = .ok (.invokevirtual 156, 3) := by decide +kernel
theorem dX12_scan_10 : decode cX12_scan 10 = .ok (.bipush 32, 2) := by decide +kernel
theorem dX12_scan_12 : decode cX12_scan 12 = .ok (.if_icmp .eq 13, 3) := by decide +kernel
theorem dX12_scan_15 : decode cX12_scan 15 = .ok (.aload_n 0, 1) := by decide +kernel
theorem dX12_scan_16 : decode cX12_scan 16 = .ok (.iload_n 1, 1) := by decide +kernel
theorem dX12_scan_17 : decode cX12_scan 17 = .ok (.invokevirtual 156, 3) := by decide +kernel
theorem dX12_scan_20 : decode cX12_scan 20 = .ok (.bipush 10, 2) := by decide +kernel
theorem dX12_scan_22 : decode cX12_scan 22 = .ok (.if_icmp .ne 9, 3) := by decide +kernel
theorem dX12_scan_25 : decode cX12_scan 25 = .ok (.iinc 1 1, 3) := by decide +kernel
theorem dX12_scan_28 : decode cX12_scan 28 = .ok (.goto (-23), 3) := by decide +kernel
theorem dX12_scan_31 : decode cX12_scan 31 = .ok (.aload_n 0, 1) := by decide +kernel
theorem dX12_scan_32 : decode cX12_scan 32 = .ok (.iload_n 1, 1) := by decide +kernel
theorem dX12_scan_33 : decode cX12_scan 33 = .ok (.putfield 162, 3) := by decide +kernel
theorem dX12_scan_36 : decode cX12_scan 36 = .ok (.aload_n 0, 1) := by decide +kernel
theorem dX12_scan_37 : decode cX12_scan 37 = .ok (.iload_n 1, 1) := by decide +kernel
theorem dX12_scan_38 : decode cX12_scan 38 = .ok (.invokevirtual 156, 3) := by decide +kernel
theorem dX12_scan_41 : decode cX12_scan 41 = .ok (.istore_n 2, 1) := by decide +kernel
theorem dX12_scan_42 : decode cX12_scan 42 = .ok (.iload_n 1, 1) := by decide +kernel
theorem dX12_scan_43 : decode cX12_scan 43 = .ok (.iconst 1, 1) := by decide +kernel
theorem dX12_scan_44 : decode cX12_scan 44 = .ok (.iadd, 1) := by decide +kernel
theorem dX12_scan_45 : decode cX12_scan 45 = .ok (.istore_n 3, 1) := by decide +kernel
theorem dX12_scan_46 : decode cX12_scan 46 = .ok (.iload_n 2, 1) := by decide +kernel
theorem dX12_scan_47 : decode cX12_scan 47 = .ok (.iconst (-1), 1) := by decide +kernel
theorem dX12_scan_48 : decode cX12_scan 48 = .ok (.if_icmp .ne 13, 3) := by decide +kernel
theorem dX12_scan_51 : decode cX12_scan 51 = .ok (.aload_n 0, 1) := by decide +kernel
theorem dX12_scan_52 : decode cX12_scan 52 = .ok (.iconst 4, 1) := by decide +kernel
theorem dX12_scan_53 : decode cX12_scan 53 = .ok (.putfield 165, 3) := by decide +kernel
theorem dX12_scan_56 : decode cX12_scan 56 = .ok (.iload_n 1, 1) := by decide +kernel
theorem dX12_scan_57 : decode cX12_scan 57 = .ok (.istore_n 3, 1) := by decide +kernel
theorem dX12_scan_58 : decode cX12_scan 58 = .ok (.goto 159, 3) := by decide +kernel
theorem dX12_scan_61 : decode cX12_scan 61 = .ok (.iload_n 2, 1) := by decide +kernel
theorem dX12_scan_62 : decode cX12_scan 62 = .ok (.invokestatic 168, 3) := by decide +kernel
theorem dX12_scan_65 : decode cX12_scan 65 = .ok (.ifCond .eq 52, 3) := by decide +kernel
theorem dX12_scan_68 : decode cX12_scan 68 = .ok (.aload_n 0, 1) := by decide +kernel
theorem dX12_scan_69 : decode cX12_scan 69 = .ok (.iload_n 3, 1) := by decide +kernel
theorem dX12_scan_70 : decode cX12_scan 70 = .ok (.invokevirtual 156, 3) := by decide +kernel
theorem dX12_scan_73 : decode cX12_scan 73 = .ok (.invokestatic 168, 3) := by decide +kernel
end
section
theorem dX12_scan_76 : decode cX12_scan 76 = .ok (.ifCond .eq 9, 3) := by decide +kernel
theorem dX12_scan_79 : decode cX12_scan 79 = .ok (.iinc 3 1, 3) := by decide +kernel
theorem dX12_scan_82 : decode cX12_scan 82 = .ok (.goto (-14), 3) := by decide +kernel
theorem dX12_scan_85 : decode cX12_scan 85 = .ok (.aload_n 0, 1) := by decide +kernel
theorem dX12_scan_86 : decode cX12_scan 86 = .ok (.aload_n 0, 1) := by decide +kernel
theorem dX12_scan_87 : decode cX12_scan 87 = .ok (.iload_n 1, 1) := by decide +kernel
theorem dX12_scan_88 : decode cX12_scan 88 = .ok (.iload_n 3, 1) := by decide +kernel
theorem dX12_scan_89 : decode cX12_scan 89 = .ok (.iload_n 1, 1) := by decide +kernel
theorem dX12_scan_90 : decode cX12_scan 90 = .ok (.isub, 1) := by decide +kernel
theorem dX12_scan_91 : decode cX12_scan 91 = .ok (.invokevirtual 172, 3) := by decide +kernel
theorem dX12_scan_94 : decode cX12_scan 94 = .ok (.putfield 176, 3) := by decide +kernel
theorem dX12_scan_97 : decode cX12_scan 97 = .ok (.aload_n 0, 1) := by decide +kernel
theorem dX12_scan_98 : decode cX12_scan 98 = .ok (.aload_n 0, 1) := by decide +kernel
theorem dX12_scan_99 : decode cX12_scan 99 = .ok (.getfield 176, 3) := by decide +kernel
theorem dX12_scan_102 : decode cX12_scan 102 = .ok (.iconst (-1), 1) := by decide +kernel
theorem dX12_scan_103 : decode cX12_scan 103 = .ok (.if_icmp .ne 7, 3) := by decide +kernel
theorem dX12_scan_106 : decode cX12_scan 106 = .ok (.iconst 0, 1) := by decide +kernel
theorem dX12_scan_107 : decode cX12_scan 107 = .ok (.goto 4, 3) := by decide +kernel
theorem dX12_scan_110 : decode cX12_scan 110 = .ok (.iconst 1, 1) := by decide +kernel
theorem dX12_scan_111 : decode cX12_scan 111 = .ok (.putfield 165, 3) := by decide +kernel
theorem dX12_scan_114 : decode cX12_scan 114 = .ok (.goto 103, 3) := by decide +kernel
theorem dX12_scan_117 : decode cX12_scan 117 = .ok (.iload_n 2, 1) := by decide +kernel
theorem dX12_scan_118 : decode cX12_scan 118 = .ok (.invokestatic 179, 3) := by decide +kernel
theorem dX12_scan_121 : decode cX12_scan 121 = .ok (.ifCond .eq 81, 3) := by decide +kernel
theorem dX12_scan_124 : decode cX12_scan 124 = .ok (.aload_n 0, 1) := by decide +kernel
theorem dX12_scan_125 : decode cX12_scan 125 = .ok (.iload_n 2, 1) := by decide +kernel
theorem dX12_scan_126 : decode cX12_scan 126 = .ok (.bipush 48, 2) := by decide +kernel
theorem dX12_scan_128 : decode cX12_scan 128 = .ok (.isub, 1) := by decide +kernel
theorem dX12_scan_129 : decode cX12_scan 129 = .ok (.putfield 182, 3) := by decide +kernel
theorem dX12_scan_132 : decode cX12_scan 132 = .ok (.aload_n 0, 1) := by decide +kernel
theorem dX12_scan_133 : decode cX12_scan 133 = .ok (.iload_n 3, 1) := by decide +kernel
theorem dX12_scan_134 : decode cX12_scan 134 = .ok (.invokevirtual 156, 3) := by decide +kernel
theorem dX12_scan_137 : decode cX12_scan 137 = .ok (.invokestatic 179, 3) := by decide +kernel
theorem dX12_scan_140 : decode cX12_scan 140 = .ok (.ifCond .eq 43, 3) := by decide +kernel
theorem dX12_scan_143 : decode cX12_scan 143 = .ok (.aload_n 0, 1) := by decide +kernel
theorem dX12_scan_144 : decode cX12_scan 144 = .ok (.iload_n 3, 1) := by decide +kernel
theorem dX12_scan_145 : decode cX12_scan 145 = .ok (.iload_n 1, 1) := by decide +kernel
theorem dX12_scan_146 : decode cX12_scan 146 = .ok (.isub, 1) := by decide +kernel
theorem dX12_scan_147 : decode cX12_scan 147 = .ok (.iconst 4, 1) := by decide +kernel
theorem dX12_scan_148 : decode cX12_scan 148 = .ok (.if_icmp .ge 22, 3) := by decide +kernel
theorem dX12_scan_151 : decode cX12_scan 151 = .ok (.bipush 10, 2) := by decide +kernel
theorem dX12_scan_153 : decode cX12_scan 153 = .ok (.aload_n 0, 1) := by decide +kernel
theorem dX12_scan_154 : decode cX12_scan 154 = .ok (.getfield 182, 3) := by decide +kernel
theorem dX12_scan_157 : decode cX12_scan 157 = .ok (.imul, 1) := by decide +kernel
theorem dX12_scan_158 : decode cX12_scan 158 = .ok (.aload_n 0, 1) := by decide +kernel
theorem dX12_scan_159 : decode cX12_scan 159 = .ok (.iload_n 3, 1) := by decide +kernel
theorem dX12_scan_160 : decode cX12_scan 160 = .ok (.invokevirtual 156, 3) := by decide +kernel
theorem dX12_scan_163 : decode cX12_scan 163 = .ok (.iadd, 1) := by decide +kernel
theorem dX12_scan_164 : decode cX12_scan 164 = .ok (.bipush 48, 2) := by decide +kernel
theorem dX12_scan_166 : decode cX12_scan 166 = .ok (.isub, 1) := by decide +kernel
theorem dX12_scan_167 : decode cX12_scan 167 = .ok (.goto 7, 3) := by decide +kernel
theorem dX12_scan_170 : decode cX12_scan 170 = .ok (.aload_n 0, 1) := by decide +kernel
theorem dX12_scan_171 : decode cX12_scan 171 = .ok (.getfield 182, 3) := by decide +kernel
theorem dX12_scan_174 : decode cX12_scan 174 = .ok (.putfield 182, 3) := by decide +kernel
theorem dX12_scan_177 : decode cX12_scan 177 = .ok (.iinc 3 1, 3) := by decide +kernel
theorem dX12_scan_180 : decode cX12_scan 180 = .ok (.goto (-48), 3) := by decide +kernel
theorem dX12_scan_183 : decode cX12_scan 183 = .ok (.aload_n 0, 1) := by decide +kernel
theorem dX12_scan_184 : decode cX12_scan 184 = .ok (.iload_n 3, 1) := by decide +kernel
theorem dX12_scan_185 : decode cX12_scan 185 = .ok (.iload_n 1, 1) := by decide +kernel
theorem dX12_scan_186 : decode cX12_scan 186 = .ok (.isub, 1) := by decide +kernel
theorem dX12_scan_187 : decode cX12_scan 187 = .ok (.iconst 4, 1) := by decide +kernel
theorem dX12_scan_188 : decode cX12_scan 188 = .ok (.if_icmp .le 7, 3) := by decide +kernel
theorem dX12_scan_191 : decode cX12_scan 191 = .ok (.iconst 0, 1) := by decide +kernel
theorem dX12_scan_192 : decode cX12_scan 192 = .ok (.goto 4, 3) := by decide +kernel
theorem dX12_scan_195 : decode cX12_scan 195 = .ok (.iconst 2, 1) := by decide +kernel
theorem dX12_scan_196 : decode cX12_scan 196 = .ok (.putfield 165, 3) := by decide +kernel
theorem dX12_scan_199 : decode cX12_scan 199 = .ok (.goto 18, 3) := by decide +kernel
theorem dX12_scan_202 : decode cX12_scan 202 = .ok (.aload_n 0, 1) := by decide +kernel
theorem dX12_scan_203 : decode cX12_scan 203 = .ok (.iload_n 2, 1) := by decide +kernel
theorem dX12_scan_204 : decode cX12_scan 204 = .ok (.bipush 59, 2) := by decide +kernel
theorem dX12_scan_206 : decode cX12_scan 206 = .ok (.if_icmp .ne 7, 3) := by decide +kernel
theorem dX12_scan_209 : decode cX12_scan 209 = .ok (.iconst 3, 1) := by decide +kernel
theorem dX12_scan_210 : decode cX12_scan 210 = .ok (.goto 4, 3) := by decide +kernel
theorem dX12_scan_213 : decode cX12_scan 213 = .ok (.iconst 0, 1) := by decide +kernel
theorem dX12_scan_214 : decode cX12_scan 214 = .ok (.putfield 165, 3) := by decide +kernel
theorem dX12_scan_217 : decode cX12_scan 217 = .ok (.aload_n 0, 1) := by decide +kernel
theorem dX12_scan_218 : decode cX12_scan 218 = .ok (.iload_n 3, 1) := by decide +kernel
theorem dX12_scan_219 : decode cX12_scan 219 = .ok (.putfield 159, 3) := by decide +kernel
theorem dX12_scan_222 : decode cX12_scan 222 = .ok (.return_, 1) := by decide +kernel
theorem dX12_wrong_0 : decode cX12_wrong 0 = .ok (.aload_n 0, 1) := by decide +kernel
theorem dX12_wrong_1 : decode cX12_wrong 1 = .ok (.iload_n 1, 1) := by decide +kernel
theorem dX12_wrong_2 : decode cX12_wrong 2 = .ok (.putfield 185, 3) := by decide +kernel
theorem dX12_wrong_5 : decode cX12_wrong 5 = .ok (.aload_n 0, 1) := by decide +kernel
theorem dX12_wrong_6 : decode cX12_wrong 6 = .ok (.aload_n 0, 1) := by decide +kernel
theorem dX12_wrong_7 : decode cX12_wrong 7 = .ok (.getfield 162, 3) := by decide +kernel
theorem dX12_wrong_10 : decode cX12_wrong 10 = .ok (.putfield 13, 3) := by decide +kernel
theorem dX12_wrong_13 : decode cX12_wrong 13 = .ok (.iconst 0, 1) := by decide +kernel
theorem dX12_wrong_14 : decode cX12_wrong 14 = .ok (.ireturn, 1) := by decide +kernel
theorem dX12_isCourt_0 : decode cX12_isCourt 0 = .ok (.iload_n 0, 1) := by decide +kernel
theorem dX12_isCourt_1 : decode cX12_isCourt 1 = .ok (.iconst 0, 1) := by decide +kernel
theorem dX12_isCourt_2 : decode cX12_isCourt 2 = .ok (.bipush 11, 2) := by decide +kernel
theorem dX12_isCourt_4 : decode cX12_isCourt 4 = .ok (.invokestatic 188, 3) := by decide +kernel
theorem dX12_isCourt_7 : decode cX12_isCourt 7 = .ok (.ireturn, 1) := by decide +kernel
theorem dX12_isWard_0 : decode cX12_isWard 0 = .ok (.iload_n 0, 1) := by decide +kernel
theorem dX12_isWard_1 : decode cX12_isWard 1 = .ok (.iconst 0, 1) := by decide +kernel
theorem dX12_isWard_2 : decode cX12_isWard 2 = .ok (.iconst 3, 1) := by decide +kernel
theorem dX12_isWard_3 : decode cX12_isWard 3 = .ok (.invokestatic 188, 3) := by decide +kernel
theorem dX12_isWard_6 : decode cX12_isWard 6 = .ok (.ireturn, 1) := by decide +kernel
theorem dX12_court_0 : decode cX12_court 0 = .ok (.iload_n 1, 1) := by decide +kernel
theorem dX12_court_1 : decode cX12_court 1 = .ok (.invokestatic 192, 3) := by decide +kernel
theorem dX12_court_4 : decode cX12_court 4 = .ok (.ifCond .eq 21, 3) := by decide +kernel
theorem dX12_court_7 : decode cX12_court 7 = .ok (.iload_n 2, 1) := by decide +kernel
theorem dX12_court_8 : decode cX12_court 8 = .ok (.invokestatic 195, 3) := by decide +kernel
theorem dX12_court_11 : decode cX12_court 11 = .ok (.ifCond .eq 14, 3) := by decide +kernel
theorem dX12_court_14 : decode cX12_court 14 = .ok (.iload_n 3, 1) := by decide +kernel
theorem dX12_court_15 : decode cX12_court 15 = .ok (.iconst 1, 1) := by decide +kernel
theorem dX12_court_16 : decode cX12_court 16 = .ok (.sipush 999, 3) := by decide +kernel
theorem dX12_court_19 : decode cX12_court 19 = .ok (.invokestatic 188, 3) := by decide +kernel
theorem dX12_court_22 : decode cX12_court 22 = .ok (.ifCond .ne 6, 3) := by decide +kernel
theorem dX12_court_25 : decode cX12_court 25 = .ok (.bipush (-2), 2) := by decide +kernel
theorem dX12_court_27 : decode cX12_court 27 = .ok (.ireturn, 1) := by decide +kernel
theorem dX12_court_28 : decode cX12_court 28 = .ok (.aload_n 0, 1) := by decide +kernel
theorem dX12_court_29 : decode cX12_court 29 = .ok (.getfield 17, 3) := by decide +kernel
theorem dX12_court_32 : decode cX12_court 32 = .ok (.iload_n 1, 1) := by decide +kernel
theorem dX12_court_33 : decode cX12_court 33 = .ok (.iload_n 2, 1) := by decide +kernel
theorem dX12_court_34 : decode cX12_court 34 = .ok (.iastore, 1) := by decide +kernel
theorem dX12_court_35 : decode cX12_court 35 = .ok (.aload_n 0, 1) := by decide +kernel
theorem dX12_court_36 : decode cX12_court 36 = .ok (.getfield 21, 3) := by decide +kernel
theorem dX12_court_39 : decode cX12_court 39 = .ok (.iload_n 1, 1) := by decide +kernel
theorem dX12_court_40 : decode cX12_court 40 = .ok (.iload_n 3, 1) := by decide +kernel
theorem dX12_court_41 : decode cX12_court 41 = .ok (.iastore, 1) := by decide +kernel
theorem dX12_court_42 : decode cX12_court 42 = .ok (.iconst 1, 1) := by decide +kernel
theorem dX12_court_43 : decode cX12_court 43 = .ok (.ireturn, 1) := by decide +kernel
theorem dX12_makeFar_0 : decode cX12_makeFar 0 = .ok (.iconst 0, 1) := by decide +kernel
theorem dX12_makeFar_1 : decode cX12_makeFar 1 = .ok (.istore_n 1, 1) := by decide +kernel
theorem dX12_makeFar_2 : decode cX12_makeFar 2 = .ok (.iload_n 1, 1) := by decide +kernel
theorem dX12_makeFar_3 : decode cX12_makeFar 3 = .ok (.sipush 144, 3) := by decide +kernel
theorem dX12_makeFar_6 : decode cX12_makeFar 6 = .ok (.if_icmp .ge 47, 3) := by decide +kernel
theorem dX12_makeFar_9 : decode cX12_makeFar 9 = .ok (.aload_n 0, 1) := by decide +kernel
theorem dX12_makeFar_10 : decode cX12_makeFar 10 = .ok (.getfield 27, 3) := by decide +kernel
theorem dX12_makeFar_13 : decode cX12_makeFar 13 = .ok (.iload_n 1, 1) := by decide +kernel
theorem dX12_makeFar_14 : decode cX12_makeFar 14 = .ok (.iload_n 1, 1) := by decide +kernel
theorem dX12_makeFar_15 : decode cX12_makeFar 15 = .ok (.bipush 13, 2) := by decide +kernel
theorem dX12_makeFar_17 : decode cX12_makeFar 17 = .ok (.irem, 1) := by decide +kernel
theorem dX12_makeFar_18 : decode cX12_makeFar 18 = .ok (.ifCond .ne 7, 3) := by decide +kernel
theorem dX12_makeFar_21 : decode cX12_makeFar 21 = .ok (.iconst 0, 1) := by decide +kernel
theorem dX12_makeFar_22 : decode cX12_makeFar 22 = .ok (.goto 24, 3) := by decide +kernel
theorem dX12_makeFar_25 : decode cX12_makeFar 25 = .ok (.aload_n 0, 1) := by decide +kernel
theorem dX12_makeFar_26 : decode cX12_makeFar 26 = .ok (.getfield 24, 3) := by decide +kernel
theorem dX12_makeFar_29 : decode cX12_makeFar 29 = .ok (.iload_n 1, 1) := by decide +kernel
theorem dX12_makeFar_30 : decode cX12_makeFar 30 = .ok (.iaload, 1) := by decide +kernel
theorem dX12_makeFar_31 : decode cX12_makeFar 31 = .ok (.iconst (-1), 1) := by decide +kernel
theorem dX12_makeFar_32 : decode cX12_makeFar 32 = .ok (.if_icmp .ne 8, 3) := by decide +kernel
theorem dX12_makeFar_35 : decode cX12_makeFar 35 = .ok (.ldc 198, 2) := by decide +kernel
theorem dX12_makeFar_37 : decode cX12_makeFar 37 = .ok (.goto 9, 3) := by decide +kernel
theorem dX12_makeFar_40 : decode cX12_makeFar 40 = .ok (.aload_n 0, 1) := by decide +kernel
theorem dX12_makeFar_41 : decode cX12_makeFar 41 = .ok (.getfield 24, 3) := by decide +kernel
theorem dX12_makeFar_44 : decode cX12_makeFar 44 = .ok (.iload_n 1, 1) := by decide +kernel
theorem dX12_makeFar_45 : decode cX12_makeFar 45 = .ok (.iaload, 1) := by decide +kernel
theorem dX12_makeFar_46 : decode cX12_makeFar 46 = .ok (.iastore, 1) := by decide +kernel
theorem dX12_makeFar_47 : decode cX12_makeFar 47 = .ok (.iinc 1 1, 3) := by decide +kernel
theorem dX12_makeFar_50 : decode cX12_makeFar 50 = .ok (.goto (-48), 3) := by decide +kernel
theorem dX12_makeFar_53 : decode cX12_makeFar 53 = .ok (.iconst 0, 1) := by decide +kernel
theorem dX12_makeFar_54 : decode cX12_makeFar 54 = .ok (.istore_n 1, 1) := by decide +kernel
theorem dX12_makeFar_55 : decode cX12_makeFar 55 = .ok (.iload_n 1, 1) := by decide +kernel
theorem dX12_makeFar_56 : decode cX12_makeFar 56 = .ok (.bipush 12, 2) := by decide +kernel
theorem dX12_makeFar_58 : decode cX12_makeFar 58 = .ok (.if_icmp .ge 91, 3) := by decide +kernel
theorem dX12_makeFar_61 : decode cX12_makeFar 61 = .ok (.iconst 0, 1) := by decide +kernel
theorem dX12_makeFar_62 : decode cX12_makeFar 62 = .ok (.istore_n 2, 1) := by decide +kernel
theorem dX12_makeFar_63 : decode cX12_makeFar 63 = .ok (.iload_n 2, 1) := by decide +kernel
theorem dX12_makeFar_64 : decode cX12_makeFar 64 = .ok (.bipush 12, 2) := by decide +kernel
theorem dX12_makeFar_66 : decode cX12_makeFar 66 = .ok (.if_icmp .ge 77, 3) := by decide +kernel
theorem dX12_makeFar_69 : decode cX12_makeFar 69 = .ok (.iconst 0, 1) := by decide +kernel
theorem dX12_makeFar_70 : decode cX12_makeFar 70 = .ok (.istore_n 3, 1) := by decide +kernel
theorem dX12_makeFar_71 : decode cX12_makeFar 71 = .ok (.iload_n 3, 1) := by decide +kernel
theorem dX12_makeFar_72 : decode cX12_makeFar 72 = .ok (.bipush 12, 2) := by decide +kernel
theorem dX12_makeFar_74 : decode cX12_makeFar 74 = .ok (.if_icmp .ge 63, 3) := by decide +kernel
theorem dX12_makeFar_77 : decode cX12_makeFar 77 = .ok (.aload_n 0, 1) := by decide +kernel
theorem dX12_makeFar_78 : decode cX12_makeFar 78 = .ok (.getfield 27, 3) := by decide +kernel
theorem dX12_makeFar_81 : decode cX12_makeFar 81 = .ok (.bipush 12, 2) := by decide +kernel
theorem dX12_makeFar_83 : decode cX12_makeFar 83 = .ok (.iload_n 2, 1) := by decide +kernel
theorem dX12_makeFar_84 : decode cX12_makeFar 84 = .ok (.imul, 1) := by decide +kernel
theorem dX12_makeFar_85 : decode cX12_makeFar 85 = .ok (.iload_n 1, 1) := by decide +kernel
theorem dX12_makeFar_86 : decode cX12_makeFar 86 = .ok (.iadd, 1) := by decide +kernel
theorem dX12_makeFar_87 : decode cX12_makeFar 87 = .ok (.iaload, 1) := by decide +kernel
theorem dX12_makeFar_88 : decode cX12_makeFar 88 = .ok (.aload_n 0, 1) := by decide +kernel
theorem dX12_makeFar_89 : decode cX12_makeFar 89 = .ok (.getfield 27, 3) := by decide +kernel
theorem dX12_makeFar_92 : decode cX12_makeFar 92 = .ok (.bipush 12, 2) := by decide +kernel
theorem dX12_makeFar_94 : decode cX12_makeFar 94 = .ok (.iload_n 1, 1) := by decide +kernel
theorem dX12_makeFar_95 : decode cX12_makeFar 95 = .ok (.imul, 1) := by decide +kernel
theorem dX12_makeFar_96 : decode cX12_makeFar 96 = .ok (.iload_n 3, 1) := by decide +kernel
theorem dX12_makeFar_97 : decode cX12_makeFar 97 = .ok (.iadd, 1) := by decide +kernel
theorem dX12_makeFar_98 : decode cX12_makeFar 98 = .ok (.iaload, 1) := by decide +kernel
theorem dX12_makeFar_99 : decode cX12_makeFar 99 = .ok (.iadd, 1) := by decide +kernel
theorem dX12_makeFar_100 : decode cX12_makeFar 100 = .ok (.istore 4, 2) := by decide +kernel
theorem dX12_makeFar_102 : decode cX12_makeFar 102 = .ok (.iload 4, 2) := by decide +kernel
theorem dX12_makeFar_104 : decode cX12_makeFar 104 = .ok (.aload_n 0, 1) := by decide +kernel
theorem dX12_makeFar_105 : decode cX12_makeFar 105 = .ok (.getfield 27, 3) := by decide +kernel
theorem dX12_makeFar_108 : decode cX12_makeFar 108 = .ok (.bipush 12, 2) := by decide +kernel
theorem dX12_makeFar_110 : decode cX12_makeFar 110 = .ok (.iload_n 2, 1) := by decide +kernel
theorem dX12_makeFar_111 : decode cX12_makeFar 111 = .ok (.imul, 1) := by decide +kernel
theorem dX12_makeFar_112 : decode cX12_makeFar 112 = .ok (.iload_n 3, 1) := by decide +kernel
theorem dX12_makeFar_113 : decode cX12_makeFar 113 = .ok (.iadd, 1) := by decide +kernel
theorem dX12_makeFar_114 : decode cX12_makeFar 114 = .ok (.iaload, 1) := by decide +kernel
theorem dX12_makeFar_115 : decode cX12_makeFar 115 = .ok (.if_icmp .ge 16, 3) := by decide +kernel
theorem dX12_makeFar_118 : decode cX12_makeFar 118 = .ok (.aload_n 0, 1) := by decide +kernel
theorem dX12_makeFar_119 : decode cX12_makeFar 119 = .ok (.getfield 27, 3) := by decide +kernel
theorem dX12_makeFar_122 : decode cX12_makeFar 122 = .ok (.bipush 12, 2) := by decide +kernel
theorem dX12_makeFar_124 : decode cX12_makeFar 124 = .ok (.iload_n 2, 1) := by decide +kernel
theorem dX12_makeFar_125 : decode cX12_makeFar 125 = .ok (.imul, 1) := by decide +kernel
theorem dX12_makeFar_126 : decode cX12_makeFar 126 = .ok (.iload_n 3, 1) := by decide +kernel
theorem dX12_makeFar_127 : decode cX12_makeFar 127 = .ok (.iadd, 1) := by decide +kernel
theorem dX12_makeFar_128 : decode cX12_makeFar 128 = .ok (.iload 4, 2) := by decide +kernel
theorem dX12_makeFar_130 : decode cX12_makeFar 130 = .ok (.iastore, 1) := by decide +kernel
theorem dX12_makeFar_131 : decode cX12_makeFar 131 = .ok (.iinc 3 1, 3) := by decide +kernel
theorem dX12_makeFar_134 : decode cX12_makeFar 134 = .ok (.goto (-63), 3) := by decide +kernel
theorem dX12_makeFar_137 : decode cX12_makeFar 137 = .ok (.iinc 2 1, 3) := by decide +kernel
theorem dX12_makeFar_140 : decode cX12_makeFar 140 = .ok (.goto (-77), 3) := by decide +kernel
theorem dX12_makeFar_143 : decode cX12_makeFar 143 = .ok (.iinc 1 1, 3) := by decide +kernel
theorem dX12_makeFar_146 : decode cX12_makeFar 146 = .ok (.goto (-91), 3) := by decide +kernel
theorem dX12_makeFar_149 : decode cX12_makeFar 149 = .ok (.return_, 1) := by decide +kernel
theorem dX12_way_0 : decode cX12_way 0 = .ok (.iload_n 1, 1) := by decide +kernel
theorem dX12_way_1 : decode cX12_way 1 = .ok (.invokestatic 192, 3) := by decide +kernel
theorem dX12_way_4 : decode cX12_way 4 = .ok (.ifCond .eq 30, 3) := by decide +kernel
theorem dX12_way_7 : decode cX12_way 7 = .ok (.iload_n 2, 1) := by decide +kernel
theorem dX12_way_8 : decode cX12_way 8 = .ok (.invokestatic 192, 3) := by decide +kernel
theorem dX12_way_11 : decode cX12_way 11 = .ok (.ifCond .eq 23, 3) := by decide +kernel
theorem dX12_way_14 : decode cX12_way 14 = .ok (.iload_n 1, 1) := by decide +kernel
theorem dX12_way_15 : decode cX12_way 15 = .ok (.iload_n 2, 1) := by decide +kernel
theorem dX12_way_16 : decode cX12_way 16 = .ok (.if_icmp .eq 18, 3) := by decide +kernel
theorem dX12_way_19 : decode cX12_way 19 = .ok (.iload_n 3, 1) := by decide +kernel
theorem dX12_way_20 : decode cX12_way 20 = .ok (.iconst (-1), 1) := by decide +kernel
theorem dX12_way_21 : decode cX12_way 21 = .ok (.if_icmp .eq 16, 3) := by decide +kernel
theorem dX12_way_24 : decode cX12_way 24 = .ok (.iload_n 3, 1) := by decide +kernel
theorem dX12_way_25 : decode cX12_way 25 = .ok (.iconst 1, 1) := by decide +kernel
theorem dX12_way_26 : decode cX12_way 26 = .ok (.bipush 99, 2) := by decide +kernel
theorem dX12_way_28 : decode cX12_way 28 = .ok (.invokestatic 188, 3) := by decide +kernel
theorem dX12_way_31 : decode cX12_way 31 = .ok (.ifCond .ne 6, 3) := by decide +kernel
theorem dX12_way_34 : decode cX12_way 34 = .ok (.bipush (-2), 2) := by decide +kernel
theorem dX12_way_36 : decode cX12_way 36 = .ok (.ireturn, 1) := by decide +kernel
theorem dX12_way_37 : decode cX12_way 37 = .ok (.aload_n 0, 1) := by decide +kernel
theorem dX12_way_38 : decode cX12_way 38 = .ok (.getfield 24, 3) := by decide +kernel
theorem dX12_way_41 : decode cX12_way 41 = .ok (.bipush 12, 2) := by decide +kernel
theorem dX12_way_43 : decode cX12_way 43 = .ok (.iload_n 1, 1) := by decide +kernel
theorem dX12_way_44 : decode cX12_way 44 = .ok (.imul, 1) := by decide +kernel
theorem dX12_way_45 : decode cX12_way 45 = .ok (.iload_n 2, 1) := by decide +kernel
theorem dX12_way_46 : decode cX12_way 46 = .ok (.iadd, 1) := by decide +kernel
theorem dX12_way_47 : decode cX12_way 47 = .ok (.iaload, 1) := by decide +kernel
theorem dX12_way_48 : decode cX12_way 48 = .ok (.istore 4, 2) := by decide +kernel
theorem dX12_way_50 : decode cX12_way 50 = .ok (.aload_n 0, 1) := by decide +kernel
theorem dX12_way_51 : decode cX12_way 51 = .ok (.getfield 24, 3) := by decide +kernel
theorem dX12_way_54 : decode cX12_way 54 = .ok (.bipush 12, 2) := by decide +kernel
theorem dX12_way_56 : decode cX12_way 56 = .ok (.iload_n 1, 1) := by decide +kernel
theorem dX12_way_57 : decode cX12_way 57 = .ok (.imul, 1) := by decide +kernel
theorem dX12_way_58 : decode cX12_way 58 = .ok (.iload_n 2, 1) := by decide +kernel
theorem dX12_way_59 : decode cX12_way 59 = .ok (.iadd, 1) := by decide +kernel
theorem dX12_way_60 : decode cX12_way 60 = .ok (.iload_n 3, 1) := by decide +kernel
theorem dX12_way_61 : decode cX12_way 61 = .ok (.iastore, 1) := by decide +kernel
theorem dX12_way_62 : decode cX12_way 62 = .ok (.aload_n 0, 1) := by decide +kernel
theorem dX12_way_63 : decode cX12_way 63 = .ok (.getfield 24, 3) := by decide +kernel
theorem dX12_way_66 : decode cX12_way 66 = .ok (.bipush 12, 2) := by decide +kernel
theorem dX12_way_68 : decode cX12_way 68 = .ok (.iload_n 2, 1) := by decide +kernel
theorem dX12_way_69 : decode cX12_way 69 = .ok (.imul, 1) := by decide +kernel
theorem dX12_way_70 : decode cX12_way 70 = .ok (.iload_n 1, 1) := by decide +kernel
theorem dX12_way_71 : decode cX12_way 71 = .ok (.iadd, 1) := by decide +kernel
theorem dX12_way_72 : decode cX12_way 72 = .ok (.iload_n 3, 1) := by decide +kernel
theorem dX12_way_73 : decode cX12_way 73 = .ok (.iastore, 1) := by decide +kernel
theorem dX12_way_74 : decode cX12_way 74 = .ok (.aload_n 0, 1) := by decide +kernel
theorem dX12_way_75 : decode cX12_way 75 = .ok (.invokevirtual 135, 3) := by decide +kernel
theorem dX12_way_78 : decode cX12_way 78 = .ok (.iload 4, 2) := by decide +kernel
theorem dX12_way_80 : decode cX12_way 80 = .ok (.ireturn, 1) := by decide +kernel
theorem dX12_far_0 : decode cX12_far 0 = .ok (.iload_n 1, 1) := by decide +kernel
theorem dX12_far_1 : decode cX12_far 1 = .ok (.invokestatic 192, 3) := by decide +kernel
theorem dX12_far_4 : decode cX12_far 4 = .ok (.ifCond .eq 10, 3) := by decide +kernel
theorem dX12_far_7 : decode cX12_far 7 = .ok (.iload_n 2, 1) := by decide +kernel
theorem dX12_far_8 : decode cX12_far 8 = .ok (.invokestatic 192, 3) := by decide +kernel
theorem dX12_far_11 : decode cX12_far 11 = .ok (.ifCond .ne 6, 3) := by decide +kernel
theorem dX12_far_14 : decode cX12_far 14 = .ok (.bipush (-2), 2) := by decide +kernel
theorem dX12_far_16 : decode cX12_far 16 = .ok (.ireturn, 1) := by decide +kernel
theorem dX12_far_17 : decode cX12_far 17 = .ok (.aload_n 0, 1) := by decide +kernel
theorem dX12_far_18 : decode cX12_far 18 = .ok (.getfield 27, 3) := by decide +kernel
theorem dX12_far_21 : decode cX12_far 21 = .ok (.bipush 12, 2) := by decide +kernel
theorem dX12_far_23 : decode cX12_far 23 = .ok (.iload_n 1, 1) := by decide +kernel
theorem dX12_far_24 : decode cX12_far 24 = .ok (.imul, 1) := by decide +kernel
theorem dX12_far_25 : decode cX12_far 25 = .ok (.iload_n 2, 1) := by decide +kernel
theorem dX12_far_26 : decode cX12_far 26 = .ok (.iadd, 1) := by decide +kernel
theorem dX12_far_27 : decode cX12_far 27 = .ok (.iaload, 1) := by decide +kernel
theorem dX12_far_28 : decode cX12_far 28 = .ok (.istore_n 3, 1) := by decide +kernel
theorem dX12_far_29 : decode cX12_far 29 = .ok (.iload_n 3, 1) := by decide +kernel
theorem dX12_far_30 : decode cX12_far 30 = .ok (.ldc 198, 2) := by decide +kernel
theorem dX12_far_32 : decode cX12_far 32 = .ok (.if_icmp .lt 7, 3) := by decide +kernel
theorem dX12_far_35 : decode cX12_far 35 = .ok (.iconst (-1), 1) := by decide +kernel
theorem dX12_far_36 : decode cX12_far 36 = .ok (.goto 4, 3) := by decide +kernel
theorem dX12_far_39 : decode cX12_far 39 = .ok (.iload_n 3, 1) := by decide +kernel
theorem dX12_far_40 : decode cX12_far 40 = .ok (.ireturn, 1) := by decide +kernel
theorem dX12_least_0 : decode cX12_least 0 = .ok (.iconst 0, 1) := by decide +kernel
theorem dX12_least_1 : decode cX12_least 1 = .ok (.istore_n 1, 1) := by decide +kernel
theorem dX12_least_2 : decode cX12_least 2 = .ok (.iload_n 0, 1) := by decide +kernel
theorem dX12_least_3 : decode cX12_least 3 = .ok (.iload_n 1, 1) := by decide +kernel
theorem dX12_least_4 : decode cX12_least 4 = .ok (.ishr, 1) := by decide +kernel
theorem dX12_least_5 : decode cX12_least 5 = .ok (.iconst 1, 1) := by decide +kernel
theorem dX12_least_6 : decode cX12_least 6 = .ok (.iand, 1) := by decide +kernel
theorem dX12_least_7 : decode cX12_least 7 = .ok (.ifCond .ne 9, 3) := by decide +kernel
theorem dX12_least_10 : decode cX12_least 10 = .ok (.iinc 1 1, 3) := by decide +kernel
theorem dX12_least_13 : decode cX12_least 13 = .ok (.goto (-11), 3) := by decide +kernel
theorem dX12_least_16 : decode cX12_least 16 = .ok (.iload_n 1, 1) := by decide +kernel
theorem dX12_least_17 : decode cX12_least 17 = .ok (.ireturn, 1) := by decide +kernel
theorem dX12_farOf_0 : decode cX12_farOf 0 = .ok (.aload_n 0, 1) := by decide +kernel
theorem dX12_farOf_1 : decode cX12_farOf 1 = .ok (.getfield 27, 3) := by decide +kernel
theorem dX12_farOf_4 : decode cX12_farOf 4 = .ok (.bipush 12, 2) := by decide +kernel
theorem dX12_farOf_6 : decode cX12_farOf 6 = .ok (.aload_n 0, 1) := by decide +kernel
theorem dX12_farOf_7 : decode cX12_farOf 7 = .ok (.getfield 30, 3) := by decide +kernel
theorem dX12_farOf_10 : decode cX12_farOf 10 = .ok (.iload_n 1, 1) := by decide +kernel
theorem dX12_farOf_11 : decode cX12_farOf 11 = .ok (.iaload, 1) := by decide +kernel
theorem dX12_farOf_12 : decode cX12_farOf 12 = .ok (.imul, 1) := by decide +kernel
theorem dX12_farOf_13 : decode cX12_farOf 13 = .ok (.aload_n 0, 1) := by decide +kernel
theorem dX12_farOf_14 : decode cX12_farOf 14 = .ok (.getfield 30, 3) := by decide +kernel
theorem dX12_farOf_17 : decode cX12_farOf 17 = .ok (.iload_n 2, 1) := by decide +kernel
theorem dX12_farOf_18 : decode cX12_farOf 18 = .ok (.iaload, 1) := by decide +kernel
theorem dX12_farOf_19 : decode cX12_farOf 19 = .ok (.iadd, 1) := by decide +kernel
theorem dX12_farOf_20 : decode cX12_farOf 20 = .ok (.iaload, 1) := by decide +kernel
theorem dX12_farOf_21 : decode cX12_farOf 21 = .ok (.ireturn, 1) := by decide +kernel
theorem dX12_makeLengths_0 : decode cX12_makeLengths 0 = .ok (.iconst 1, 1) := by decide +kernel
theorem dX12_makeLengths_1 : decode cX12_makeLengths 1 = .ok (.istore_n 1, 1) := by decide +kernel
theorem dX12_makeLengths_2 : decode cX12_makeLengths 2 = .ok (.iload_n 1, 1) := by decide +kernel
theorem dX12_makeLengths_3 : decode cX12_makeLengths 3 = .ok (.iconst 1, 1) := by decide +kernel
theorem dX12_makeLengths_4 : decode cX12_makeLengths 4 = .ok (.aload_n 0, 1) := by decide +kernel
theorem dX12_makeLengths_5 : decode cX12_makeLengths 5 = .ok (.getfield 199, 3) := by decide +kernel
theorem dX12_makeLengths_8 : decode cX12_makeLengths 8 = .ok (.ishl, 1) := by decide +kernel
theorem dX12_makeLengths_9 : decode cX12_makeLengths 9 = .ok (.if_icmp .ge 274, 3) := by decide +kernel
theorem dX12_makeLengths_12 : decode cX12_makeLengths 12 = .ok (.iload_n 1, 1) := by decide +kernel
theorem dX12_makeLengths_13 : decode cX12_makeLengths 13 = .ok (.invokestatic 202, 3) := by decide +kernel
theorem dX12_makeLengths_16 : decode cX12_makeLengths 16 = .ok (.istore_n 2, 1) := by decide +kernel
theorem dX12_makeLengths_17 : decode cX12_makeLengths 17 = .ok (.ldc 198, 2) := by decide +kernel
theorem dX12_makeLengths_19 : decode cX12_makeLengths 19 = .ok (.istore_n 3, 1) := by decide +kernel
theorem dX12_makeLengths_20 : decode cX12_makeLengths 20 = .ok (.ldc 198, 2) := by decide +kernel
theorem dX12_makeLengths_22 : decode cX12_makeLengths 22 = .ok (.istore 4, 2) := by decide +kernel
theorem dX12_makeLengths_24 : decode cX12_makeLengths 24 = .ok (.iconst 0, 1) := by decide +kernel
theorem dX12_makeLengths_25 : decode cX12_makeLengths 25 = .ok (.istore 5, 2) := by decide +kernel
theorem dX12_makeLengths_27 : decode cX12_makeLengths 27 = .ok (.iload 5, 2) := by decide +kernel
theorem dX12_makeLengths_29 : decode cX12_makeLengths 29 = .ok (.aload_n 0, 1) := by decide +kernel
theorem dX12_makeLengths_30 : decode cX12_makeLengths 30 = .ok (.getfield 199, 3) := by decide +kernel
theorem dX12_makeLengths_33 : decode cX12_makeLengths 33 = .ok (.if_icmp .ge 226, 3) := by decide +kernel
theorem dX12_makeLengths_36 : decode cX12_makeLengths 36 = .ok (.iload_n 1, 1) := by decide +kernel
theorem dX12_makeLengths_37 : decode cX12_makeLengths 37 = .ok (.iload 5, 2) := by decide +kernel
theorem dX12_makeLengths_39 : decode cX12_makeLengths 39 = .ok (.ishr, 1) := by decide +kernel
theorem dX12_makeLengths_40 : decode cX12_makeLengths 40 = .ok (.iconst 1, 1) := by decide +kernel
theorem dX12_makeLengths_41 : decode cX12_makeLengths 41 = .ok (.iand, 1) := by decide +kernel
theorem dX12_makeLengths_42 : decode cX12_makeLengths 42 = .ok (.ifCond .ne 6, 3) := by decide +kernel
theorem dX12_makeLengths_45 : decode cX12_makeLengths 45 = .ok (.goto 208, 3) := by decide +kernel
theorem dX12_makeLengths_48 : decode cX12_makeLengths 48 = .ok (.aload_n 0, 1) := by decide +kernel
theorem dX12_makeLengths_49 : decode cX12_makeLengths 49 = .ok (.getfield 21, 3) := by decide +kernel
theorem dX12_makeLengths_52 : decode cX12_makeLengths 52 = .ok (.aload_n 0, 1) := by decide +kernel
theorem dX12_makeLengths_53 : decode cX12_makeLengths 53 = .ok (.getfield 30, 3) := by decide +kernel
theorem dX12_makeLengths_56 : decode cX12_makeLengths 56 = .ok (.iload 5, 2) := by decide +kernel
theorem dX12_makeLengths_58 : decode cX12_makeLengths 58 = .ok (.iaload, 1) := by decide +kernel
theorem dX12_makeLengths_59 : decode cX12_makeLengths 59 = .ok (.iaload, 1) := by decide +kernel
theorem dX12_makeLengths_60 : decode cX12_makeLengths 60 = .ok (.iload 4, 2) := by decide +kernel
theorem dX12_makeLengths_62 : decode cX12_makeLengths 62 = .ok (.if_icmp .ge 18, 3) := by decide +kernel
theorem dX12_makeLengths_65 : decode cX12_makeLengths 65 = .ok (.aload_n 0, 1) := by decide +kernel
theorem dX12_makeLengths_66 : decode cX12_makeLengths 66 = .ok (.getfield 21, 3) := by decide +kernel
theorem dX12_makeLengths_69 : decode cX12_makeLengths 69 = .ok (.aload_n 0, 1) := by decide +kernel
theorem dX12_makeLengths_70 : decode cX12_makeLengths 70 = .ok (.getfield 30, 3) := by decide +kernel
theorem dX12_makeLengths_73 : decode cX12_makeLengths 73 = .ok (.iload 5, 2) := by decide +kernel
theorem dX12_makeLengths_75 : decode cX12_makeLengths 75 = .ok (.iaload, 1) := by decide +kernel
theorem dX12_makeLengths_76 : decode cX12_makeLengths 76 = .ok (.iaload, 1) := by decide +kernel
theorem dX12_makeLengths_77 : decode cX12_makeLengths 77 = .ok (.goto 5, 3) := by decide +kernel
theorem dX12_makeLengths_80 : decode cX12_makeLengths 80 = .ok (.iload 4, 2) := by decide +kernel
theorem dX12_makeLengths_82 : decode cX12_makeLengths 82 = .ok (.istore 4, 2) := by decide +kernel
theorem dX12_makeLengths_84 : decode cX12_makeLengths 84 = .ok (.iload_n 1, 1) := by decide +kernel
theorem dX12_makeLengths_85 : decode cX12_makeLengths 85 = .ok (.iconst 1, 1) := by decide +kernel
theorem dX12_makeLengths_86 : decode cX12_makeLengths 86 = .ok (.iload 5, 2) := by decide +kernel
theorem dX12_makeLengths_88 : decode cX12_makeLengths 88 = .ok (.ishl, 1) := by decide +kernel
theorem dX12_makeLengths_89 : decode cX12_makeLengths 89 = .ok (.iconst (-1), 1) := by decide +kernel
theorem dX12_makeLengths_90 : decode cX12_makeLengths 90 = .ok (.ixor, 1) := by decide +kernel
theorem dX12_makeLengths_91 : decode cX12_makeLengths 91 = .ok (.iand, 1) := by decide +kernel
theorem dX12_makeLengths_92 : decode cX12_makeLengths 92 = .ok (.istore 6, 2) := by decide +kernel
theorem dX12_makeLengths_94 : decode cX12_makeLengths 94 = .ok (.iload_n 1, 1) := by decide +kernel
theorem dX12_makeLengths_95 : decode cX12_makeLengths 95 = .ok (.iconst 1, 1) := by decide +kernel
theorem dX12_makeLengths_96 : decode cX12_makeLengths 96 = .ok (.iload 5, 2) := by decide +kernel
theorem dX12_makeLengths_98 : decode cX12_makeLengths 98 = .ok (.ishl, 1) := by decide +kernel
theorem dX12_makeLengths_99 : decode cX12_makeLengths 99 = .ok (.if_icmp .ne 7, 3) := by decide +kernel
theorem dX12_makeLengths_102 : decode cX12_makeLengths 102 = .ok (.iconst 0, 1) := by decide +kernel
theorem dX12_makeLengths_103 : decode cX12_makeLengths 103 = .ok (.goto 5, 3) := by decide +kernel
theorem dX12_makeLengths_106 : decode cX12_makeLengths 106 = .ok (.ldc 198, 2) := by decide +kernel
theorem dX12_makeLengths_108 : decode cX12_makeLengths 108 = .ok (.istore 7, 2) := by decide +kernel
theorem dX12_makeLengths_110 : decode cX12_makeLengths 110 = .ok (.iload 5, 2) := by decide +kernel
theorem dX12_makeLengths_112 : decode cX12_makeLengths 112 = .ok (.iload_n 2, 1) := by decide +kernel
theorem dX12_makeLengths_113 : decode cX12_makeLengths 113 = .ok (.if_icmp .eq 97, 3) := by decide +kernel
theorem dX12_makeLengths_116 : decode cX12_makeLengths 116 = .ok (.iconst 0, 1) := by decide +kernel
theorem dX12_makeLengths_117 : decode cX12_makeLengths 117 = .ok (.istore 8, 2) := by decide +kernel
theorem dX12_makeLengths_119 : decode cX12_makeLengths 119 = .ok (.iload 8, 2) := by decide +kernel
theorem dX12_makeLengths_121 : decode cX12_makeLengths 121 = .ok (.aload_n 0, 1) := by decide +kernel
theorem dX12_makeLengths_122 : decode cX12_makeLengths 122 = .ok (.getfield 199, 3) := by decide +kernel
theorem dX12_makeLengths_125 : decode cX12_makeLengths 125 = .ok (.if_icmp .ge 85, 3) := by decide +kernel
theorem dX12_makeLengths_128 : decode cX12_makeLengths 128 = .ok (.iload 6, 2) := by decide +kernel
theorem dX12_makeLengths_130 : decode cX12_makeLengths 130 = .ok (.iload 8, 2) := by decide +kernel
theorem dX12_makeLengths_132 : decode cX12_makeLengths 132 = .ok (.ishr, 1) := by decide +kernel
theorem dX12_makeLengths_133 : decode cX12_makeLengths 133 = .ok (.iconst 1, 1) := by decide +kernel
theorem dX12_makeLengths_134 : decode cX12_makeLengths 134 = .ok (.iand, 1) := by decide +kernel
theorem dX12_makeLengths_135 : decode cX12_makeLengths 135 = .ok (.iconst 1, 1) := by decide +kernel
theorem dX12_makeLengths_136 : decode cX12_makeLengths 136 = .ok (.if_icmp .ne 68, 3) := by decide +kernel
theorem dX12_makeLengths_139 : decode cX12_makeLengths 139 = .ok (.iload 8, 2) := by decide +kernel
theorem dX12_makeLengths_141 : decode cX12_makeLengths 141 = .ok (.iload_n 2, 1) := by decide +kernel
theorem dX12_makeLengths_142 : decode cX12_makeLengths 142 = .ok (.if_icmp .ne 11, 3) := by decide +kernel
theorem dX12_makeLengths_145 : decode cX12_makeLengths 145 = .ok (.iload 6, 2) := by decide +kernel
theorem dX12_makeLengths_147 : decode cX12_makeLengths 147 = .ok (.iconst 1, 1) := by decide +kernel
theorem dX12_makeLengths_148 : decode cX12_makeLengths 148 = .ok (.iload_n 2, 1) := by decide +kernel
theorem dX12_makeLengths_149 : decode cX12_makeLengths 149 = .ok (.ishl, 1) := by decide +kernel
theorem dX12_makeLengths_150 : decode cX12_makeLengths 150 = .ok (.if_icmp .ne 54, 3) := by decide +kernel
theorem dX12_makeLengths_153 : decode cX12_makeLengths 153 = .ok (.aload_n 0, 1) := by decide +kernel
theorem dX12_makeLengths_154 : decode cX12_makeLengths 154 = .ok (.getfield 33, 3) := by decide +kernel
theorem dX12_makeLengths_157 : decode cX12_makeLengths 157 = .ok (.bipush 10, 2) := by decide +kernel
theorem dX12_makeLengths_159 : decode cX12_makeLengths 159 = .ok (.iload 6, 2) := by decide +kernel
theorem dX12_makeLengths_161 : decode cX12_makeLengths 161 = .ok (.imul, 1) := by decide +kernel
theorem dX12_makeLengths_162 : decode cX12_makeLengths 162 = .ok (.iload 8, 2) := by decide +kernel
theorem dX12_makeLengths_164 : decode cX12_makeLengths 164 = .ok (.iadd, 1) := by decide +kernel
theorem dX12_makeLengths_165 : decode cX12_makeLengths 165 = .ok (.iaload, 1) := by decide +kernel
theorem dX12_makeLengths_166 : decode cX12_makeLengths 166 = .ok (.aload_n 0, 1) := by decide +kernel
theorem dX12_makeLengths_167 : decode cX12_makeLengths 167 = .ok (.iload 8, 2) := by decide +kernel
theorem dX12_makeLengths_169 : decode cX12_makeLengths 169 = .ok (.iload 5, 2) := by decide +kernel
theorem dX12_makeLengths_171 : decode cX12_makeLengths 171 = .ok (.invokevirtual 205, 3) := by decide +kernel
theorem dX12_makeLengths_174 : decode cX12_makeLengths 174 = .ok (.iadd, 1) := by decide +kernel
theorem dX12_makeLengths_175 : decode cX12_makeLengths 175 = .ok (.iload 7, 2) := by decide +kernel
theorem dX12_makeLengths_177 : decode cX12_makeLengths 177 = .ok (.if_icmp .ge 27, 3) := by decide +kernel
theorem dX12_makeLengths_180 : decode cX12_makeLengths 180 = .ok (.aload_n 0, 1) := by decide +kernel
theorem dX12_makeLengths_181 : decode cX12_makeLengths 181 = .ok (.getfield 33, 3) := by decide +kernel
theorem dX12_makeLengths_184 : decode cX12_makeLengths 184 = .ok (.bipush 10, 2) := by decide +kernel
theorem dX12_makeLengths_186 : decode cX12_makeLengths 186 = .ok (.iload 6, 2) := by decide +kernel
theorem dX12_makeLengths_188 : decode cX12_makeLengths 188 = .ok (.imul, 1) := by decide +kernel
theorem dX12_makeLengths_189 : decode cX12_makeLengths 189 = .ok (.iload 8, 2) := by decide +kernel
theorem dX12_makeLengths_191 : decode cX12_makeLengths 191 = .ok (.iadd, 1) := by decide +kernel
theorem dX12_makeLengths_192 : decode cX12_makeLengths 192 = .ok (.iaload, 1) := by decide +kernel
theorem dX12_makeLengths_193 : decode cX12_makeLengths 193 = .ok (.aload_n 0, 1) := by decide +kernel
theorem dX12_makeLengths_194 : decode cX12_makeLengths 194 = .ok (.iload 8, 2) := by decide +kernel
theorem dX12_makeLengths_196 : decode cX12_makeLengths 196 = .ok (.iload 5, 2) := by decide +kernel
theorem dX12_makeLengths_198 : decode cX12_makeLengths 198 = .ok (.invokevirtual 205, 3) := by decide +kernel
theorem dX12_makeLengths_201 : decode cX12_makeLengths 201 = .ok (.iadd, 1) := by decide +kernel
theorem dX12_makeLengths_202 : decode cX12_makeLengths 202 = .ok (.istore 7, 2) := by decide +kernel
theorem dX12_makeLengths_204 : decode cX12_makeLengths 204 = .ok (.iinc 8 1, 3) := by decide +kernel
theorem dX12_makeLengths_207 : decode cX12_makeLengths 207 = .ok (.goto (-88), 3) := by decide +kernel
theorem dX12_makeLengths_210 : decode cX12_makeLengths 210 = .ok (.aload_n 0, 1) := by decide +kernel
theorem dX12_makeLengths_211 : decode cX12_makeLengths 211 = .ok (.getfield 33, 3) := by decide +kernel
theorem dX12_makeLengths_214 : decode cX12_makeLengths 214 = .ok (.bipush 10, 2) := by decide +kernel
theorem dX12_makeLengths_216 : decode cX12_makeLengths 216 = .ok (.iload_n 1, 1) := by decide +kernel
theorem dX12_makeLengths_217 : decode cX12_makeLengths 217 = .ok (.imul, 1) := by decide +kernel
theorem dX12_makeLengths_218 : decode cX12_makeLengths 218 = .ok (.iload 5, 2) := by decide +kernel
theorem dX12_makeLengths_220 : decode cX12_makeLengths 220 = .ok (.iadd, 1) := by decide +kernel
theorem dX12_makeLengths_221 : decode cX12_makeLengths 221 = .ok (.iload 7, 2) := by decide +kernel
theorem dX12_makeLengths_223 : decode cX12_makeLengths 223 = .ok (.iastore, 1) := by decide +kernel
theorem dX12_makeLengths_224 : decode cX12_makeLengths 224 = .ok (.iload 7, 2) := by decide +kernel
theorem dX12_makeLengths_226 : decode cX12_makeLengths 226 = .ok (.aload_n 0, 1) := by decide +kernel
theorem dX12_makeLengths_227 : decode cX12_makeLengths 227 = .ok (.iload 5, 2) := by decide +kernel
theorem dX12_makeLengths_229 : decode cX12_makeLengths 229 = .ok (.iload_n 2, 1) := by decide +kernel
theorem dX12_makeLengths_230 : decode cX12_makeLengths 230 = .ok (.invokevirtual 205, 3) := by decide +kernel
theorem dX12_makeLengths_233 : decode cX12_makeLengths 233 = .ok (.iadd, 1) := by decide +kernel
theorem dX12_makeLengths_234 : decode cX12_makeLengths 234 = .ok (.iload_n 3, 1) := by decide +kernel
theorem dX12_makeLengths_235 : decode cX12_makeLengths 235 = .ok (.if_icmp .ge 16, 3) := by decide +kernel
theorem dX12_makeLengths_238 : decode cX12_makeLengths 238 = .ok (.iload 7, 2) := by decide +kernel
theorem dX12_makeLengths_240 : decode cX12_makeLengths 240 = .ok (.aload_n 0, 1) := by decide +kernel
theorem dX12_makeLengths_241 : decode cX12_makeLengths 241 = .ok (.iload 5, 2) := by decide +kernel
theorem dX12_makeLengths_243 : decode cX12_makeLengths 243 = .ok (.iload_n 2, 1) := by decide +kernel
theorem dX12_makeLengths_244 : decode cX12_makeLengths 244 = .ok (.invokevirtual 205, 3) := by decide +kernel
theorem dX12_makeLengths_247 : decode cX12_makeLengths 247 = .ok (.iadd, 1) := by decide +kernel
theorem dX12_makeLengths_248 : decode cX12_makeLengths 248 = .ok (.goto 4, 3) := by decide +kernel
theorem dX12_makeLengths_251 : decode cX12_makeLengths 251 = .ok (.iload_n 3, 1) := by decide +kernel
theorem dX12_makeLengths_252 : decode cX12_makeLengths 252 = .ok (.istore_n 3, 1) := by decide +kernel
theorem dX12_makeLengths_253 : decode cX12_makeLengths 253 = .ok (.iinc 5 1, 3) := by decide +kernel
theorem dX12_makeLengths_256 : decode cX12_makeLengths 256 = .ok (.goto (-229), 3) := by decide +kernel
theorem dX12_makeLengths_259 : decode cX12_makeLengths 259 = .ok (.aload_n 0, 1) := by decide +kernel
theorem dX12_makeLengths_260 : decode cX12_makeLengths 260 = .ok (.getfield 36, 3) := by decide +kernel
theorem dX12_makeLengths_263 : decode cX12_makeLengths 263 = .ok (.iload_n 1, 1) := by decide +kernel
theorem dX12_makeLengths_264 : decode cX12_makeLengths 264 = .ok (.iload_n 3, 1) := by decide +kernel
theorem dX12_makeLengths_265 : decode cX12_makeLengths 265 = .ok (.iload 4, 2) := by decide +kernel
theorem dX12_makeLengths_267 : decode cX12_makeLengths 267 = .ok (.if_icmp .le 8, 3) := by decide +kernel
theorem dX12_makeLengths_270 : decode cX12_makeLengths 270 = .ok (.ldc 198, 2) := by decide +kernel
theorem dX12_makeLengths_272 : decode cX12_makeLengths 272 = .ok (.goto 4, 3) := by decide +kernel
theorem dX12_makeLengths_275 : decode cX12_makeLengths 275 = .ok (.iload_n 3, 1) := by decide +kernel
theorem dX12_makeLengths_276 : decode cX12_makeLengths 276 = .ok (.iastore, 1) := by decide +kernel
theorem dX12_makeLengths_277 : decode cX12_makeLengths 277 = .ok (.iinc 1 1, 3) := by decide +kernel
theorem dX12_makeLengths_280 : decode cX12_makeLengths 280 = .ok (.goto (-278), 3) := by decide +kernel
theorem dX12_makeLengths_283 : decode cX12_makeLengths 283 = .ok (.return_, 1) := by decide +kernel
theorem dX12_give_0 : decode cX12_give 0 = .ok (.iload_n 2, 1) := by decide +kernel
theorem dX12_give_1 : decode cX12_give 1 = .ok (.aload_n 0, 1) := by decide +kernel
theorem dX12_give_2 : decode cX12_give 2 = .ok (.getfield 208, 3) := by decide +kernel
theorem dX12_give_5 : decode cX12_give 5 = .ok (.if_icmp .le 4, 3) := by decide +kernel
theorem dX12_give_8 : decode cX12_give 8 = .ok (.return_, 1) := by decide +kernel
theorem dX12_give_9 : decode cX12_give 9 = .ok (.iload_n 1, 1) := by decide +kernel
theorem dX12_give_10 : decode cX12_give 10 = .ok (.aload_n 0, 1) := by decide +kernel
theorem dX12_give_11 : decode cX12_give 11 = .ok (.getfield 199, 3) := by decide +kernel
theorem dX12_give_14 : decode cX12_give 14 = .ok (.if_icmp .ge 86, 3) := by decide +kernel
theorem dX12_give_17 : decode cX12_give 17 = .ok (.iconst 0, 1) := by decide +kernel
theorem dX12_give_18 : decode cX12_give 18 = .ok (.istore_n 3, 1) := by decide +kernel
theorem dX12_give_19 : decode cX12_give 19 = .ok (.iload_n 3, 1) := by decide +kernel
theorem dX12_give_20 : decode cX12_give 20 = .ok (.iload_n 2, 1) := by decide +kernel
theorem dX12_give_21 : decode cX12_give 21 = .ok (.if_icmp .gt 78, 3) := by decide +kernel
theorem dX12_give_24 : decode cX12_give 24 = .ok (.iload_n 3, 1) := by decide +kernel
theorem dX12_give_25 : decode cX12_give 25 = .ok (.bipush 10, 2) := by decide +kernel
theorem dX12_give_27 : decode cX12_give 27 = .ok (.if_icmp .ge 72, 3) := by decide +kernel
theorem dX12_give_30 : decode cX12_give 30 = .ok (.aload_n 0, 1) := by decide +kernel
theorem dX12_give_31 : decode cX12_give 31 = .ok (.getfield 39, 3) := by decide +kernel
theorem dX12_give_34 : decode cX12_give 34 = .ok (.iload_n 1, 1) := by decide +kernel
theorem dX12_give_35 : decode cX12_give 35 = .ok (.iload_n 3, 1) := by decide +kernel
theorem dX12_give_36 : decode cX12_give 36 = .ok (.iastore, 1) := by decide +kernel
theorem dX12_give_37 : decode cX12_give 37 = .ok (.iload_n 3, 1) := by decide +kernel
theorem dX12_give_38 : decode cX12_give 38 = .ok (.iload_n 2, 1) := by decide +kernel
theorem dX12_give_39 : decode cX12_give 39 = .ok (.if_icmp .ge 12, 3) := by decide +kernel
theorem dX12_give_42 : decode cX12_give 42 = .ok (.aload_n 0, 1) := by decide +kernel
theorem dX12_give_43 : decode cX12_give 43 = .ok (.getfield 45, 3) := by decide +kernel
theorem dX12_give_46 : decode cX12_give 46 = .ok (.iload_n 3, 1) := by decide +kernel
theorem dX12_give_47 : decode cX12_give 47 = .ok (.iaload, 1) := by decide +kernel
theorem dX12_give_48 : decode cX12_give 48 = .ok (.goto 4, 3) := by decide +kernel
theorem dX12_give_51 : decode cX12_give 51 = .ok (.iconst 0, 1) := by decide +kernel
theorem dX12_give_52 : decode cX12_give 52 = .ok (.istore 4, 2) := by decide +kernel
theorem dX12_give_54 : decode cX12_give 54 = .ok (.aload_n 0, 1) := by decide +kernel
theorem dX12_give_55 : decode cX12_give 55 = .ok (.getfield 45, 3) := by decide +kernel
theorem dX12_give_58 : decode cX12_give 58 = .ok (.iload_n 3, 1) := by decide +kernel
theorem dX12_give_59 : decode cX12_give 59 = .ok (.iload 4, 2) := by decide +kernel
theorem dX12_give_61 : decode cX12_give 61 = .ok (.iconst 1, 1) := by decide +kernel
theorem dX12_give_62 : decode cX12_give 62 = .ok (.iload_n 1, 1) := by decide +kernel
theorem dX12_give_63 : decode cX12_give 63 = .ok (.ishl, 1) := by decide +kernel
theorem dX12_give_64 : decode cX12_give 64 = .ok (.ior, 1) := by decide +kernel
theorem dX12_give_65 : decode cX12_give 65 = .ok (.iastore, 1) := by decide +kernel
theorem dX12_give_66 : decode cX12_give 66 = .ok (.aload_n 0, 1) := by decide +kernel
theorem dX12_give_67 : decode cX12_give 67 = .ok (.iload_n 1, 1) := by decide +kernel
theorem dX12_give_68 : decode cX12_give 68 = .ok (.iconst 1, 1) := by decide +kernel
theorem dX12_give_69 : decode cX12_give 69 = .ok (.iadd, 1) := by decide +kernel
theorem dX12_give_70 : decode cX12_give 70 = .ok (.iload_n 3, 1) := by decide +kernel
theorem dX12_give_71 : decode cX12_give 71 = .ok (.iload_n 2, 1) := by decide +kernel
theorem dX12_give_72 : decode cX12_give 72 = .ok (.if_icmp .ne 9, 3) := by decide +kernel
theorem dX12_give_75 : decode cX12_give 75 = .ok (.iload_n 2, 1) := by decide +kernel
theorem dX12_give_76 : decode cX12_give 76 = .ok (.iconst 1, 1) := by decide +kernel
theorem dX12_give_77 : decode cX12_give 77 = .ok (.iadd, 1) := by decide +kernel
theorem dX12_give_78 : decode cX12_give 78 = .ok (.goto 4, 3) := by decide +kernel
theorem dX12_give_81 : decode cX12_give 81 = .ok (.iload_n 2, 1) := by decide +kernel
theorem dX12_give_82 : decode cX12_give 82 = .ok (.invokevirtual 211, 3) := by decide +kernel
theorem dX12_give_85 : decode cX12_give 85 = .ok (.aload_n 0, 1) := by decide +kernel
theorem dX12_give_86 : decode cX12_give 86 = .ok (.getfield 45, 3) := by decide +kernel
theorem dX12_give_89 : decode cX12_give 89 = .ok (.iload_n 3, 1) := by decide +kernel
theorem dX12_give_90 : decode cX12_give 90 = .ok (.iload 4, 2) := by decide +kernel
theorem dX12_give_92 : decode cX12_give 92 = .ok (.iastore, 1) := by decide +kernel
theorem dX12_give_93 : decode cX12_give 93 = .ok (.iinc 3 1, 3) := by decide +kernel
theorem dX12_give_96 : decode cX12_give 96 = .ok (.goto (-77), 3) := by decide +kernel
theorem dX12_give_99 : decode cX12_give 99 = .ok (.return_, 1) := by decide +kernel
theorem dX12_give_100 : decode cX12_give 100 = .ok (.iconst 0, 1) := by decide +kernel
theorem dX12_give_101 : decode cX12_give 101 = .ok (.istore_n 3, 1) := by decide +kernel
theorem dX12_give_102 : decode cX12_give 102 = .ok (.iconst 0, 1) := by decide +kernel
theorem dX12_give_103 : decode cX12_give 103 = .ok (.istore 4, 2) := by decide +kernel
theorem dX12_give_105 : decode cX12_give 105 = .ok (.iload 4, 2) := by decide +kernel
theorem dX12_give_107 : decode cX12_give 107 = .ok (.iload_n 2, 1) := by decide +kernel
theorem dX12_give_108 : decode cX12_give 108 = .ok (.if_icmp .ge 42, 3) := by decide +kernel
theorem dX12_give_111 : decode cX12_give 111 = .ok (.aload_n 0, 1) := by decide +kernel
theorem dX12_give_112 : decode cX12_give 112 = .ok (.getfield 36, 3) := by decide +kernel
theorem dX12_give_115 : decode cX12_give 115 = .ok (.aload_n 0, 1) := by decide +kernel
theorem dX12_give_116 : decode cX12_give 116 = .ok (.getfield 45, 3) := by decide +kernel
theorem dX12_give_119 : decode cX12_give 119 = .ok (.iload 4, 2) := by decide +kernel
theorem dX12_give_121 : decode cX12_give 121 = .ok (.iaload, 1) := by decide +kernel
theorem dX12_give_122 : decode cX12_give 122 = .ok (.iaload, 1) := by decide +kernel
theorem dX12_give_123 : decode cX12_give 123 = .ok (.ldc 198, 2) := by decide +kernel
theorem dX12_give_125 : decode cX12_give 125 = .ok (.if_icmp .lt 4, 3) := by decide +kernel
theorem dX12_give_128 : decode cX12_give 128 = .ok (.return_, 1) := by decide +kernel
theorem dX12_give_129 : decode cX12_give 129 = .ok (.iload_n 3, 1) := by decide +kernel
theorem dX12_give_130 : decode cX12_give 130 = .ok (.aload_n 0, 1) := by decide +kernel
theorem dX12_give_131 : decode cX12_give 131 = .ok (.getfield 36, 3) := by decide +kernel
theorem dX12_give_134 : decode cX12_give 134 = .ok (.aload_n 0, 1) := by decide +kernel
theorem dX12_give_135 : decode cX12_give 135 = .ok (.getfield 45, 3) := by decide +kernel
theorem dX12_give_138 : decode cX12_give 138 = .ok (.iload 4, 2) := by decide +kernel
theorem dX12_give_140 : decode cX12_give 140 = .ok (.iaload, 1) := by decide +kernel
theorem dX12_give_141 : decode cX12_give 141 = .ok (.iaload, 1) := by decide +kernel
theorem dX12_give_142 : decode cX12_give 142 = .ok (.iadd, 1) := by decide +kernel
theorem dX12_give_143 : decode cX12_give 143 = .ok (.istore_n 3, 1) := by decide +kernel
theorem dX12_give_144 : decode cX12_give 144 = .ok (.iinc 4 1, 3) := by decide +kernel
theorem dX12_give_147 : decode cX12_give 147 = .ok (.goto (-42), 3) := by decide +kernel
theorem dX12_give_150 : decode cX12_give 150 = .ok (.iload_n 2, 1) := by decide +kernel
theorem dX12_give_151 : decode cX12_give 151 = .ok (.aload_n 0, 1) := by decide +kernel
theorem dX12_give_152 : decode cX12_give 152 = .ok (.getfield 208, 3) := by decide +kernel
theorem dX12_give_155 : decode cX12_give 155 = .ok (.if_icmp .ne 12, 3) := by decide +kernel
theorem dX12_give_158 : decode cX12_give 158 = .ok (.iload_n 3, 1) := by decide +kernel
theorem dX12_give_159 : decode cX12_give 159 = .ok (.aload_n 0, 1) := by decide +kernel
theorem dX12_give_160 : decode cX12_give 160 = .ok (.getfield 215, 3) := by decide +kernel
theorem dX12_give_163 : decode cX12_give 163 = .ok (.if_icmp .lt 4, 3) := by decide +kernel
theorem dX12_give_166 : decode cX12_give 166 = .ok (.return_, 1) := by decide +kernel
theorem dX12_give_167 : decode cX12_give 167 = .ok (.aload_n 0, 1) := by decide +kernel
theorem dX12_give_168 : decode cX12_give 168 = .ok (.iload_n 2, 1) := by decide +kernel
theorem dX12_give_169 : decode cX12_give 169 = .ok (.putfield 208, 3) := by decide +kernel
theorem dX12_give_172 : decode cX12_give 172 = .ok (.aload_n 0, 1) := by decide +kernel
theorem dX12_give_173 : decode cX12_give 173 = .ok (.iload_n 3, 1) := by decide +kernel
theorem dX12_give_174 : decode cX12_give 174 = .ok (.putfield 215, 3) := by decide +kernel
theorem dX12_give_177 : decode cX12_give 177 = .ok (.iconst 0, 1) := by decide +kernel
theorem dX12_give_178 : decode cX12_give 178 = .ok (.istore 4, 2) := by decide +kernel
theorem dX12_give_180 : decode cX12_give 180 = .ok (.iload 4, 2) := by decide +kernel
theorem dX12_give_182 : decode cX12_give 182 = .ok (.aload_n 0, 1) := by decide +kernel
theorem dX12_give_183 : decode cX12_give 183 = .ok (.getfield 199, 3) := by decide +kernel
theorem dX12_give_186 : decode cX12_give 186 = .ok (.if_icmp .ge 23, 3) := by decide +kernel
theorem dX12_give_189 : decode cX12_give 189 = .ok (.aload_n 0, 1) := by decide +kernel
theorem dX12_give_190 : decode cX12_give 190 = .ok (.getfield 42, 3) := by decide +kernel
theorem dX12_give_193 : decode cX12_give 193 = .ok (.iload 4, 2) := by decide +kernel
theorem dX12_give_195 : decode cX12_give 195 = .ok (.aload_n 0, 1) := by decide +kernel
theorem dX12_give_196 : decode cX12_give 196 = .ok (.getfield 39, 3) := by decide +kernel
theorem dX12_give_199 : decode cX12_give 199 = .ok (.iload 4, 2) := by decide +kernel
theorem dX12_give_201 : decode cX12_give 201 = .ok (.iaload, 1) := by decide +kernel
theorem dX12_give_202 : decode cX12_give 202 = .ok (.iastore, 1) := by decide +kernel
theorem dX12_give_203 : decode cX12_give 203 = .ok (.iinc 4 1, 3) := by decide +kernel
theorem dX12_give_206 : decode cX12_give 206 = .ok (.goto (-26), 3) := by decide +kernel
theorem dX12_give_209 : decode cX12_give 209 = .ok (.return_, 1) := by decide +kernel
theorem dX12_rounds_0 : decode cX12_rounds 0 = .ok (.iload_n 1, 1) := by decide +kernel
theorem dX12_rounds_1 : decode cX12_rounds 1 = .ok (.iconst 1, 1) := by decide +kernel
theorem dX12_rounds_2 : decode cX12_rounds 2 = .ok (.sipush 4095, 3) := by decide +kernel
theorem dX12_rounds_5 : decode cX12_rounds 5 = .ok (.invokestatic 188, 3) := by decide +kernel
theorem dX12_rounds_8 : decode cX12_rounds 8 = .ok (.ifCond .ne 6, 3) := by decide +kernel
theorem dX12_rounds_11 : decode cX12_rounds 11 = .ok (.bipush (-2), 2) := by decide +kernel
theorem dX12_rounds_13 : decode cX12_rounds 13 = .ok (.ireturn, 1) := by decide +kernel
theorem dX12_rounds_14 : decode cX12_rounds 14 = .ok (.iconst 0, 1) := by decide +kernel
theorem dX12_rounds_15 : decode cX12_rounds 15 = .ok (.istore_n 2, 1) := by decide +kernel
theorem dX12_rounds_16 : decode cX12_rounds 16 = .ok (.iconst 0, 1) := by decide +kernel
theorem dX12_rounds_17 : decode cX12_rounds 17 = .ok (.istore_n 3, 1) := by decide +kernel
theorem dX12_rounds_18 : decode cX12_rounds 18 = .ok (.iload_n 3, 1) := by decide +kernel
theorem dX12_rounds_19 : decode cX12_rounds 19 = .ok (.bipush 12, 2) := by decide +kernel
theorem dX12_rounds_21 : decode cX12_rounds 21 = .ok (.if_icmp .ge 17, 3) := by decide +kernel
theorem dX12_rounds_24 : decode cX12_rounds 24 = .ok (.iload_n 2, 1) := by decide +kernel
theorem dX12_rounds_25 : decode cX12_rounds 25 = .ok (.iload_n 1, 1) := by decide +kernel
theorem dX12_rounds_26 : decode cX12_rounds 26 = .ok (.iload_n 3, 1) := by decide +kernel
theorem dX12_rounds_27 : decode cX12_rounds 27 = .ok (.ishr, 1) := by decide +kernel
theorem dX12_rounds_28 : decode cX12_rounds 28 = .ok (.iconst 1, 1) := by decide +kernel
theorem dX12_rounds_29 : decode cX12_rounds 29 = .ok (.iand, 1) := by decide +kernel
theorem dX12_rounds_30 : decode cX12_rounds 30 = .ok (.iadd, 1) := by decide +kernel
theorem dX12_rounds_31 : decode cX12_rounds 31 = .ok (.istore_n 2, 1) := by decide +kernel
theorem dX12_rounds_32 : decode cX12_rounds 32 = .ok (.iinc 3 1, 3) := by decide +kernel
theorem dX12_rounds_35 : decode cX12_rounds 35 = .ok (.goto (-17), 3) := by decide +kernel
theorem dX12_rounds_38 : decode cX12_rounds 38 = .ok (.iload_n 2, 1) := by decide +kernel
theorem dX12_rounds_39 : decode cX12_rounds 39 = .ok (.bipush 10, 2) := by decide +kernel
theorem dX12_rounds_41 : decode cX12_rounds 41 = .ok (.if_icmp .le 6, 3) := by decide +kernel
theorem dX12_rounds_44 : decode cX12_rounds 44 = .ok (.bipush (-3), 2) := by decide +kernel
theorem dX12_rounds_46 : decode cX12_rounds 46 = .ok (.ireturn, 1) := by decide +kernel
theorem dX12_rounds_47 : decode cX12_rounds 47 = .ok (.aload_n 0, 1) := by decide +kernel
theorem dX12_rounds_48 : decode cX12_rounds 48 = .ok (.iconst 0, 1) := by decide +kernel
theorem dX12_rounds_49 : decode cX12_rounds 49 = .ok (.putfield 199, 3) := by decide +kernel
theorem dX12_rounds_52 : decode cX12_rounds 52 = .ok (.iconst 0, 1) := by decide +kernel
theorem dX12_rounds_53 : decode cX12_rounds 53 = .ok (.istore_n 3, 1) := by decide +kernel
theorem dX12_rounds_54 : decode cX12_rounds 54 = .ok (.iload_n 3, 1) := by decide +kernel
theorem dX12_rounds_55 : decode cX12_rounds 55 = .ok (.bipush 12, 2) := by decide +kernel
theorem dX12_rounds_57 : decode cX12_rounds 57 = .ok (.if_icmp .ge 47, 3) := by decide +kernel
theorem dX12_rounds_60 : decode cX12_rounds 60 = .ok (.aload_n 0, 1) := by decide +kernel
theorem dX12_rounds_61 : decode cX12_rounds 61 = .ok (.getfield 48, 3) := by decide +kernel
theorem dX12_rounds_64 : decode cX12_rounds 64 = .ok (.iload_n 3, 1) := by decide +kernel
theorem dX12_rounds_65 : decode cX12_rounds 65 = .ok (.iconst (-1), 1) := by decide +kernel
theorem dX12_rounds_66 : decode cX12_rounds 66 = .ok (.iastore, 1) := by decide +kernel
theorem dX12_rounds_67 : decode cX12_rounds 67 = .ok (.iload_n 1, 1) := by decide +kernel
theorem dX12_rounds_68 : decode cX12_rounds 68 = .ok (.iload_n 3, 1) := by decide +kernel
theorem dX12_rounds_69 : decode cX12_rounds 69 = .ok (.ishr, 1) := by decide +kernel
theorem dX12_rounds_70 : decode cX12_rounds 70 = .ok (.iconst 1, 1) := by decide +kernel
theorem dX12_rounds_71 : decode cX12_rounds 71 = .ok (.iand, 1) := by decide +kernel
theorem dX12_rounds_72 : decode cX12_rounds 72 = .ok (.ifCond .ne 6, 3) := by decide +kernel
theorem dX12_rounds_75 : decode cX12_rounds 75 = .ok (.goto 23, 3) := by decide +kernel
theorem dX12_rounds_78 : decode cX12_rounds 78 = .ok (.aload_n 0, 1) := by decide +kernel
theorem dX12_rounds_79 : decode cX12_rounds 79 = .ok (.getfield 30, 3) := by decide +kernel
theorem dX12_rounds_82 : decode cX12_rounds 82 = .ok (.aload_n 0, 1) := by decide +kernel
theorem dX12_rounds_83 : decode cX12_rounds 83 = .ok (.getfield 199, 3) := by decide +kernel
theorem dX12_rounds_86 : decode cX12_rounds 86 = .ok (.iload_n 3, 1) := by decide +kernel
theorem dX12_rounds_87 : decode cX12_rounds 87 = .ok (.iastore, 1) := by decide +kernel
theorem dX12_rounds_88 : decode cX12_rounds 88 = .ok (.aload_n 0, 1) := by decide +kernel
theorem dX12_rounds_89 : decode cX12_rounds 89 = .ok (.dup, 1) := by decide +kernel
theorem dX12_rounds_90 : decode cX12_rounds 90 = .ok (.getfield 199, 3) := by decide +kernel
theorem dX12_rounds_93 : decode cX12_rounds 93 = .ok (.iconst 1, 1) := by decide +kernel
theorem dX12_rounds_94 : decode cX12_rounds 94 = .ok (.iadd, 1) := by decide +kernel
theorem dX12_rounds_95 : decode cX12_rounds 95 = .ok (.putfield 199, 3) := by decide +kernel
theorem dX12_rounds_98 : decode cX12_rounds 98 = .ok (.iinc 3 1, 3) := by decide +kernel
theorem dX12_rounds_101 : decode cX12_rounds 101 = .ok (.goto (-47), 3) := by decide +kernel
theorem dX12_rounds_104 : decode cX12_rounds 104 = .ok (.aload_n 0, 1) := by decide +kernel
theorem dX12_rounds_105 : decode cX12_rounds 105 = .ok (.invokevirtual 218, 3) := by decide +kernel
theorem dX12_rounds_108 : decode cX12_rounds 108 = .ok (.aload_n 0, 1) := by decide +kernel
theorem dX12_rounds_109 : decode cX12_rounds 109 = .ok (.bipush 11, 2) := by decide +kernel
theorem dX12_rounds_111 : decode cX12_rounds 111 = .ok (.putfield 208, 3) := by decide +kernel
theorem dX12_rounds_114 : decode cX12_rounds 114 = .ok (.aload_n 0, 1) := by decide +kernel
theorem dX12_rounds_115 : decode cX12_rounds 115 = .ok (.iconst 0, 1) := by decide +kernel
theorem dX12_rounds_116 : decode cX12_rounds 116 = .ok (.putfield 215, 3) := by decide +kernel
theorem dX12_rounds_119 : decode cX12_rounds 119 = .ok (.aload_n 0, 1) := by decide +kernel
theorem dX12_rounds_120 : decode cX12_rounds 120 = .ok (.iconst 0, 1) := by decide +kernel
theorem dX12_rounds_121 : decode cX12_rounds 121 = .ok (.iconst 0, 1) := by decide +kernel
theorem dX12_rounds_122 : decode cX12_rounds 122 = .ok (.invokevirtual 211, 3) := by decide +kernel
theorem dX12_rounds_125 : decode cX12_rounds 125 = .ok (.aload_n 0, 1) := by decide +kernel
theorem dX12_rounds_126 : decode cX12_rounds 126 = .ok (.aload_n 0, 1) := by decide +kernel
theorem dX12_rounds_127 : decode cX12_rounds 127 = .ok (.getfield 208, 3) := by decide +kernel
theorem dX12_rounds_130 : decode cX12_rounds 130 = .ok (.putfield 221, 3) := by decide +kernel
theorem dX12_rounds_133 : decode cX12_rounds 133 = .ok (.aload_n 0, 1) := by decide +kernel
theorem dX12_rounds_134 : decode cX12_rounds 134 = .ok (.aload_n 0, 1) := by decide +kernel
theorem dX12_rounds_135 : decode cX12_rounds 135 = .ok (.getfield 215, 3) := by decide +kernel
theorem dX12_rounds_138 : decode cX12_rounds 138 = .ok (.putfield 224, 3) := by decide +kernel
theorem dX12_rounds_141 : decode cX12_rounds 141 = .ok (.iconst 0, 1) := by decide +kernel
theorem dX12_rounds_142 : decode cX12_rounds 142 = .ok (.istore_n 3, 1) := by decide +kernel
theorem dX12_rounds_143 : decode cX12_rounds 143 = .ok (.iload_n 3, 1) := by decide +kernel
theorem dX12_rounds_144 : decode cX12_rounds 144 = .ok (.aload_n 0, 1) := by decide +kernel
theorem dX12_rounds_145 : decode cX12_rounds 145 = .ok (.getfield 221, 3) := by decide +kernel
theorem dX12_rounds_148 : decode cX12_rounds 148 = .ok (.if_icmp .ge 104, 3) := by decide +kernel
theorem dX12_rounds_151 : decode cX12_rounds 151 = .ok (.iconst 0, 1) := by decide +kernel
theorem dX12_rounds_152 : decode cX12_rounds 152 = .ok (.istore 4, 2) := by decide +kernel
theorem dX12_rounds_154 : decode cX12_rounds 154 = .ok (.aload_n 0, 1) := by decide +kernel
theorem dX12_rounds_155 : decode cX12_rounds 155 = .ok (.getfield 54, 3) := by decide +kernel
theorem dX12_rounds_158 : decode cX12_rounds 158 = .ok (.iload_n 3, 1) := by decide +kernel
theorem dX12_rounds_159 : decode cX12_rounds 159 = .ok (.iconst 0, 1) := by decide +kernel
theorem dX12_rounds_160 : decode cX12_rounds 160 = .ok (.iastore, 1) := by decide +kernel
theorem dX12_rounds_161 : decode cX12_rounds 161 = .ok (.iconst 0, 1) := by decide +kernel
theorem dX12_rounds_162 : decode cX12_rounds 162 = .ok (.istore 5, 2) := by decide +kernel
theorem dX12_rounds_164 : decode cX12_rounds 164 = .ok (.iload 5, 2) := by decide +kernel
theorem dX12_rounds_166 : decode cX12_rounds 166 = .ok (.aload_n 0, 1) := by decide +kernel
theorem dX12_rounds_167 : decode cX12_rounds 167 = .ok (.getfield 199, 3) := by decide +kernel
theorem dX12_rounds_170 : decode cX12_rounds 170 = .ok (.if_icmp .ge 63, 3) := by decide +kernel
theorem dX12_rounds_173 : decode cX12_rounds 173 = .ok (.aload_n 0, 1) := by decide +kernel
theorem dX12_rounds_174 : decode cX12_rounds 174 = .ok (.getfield 42, 3) := by decide +kernel
theorem dX12_rounds_177 : decode cX12_rounds 177 = .ok (.iload 5, 2) := by decide +kernel
theorem dX12_rounds_179 : decode cX12_rounds 179 = .ok (.iaload, 1) := by decide +kernel
theorem dX12_rounds_180 : decode cX12_rounds 180 = .ok (.iload_n 3, 1) := by decide +kernel
theorem dX12_rounds_181 : decode cX12_rounds 181 = .ok (.if_icmp .eq 6, 3) := by decide +kernel
theorem dX12_rounds_184 : decode cX12_rounds 184 = .ok (.goto 43, 3) := by decide +kernel
theorem dX12_rounds_187 : decode cX12_rounds 187 = .ok (.aload_n 0, 1) := by decide +kernel
theorem dX12_rounds_188 : decode cX12_rounds 188 = .ok (.getfield 48, 3) := by decide +kernel
theorem dX12_rounds_191 : decode cX12_rounds 191 = .ok (.aload_n 0, 1) := by decide +kernel
theorem dX12_rounds_192 : decode cX12_rounds 192 = .ok (.getfield 30, 3) := by decide +kernel
theorem dX12_rounds_195 : decode cX12_rounds 195 = .ok (.iload 5, 2) := by decide +kernel
theorem dX12_rounds_197 : decode cX12_rounds 197 = .ok (.iaload, 1) := by decide +kernel
theorem dX12_rounds_198 : decode cX12_rounds 198 = .ok (.iload_n 3, 1) := by decide +kernel
theorem dX12_rounds_199 : decode cX12_rounds 199 = .ok (.iastore, 1) := by decide +kernel
theorem dX12_rounds_200 : decode cX12_rounds 200 = .ok (.iload 4, 2) := by decide +kernel
theorem dX12_rounds_202 : decode cX12_rounds 202 = .ok (.iconst 1, 1) := by decide +kernel
theorem dX12_rounds_203 : decode cX12_rounds 203 = .ok (.iload 5, 2) := by decide +kernel
theorem dX12_rounds_205 : decode cX12_rounds 205 = .ok (.ishl, 1) := by decide +kernel
theorem dX12_rounds_206 : decode cX12_rounds 206 = .ok (.ior, 1) := by decide +kernel
theorem dX12_rounds_207 : decode cX12_rounds 207 = .ok (.istore 4, 2) := by decide +kernel
theorem dX12_rounds_209 : decode cX12_rounds 209 = .ok (.aload_n 0, 1) := by decide +kernel
theorem dX12_rounds_210 : decode cX12_rounds 210 = .ok (.getfield 54, 3) := by decide +kernel
theorem dX12_rounds_213 : decode cX12_rounds 213 = .ok (.iload_n 3, 1) := by decide +kernel
theorem dX12_rounds_214 : decode cX12_rounds 214 = .ok (.dup2, 1) := by decide +kernel
theorem dX12_rounds_215 : decode cX12_rounds 215 = .ok (.iaload, 1) := by decide +kernel
theorem dX12_rounds_216 : decode cX12_rounds 216 = .ok (.iconst 1, 1) := by decide +kernel
theorem dX12_rounds_217 : decode cX12_rounds 217 = .ok (.aload_n 0, 1) := by decide +kernel
theorem dX12_rounds_218 : decode cX12_rounds 218 = .ok (.getfield 30, 3) := by decide +kernel
theorem dX12_rounds_221 : decode cX12_rounds 221 = .ok (.iload 5, 2) := by decide +kernel
theorem dX12_rounds_223 : decode cX12_rounds 223 = .ok (.iaload, 1) := by decide +kernel
theorem dX12_rounds_224 : decode cX12_rounds 224 = .ok (.ishl, 1) := by decide +kernel
theorem dX12_rounds_225 : decode cX12_rounds 225 = .ok (.ior, 1) := by decide +kernel
theorem dX12_rounds_226 : decode cX12_rounds 226 = .ok (.iastore, 1) := by decide +kernel
theorem dX12_rounds_227 : decode cX12_rounds 227 = .ok (.iinc 5 1, 3) := by decide +kernel
theorem dX12_rounds_230 : decode cX12_rounds 230 = .ok (.goto (-66), 3) := by decide +kernel
theorem dX12_rounds_233 : decode cX12_rounds 233 = .ok (.aload_n 0, 1) := by decide +kernel
theorem dX12_rounds_234 : decode cX12_rounds 234 = .ok (.getfield 51, 3) := by decide +kernel
theorem dX12_rounds_237 : decode cX12_rounds 237 = .ok (.iload_n 3, 1) := by decide +kernel
theorem dX12_rounds_238 : decode cX12_rounds 238 = .ok (.aload_n 0, 1) := by decide +kernel
theorem dX12_rounds_239 : decode cX12_rounds 239 = .ok (.getfield 36, 3) := by decide +kernel
theorem dX12_rounds_242 : decode cX12_rounds 242 = .ok (.iload 4, 2) := by decide +kernel
theorem dX12_rounds_244 : decode cX12_rounds 244 = .ok (.iaload, 1) := by decide +kernel
theorem dX12_rounds_245 : decode cX12_rounds 245 = .ok (.iastore, 1) := by decide +kernel
theorem dX12_rounds_246 : decode cX12_rounds 246 = .ok (.iinc 3 1, 3) := by decide +kernel
theorem dX12_rounds_249 : decode cX12_rounds 249 = .ok (.goto (-106), 3) := by decide +kernel
theorem dX12_rounds_252 : decode cX12_rounds 252 = .ok (.aload_n 0, 1) := by decide +kernel
theorem dX12_rounds_253 : decode cX12_rounds 253 = .ok (.iconst 1, 1) := by decide +kernel
theorem dX12_rounds_254 : decode cX12_rounds 254 = .ok (.putfield 227, 3) := by decide +kernel
theorem dX12_rounds_257 : decode cX12_rounds 257 = .ok (.aload_n 0, 1) := by decide +kernel
theorem dX12_rounds_258 : decode cX12_rounds 258 = .ok (.getfield 221, 3) := by decide +kernel
theorem dX12_rounds_261 : decode cX12_rounds 261 = .ok (.ireturn, 1) := by decide +kernel
theorem dX12_round_0 : decode cX12_round 0 = .ok (.aload_n 0, 1) := by decide +kernel
theorem dX12_round_1 : decode cX12_round 1 = .ok (.getfield 227, 3) := by decide +kernel
theorem dX12_round_4 : decode cX12_round 4 = .ok (.ifCond .ne 6, 3) := by decide +kernel
theorem dX12_round_7 : decode cX12_round 7 = .ok (.bipush (-9), 2) := by decide +kernel
theorem dX12_round_9 : decode cX12_round 9 = .ok (.ireturn, 1) := by decide +kernel
theorem dX12_round_10 : decode cX12_round 10 = .ok (.iload_n 1, 1) := by decide +kernel
theorem dX12_round_11 : decode cX12_round 11 = .ok (.ifCond .ne 8, 3) := by decide +kernel
theorem dX12_round_14 : decode cX12_round 14 = .ok (.aload_n 0, 1) := by decide +kernel
theorem dX12_round_15 : decode cX12_round 15 = .ok (.getfield 224, 3) := by decide +kernel
theorem dX12_round_18 : decode cX12_round 18 = .ok (.ireturn, 1) := by decide +kernel
theorem dX12_round_19 : decode cX12_round 19 = .ok (.iload_n 1, 1) := by decide +kernel
theorem dX12_round_20 : decode cX12_round 20 = .ok (.bipush 10, 2) := by decide +kernel
theorem dX12_round_22 : decode cX12_round 22 = .ok (.bipush 21, 2) := by decide +kernel
theorem dX12_round_24 : decode cX12_round 24 = .ok (.invokestatic 188, 3) := by decide +kernel
theorem dX12_round_27 : decode cX12_round 27 = .ok (.ifCond .eq 13, 3) := by decide +kernel
theorem dX12_round_30 : decode cX12_round 30 = .ok (.aload_n 0, 1) := by decide +kernel
theorem dX12_round_31 : decode cX12_round 31 = .ok (.getfield 48, 3) := by decide +kernel
theorem dX12_round_34 : decode cX12_round 34 = .ok (.iload_n 1, 1) := by decide +kernel
theorem dX12_round_35 : decode cX12_round 35 = .ok (.bipush 10, 2) := by decide +kernel
theorem dX12_round_37 : decode cX12_round 37 = .ok (.isub, 1) := by decide +kernel
theorem dX12_round_38 : decode cX12_round 38 = .ok (.iaload, 1) := by decide +kernel
theorem dX12_round_39 : decode cX12_round 39 = .ok (.ireturn, 1) := by decide +kernel
theorem dX12_round_40 : decode cX12_round 40 = .ok (.iload_n 1, 1) := by decide +kernel
theorem dX12_round_41 : decode cX12_round 41 = .ok (.bipush 30, 2) := by decide +kernel
theorem dX12_round_43 : decode cX12_round 43 = .ok (.bipush 29, 2) := by decide +kernel
theorem dX12_round_45 : decode cX12_round 45 = .ok (.aload_n 0, 1) := by decide +kernel
theorem dX12_round_46 : decode cX12_round 46 = .ok (.getfield 221, 3) := by decide +kernel
theorem dX12_round_49 : decode cX12_round 49 = .ok (.iadd, 1) := by decide +kernel
theorem dX12_round_50 : decode cX12_round 50 = .ok (.invokestatic 188, 3) := by decide +kernel
theorem dX12_round_53 : decode cX12_round 53 = .ok (.ifCond .eq 13, 3) := by decide +kernel
theorem dX12_round_56 : decode cX12_round 56 = .ok (.aload_n 0, 1) := by decide +kernel
theorem dX12_round_57 : decode cX12_round 57 = .ok (.getfield 51, 3) := by decide +kernel
theorem dX12_round_60 : decode cX12_round 60 = .ok (.iload_n 1, 1) := by decide +kernel
theorem dX12_round_61 : decode cX12_round 61 = .ok (.bipush 30, 2) := by decide +kernel
theorem dX12_round_63 : decode cX12_round 63 = .ok (.isub, 1) := by decide +kernel
theorem dX12_round_64 : decode cX12_round 64 = .ok (.iaload, 1) := by decide +kernel
theorem dX12_round_65 : decode cX12_round 65 = .ok (.ireturn, 1) := by decide +kernel
theorem dX12_round_66 : decode cX12_round 66 = .ok (.iload_n 1, 1) := by decide +kernel
theorem dX12_round_67 : decode cX12_round 67 = .ok (.bipush 50, 2) := by decide +kernel
theorem dX12_round_69 : decode cX12_round 69 = .ok (.bipush 49, 2) := by decide +kernel
theorem dX12_round_71 : decode cX12_round 71 = .ok (.aload_n 0, 1) := by decide +kernel
theorem dX12_round_72 : decode cX12_round 72 = .ok (.getfield 221, 3) := by decide +kernel
theorem dX12_round_75 : decode cX12_round 75 = .ok (.iadd, 1) := by decide +kernel
theorem dX12_round_76 : decode cX12_round 76 = .ok (.invokestatic 188, 3) := by decide +kernel
theorem dX12_round_79 : decode cX12_round 79 = .ok (.ifCond .eq 15, 3) := by decide +kernel
theorem dX12_round_82 : decode cX12_round 82 = .ok (.aload_n 0, 1) := by decide +kernel
theorem dX12_round_83 : decode cX12_round 83 = .ok (.getfield 54, 3) := by decide +kernel
theorem dX12_round_86 : decode cX12_round 86 = .ok (.iload_n 1, 1) := by decide +kernel
theorem dX12_round_87 : decode cX12_round 87 = .ok (.bipush 50, 2) := by decide +kernel
theorem dX12_round_89 : decode cX12_round 89 = .ok (.isub, 1) := by decide +kernel
theorem dX12_round_90 : decode cX12_round 90 = .ok (.iaload, 1) := by decide +kernel
theorem dX12_round_91 : decode cX12_round 91 = .ok (.goto 5, 3) := by decide +kernel
theorem dX12_round_94 : decode cX12_round 94 = .ok (.bipush (-9), 2) := by decide +kernel
theorem dX12_round_96 : decode cX12_round 96 = .ok (.ireturn, 1) := by decide +kernel
theorem dX12_cry_0 : decode cX12_cry 0 = .ok (.iload_n 1, 1) := by decide +kernel
theorem dX12_cry_1 : decode cX12_cry 1 = .ok (.invokestatic 192, 3) := by decide +kernel
theorem dX12_cry_4 : decode cX12_cry 4 = .ok (.ifCond .eq 14, 3) := by decide +kernel
theorem dX12_cry_7 : decode cX12_cry 7 = .ok (.iload_n 2, 1) := by decide +kernel
theorem dX12_cry_8 : decode cX12_cry 8 = .ok (.iconst 0, 1) := by decide +kernel
theorem dX12_cry_9 : decode cX12_cry 9 = .ok (.sipush 999, 3) := by decide +kernel
theorem dX12_cry_12 : decode cX12_cry 12 = .ok (.invokestatic 188, 3) := by decide +kernel
theorem dX12_cry_15 : decode cX12_cry 15 = .ok (.ifCond .ne 6, 3) := by decide +kernel
theorem dX12_cry_18 : decode cX12_cry 18 = .ok (.bipush (-2), 2) := by decide +kernel
theorem dX12_cry_20 : decode cX12_cry 20 = .ok (.ireturn, 1) := by decide +kernel
theorem dX12_cry_21 : decode cX12_cry 21 = .ok (.iconst 0, 1) := by decide +kernel
theorem dX12_cry_22 : decode cX12_cry 22 = .ok (.istore_n 3, 1) := by decide +kernel
theorem dX12_cry_23 : decode cX12_cry 23 = .ok (.iconst 0, 1) := by decide +kernel
theorem dX12_cry_24 : decode cX12_cry 24 = .ok (.istore 4, 2) := by decide +kernel
theorem dX12_cry_26 : decode cX12_cry 26 = .ok (.iload 4, 2) := by decide +kernel
theorem dX12_cry_28 : decode cX12_cry 28 = .ok (.bipush 12, 2) := by decide +kernel
theorem dX12_cry_30 : decode cX12_cry 30 = .ok (.if_icmp .ge 32, 3) := by decide +kernel
theorem dX12_cry_33 : decode cX12_cry 33 = .ok (.aload_n 0, 1) := by decide +kernel
theorem dX12_cry_34 : decode cX12_cry 34 = .ok (.getfield 27, 3) := by decide +kernel
theorem dX12_cry_37 : decode cX12_cry 37 = .ok (.bipush 12, 2) := by decide +kernel
theorem dX12_cry_39 : decode cX12_cry 39 = .ok (.iload_n 1, 1) := by decide +kernel
theorem dX12_cry_40 : decode cX12_cry 40 = .ok (.imul, 1) := by decide +kernel
theorem dX12_cry_41 : decode cX12_cry 41 = .ok (.iload 4, 2) := by decide +kernel
theorem dX12_cry_43 : decode cX12_cry 43 = .ok (.iadd, 1) := by decide +kernel
theorem dX12_cry_44 : decode cX12_cry 44 = .ok (.iaload, 1) := by decide +kernel
theorem dX12_cry_45 : decode cX12_cry 45 = .ok (.iload_n 2, 1) := by decide +kernel
theorem dX12_cry_46 : decode cX12_cry 46 = .ok (.if_icmp .gt 10, 3) := by decide +kernel
theorem dX12_cry_49 : decode cX12_cry 49 = .ok (.iload_n 3, 1) := by decide +kernel
theorem dX12_cry_50 : decode cX12_cry 50 = .ok (.iconst 1, 1) := by decide +kernel
theorem dX12_cry_51 : decode cX12_cry 51 = .ok (.iload 4, 2) := by decide +kernel
theorem dX12_cry_53 : decode cX12_cry 53 = .ok (.ishl, 1) := by decide +kernel
theorem dX12_cry_54 : decode cX12_cry 54 = .ok (.ior, 1) := by decide +kernel
theorem dX12_cry_55 : decode cX12_cry 55 = .ok (.istore_n 3, 1) := by decide +kernel
theorem dX12_cry_56 : decode cX12_cry 56 = .ok (.iinc 4 1, 3) := by decide +kernel
theorem dX12_cry_59 : decode cX12_cry 59 = .ok (.goto (-33), 3) := by decide +kernel
theorem dX12_cry_62 : decode cX12_cry 62 = .ok (.iload_n 3, 1) := by decide +kernel
theorem dX12_cry_63 : decode cX12_cry 63 = .ok (.ireturn, 1) := by decide +kernel
theorem dX12_plain_0 : decode cX12_plain 0 = .ok (.iload_n 0, 1) := by decide +kernel
theorem dX12_plain_1 : decode cX12_plain 1 = .ok (.ifCond .ne 8, 3) := by decide +kernel
theorem dX12_plain_4 : decode cX12_plain 4 = .ok (.bipush 21, 2) := by decide +kernel
theorem dX12_plain_6 : decode cX12_plain 6 = .ok (.goto 58, 3) := by decide +kernel
theorem dX12_plain_9 : decode cX12_plain 9 = .ok (.iload_n 0, 1) := by decide +kernel
theorem dX12_plain_10 : decode cX12_plain 10 = .ok (.iconst 1, 1) := by decide +kernel
theorem dX12_plain_11 : decode cX12_plain 11 = .ok (.if_icmp .ne 8, 3) := by decide +kernel
theorem dX12_plain_14 : decode cX12_plain 14 = .ok (.bipush 60, 2) := by decide +kernel
theorem dX12_plain_16 : decode cX12_plain 16 = .ok (.goto 48, 3) := by decide +kernel
theorem dX12_plain_19 : decode cX12_plain 19 = .ok (.iload_n 0, 1) := by decide +kernel
theorem dX12_plain_20 : decode cX12_plain 20 = .ok (.iconst 2, 1) := by decide +kernel
theorem dX12_plain_21 : decode cX12_plain 21 = .ok (.if_icmp .ne 8, 3) := by decide +kernel
theorem dX12_plain_24 : decode cX12_plain 24 = .ok (.bipush 7, 2) := by decide +kernel
theorem dX12_plain_26 : decode cX12_plain 26 = .ok (.goto 38, 3) := by decide +kernel
theorem dX12_plain_29 : decode cX12_plain 29 = .ok (.iload_n 0, 1) := by decide +kernel
theorem dX12_plain_30 : decode cX12_plain 30 = .ok (.iconst 3, 1) := by decide +kernel
theorem dX12_plain_31 : decode cX12_plain 31 = .ok (.if_icmp .ne 8, 3) := by decide +kernel
theorem dX12_plain_34 : decode cX12_plain 34 = .ok (.bipush 100, 2) := by decide +kernel
theorem dX12_plain_36 : decode cX12_plain 36 = .ok (.goto 28, 3) := by decide +kernel
theorem dX12_plain_39 : decode cX12_plain 39 = .ok (.iload_n 0, 1) := by decide +kernel
theorem dX12_plain_40 : decode cX12_plain 40 = .ok (.iconst 4, 1) := by decide +kernel
theorem dX12_plain_41 : decode cX12_plain 41 = .ok (.if_icmp .eq 8, 3) := by decide +kernel
theorem dX12_plain_44 : decode cX12_plain 44 = .ok (.iload_n 0, 1) := by decide +kernel
theorem dX12_plain_45 : decode cX12_plain 45 = .ok (.iconst 5, 1) := by decide +kernel
theorem dX12_plain_46 : decode cX12_plain 46 = .ok (.if_icmp .ne 7, 3) := by decide +kernel
theorem dX12_plain_49 : decode cX12_plain 49 = .ok (.iconst (-1), 1) := by decide +kernel
theorem dX12_plain_50 : decode cX12_plain 50 = .ok (.goto 14, 3) := by decide +kernel
theorem dX12_plain_53 : decode cX12_plain 53 = .ok (.iload_n 0, 1) := by decide +kernel
theorem dX12_plain_54 : decode cX12_plain 54 = .ok (.bipush 6, 2) := by decide +kernel
theorem dX12_plain_56 : decode cX12_plain 56 = .ok (.if_icmp .ne 7, 3) := by decide +kernel
theorem dX12_plain_59 : decode cX12_plain 59 = .ok (.iconst 0, 1) := by decide +kernel
theorem dX12_plain_60 : decode cX12_plain 60 = .ok (.goto 4, 3) := by decide +kernel
theorem dX12_plain_63 : decode cX12_plain 63 = .ok (.iconst 4, 1) := by decide +kernel
theorem dX12_plain_64 : decode cX12_plain 64 = .ok (.ireturn, 1) := by decide +kernel
theorem dX12_number_0 : decode cX12_number 0 = .ok (.aload_n 0, 1) := by decide +kernel
theorem dX12_number_1 : decode cX12_number 1 = .ok (.getfield 165, 3) := by decide +kernel
theorem dX12_number_4 : decode cX12_number 4 = .ok (.iconst 2, 1) := by decide +kernel
theorem dX12_number_5 : decode cX12_number 5 = .ok (.if_icmp .eq 9, 3) := by decide +kernel
theorem dX12_number_8 : decode cX12_number 8 = .ok (.aload_n 0, 1) := by decide +kernel
theorem dX12_number_9 : decode cX12_number 9 = .ok (.iconst 1, 1) := by decide +kernel
theorem dX12_number_10 : decode cX12_number 10 = .ok (.invokevirtual 231, 3) := by decide +kernel
theorem dX12_number_13 : decode cX12_number 13 = .ok (.ireturn, 1) := by decide +kernel
theorem dX12_number_14 : decode cX12_number 14 = .ok (.aload_n 0, 1) := by decide +kernel
theorem dX12_number_15 : decode cX12_number 15 = .ok (.getfield 182, 3) := by decide +kernel
theorem dX12_number_18 : decode cX12_number 18 = .ok (.iload_n 2, 1) := by decide +kernel
theorem dX12_number_19 : decode cX12_number 19 = .ok (.iload_n 3, 1) := by decide +kernel
theorem dX12_number_20 : decode cX12_number 20 = .ok (.invokestatic 188, 3) := by decide +kernel
theorem dX12_number_23 : decode cX12_number 23 = .ok (.ifCond .ne 9, 3) := by decide +kernel
theorem dX12_number_26 : decode cX12_number 26 = .ok (.aload_n 0, 1) := by decide +kernel
theorem dX12_number_27 : decode cX12_number 27 = .ok (.iconst 2, 1) := by decide +kernel
theorem dX12_number_28 : decode cX12_number 28 = .ok (.invokevirtual 231, 3) := by decide +kernel
theorem dX12_number_31 : decode cX12_number 31 = .ok (.ireturn, 1) := by decide +kernel
theorem dX12_number_32 : decode cX12_number 32 = .ok (.aload_n 0, 1) := by decide +kernel
theorem dX12_number_33 : decode cX12_number 33 = .ok (.getfield 57, 3) := by decide +kernel
theorem dX12_number_36 : decode cX12_number 36 = .ok (.bipush 32, 2) := by decide +kernel
theorem dX12_number_38 : decode cX12_number 38 = .ok (.iload_n 1, 1) := by decide +kernel
theorem dX12_number_39 : decode cX12_number 39 = .ok (.iadd, 1) := by decide +kernel
theorem dX12_number_40 : decode cX12_number 40 = .ok (.aload_n 0, 1) := by decide +kernel
theorem dX12_number_41 : decode cX12_number 41 = .ok (.getfield 182, 3) := by decide +kernel
theorem dX12_number_44 : decode cX12_number 44 = .ok (.iastore, 1) := by decide +kernel
end
section
theorem dX12_number_45 : decode cX12_number 45 = .ok (.aload_n 0, 1) := by decide +kernel
theorem dX12_number_46 : decode cX12_number 46 = .ok (.invokevirtual 234, 3) := by decide +kernel
theorem dX12_number_49 : decode cX12_number 49 = .ok (.iconst 1, 1) := by decide +kernel
theorem dX12_number_50 : decode cX12_number 50 = .ok (.ireturn, 1) := by decide +kernel
theorem dX12_hour_0 : decode cX12_hour 0 = .ok (.aload_n 0, 1) := by decide +kernel
theorem dX12_hour_1 : decode cX12_hour 1 = .ok (.getfield 165, 3) := by decide +kernel
theorem dX12_hour_4 : decode cX12_hour 4 = .ok (.iconst 2, 1) := by decide +kernel
theorem dX12_hour_5 : decode cX12_hour 5 = .ok (.if_icmp .eq 9, 3) := by decide +kernel
theorem dX12_hour_8 : decode cX12_hour 8 = .ok (.aload_n 0, 1) := by decide +kernel
theorem dX12_hour_9 : decode cX12_hour 9 = .ok (.iconst 1, 1) := by decide +kernel
theorem dX12_hour_10 : decode cX12_hour 10 = .ok (.invokevirtual 231, 3) := by decide +kernel
theorem dX12_hour_13 : decode cX12_hour 13 = .ok (.ireturn, 1) := by decide +kernel
theorem dX12_hour_14 : decode cX12_hour 14 = .ok (.aload_n 0, 1) := by decide +kernel
theorem dX12_hour_15 : decode cX12_hour 15 = .ok (.getfield 182, 3) := by decide +kernel
theorem dX12_hour_18 : decode cX12_hour 18 = .ok (.bipush 23, 2) := by decide +kernel
theorem dX12_hour_20 : decode cX12_hour 20 = .ok (.if_icmp .le 9, 3) := by decide +kernel
theorem dX12_hour_23 : decode cX12_hour 23 = .ok (.aload_n 0, 1) := by decide +kernel
theorem dX12_hour_24 : decode cX12_hour 24 = .ok (.iconst 2, 1) := by decide +kernel
theorem dX12_hour_25 : decode cX12_hour 25 = .ok (.invokevirtual 231, 3) := by decide +kernel
theorem dX12_hour_28 : decode cX12_hour 28 = .ok (.ireturn, 1) := by decide +kernel
theorem dX12_hour_29 : decode cX12_hour 29 = .ok (.aload_n 0, 1) := by decide +kernel
theorem dX12_hour_30 : decode cX12_hour 30 = .ok (.getfield 60, 3) := by decide +kernel
theorem dX12_hour_33 : decode cX12_hour 33 = .ok (.iload_n 1, 1) := by decide +kernel
theorem dX12_hour_34 : decode cX12_hour 34 = .ok (.aload_n 0, 1) := by decide +kernel
theorem dX12_hour_35 : decode cX12_hour 35 = .ok (.getfield 182, 3) := by decide +kernel
theorem dX12_hour_38 : decode cX12_hour 38 = .ok (.iastore, 1) := by decide +kernel
theorem dX12_hour_39 : decode cX12_hour 39 = .ok (.aload_n 0, 1) := by decide +kernel
theorem dX12_hour_40 : decode cX12_hour 40 = .ok (.invokevirtual 234, 3) := by decide +kernel
theorem dX12_hour_43 : decode cX12_hour 43 = .ok (.iconst 1, 1) := by decide +kernel
theorem dX12_hour_44 : decode cX12_hour 44 = .ok (.ireturn, 1) := by decide +kernel
theorem dX12_word_0 : decode cX12_word 0 = .ok (.aload_n 0, 1) := by decide +kernel
theorem dX12_word_1 : decode cX12_word 1 = .ok (.getfield 165, 3) := by decide +kernel
theorem dX12_word_4 : decode cX12_word 4 = .ok (.iconst 1, 1) := by decide +kernel
theorem dX12_word_5 : decode cX12_word 5 = .ok (.if_icmp .ne 11, 3) := by decide +kernel
theorem dX12_word_8 : decode cX12_word 8 = .ok (.aload_n 0, 1) := by decide +kernel
theorem dX12_word_9 : decode cX12_word 9 = .ok (.getfield 176, 3) := by decide +kernel
theorem dX12_word_12 : decode cX12_word 12 = .ok (.iload_n 1, 1) := by decide +kernel
theorem dX12_word_13 : decode cX12_word 13 = .ok (.if_icmp .eq 9, 3) := by decide +kernel
theorem dX12_word_16 : decode cX12_word 16 = .ok (.aload_n 0, 1) := by decide +kernel
theorem dX12_word_17 : decode cX12_word 17 = .ok (.iconst 1, 1) := by decide +kernel
theorem dX12_word_18 : decode cX12_word 18 = .ok (.invokevirtual 231, 3) := by decide +kernel
theorem dX12_word_21 : decode cX12_word 21 = .ok (.ireturn, 1) := by decide +kernel
theorem dX12_word_22 : decode cX12_word 22 = .ok (.aload_n 0, 1) := by decide +kernel
theorem dX12_word_23 : decode cX12_word 23 = .ok (.invokevirtual 234, 3) := by decide +kernel
theorem dX12_word_26 : decode cX12_word 26 = .ok (.iconst 1, 1) := by decide +kernel
theorem dX12_word_27 : decode cX12_word 27 = .ok (.ireturn, 1) := by decide +kernel
theorem dX12_hasCry_0 : decode cX12_hasCry 0 = .ok (.aload_n 0, 1) := by decide +kernel
theorem dX12_hasCry_1 : decode cX12_hasCry 1 = .ok (.getfield 165, 3) := by decide +kernel
theorem dX12_hasCry_4 : decode cX12_hasCry 4 = .ok (.iconst 1, 1) := by decide +kernel
theorem dX12_hasCry_5 : decode cX12_hasCry 5 = .ok (.if_icmp .ne 16, 3) := by decide +kernel
theorem dX12_hasCry_8 : decode cX12_hasCry 8 = .ok (.aload_n 0, 1) := by decide +kernel
theorem dX12_hasCry_9 : decode cX12_hasCry 9 = .ok (.getfield 176, 3) := by decide +kernel
theorem dX12_hasCry_12 : decode cX12_hasCry 12 = .ok (.bipush 9, 2) := by decide +kernel
theorem dX12_hasCry_14 : decode cX12_hasCry 14 = .ok (.if_icmp .ne 7, 3) := by decide +kernel
theorem dX12_hasCry_17 : decode cX12_hasCry 17 = .ok (.iconst 1, 1) := by decide +kernel
theorem dX12_hasCry_18 : decode cX12_hasCry 18 = .ok (.goto 4, 3) := by decide +kernel
theorem dX12_hasCry_21 : decode cX12_hasCry 21 = .ok (.iconst 0, 1) := by decide +kernel
theorem dX12_hasCry_22 : decode cX12_hasCry 22 = .ok (.istore_n 1, 1) := by decide +kernel
theorem dX12_hasCry_23 : decode cX12_hasCry 23 = .ok (.iload_n 1, 1) := by decide +kernel
theorem dX12_hasCry_24 : decode cX12_hasCry 24 = .ok (.ifCond .eq 7, 3) := by decide +kernel
theorem dX12_hasCry_27 : decode cX12_hasCry 27 = .ok (.aload_n 0, 1) := by decide +kernel
theorem dX12_hasCry_28 : decode cX12_hasCry 28 = .ok (.invokevirtual 234, 3) := by decide +kernel
theorem dX12_hasCry_31 : decode cX12_hasCry 31 = .ok (.iload_n 1, 1) := by decide +kernel
theorem dX12_hasCry_32 : decode cX12_hasCry 32 = .ok (.ireturn, 1) := by decide +kernel
theorem dX12_readPower_0 : decode cX12_readPower 0 = .ok (.aload_n 0, 1) := by decide +kernel
theorem dX12_readPower_1 : decode cX12_readPower 1 = .ok (.getfield 63, 3) := by decide +kernel
theorem dX12_readPower_4 : decode cX12_readPower 4 = .ok (.iconst 4, 1) := by decide +kernel
theorem dX12_readPower_5 : decode cX12_readPower 5 = .ok (.iaload, 1) := by decide +kernel
theorem dX12_readPower_6 : decode cX12_readPower 6 = .ok (.bipush 12, 2) := by decide +kernel
theorem dX12_readPower_8 : decode cX12_readPower 8 = .ok (.if_icmp .ne 9, 3) := by decide +kernel
theorem dX12_readPower_11 : decode cX12_readPower 11 = .ok (.aload_n 0, 1) := by decide +kernel
theorem dX12_readPower_12 : decode cX12_readPower 12 = .ok (.iconst 4, 1) := by decide +kernel
theorem dX12_readPower_13 : decode cX12_readPower 13 = .ok (.invokevirtual 231, 3) := by decide +kernel
theorem dX12_readPower_16 : decode cX12_readPower 16 = .ok (.ireturn, 1) := by decide +kernel
theorem dX12_readPower_17 : decode cX12_readPower 17 = .ok (.iconst 4, 1) := by decide +kernel
theorem dX12_readPower_18 : decode cX12_readPower 18 = .ok (.bipush 48, 2) := by decide +kernel
theorem dX12_readPower_20 : decode cX12_readPower 20 = .ok (.aload_n 0, 1) := by decide +kernel
theorem dX12_readPower_21 : decode cX12_readPower 21 = .ok (.getfield 63, 3) := by decide +kernel
theorem dX12_readPower_24 : decode cX12_readPower 24 = .ok (.iconst 4, 1) := by decide +kernel
theorem dX12_readPower_25 : decode cX12_readPower 25 = .ok (.iaload, 1) := by decide +kernel
theorem dX12_readPower_26 : decode cX12_readPower 26 = .ok (.iadd, 1) := by decide +kernel
theorem dX12_readPower_27 : decode cX12_readPower 27 = .ok (.imul, 1) := by decide +kernel
theorem dX12_readPower_28 : decode cX12_readPower 28 = .ok (.istore_n 1, 1) := by decide +kernel
theorem dX12_readPower_29 : decode cX12_readPower 29 = .ok (.aload_n 0, 1) := by decide +kernel
theorem dX12_readPower_30 : decode cX12_readPower 30 = .ok (.invokevirtual 234, 3) := by decide +kernel
theorem dX12_readPower_33 : decode cX12_readPower 33 = .ok (.aload_n 0, 1) := by decide +kernel
theorem dX12_readPower_34 : decode cX12_readPower 34 = .ok (.getfield 165, 3) := by decide +kernel
theorem dX12_readPower_37 : decode cX12_readPower 37 = .ok (.iconst 1, 1) := by decide +kernel
theorem dX12_readPower_38 : decode cX12_readPower 38 = .ok (.if_icmp .ne 12, 3) := by decide +kernel
theorem dX12_readPower_41 : decode cX12_readPower 41 = .ok (.aload_n 0, 1) := by decide +kernel
theorem dX12_readPower_42 : decode cX12_readPower 42 = .ok (.getfield 176, 3) := by decide +kernel
theorem dX12_readPower_45 : decode cX12_readPower 45 = .ok (.bipush 10, 2) := by decide +kernel
theorem dX12_readPower_47 : decode cX12_readPower 47 = .ok (.if_icmp .ge 9, 3) := by decide +kernel
theorem dX12_readPower_50 : decode cX12_readPower 50 = .ok (.aload_n 0, 1) := by decide +kernel
theorem dX12_readPower_51 : decode cX12_readPower 51 = .ok (.iconst 1, 1) := by decide +kernel
theorem dX12_readPower_52 : decode cX12_readPower 52 = .ok (.invokevirtual 231, 3) := by decide +kernel
theorem dX12_readPower_55 : decode cX12_readPower 55 = .ok (.ireturn, 1) := by decide +kernel
theorem dX12_readPower_56 : decode cX12_readPower 56 = .ok (.aload_n 0, 1) := by decide +kernel
theorem dX12_readPower_57 : decode cX12_readPower 57 = .ok (.getfield 60, 3) := by decide +kernel
theorem dX12_readPower_60 : decode cX12_readPower 60 = .ok (.iload_n 1, 1) := by decide +kernel
theorem dX12_readPower_61 : decode cX12_readPower 61 = .ok (.aload_n 0, 1) := by decide +kernel
theorem dX12_readPower_62 : decode cX12_readPower 62 = .ok (.getfield 176, 3) := by decide +kernel
theorem dX12_readPower_65 : decode cX12_readPower 65 = .ok (.bipush 10, 2) := by decide +kernel
theorem dX12_readPower_67 : decode cX12_readPower 67 = .ok (.isub, 1) := by decide +kernel
theorem dX12_readPower_68 : decode cX12_readPower 68 = .ok (.iastore, 1) := by decide +kernel
theorem dX12_readPower_69 : decode cX12_readPower 69 = .ok (.aload_n 0, 1) := by decide +kernel
theorem dX12_readPower_70 : decode cX12_readPower 70 = .ok (.invokevirtual 234, 3) := by decide +kernel
theorem dX12_readPower_73 : decode cX12_readPower 73 = .ok (.aload_n 0, 1) := by decide +kernel
theorem dX12_readPower_74 : decode cX12_readPower 74 = .ok (.bipush 7, 2) := by decide +kernel
theorem dX12_readPower_76 : decode cX12_readPower 76 = .ok (.invokevirtual 237, 3) := by decide +kernel
theorem dX12_readPower_79 : decode cX12_readPower 79 = .ok (.ifCond .eq 32, 3) := by decide +kernel
theorem dX12_readPower_82 : decode cX12_readPower 82 = .ok (.aload_n 0, 1) := by decide +kernel
theorem dX12_readPower_83 : decode cX12_readPower 83 = .ok (.iload_n 1, 1) := by decide +kernel
theorem dX12_readPower_84 : decode cX12_readPower 84 = .ok (.iconst 1, 1) := by decide +kernel
theorem dX12_readPower_85 : decode cX12_readPower 85 = .ok (.iadd, 1) := by decide +kernel
theorem dX12_readPower_86 : decode cX12_readPower 86 = .ok (.invokevirtual 240, 3) := by decide +kernel
theorem dX12_readPower_89 : decode cX12_readPower 89 = .ok (.ifCond .eq 22, 3) := by decide +kernel
theorem dX12_readPower_92 : decode cX12_readPower 92 = .ok (.aload_n 0, 1) := by decide +kernel
theorem dX12_readPower_93 : decode cX12_readPower 93 = .ok (.bipush 8, 2) := by decide +kernel
theorem dX12_readPower_95 : decode cX12_readPower 95 = .ok (.invokevirtual 237, 3) := by decide +kernel
theorem dX12_readPower_98 : decode cX12_readPower 98 = .ok (.ifCond .eq 13, 3) := by decide +kernel
theorem dX12_readPower_101 : decode cX12_readPower 101 = .ok (.aload_n 0, 1) := by decide +kernel
theorem dX12_readPower_102 : decode cX12_readPower 102 = .ok (.iload_n 1, 1) := by decide +kernel
theorem dX12_readPower_103 : decode cX12_readPower 103 = .ok (.iconst 2, 1) := by decide +kernel
theorem dX12_readPower_104 : decode cX12_readPower 104 = .ok (.iadd, 1) := by decide +kernel
theorem dX12_readPower_105 : decode cX12_readPower 105 = .ok (.invokevirtual 240, 3) := by decide +kernel
theorem dX12_readPower_108 : decode cX12_readPower 108 = .ok (.ifCond .ne 5, 3) := by decide +kernel
theorem dX12_readPower_111 : decode cX12_readPower 111 = .ok (.iconst 0, 1) := by decide +kernel
theorem dX12_readPower_112 : decode cX12_readPower 112 = .ok (.ireturn, 1) := by decide +kernel
theorem dX12_readPower_113 : decode cX12_readPower 113 = .ok (.aload_n 0, 1) := by decide +kernel
theorem dX12_readPower_114 : decode cX12_readPower 114 = .ok (.getfield 60, 3) := by decide +kernel
theorem dX12_readPower_117 : decode cX12_readPower 117 = .ok (.iload_n 1, 1) := by decide +kernel
theorem dX12_readPower_118 : decode cX12_readPower 118 = .ok (.iconst 3, 1) := by decide +kernel
theorem dX12_readPower_119 : decode cX12_readPower 119 = .ok (.iadd, 1) := by decide +kernel
theorem dX12_readPower_120 : decode cX12_readPower 120 = .ok (.aload_n 0, 1) := by decide +kernel
theorem dX12_readPower_121 : decode cX12_readPower 121 = .ok (.invokevirtual 243, 3) := by decide +kernel
theorem dX12_readPower_124 : decode cX12_readPower 124 = .ok (.ifCond .eq 7, 3) := by decide +kernel
theorem dX12_readPower_127 : decode cX12_readPower 127 = .ok (.iconst 1, 1) := by decide +kernel
theorem dX12_readPower_128 : decode cX12_readPower 128 = .ok (.goto 4, 3) := by decide +kernel
theorem dX12_readPower_131 : decode cX12_readPower 131 = .ok (.iconst 0, 1) := by decide +kernel
theorem dX12_readPower_132 : decode cX12_readPower 132 = .ok (.iastore, 1) := by decide +kernel
theorem dX12_readPower_133 : decode cX12_readPower 133 = .ok (.aload_n 0, 1) := by decide +kernel
theorem dX12_readPower_134 : decode cX12_readPower 134 = .ok (.getfield 63, 3) := by decide +kernel
theorem dX12_readPower_137 : decode cX12_readPower 137 = .ok (.iconst 4, 1) := by decide +kernel
theorem dX12_readPower_138 : decode cX12_readPower 138 = .ok (.dup2, 1) := by decide +kernel
theorem dX12_readPower_139 : decode cX12_readPower 139 = .ok (.iaload, 1) := by decide +kernel
theorem dX12_readPower_140 : decode cX12_readPower 140 = .ok (.iconst 1, 1) := by decide +kernel
theorem dX12_readPower_141 : decode cX12_readPower 141 = .ok (.iadd, 1) := by decide +kernel
theorem dX12_readPower_142 : decode cX12_readPower 142 = .ok (.iastore, 1) := by decide +kernel
theorem dX12_readPower_143 : decode cX12_readPower 143 = .ok (.iconst 1, 1) := by decide +kernel
theorem dX12_readPower_144 : decode cX12_readPower 144 = .ok (.ireturn, 1) := by decide +kernel
theorem dX12_readLine_0 : decode cX12_readLine 0 = .ok (.aload_n 0, 1) := by decide +kernel
theorem dX12_readLine_1 : decode cX12_readLine 1 = .ok (.getfield 165, 3) := by decide +kernel
theorem dX12_readLine_4 : decode cX12_readLine 4 = .ok (.iconst 1, 1) := by decide +kernel
theorem dX12_readLine_5 : decode cX12_readLine 5 = .ok (.if_icmp .ne 12, 3) := by decide +kernel
theorem dX12_readLine_8 : decode cX12_readLine 8 = .ok (.aload_n 0, 1) := by decide +kernel
theorem dX12_readLine_9 : decode cX12_readLine 9 = .ok (.getfield 176, 3) := by decide +kernel
theorem dX12_readLine_12 : decode cX12_readLine 12 = .ok (.bipush 6, 2) := by decide +kernel
theorem dX12_readLine_14 : decode cX12_readLine 14 = .ok (.if_icmp .le 9, 3) := by decide +kernel
theorem dX12_readLine_17 : decode cX12_readLine 17 = .ok (.aload_n 0, 1) := by decide +kernel
theorem dX12_readLine_18 : decode cX12_readLine 18 = .ok (.iconst 1, 1) := by decide +kernel
theorem dX12_readLine_19 : decode cX12_readLine 19 = .ok (.invokevirtual 231, 3) := by decide +kernel
theorem dX12_readLine_22 : decode cX12_readLine 22 = .ok (.ireturn, 1) := by decide +kernel
theorem dX12_readLine_23 : decode cX12_readLine 23 = .ok (.aload_n 0, 1) := by decide +kernel
theorem dX12_readLine_24 : decode cX12_readLine 24 = .ok (.getfield 176, 3) := by decide +kernel
theorem dX12_readLine_27 : decode cX12_readLine 27 = .ok (.istore_n 2, 1) := by decide +kernel
theorem dX12_readLine_28 : decode cX12_readLine 28 = .ok (.iload_n 2, 1) := by decide +kernel
theorem dX12_readLine_29 : decode cX12_readLine 29 = .ok (.iconst 4, 1) := by decide +kernel
theorem dX12_readLine_30 : decode cX12_readLine 30 = .ok (.if_icmp .ne 8, 3) := by decide +kernel
theorem dX12_readLine_33 : decode cX12_readLine 33 = .ok (.aload_n 0, 1) := by decide +kernel
theorem dX12_readLine_34 : decode cX12_readLine 34 = .ok (.invokevirtual 247, 3) := by decide +kernel
theorem dX12_readLine_37 : decode cX12_readLine 37 = .ok (.ireturn, 1) := by decide +kernel
theorem dX12_readLine_38 : decode cX12_readLine 38 = .ok (.iload_n 1, 1) := by decide +kernel
theorem dX12_readLine_39 : decode cX12_readLine 39 = .ok (.iload_n 2, 1) := by decide +kernel
theorem dX12_readLine_40 : decode cX12_readLine 40 = .ok (.ishr, 1) := by decide +kernel
theorem dX12_readLine_41 : decode cX12_readLine 41 = .ok (.iconst 1, 1) := by decide +kernel
theorem dX12_readLine_42 : decode cX12_readLine 42 = .ok (.iand, 1) := by decide +kernel
theorem dX12_readLine_43 : decode cX12_readLine 43 = .ok (.iconst 1, 1) := by decide +kernel
theorem dX12_readLine_44 : decode cX12_readLine 44 = .ok (.if_icmp .ne 9, 3) := by decide +kernel
theorem dX12_readLine_47 : decode cX12_readLine 47 = .ok (.aload_n 0, 1) := by decide +kernel
theorem dX12_readLine_48 : decode cX12_readLine 48 = .ok (.iconst 3, 1) := by decide +kernel
theorem dX12_readLine_49 : decode cX12_readLine 49 = .ok (.invokevirtual 231, 3) := by decide +kernel
theorem dX12_readLine_52 : decode cX12_readLine 52 = .ok (.ireturn, 1) := by decide +kernel
theorem dX12_readLine_53 : decode cX12_readLine 53 = .ok (.aload_n 0, 1) := by decide +kernel
theorem dX12_readLine_54 : decode cX12_readLine 54 = .ok (.invokevirtual 234, 3) := by decide +kernel
theorem dX12_readLine_57 : decode cX12_readLine 57 = .ok (.iload_n 2, 1) := by decide +kernel
theorem dX12_readLine_58 : decode cX12_readLine 58 = .ok (.ifCond .ne 37, 3) := by decide +kernel
theorem dX12_readLine_61 : decode cX12_readLine 61 = .ok (.aload_n 0, 1) := by decide +kernel
theorem dX12_readLine_62 : decode cX12_readLine 62 = .ok (.iconst 0, 1) := by decide +kernel
theorem dX12_readLine_63 : decode cX12_readLine 63 = .ok (.iconst 0, 1) := by decide +kernel
theorem dX12_readLine_64 : decode cX12_readLine 64 = .ok (.bipush 99, 2) := by decide +kernel
theorem dX12_readLine_66 : decode cX12_readLine 66 = .ok (.invokevirtual 250, 3) := by decide +kernel
theorem dX12_readLine_69 : decode cX12_readLine 69 = .ok (.ifCond .eq 24, 3) := by decide +kernel
theorem dX12_readLine_72 : decode cX12_readLine 72 = .ok (.aload_n 0, 1) := by decide +kernel
theorem dX12_readLine_73 : decode cX12_readLine 73 = .ok (.iconst 1, 1) := by decide +kernel
theorem dX12_readLine_74 : decode cX12_readLine 74 = .ok (.aload_n 0, 1) := by decide +kernel
theorem dX12_readLine_75 : decode cX12_readLine 75 = .ok (.getfield 57, 3) := by decide +kernel
theorem dX12_readLine_78 : decode cX12_readLine 78 = .ok (.bipush 32, 2) := by decide +kernel
theorem dX12_readLine_80 : decode cX12_readLine 80 = .ok (.iaload, 1) := by decide +kernel
theorem dX12_readLine_81 : decode cX12_readLine 81 = .ok (.bipush 99, 2) := by decide +kernel
theorem dX12_readLine_83 : decode cX12_readLine 83 = .ok (.invokevirtual 250, 3) := by decide +kernel
theorem dX12_readLine_86 : decode cX12_readLine 86 = .ok (.ifCond .eq 7, 3) := by decide +kernel
theorem dX12_readLine_89 : decode cX12_readLine 89 = .ok (.iconst 1, 1) := by decide +kernel
theorem dX12_readLine_90 : decode cX12_readLine 90 = .ok (.goto 4, 3) := by decide +kernel
theorem dX12_readLine_93 : decode cX12_readLine 93 = .ok (.iconst 0, 1) := by decide +kernel
theorem dX12_readLine_94 : decode cX12_readLine 94 = .ok (.ireturn, 1) := by decide +kernel
theorem dX12_readLine_95 : decode cX12_readLine 95 = .ok (.iload_n 2, 1) := by decide +kernel
theorem dX12_readLine_96 : decode cX12_readLine 96 = .ok (.iconst 1, 1) := by decide +kernel
theorem dX12_readLine_97 : decode cX12_readLine 97 = .ok (.if_icmp .ne 12, 3) := by decide +kernel
theorem dX12_readLine_100 : decode cX12_readLine 100 = .ok (.aload_n 0, 1) := by decide +kernel
theorem dX12_readLine_101 : decode cX12_readLine 101 = .ok (.iconst 2, 1) := by decide +kernel
theorem dX12_readLine_102 : decode cX12_readLine 102 = .ok (.iconst 0, 1) := by decide +kernel
theorem dX12_readLine_103 : decode cX12_readLine 103 = .ok (.bipush 30, 2) := by decide +kernel
theorem dX12_readLine_105 : decode cX12_readLine 105 = .ok (.invokevirtual 250, 3) := by decide +kernel
theorem dX12_readLine_108 : decode cX12_readLine 108 = .ok (.ireturn, 1) := by decide +kernel
theorem dX12_readLine_109 : decode cX12_readLine 109 = .ok (.iload_n 2, 1) := by decide +kernel
theorem dX12_readLine_110 : decode cX12_readLine 110 = .ok (.iconst 2, 1) := by decide +kernel
theorem dX12_readLine_111 : decode cX12_readLine 111 = .ok (.if_icmp .eq 8, 3) := by decide +kernel
theorem dX12_readLine_114 : decode cX12_readLine 114 = .ok (.iload_n 2, 1) := by decide +kernel
theorem dX12_readLine_115 : decode cX12_readLine 115 = .ok (.iconst 3, 1) := by decide +kernel
theorem dX12_readLine_116 : decode cX12_readLine 116 = .ok (.if_icmp .ne 15, 3) := by decide +kernel
theorem dX12_readLine_119 : decode cX12_readLine 119 = .ok (.aload_n 0, 1) := by decide +kernel
theorem dX12_readLine_120 : decode cX12_readLine 120 = .ok (.iload_n 2, 1) := by decide +kernel
theorem dX12_readLine_121 : decode cX12_readLine 121 = .ok (.iconst 1, 1) := by decide +kernel
theorem dX12_readLine_122 : decode cX12_readLine 122 = .ok (.iadd, 1) := by decide +kernel
theorem dX12_readLine_123 : decode cX12_readLine 123 = .ok (.iconst 0, 1) := by decide +kernel
theorem dX12_readLine_124 : decode cX12_readLine 124 = .ok (.sipush 9999, 3) := by decide +kernel
theorem dX12_readLine_127 : decode cX12_readLine 127 = .ok (.invokevirtual 250, 3) := by decide +kernel
theorem dX12_readLine_130 : decode cX12_readLine 130 = .ok (.ireturn, 1) := by decide +kernel
theorem dX12_readLine_131 : decode cX12_readLine 131 = .ok (.iload_n 2, 1) := by decide +kernel
theorem dX12_readLine_132 : decode cX12_readLine 132 = .ok (.bipush 6, 2) := by decide +kernel
theorem dX12_readLine_134 : decode cX12_readLine 134 = .ok (.if_icmp .ne 13, 3) := by decide +kernel
theorem dX12_readLine_137 : decode cX12_readLine 137 = .ok (.aload_n 0, 1) := by decide +kernel
theorem dX12_readLine_138 : decode cX12_readLine 138 = .ok (.bipush 7, 2) := by decide +kernel
theorem dX12_readLine_140 : decode cX12_readLine 140 = .ok (.iconst 0, 1) := by decide +kernel
theorem dX12_readLine_141 : decode cX12_readLine 141 = .ok (.bipush 20, 2) := by decide +kernel
theorem dX12_readLine_143 : decode cX12_readLine 143 = .ok (.invokevirtual 250, 3) := by decide +kernel
theorem dX12_readLine_146 : decode cX12_readLine 146 = .ok (.ireturn, 1) := by decide +kernel
theorem dX12_readLine_147 : decode cX12_readLine 147 = .ok (.aload_n 0, 1) := by decide +kernel
theorem dX12_readLine_148 : decode cX12_readLine 148 = .ok (.iconst 5, 1) := by decide +kernel
theorem dX12_readLine_149 : decode cX12_readLine 149 = .ok (.iconst 0, 1) := by decide +kernel
theorem dX12_readLine_150 : decode cX12_readLine 150 = .ok (.sipush 999, 3) := by decide +kernel
theorem dX12_readLine_153 : decode cX12_readLine 153 = .ok (.invokevirtual 250, 3) := by decide +kernel
theorem dX12_readLine_156 : decode cX12_readLine 156 = .ok (.ifCond .ne 5, 3) := by decide +kernel
theorem dX12_readLine_159 : decode cX12_readLine 159 = .ok (.iconst 0, 1) := by decide +kernel
theorem dX12_readLine_160 : decode cX12_readLine 160 = .ok (.ireturn, 1) := by decide +kernel
theorem dX12_readLine_161 : decode cX12_readLine 161 = .ok (.aload_n 0, 1) := by decide +kernel
theorem dX12_readLine_162 : decode cX12_readLine 162 = .ok (.getfield 57, 3) := by decide +kernel
theorem dX12_readLine_165 : decode cX12_readLine 165 = .ok (.bipush 38, 2) := by decide +kernel
theorem dX12_readLine_167 : decode cX12_readLine 167 = .ok (.aload_n 0, 1) := by decide +kernel
theorem dX12_readLine_168 : decode cX12_readLine 168 = .ok (.invokevirtual 243, 3) := by decide +kernel
theorem dX12_readLine_171 : decode cX12_readLine 171 = .ok (.ifCond .eq 7, 3) := by decide +kernel
theorem dX12_readLine_174 : decode cX12_readLine 174 = .ok (.iconst 1, 1) := by decide +kernel
theorem dX12_readLine_175 : decode cX12_readLine 175 = .ok (.goto 4, 3) := by decide +kernel
theorem dX12_readLine_178 : decode cX12_readLine 178 = .ok (.iconst 0, 1) := by decide +kernel
theorem dX12_readLine_179 : decode cX12_readLine 179 = .ok (.iastore, 1) := by decide +kernel
theorem dX12_readLine_180 : decode cX12_readLine 180 = .ok (.iconst 1, 1) := by decide +kernel
theorem dX12_readLine_181 : decode cX12_readLine 181 = .ok (.ireturn, 1) := by decide +kernel
theorem dX12_laws_0 : decode cX12_laws 0 = .ok (.aload_n 0, 1) := by decide +kernel
theorem dX12_laws_1 : decode cX12_laws 1 = .ok (.aload_n 0, 1) := by decide +kernel
theorem dX12_laws_2 : decode cX12_laws 2 = .ok (.getfield 138, 3) := by decide +kernel
theorem dX12_laws_5 : decode cX12_laws 5 = .ok (.putfield 141, 3) := by decide +kernel
theorem dX12_laws_8 : decode cX12_laws 8 = .ok (.aload_n 0, 1) := by decide +kernel
theorem dX12_laws_9 : decode cX12_laws 9 = .ok (.iconst 0, 1) := by decide +kernel
theorem dX12_laws_10 : decode cX12_laws 10 = .ok (.putfield 138, 3) := by decide +kernel
theorem dX12_laws_13 : decode cX12_laws 13 = .ok (.iload_n 1, 1) := by decide +kernel
theorem dX12_laws_14 : decode cX12_laws 14 = .ok (.invokestatic 195, 3) := by decide +kernel
theorem dX12_laws_17 : decode cX12_laws 17 = .ok (.ifCond .ne 6, 3) := by decide +kernel
theorem dX12_laws_20 : decode cX12_laws 20 = .ok (.bipush (-2), 2) := by decide +kernel
theorem dX12_laws_22 : decode cX12_laws 22 = .ok (.ireturn, 1) := by decide +kernel
theorem dX12_laws_23 : decode cX12_laws 23 = .ok (.aload_n 0, 1) := by decide +kernel
theorem dX12_laws_24 : decode cX12_laws 24 = .ok (.iconst 0, 1) := by decide +kernel
theorem dX12_laws_25 : decode cX12_laws 25 = .ok (.putfield 185, 3) := by decide +kernel
theorem dX12_laws_28 : decode cX12_laws 28 = .ok (.aload_n 0, 1) := by decide +kernel
theorem dX12_laws_29 : decode cX12_laws 29 = .ok (.iconst (-1), 1) := by decide +kernel
theorem dX12_laws_30 : decode cX12_laws 30 = .ok (.putfield 13, 3) := by decide +kernel
theorem dX12_laws_33 : decode cX12_laws 33 = .ok (.iconst 0, 1) := by decide +kernel
theorem dX12_laws_34 : decode cX12_laws 34 = .ok (.istore_n 2, 1) := by decide +kernel
theorem dX12_laws_35 : decode cX12_laws 35 = .ok (.iload_n 2, 1) := by decide +kernel
theorem dX12_laws_36 : decode cX12_laws 36 = .ok (.bipush 8, 2) := by decide +kernel
theorem dX12_laws_38 : decode cX12_laws 38 = .ok (.if_icmp .ge 22, 3) := by decide +kernel
theorem dX12_laws_41 : decode cX12_laws 41 = .ok (.aload_n 0, 1) := by decide +kernel
theorem dX12_laws_42 : decode cX12_laws 42 = .ok (.getfield 57, 3) := by decide +kernel
theorem dX12_laws_45 : decode cX12_laws 45 = .ok (.bipush 32, 2) := by decide +kernel
theorem dX12_laws_47 : decode cX12_laws 47 = .ok (.iload_n 2, 1) := by decide +kernel
theorem dX12_laws_48 : decode cX12_laws 48 = .ok (.iadd, 1) := by decide +kernel
theorem dX12_laws_49 : decode cX12_laws 49 = .ok (.iload_n 2, 1) := by decide +kernel
theorem dX12_laws_50 : decode cX12_laws 50 = .ok (.invokestatic 131, 3) := by decide +kernel
theorem dX12_laws_53 : decode cX12_laws 53 = .ok (.iastore, 1) := by decide +kernel
theorem dX12_laws_54 : decode cX12_laws 54 = .ok (.iinc 2 1, 3) := by decide +kernel
theorem dX12_laws_57 : decode cX12_laws 57 = .ok (.goto (-22), 3) := by decide +kernel
theorem dX12_laws_60 : decode cX12_laws 60 = .ok (.aload_n 0, 1) := by decide +kernel
theorem dX12_laws_61 : decode cX12_laws 61 = .ok (.getfield 63, 3) := by decide +kernel
theorem dX12_laws_64 : decode cX12_laws 64 = .ok (.iconst 4, 1) := by decide +kernel
theorem dX12_laws_65 : decode cX12_laws 65 = .ok (.iconst 0, 1) := by decide +kernel
theorem dX12_laws_66 : decode cX12_laws 66 = .ok (.iastore, 1) := by decide +kernel
theorem dX12_laws_67 : decode cX12_laws 67 = .ok (.aload_n 0, 1) := by decide +kernel
theorem dX12_laws_68 : decode cX12_laws 68 = .ok (.iconst 0, 1) := by decide +kernel
theorem dX12_laws_69 : decode cX12_laws 69 = .ok (.putfield 159, 3) := by decide +kernel
theorem dX12_laws_72 : decode cX12_laws 72 = .ok (.aload_n 0, 1) := by decide +kernel
theorem dX12_laws_73 : decode cX12_laws 73 = .ok (.invokevirtual 234, 3) := by decide +kernel
theorem dX12_laws_76 : decode cX12_laws 76 = .ok (.iconst 0, 1) := by decide +kernel
theorem dX12_laws_77 : decode cX12_laws 77 = .ok (.istore_n 2, 1) := by decide +kernel
theorem dX12_laws_78 : decode cX12_laws 78 = .ok (.iconst 0, 1) := by decide +kernel
theorem dX12_laws_79 : decode cX12_laws 79 = .ok (.istore_n 3, 1) := by decide +kernel
theorem dX12_laws_80 : decode cX12_laws 80 = .ok (.aload_n 0, 1) := by decide +kernel
theorem dX12_laws_81 : decode cX12_laws 81 = .ok (.getfield 165, 3) := by decide +kernel
theorem dX12_laws_84 : decode cX12_laws 84 = .ok (.iconst 4, 1) := by decide +kernel
theorem dX12_laws_85 : decode cX12_laws 85 = .ok (.if_icmp .eq 87, 3) := by decide +kernel
theorem dX12_laws_88 : decode cX12_laws 88 = .ok (.aload_n 0, 1) := by decide +kernel
theorem dX12_laws_89 : decode cX12_laws 89 = .ok (.getfield 165, 3) := by decide +kernel
theorem dX12_laws_92 : decode cX12_laws 92 = .ok (.iconst 1, 1) := by decide +kernel
theorem dX12_laws_93 : decode cX12_laws 93 = .ok (.if_icmp .ne 21, 3) := by decide +kernel
theorem dX12_laws_96 : decode cX12_laws 96 = .ok (.aload_n 0, 1) := by decide +kernel
theorem dX12_laws_97 : decode cX12_laws 97 = .ok (.getfield 176, 3) := by decide +kernel
theorem dX12_laws_100 : decode cX12_laws 100 = .ok (.bipush 6, 2) := by decide +kernel
theorem dX12_laws_102 : decode cX12_laws 102 = .ok (.if_icmp .gt 12, 3) := by decide +kernel
theorem dX12_laws_105 : decode cX12_laws 105 = .ok (.iconst 1, 1) := by decide +kernel
theorem dX12_laws_106 : decode cX12_laws 106 = .ok (.aload_n 0, 1) := by decide +kernel
theorem dX12_laws_107 : decode cX12_laws 107 = .ok (.getfield 176, 3) := by decide +kernel
theorem dX12_laws_110 : decode cX12_laws 110 = .ok (.ishl, 1) := by decide +kernel
theorem dX12_laws_111 : decode cX12_laws 111 = .ok (.goto 4, 3) := by decide +kernel
theorem dX12_laws_114 : decode cX12_laws 114 = .ok (.iconst 0, 1) := by decide +kernel
theorem dX12_laws_115 : decode cX12_laws 115 = .ok (.istore 4, 2) := by decide +kernel
theorem dX12_laws_117 : decode cX12_laws 117 = .ok (.aload_n 0, 1) := by decide +kernel
theorem dX12_laws_118 : decode cX12_laws 118 = .ok (.iload_n 2, 1) := by decide +kernel
theorem dX12_laws_119 : decode cX12_laws 119 = .ok (.invokevirtual 253, 3) := by decide +kernel
theorem dX12_laws_122 : decode cX12_laws 122 = .ok (.ifCond .eq 11, 3) := by decide +kernel
theorem dX12_laws_125 : decode cX12_laws 125 = .ok (.aload_n 0, 1) := by decide +kernel
theorem dX12_laws_126 : decode cX12_laws 126 = .ok (.getfield 165, 3) := by decide +kernel
theorem dX12_laws_129 : decode cX12_laws 129 = .ok (.iconst 3, 1) := by decide +kernel
theorem dX12_laws_130 : decode cX12_laws 130 = .ok (.if_icmp .eq 27, 3) := by decide +kernel
theorem dX12_laws_133 : decode cX12_laws 133 = .ok (.aload_n 0, 1) := by decide +kernel
theorem dX12_laws_134 : decode cX12_laws 134 = .ok (.getfield 185, 3) := by decide +kernel
theorem dX12_laws_137 : decode cX12_laws 137 = .ok (.ifCond .gt 11, 3) := by decide +kernel
theorem dX12_laws_140 : decode cX12_laws 140 = .ok (.aload_n 0, 1) := by decide +kernel
theorem dX12_laws_141 : decode cX12_laws 141 = .ok (.iconst 1, 1) := by decide +kernel
theorem dX12_laws_142 : decode cX12_laws 142 = .ok (.invokevirtual 231, 3) := by decide +kernel
theorem dX12_laws_145 : decode cX12_laws 145 = .ok (.ifCond .eq 7, 3) := by decide +kernel
theorem dX12_laws_148 : decode cX12_laws 148 = .ok (.iconst 1, 1) := by decide +kernel
theorem dX12_laws_149 : decode cX12_laws 149 = .ok (.goto 4, 3) := by decide +kernel
theorem dX12_laws_152 : decode cX12_laws 152 = .ok (.iconst 0, 1) := by decide +kernel
theorem dX12_laws_153 : decode cX12_laws 153 = .ok (.istore 5, 2) := by decide +kernel
theorem dX12_laws_155 : decode cX12_laws 155 = .ok (.iconst (-1), 1) := by decide +kernel
theorem dX12_laws_156 : decode cX12_laws 156 = .ok (.ireturn, 1) := by decide +kernel
theorem dX12_laws_157 : decode cX12_laws 157 = .ok (.aload_n 0, 1) := by decide +kernel
theorem dX12_laws_158 : decode cX12_laws 158 = .ok (.invokevirtual 234, 3) := by decide +kernel
theorem dX12_laws_161 : decode cX12_laws 161 = .ok (.iload_n 2, 1) := by decide +kernel
theorem dX12_laws_162 : decode cX12_laws 162 = .ok (.iload 4, 2) := by decide +kernel
theorem dX12_laws_164 : decode cX12_laws 164 = .ok (.ior, 1) := by decide +kernel
theorem dX12_laws_165 : decode cX12_laws 165 = .ok (.istore_n 2, 1) := by decide +kernel
theorem dX12_laws_166 : decode cX12_laws 166 = .ok (.iinc 3 1, 3) := by decide +kernel
theorem dX12_laws_169 : decode cX12_laws 169 = .ok (.goto (-89), 3) := by decide +kernel
theorem dX12_laws_172 : decode cX12_laws 172 = .ok (.iconst 0, 1) := by decide +kernel
theorem dX12_laws_173 : decode cX12_laws 173 = .ok (.istore 4, 2) := by decide +kernel
theorem dX12_laws_175 : decode cX12_laws 175 = .ok (.iload 4, 2) := by decide +kernel
theorem dX12_laws_177 : decode cX12_laws 177 = .ok (.bipush 8, 2) := by decide +kernel
theorem dX12_laws_179 : decode cX12_laws 179 = .ok (.if_icmp .ge 31, 3) := by decide +kernel
theorem dX12_laws_182 : decode cX12_laws 182 = .ok (.aload_n 0, 1) := by decide +kernel
theorem dX12_laws_183 : decode cX12_laws 183 = .ok (.getfield 57, 3) := by decide +kernel
theorem dX12_laws_186 : decode cX12_laws 186 = .ok (.bipush 8, 2) := by decide +kernel
theorem dX12_laws_188 : decode cX12_laws 188 = .ok (.iload_n 1, 1) := by decide +kernel
theorem dX12_laws_189 : decode cX12_laws 189 = .ok (.imul, 1) := by decide +kernel
theorem dX12_laws_190 : decode cX12_laws 190 = .ok (.iload 4, 2) := by decide +kernel
theorem dX12_laws_192 : decode cX12_laws 192 = .ok (.iadd, 1) := by decide +kernel
theorem dX12_laws_193 : decode cX12_laws 193 = .ok (.aload_n 0, 1) := by decide +kernel
theorem dX12_laws_194 : decode cX12_laws 194 = .ok (.getfield 57, 3) := by decide +kernel
theorem dX12_laws_197 : decode cX12_laws 197 = .ok (.bipush 32, 2) := by decide +kernel
theorem dX12_laws_199 : decode cX12_laws 199 = .ok (.iload 4, 2) := by decide +kernel
theorem dX12_laws_201 : decode cX12_laws 201 = .ok (.iadd, 1) := by decide +kernel
theorem dX12_laws_202 : decode cX12_laws 202 = .ok (.iaload, 1) := by decide +kernel
theorem dX12_laws_203 : decode cX12_laws 203 = .ok (.iastore, 1) := by decide +kernel
theorem dX12_laws_204 : decode cX12_laws 204 = .ok (.iinc 4 1, 3) := by decide +kernel
theorem dX12_laws_207 : decode cX12_laws 207 = .ok (.goto (-32), 3) := by decide +kernel
theorem dX12_laws_210 : decode cX12_laws 210 = .ok (.aload_n 0, 1) := by decide +kernel
theorem dX12_laws_211 : decode cX12_laws 211 = .ok (.getfield 63, 3) := by decide +kernel
theorem dX12_laws_214 : decode cX12_laws 214 = .ok (.iload_n 1, 1) := by decide +kernel
theorem dX12_laws_215 : decode cX12_laws 215 = .ok (.aload_n 0, 1) := by decide +kernel
theorem dX12_laws_216 : decode cX12_laws 216 = .ok (.getfield 63, 3) := by decide +kernel
theorem dX12_laws_219 : decode cX12_laws 219 = .ok (.iconst 4, 1) := by decide +kernel
theorem dX12_laws_220 : decode cX12_laws 220 = .ok (.iaload, 1) := by decide +kernel
theorem dX12_laws_221 : decode cX12_laws 221 = .ok (.iastore, 1) := by decide +kernel
theorem dX12_laws_222 : decode cX12_laws 222 = .ok (.iconst 0, 1) := by decide +kernel
theorem dX12_laws_223 : decode cX12_laws 223 = .ok (.istore 4, 2) := by decide +kernel
theorem dX12_laws_225 : decode cX12_laws 225 = .ok (.iload 4, 2) := by decide +kernel
theorem dX12_laws_227 : decode cX12_laws 227 = .ok (.bipush 48, 2) := by decide +kernel
theorem dX12_laws_229 : decode cX12_laws 229 = .ok (.if_icmp .ge 32, 3) := by decide +kernel
theorem dX12_laws_232 : decode cX12_laws 232 = .ok (.aload_n 0, 1) := by decide +kernel
theorem dX12_laws_233 : decode cX12_laws 233 = .ok (.getfield 60, 3) := by decide +kernel
theorem dX12_laws_236 : decode cX12_laws 236 = .ok (.bipush 48, 2) := by decide +kernel
theorem dX12_laws_238 : decode cX12_laws 238 = .ok (.iload_n 1, 1) := by decide +kernel
theorem dX12_laws_239 : decode cX12_laws 239 = .ok (.imul, 1) := by decide +kernel
theorem dX12_laws_240 : decode cX12_laws 240 = .ok (.iload 4, 2) := by decide +kernel
theorem dX12_laws_242 : decode cX12_laws 242 = .ok (.iadd, 1) := by decide +kernel
theorem dX12_laws_243 : decode cX12_laws 243 = .ok (.aload_n 0, 1) := by decide +kernel
theorem dX12_laws_244 : decode cX12_laws 244 = .ok (.getfield 60, 3) := by decide +kernel
theorem dX12_laws_247 : decode cX12_laws 247 = .ok (.sipush 192, 3) := by decide +kernel
theorem dX12_laws_250 : decode cX12_laws 250 = .ok (.iload 4, 2) := by decide +kernel
theorem dX12_laws_252 : decode cX12_laws 252 = .ok (.iadd, 1) := by decide +kernel
theorem dX12_laws_253 : decode cX12_laws 253 = .ok (.iaload, 1) := by decide +kernel
theorem dX12_laws_254 : decode cX12_laws 254 = .ok (.iastore, 1) := by decide +kernel
theorem dX12_laws_255 : decode cX12_laws 255 = .ok (.iinc 4 1, 3) := by decide +kernel
theorem dX12_laws_258 : decode cX12_laws 258 = .ok (.goto (-33), 3) := by decide +kernel
theorem dX12_laws_261 : decode cX12_laws 261 = .ok (.iload_n 3, 1) := by decide +kernel
theorem dX12_laws_262 : decode cX12_laws 262 = .ok (.ireturn, 1) := by decide +kernel
theorem dX12_fault_0 : decode cX12_fault 0 = .ok (.iload_n 1, 1) := by decide +kernel
theorem dX12_fault_1 : decode cX12_fault 1 = .ok (.ifCond .ne 10, 3) := by decide +kernel
theorem dX12_fault_4 : decode cX12_fault 4 = .ok (.aload_n 0, 1) := by decide +kernel
theorem dX12_fault_5 : decode cX12_fault 5 = .ok (.getfield 185, 3) := by decide +kernel
theorem dX12_fault_8 : decode cX12_fault 8 = .ok (.goto 16, 3) := by decide +kernel
theorem dX12_fault_11 : decode cX12_fault 11 = .ok (.iload_n 1, 1) := by decide +kernel
theorem dX12_fault_12 : decode cX12_fault 12 = .ok (.iconst 1, 1) := by decide +kernel
theorem dX12_fault_13 : decode cX12_fault 13 = .ok (.if_icmp .ne 10, 3) := by decide +kernel
theorem dX12_fault_16 : decode cX12_fault 16 = .ok (.aload_n 0, 1) := by decide +kernel
theorem dX12_fault_17 : decode cX12_fault 17 = .ok (.getfield 13, 3) := by decide +kernel
theorem dX12_fault_20 : decode cX12_fault 20 = .ok (.goto 4, 3) := by decide +kernel
theorem dX12_fault_23 : decode cX12_fault 23 = .ok (.iconst (-1), 1) := by decide +kernel
theorem dX12_fault_24 : decode cX12_fault 24 = .ok (.ireturn, 1) := by decide +kernel
theorem dX12_law_0 : decode cX12_law 0 = .ok (.iload_n 1, 1) := by decide +kernel
theorem dX12_law_1 : decode cX12_law 1 = .ok (.invokestatic 195, 3) := by decide +kernel
theorem dX12_law_4 : decode cX12_law 4 = .ok (.ifCond .eq 13, 3) := by decide +kernel
theorem dX12_law_7 : decode cX12_law 7 = .ok (.iload_n 2, 1) := by decide +kernel
theorem dX12_law_8 : decode cX12_law 8 = .ok (.iconst 0, 1) := by decide +kernel
theorem dX12_law_9 : decode cX12_law 9 = .ok (.bipush 8, 2) := by decide +kernel
theorem dX12_law_11 : decode cX12_law 11 = .ok (.invokestatic 188, 3) := by decide +kernel
theorem dX12_law_14 : decode cX12_law 14 = .ok (.ifCond .ne 6, 3) := by decide +kernel
theorem dX12_law_17 : decode cX12_law 17 = .ok (.bipush (-9), 2) := by decide +kernel
theorem dX12_law_19 : decode cX12_law 19 = .ok (.ireturn, 1) := by decide +kernel
theorem dX12_law_20 : decode cX12_law 20 = .ok (.iload_n 2, 1) := by decide +kernel
theorem dX12_law_21 : decode cX12_law 21 = .ok (.bipush 8, 2) := by decide +kernel
theorem dX12_law_23 : decode cX12_law 23 = .ok (.if_icmp .ne 12, 3) := by decide +kernel
theorem dX12_law_26 : decode cX12_law 26 = .ok (.aload_n 0, 1) := by decide +kernel
theorem dX12_law_27 : decode cX12_law 27 = .ok (.getfield 63, 3) := by decide +kernel
theorem dX12_law_30 : decode cX12_law 30 = .ok (.iload_n 1, 1) := by decide +kernel
theorem dX12_law_31 : decode cX12_law 31 = .ok (.iaload, 1) := by decide +kernel
theorem dX12_law_32 : decode cX12_law 32 = .ok (.goto 14, 3) := by decide +kernel
theorem dX12_law_35 : decode cX12_law 35 = .ok (.aload_n 0, 1) := by decide +kernel
theorem dX12_law_36 : decode cX12_law 36 = .ok (.getfield 57, 3) := by decide +kernel
theorem dX12_law_39 : decode cX12_law 39 = .ok (.bipush 8, 2) := by decide +kernel
theorem dX12_law_41 : decode cX12_law 41 = .ok (.iload_n 1, 1) := by decide +kernel
theorem dX12_law_42 : decode cX12_law 42 = .ok (.imul, 1) := by decide +kernel
theorem dX12_law_43 : decode cX12_law 43 = .ok (.iload_n 2, 1) := by decide +kernel
theorem dX12_law_44 : decode cX12_law 44 = .ok (.iadd, 1) := by decide +kernel
theorem dX12_law_45 : decode cX12_law 45 = .ok (.iaload, 1) := by decide +kernel
theorem dX12_law_46 : decode cX12_law 46 = .ok (.ireturn, 1) := by decide +kernel
theorem dX12_isGiven_0 : decode cX12_isGiven 0 = .ok (.bipush 48, 2) := by decide +kernel
theorem dX12_isGiven_2 : decode cX12_isGiven 2 = .ok (.iload_n 1, 1) := by decide +kernel
theorem dX12_isGiven_3 : decode cX12_isGiven 3 = .ok (.imul, 1) := by decide +kernel
theorem dX12_isGiven_4 : decode cX12_isGiven 4 = .ok (.istore 5, 2) := by decide +kernel
theorem dX12_isGiven_6 : decode cX12_isGiven 6 = .ok (.iload 5, 2) := by decide +kernel
theorem dX12_isGiven_8 : decode cX12_isGiven 8 = .ok (.iconst 4, 1) := by decide +kernel
theorem dX12_isGiven_9 : decode cX12_isGiven 9 = .ok (.bipush 12, 2) := by decide +kernel
theorem dX12_isGiven_11 : decode cX12_isGiven 11 = .ok (.iload_n 1, 1) := by decide +kernel
theorem dX12_isGiven_12 : decode cX12_isGiven 12 = .ok (.imul, 1) := by decide +kernel
theorem dX12_isGiven_13 : decode cX12_isGiven 13 = .ok (.aload_n 0, 1) := by decide +kernel
theorem dX12_isGiven_14 : decode cX12_isGiven 14 = .ok (.getfield 63, 3) := by decide +kernel
theorem dX12_isGiven_17 : decode cX12_isGiven 17 = .ok (.iload_n 1, 1) := by decide +kernel
theorem dX12_isGiven_18 : decode cX12_isGiven 18 = .ok (.iaload, 1) := by decide +kernel
theorem dX12_isGiven_19 : decode cX12_isGiven 19 = .ok (.iadd, 1) := by decide +kernel
theorem dX12_isGiven_20 : decode cX12_isGiven 20 = .ok (.imul, 1) := by decide +kernel
theorem dX12_isGiven_21 : decode cX12_isGiven 21 = .ok (.if_icmp .ge 98, 3) := by decide +kernel
theorem dX12_isGiven_24 : decode cX12_isGiven 24 = .ok (.aload_n 0, 1) := by decide +kernel
theorem dX12_isGiven_25 : decode cX12_isGiven 25 = .ok (.getfield 60, 3) := by decide +kernel
theorem dX12_isGiven_28 : decode cX12_isGiven 28 = .ok (.iload 5, 2) := by decide +kernel
theorem dX12_isGiven_30 : decode cX12_isGiven 30 = .ok (.iaload, 1) := by decide +kernel
theorem dX12_isGiven_31 : decode cX12_isGiven 31 = .ok (.iload_n 2, 1) := by decide +kernel
theorem dX12_isGiven_32 : decode cX12_isGiven 32 = .ok (.if_icmp .ne 81, 3) := by decide +kernel
theorem dX12_isGiven_35 : decode cX12_isGiven 35 = .ok (.aload_n 0, 1) := by decide +kernel
theorem dX12_isGiven_36 : decode cX12_isGiven 36 = .ok (.getfield 60, 3) := by decide +kernel
theorem dX12_isGiven_39 : decode cX12_isGiven 39 = .ok (.iload 5, 2) := by decide +kernel
theorem dX12_isGiven_41 : decode cX12_isGiven 41 = .ok (.iconst 3, 1) := by decide +kernel
theorem dX12_isGiven_42 : decode cX12_isGiven 42 = .ok (.iadd, 1) := by decide +kernel
theorem dX12_isGiven_43 : decode cX12_isGiven 43 = .ok (.iaload, 1) := by decide +kernel
theorem dX12_isGiven_44 : decode cX12_isGiven 44 = .ok (.iconst 1, 1) := by decide +kernel
theorem dX12_isGiven_45 : decode cX12_isGiven 45 = .ok (.if_icmp .ne 11, 3) := by decide +kernel
theorem dX12_isGiven_48 : decode cX12_isGiven 48 = .ok (.iload 4, 2) := by decide +kernel
theorem dX12_isGiven_50 : decode cX12_isGiven 50 = .ok (.ifCond .ne 6, 3) := by decide +kernel
theorem dX12_isGiven_53 : decode cX12_isGiven 53 = .ok (.goto 60, 3) := by decide +kernel
theorem dX12_isGiven_56 : decode cX12_isGiven 56 = .ok (.aload_n 0, 1) := by decide +kernel
theorem dX12_isGiven_57 : decode cX12_isGiven 57 = .ok (.getfield 60, 3) := by decide +kernel
theorem dX12_isGiven_60 : decode cX12_isGiven 60 = .ok (.iload 5, 2) := by decide +kernel
theorem dX12_isGiven_62 : decode cX12_isGiven 62 = .ok (.iconst 1, 1) := by decide +kernel
theorem dX12_isGiven_63 : decode cX12_isGiven 63 = .ok (.iadd, 1) := by decide +kernel
theorem dX12_isGiven_64 : decode cX12_isGiven 64 = .ok (.iaload, 1) := by decide +kernel
theorem dX12_isGiven_65 : decode cX12_isGiven 65 = .ok (.istore 6, 2) := by decide +kernel
theorem dX12_isGiven_67 : decode cX12_isGiven 67 = .ok (.aload_n 0, 1) := by decide +kernel
theorem dX12_isGiven_68 : decode cX12_isGiven 68 = .ok (.getfield 60, 3) := by decide +kernel
theorem dX12_isGiven_71 : decode cX12_isGiven 71 = .ok (.iload 5, 2) := by decide +kernel
theorem dX12_isGiven_73 : decode cX12_isGiven 73 = .ok (.iconst 2, 1) := by decide +kernel
theorem dX12_isGiven_74 : decode cX12_isGiven 74 = .ok (.iadd, 1) := by decide +kernel
theorem dX12_isGiven_75 : decode cX12_isGiven 75 = .ok (.iaload, 1) := by decide +kernel
theorem dX12_isGiven_76 : decode cX12_isGiven 76 = .ok (.istore 7, 2) := by decide +kernel
theorem dX12_isGiven_78 : decode cX12_isGiven 78 = .ok (.iload 6, 2) := by decide +kernel
theorem dX12_isGiven_80 : decode cX12_isGiven 80 = .ok (.iload 7, 2) := by decide +kernel
theorem dX12_isGiven_82 : decode cX12_isGiven 82 = .ok (.if_icmp .gt 17, 3) := by decide +kernel
theorem dX12_isGiven_85 : decode cX12_isGiven 85 = .ok (.iload_n 3, 1) := by decide +kernel
theorem dX12_isGiven_86 : decode cX12_isGiven 86 = .ok (.iload 6, 2) := by decide +kernel
theorem dX12_isGiven_88 : decode cX12_isGiven 88 = .ok (.iload 7, 2) := by decide +kernel
theorem dX12_isGiven_90 : decode cX12_isGiven 90 = .ok (.invokestatic 188, 3) := by decide +kernel
theorem dX12_isGiven_93 : decode cX12_isGiven 93 = .ok (.ifCond .eq 20, 3) := by decide +kernel
theorem dX12_isGiven_96 : decode cX12_isGiven 96 = .ok (.goto 15, 3) := by decide +kernel
theorem dX12_isGiven_99 : decode cX12_isGiven 99 = .ok (.iload_n 3, 1) := by decide +kernel
theorem dX12_isGiven_100 : decode cX12_isGiven 100 = .ok (.iload 6, 2) := by decide +kernel
theorem dX12_isGiven_102 : decode cX12_isGiven 102 = .ok (.if_icmp .ge 9, 3) := by decide +kernel
theorem dX12_isGiven_105 : decode cX12_isGiven 105 = .ok (.iload_n 3, 1) := by decide +kernel
theorem dX12_isGiven_106 : decode cX12_isGiven 106 = .ok (.iload 7, 2) := by decide +kernel
theorem dX12_isGiven_108 : decode cX12_isGiven 108 = .ok (.if_icmp .gt 5, 3) := by decide +kernel
theorem dX12_isGiven_111 : decode cX12_isGiven 111 = .ok (.iconst 1, 1) := by decide +kernel
theorem dX12_isGiven_112 : decode cX12_isGiven 112 = .ok (.ireturn, 1) := by decide +kernel
theorem dX12_isGiven_113 : decode cX12_isGiven 113 = .ok (.iinc 5 4, 3) := by decide +kernel
theorem dX12_isGiven_116 : decode cX12_isGiven 116 = .ok (.goto (-110), 3) := by decide +kernel
theorem dX12_isGiven_119 : decode cX12_isGiven 119 = .ok (.iconst 0, 1) := by decide +kernel
theorem dX12_isGiven_120 : decode cX12_isGiven 120 = .ok (.ireturn, 1) := by decide +kernel
theorem dX12_may_0 : decode cX12_may 0 = .ok (.iload_n 1, 1) := by decide +kernel
theorem dX12_may_1 : decode cX12_may 1 = .ok (.invokestatic 195, 3) := by decide +kernel
theorem dX12_may_4 : decode cX12_may 4 = .ok (.ifCond .eq 22, 3) := by decide +kernel
theorem dX12_may_7 : decode cX12_may 7 = .ok (.iload_n 2, 1) := by decide +kernel
theorem dX12_may_8 : decode cX12_may 8 = .ok (.iconst 0, 1) := by decide +kernel
theorem dX12_may_9 : decode cX12_may 9 = .ok (.iconst 2, 1) := by decide +kernel
theorem dX12_may_10 : decode cX12_may 10 = .ok (.invokestatic 188, 3) := by decide +kernel
theorem dX12_may_13 : decode cX12_may 13 = .ok (.ifCond .eq 13, 3) := by decide +kernel
theorem dX12_may_16 : decode cX12_may 16 = .ok (.iload_n 3, 1) := by decide +kernel
theorem dX12_may_17 : decode cX12_may 17 = .ok (.iconst 0, 1) := by decide +kernel
theorem dX12_may_18 : decode cX12_may 18 = .ok (.bipush 23, 2) := by decide +kernel
theorem dX12_may_20 : decode cX12_may 20 = .ok (.invokestatic 188, 3) := by decide +kernel
theorem dX12_may_23 : decode cX12_may 23 = .ok (.ifCond .ne 6, 3) := by decide +kernel
theorem dX12_may_26 : decode cX12_may 26 = .ok (.bipush (-2), 2) := by decide +kernel
theorem dX12_may_28 : decode cX12_may 28 = .ok (.ireturn, 1) := by decide +kernel
theorem dX12_may_29 : decode cX12_may 29 = .ok (.aload_n 0, 1) := by decide +kernel
theorem dX12_may_30 : decode cX12_may 30 = .ok (.iload_n 1, 1) := by decide +kernel
theorem dX12_may_31 : decode cX12_may 31 = .ok (.iload_n 2, 1) := by decide +kernel
theorem dX12_may_32 : decode cX12_may 32 = .ok (.iload_n 3, 1) := by decide +kernel
theorem dX12_may_33 : decode cX12_may 33 = .ok (.iload 4, 2) := by decide +kernel
theorem dX12_may_35 : decode cX12_may 35 = .ok (.invokevirtual 256, 3) := by decide +kernel
theorem dX12_may_38 : decode cX12_may 38 = .ok (.ifCond .eq 7, 3) := by decide +kernel
theorem dX12_may_41 : decode cX12_may 41 = .ok (.iconst 1, 1) := by decide +kernel
theorem dX12_may_42 : decode cX12_may 42 = .ok (.goto 4, 3) := by decide +kernel
theorem dX12_may_45 : decode cX12_may 45 = .ok (.iconst 0, 1) := by decide +kernel
theorem dX12_may_46 : decode cX12_may 46 = .ok (.ireturn, 1) := by decide +kernel
theorem dX12_isHouse_0 : decode cX12_isHouse 0 = .ok (.iload_n 1, 1) := by decide +kernel
theorem dX12_isHouse_1 : decode cX12_isHouse 1 = .ok (.iconst 0, 1) := by decide +kernel
theorem dX12_isHouse_2 : decode cX12_isHouse 2 = .ok (.aload_n 0, 1) := by decide +kernel
theorem dX12_isHouse_3 : decode cX12_isHouse 3 = .ok (.getfield 260, 3) := by decide +kernel
theorem dX12_isHouse_6 : decode cX12_isHouse 6 = .ok (.iconst 1, 1) := by decide +kernel
theorem dX12_isHouse_7 : decode cX12_isHouse 7 = .ok (.isub, 1) := by decide +kernel
theorem dX12_isHouse_8 : decode cX12_isHouse 8 = .ok (.invokestatic 188, 3) := by decide +kernel
theorem dX12_isHouse_11 : decode cX12_isHouse 11 = .ok (.ireturn, 1) := by decide +kernel
theorem dX12_house_0 : decode cX12_house 0 = .ok (.iload_n 1, 1) := by decide +kernel
theorem dX12_house_1 : decode cX12_house 1 = .ok (.invokestatic 195, 3) := by decide +kernel
theorem dX12_house_4 : decode cX12_house 4 = .ok (.ifCond .eq 16, 3) := by decide +kernel
theorem dX12_house_7 : decode cX12_house 7 = .ok (.iload_n 2, 1) := by decide +kernel
theorem dX12_house_8 : decode cX12_house 8 = .ok (.sipush 1500, 3) := by decide +kernel
theorem dX12_house_11 : decode cX12_house 11 = .ok (.sipush 1799, 3) := by decide +kernel
theorem dX12_house_14 : decode cX12_house 14 = .ok (.invokestatic 188, 3) := by decide +kernel
theorem dX12_house_17 : decode cX12_house 17 = .ok (.ifCond .ne 6, 3) := by decide +kernel
theorem dX12_house_20 : decode cX12_house 20 = .ok (.bipush (-2), 2) := by decide +kernel
theorem dX12_house_22 : decode cX12_house 22 = .ok (.ireturn, 1) := by decide +kernel
theorem dX12_house_23 : decode cX12_house 23 = .ok (.aload_n 0, 1) := by decide +kernel
theorem dX12_house_24 : decode cX12_house 24 = .ok (.getfield 260, 3) := by decide +kernel
theorem dX12_house_27 : decode cX12_house 27 = .ok (.bipush 60, 2) := by decide +kernel
theorem dX12_house_29 : decode cX12_house 29 = .ok (.if_icmp .ne 6, 3) := by decide +kernel
theorem dX12_house_32 : decode cX12_house 32 = .ok (.bipush (-3), 2) := by decide +kernel
theorem dX12_house_34 : decode cX12_house 34 = .ok (.ireturn, 1) := by decide +kernel
theorem dX12_house_35 : decode cX12_house 35 = .ok (.aload_n 0, 1) := by decide +kernel
theorem dX12_house_36 : decode cX12_house 36 = .ok (.getfield 66, 3) := by decide +kernel
theorem dX12_house_39 : decode cX12_house 39 = .ok (.aload_n 0, 1) := by decide +kernel
theorem dX12_house_40 : decode cX12_house 40 = .ok (.getfield 260, 3) := by decide +kernel
theorem dX12_house_43 : decode cX12_house 43 = .ok (.iload_n 1, 1) := by decide +kernel
theorem dX12_house_44 : decode cX12_house 44 = .ok (.iastore, 1) := by decide +kernel
theorem dX12_house_45 : decode cX12_house 45 = .ok (.aload_n 0, 1) := by decide +kernel
theorem dX12_house_46 : decode cX12_house 46 = .ok (.getfield 69, 3) := by decide +kernel
theorem dX12_house_49 : decode cX12_house 49 = .ok (.aload_n 0, 1) := by decide +kernel
theorem dX12_house_50 : decode cX12_house 50 = .ok (.getfield 260, 3) := by decide +kernel
theorem dX12_house_53 : decode cX12_house 53 = .ok (.iload_n 2, 1) := by decide +kernel
theorem dX12_house_54 : decode cX12_house 54 = .ok (.iastore, 1) := by decide +kernel
theorem dX12_house_55 : decode cX12_house 55 = .ok (.aload_n 0, 1) := by decide +kernel
theorem dX12_house_56 : decode cX12_house 56 = .ok (.getfield 78, 3) := by decide +kernel
theorem dX12_house_59 : decode cX12_house 59 = .ok (.aload_n 0, 1) := by decide +kernel
theorem dX12_house_60 : decode cX12_house 60 = .ok (.getfield 260, 3) := by decide +kernel
theorem dX12_house_63 : decode cX12_house 63 = .ok (.iconst (-1), 1) := by decide +kernel
theorem dX12_house_64 : decode cX12_house 64 = .ok (.iastore, 1) := by decide +kernel
theorem dX12_house_65 : decode cX12_house 65 = .ok (.aload_n 0, 1) := by decide +kernel
theorem dX12_house_66 : decode cX12_house 66 = .ok (.dup, 1) := by decide +kernel
theorem dX12_house_67 : decode cX12_house 67 = .ok (.getfield 260, 3) := by decide +kernel
theorem dX12_house_70 : decode cX12_house 70 = .ok (.iconst 1, 1) := by decide +kernel
theorem dX12_house_71 : decode cX12_house 71 = .ok (.iadd, 1) := by decide +kernel
theorem dX12_house_72 : decode cX12_house 72 = .ok (.putfield 260, 3) := by decide +kernel
theorem dX12_house_75 : decode cX12_house 75 = .ok (.aload_n 0, 1) := by decide +kernel
theorem dX12_house_76 : decode cX12_house 76 = .ok (.getfield 260, 3) := by decide +kernel
theorem dX12_house_79 : decode cX12_house 79 = .ok (.iconst 1, 1) := by decide +kernel
theorem dX12_house_80 : decode cX12_house 80 = .ok (.isub, 1) := by decide +kernel
theorem dX12_house_81 : decode cX12_house 81 = .ok (.ireturn, 1) := by decide +kernel
theorem dX12_purse_0 : decode cX12_purse 0 = .ok (.aload_n 0, 1) := by decide +kernel
theorem dX12_purse_1 : decode cX12_purse 1 = .ok (.iload_n 1, 1) := by decide +kernel
theorem dX12_purse_2 : decode cX12_purse 2 = .ok (.invokevirtual 263, 3) := by decide +kernel
theorem dX12_purse_5 : decode cX12_purse 5 = .ok (.ifCond .eq 27, 3) := by decide +kernel
theorem dX12_purse_8 : decode cX12_purse 8 = .ok (.iload_n 2, 1) := by decide +kernel
theorem dX12_purse_9 : decode cX12_purse 9 = .ok (.iconst 1, 1) := by decide +kernel
theorem dX12_purse_10 : decode cX12_purse 10 = .ok (.ldc_w 266, 3) := by decide +kernel
theorem dX12_purse_13 : decode cX12_purse 13 = .ok (.invokestatic 188, 3) := by decide +kernel
theorem dX12_purse_16 : decode cX12_purse 16 = .ok (.ifCond .eq 16, 3) := by decide +kernel
theorem dX12_purse_19 : decode cX12_purse 19 = .ok (.aload_n 0, 1) := by decide +kernel
theorem dX12_purse_20 : decode cX12_purse 20 = .ok (.getfield 72, 3) := by decide +kernel
theorem dX12_purse_23 : decode cX12_purse 23 = .ok (.iload_n 1, 1) := by decide +kernel
theorem dX12_purse_24 : decode cX12_purse 24 = .ok (.iaload, 1) := by decide +kernel
theorem dX12_purse_25 : decode cX12_purse 25 = .ok (.iload_n 2, 1) := by decide +kernel
theorem dX12_purse_26 : decode cX12_purse 26 = .ok (.iadd, 1) := by decide +kernel
theorem dX12_purse_27 : decode cX12_purse 27 = .ok (.ldc 198, 2) := by decide +kernel
theorem dX12_purse_29 : decode cX12_purse 29 = .ok (.if_icmp .le 6, 3) := by decide +kernel
theorem dX12_purse_32 : decode cX12_purse 32 = .ok (.bipush (-2), 2) := by decide +kernel
theorem dX12_purse_34 : decode cX12_purse 34 = .ok (.ireturn, 1) := by decide +kernel
theorem dX12_purse_35 : decode cX12_purse 35 = .ok (.aload_n 0, 1) := by decide +kernel
theorem dX12_purse_36 : decode cX12_purse 36 = .ok (.getfield 72, 3) := by decide +kernel
theorem dX12_purse_39 : decode cX12_purse 39 = .ok (.iload_n 1, 1) := by decide +kernel
theorem dX12_purse_40 : decode cX12_purse 40 = .ok (.dup2, 1) := by decide +kernel
theorem dX12_purse_41 : decode cX12_purse 41 = .ok (.iaload, 1) := by decide +kernel
theorem dX12_purse_42 : decode cX12_purse 42 = .ok (.iload_n 2, 1) := by decide +kernel
theorem dX12_purse_43 : decode cX12_purse 43 = .ok (.iadd, 1) := by decide +kernel
theorem dX12_purse_44 : decode cX12_purse 44 = .ok (.iastore, 1) := by decide +kernel
theorem dX12_purse_45 : decode cX12_purse 45 = .ok (.aload_n 0, 1) := by decide +kernel
theorem dX12_purse_46 : decode cX12_purse 46 = .ok (.getfield 72, 3) := by decide +kernel
theorem dX12_purse_49 : decode cX12_purse 49 = .ok (.iload_n 1, 1) := by decide +kernel
theorem dX12_purse_50 : decode cX12_purse 50 = .ok (.iaload, 1) := by decide +kernel
theorem dX12_purse_51 : decode cX12_purse 51 = .ok (.ireturn, 1) := by decide +kernel
theorem dX12_would_0 : decode cX12_would 0 = .ok (.aload_n 0, 1) := by decide +kernel
theorem dX12_would_1 : decode cX12_would 1 = .ok (.iload_n 1, 1) := by decide +kernel
theorem dX12_would_2 : decode cX12_would 2 = .ok (.invokevirtual 263, 3) := by decide +kernel
theorem dX12_would_5 : decode cX12_would 5 = .ok (.ifCond .eq 12, 3) := by decide +kernel
theorem dX12_would_8 : decode cX12_would 8 = .ok (.iload_n 2, 1) := by decide +kernel
theorem dX12_would_9 : decode cX12_would 9 = .ok (.iconst 0, 1) := by decide +kernel
theorem dX12_would_10 : decode cX12_would 10 = .ok (.iconst 2, 1) := by decide +kernel
theorem dX12_would_11 : decode cX12_would 11 = .ok (.invokestatic 188, 3) := by decide +kernel
theorem dX12_would_14 : decode cX12_would 14 = .ok (.ifCond .ne 6, 3) := by decide +kernel
theorem dX12_would_17 : decode cX12_would 17 = .ok (.bipush (-2), 2) := by decide +kernel
theorem dX12_would_19 : decode cX12_would 19 = .ok (.ireturn, 1) := by decide +kernel
theorem dX12_would_20 : decode cX12_would 20 = .ok (.aload_n 0, 1) := by decide +kernel
theorem dX12_would_21 : decode cX12_would 21 = .ok (.getfield 75, 3) := by decide +kernel
theorem dX12_would_24 : decode cX12_would 24 = .ok (.iload_n 1, 1) := by decide +kernel
theorem dX12_would_25 : decode cX12_would 25 = .ok (.iaload, 1) := by decide +kernel
theorem dX12_would_26 : decode cX12_would 26 = .ok (.istore_n 3, 1) := by decide +kernel
theorem dX12_would_27 : decode cX12_would 27 = .ok (.aload_n 0, 1) := by decide +kernel
theorem dX12_would_28 : decode cX12_would 28 = .ok (.getfield 75, 3) := by decide +kernel
theorem dX12_would_31 : decode cX12_would 31 = .ok (.iload_n 1, 1) := by decide +kernel
theorem dX12_would_32 : decode cX12_would 32 = .ok (.iload_n 2, 1) := by decide +kernel
theorem dX12_would_33 : decode cX12_would 33 = .ok (.iastore, 1) := by decide +kernel
theorem dX12_would_34 : decode cX12_would 34 = .ok (.iload_n 3, 1) := by decide +kernel
theorem dX12_would_35 : decode cX12_would 35 = .ok (.ireturn, 1) := by decide +kernel
theorem dX12_fill_0 : decode cX12_fill 0 = .ok (.iload_n 1, 1) := by decide +kernel
theorem dX12_fill_1 : decode cX12_fill 1 = .ok (.invokestatic 195, 3) := by decide +kernel
theorem dX12_fill_4 : decode cX12_fill 4 = .ok (.ifCond .ne 6, 3) := by decide +kernel
theorem dX12_fill_7 : decode cX12_fill 7 = .ok (.bipush (-2), 2) := by decide +kernel
theorem dX12_fill_9 : decode cX12_fill 9 = .ok (.ireturn, 1) := by decide +kernel
theorem dX12_fill_10 : decode cX12_fill 10 = .ok (.aload_n 0, 1) := by decide +kernel
theorem dX12_fill_11 : decode cX12_fill 11 = .ok (.getfield 84, 3) := by decide +kernel
theorem dX12_fill_14 : decode cX12_fill 14 = .ok (.iload_n 1, 1) := by decide +kernel
theorem dX12_fill_15 : decode cX12_fill 15 = .ok (.iaload, 1) := by decide +kernel
theorem dX12_fill_16 : decode cX12_fill 16 = .ok (.iconst (-1), 1) := by decide +kernel
theorem dX12_fill_17 : decode cX12_fill 17 = .ok (.if_icmp .ne 7, 3) := by decide +kernel
theorem dX12_fill_20 : decode cX12_fill 20 = .ok (.iconst 1, 1) := by decide +kernel
theorem dX12_fill_21 : decode cX12_fill 21 = .ok (.goto 4, 3) := by decide +kernel
theorem dX12_fill_24 : decode cX12_fill 24 = .ok (.iconst 0, 1) := by decide +kernel
theorem dX12_fill_25 : decode cX12_fill 25 = .ok (.istore_n 3, 1) := by decide +kernel
theorem dX12_fill_26 : decode cX12_fill 26 = .ok (.iload_n 3, 1) := by decide +kernel
theorem dX12_fill_27 : decode cX12_fill 27 = .ok (.ifCond .eq 7, 3) := by decide +kernel
theorem dX12_fill_30 : decode cX12_fill 30 = .ok (.iload_n 2, 1) := by decide +kernel
theorem dX12_fill_31 : decode cX12_fill 31 = .ok (.goto 11, 3) := by decide +kernel
theorem dX12_fill_34 : decode cX12_fill 34 = .ok (.aload_n 0, 1) := by decide +kernel
theorem dX12_fill_35 : decode cX12_fill 35 = .ok (.getfield 84, 3) := by decide +kernel
theorem dX12_fill_38 : decode cX12_fill 38 = .ok (.iload_n 1, 1) := by decide +kernel
theorem dX12_fill_39 : decode cX12_fill 39 = .ok (.iaload, 1) := by decide +kernel
theorem dX12_fill_40 : decode cX12_fill 40 = .ok (.iconst 1, 1) := by decide +kernel
theorem dX12_fill_41 : decode cX12_fill 41 = .ok (.iadd, 1) := by decide +kernel
theorem dX12_fill_42 : decode cX12_fill 42 = .ok (.istore 4, 2) := by decide +kernel
theorem dX12_fill_44 : decode cX12_fill 44 = .ok (.iload 4, 2) := by decide +kernel
theorem dX12_fill_46 : decode cX12_fill 46 = .ok (.sipush 1600, 3) := by decide +kernel
theorem dX12_fill_49 : decode cX12_fill 49 = .ok (.sipush 1799, 3) := by decide +kernel
theorem dX12_fill_52 : decode cX12_fill 52 = .ok (.invokestatic 188, 3) := by decide +kernel
theorem dX12_fill_55 : decode cX12_fill 55 = .ok (.ifCond .eq 18, 3) := by decide +kernel
theorem dX12_fill_58 : decode cX12_fill 58 = .ok (.iload_n 3, 1) := by decide +kernel
theorem dX12_fill_59 : decode cX12_fill 59 = .ok (.ifCond .ne 17, 3) := by decide +kernel
theorem dX12_fill_62 : decode cX12_fill 62 = .ok (.iload_n 2, 1) := by decide +kernel
theorem dX12_fill_63 : decode cX12_fill 63 = .ok (.iconst (-1), 1) := by decide +kernel
theorem dX12_fill_64 : decode cX12_fill 64 = .ok (.if_icmp .eq 12, 3) := by decide +kernel
theorem dX12_fill_67 : decode cX12_fill 67 = .ok (.iload_n 2, 1) := by decide +kernel
theorem dX12_fill_68 : decode cX12_fill 68 = .ok (.iload 4, 2) := by decide +kernel
theorem dX12_fill_70 : decode cX12_fill 70 = .ok (.if_icmp .eq 6, 3) := by decide +kernel
theorem dX12_fill_73 : decode cX12_fill 73 = .ok (.bipush (-2), 2) := by decide +kernel
theorem dX12_fill_75 : decode cX12_fill 75 = .ok (.ireturn, 1) := by decide +kernel
theorem dX12_fill_76 : decode cX12_fill 76 = .ok (.iload_n 3, 1) := by decide +kernel
theorem dX12_fill_77 : decode cX12_fill 77 = .ok (.ifCond .eq 11, 3) := by decide +kernel
theorem dX12_fill_80 : decode cX12_fill 80 = .ok (.aload_n 0, 1) := by decide +kernel
theorem dX12_fill_81 : decode cX12_fill 81 = .ok (.getfield 90, 3) := by decide +kernel
theorem dX12_fill_84 : decode cX12_fill 84 = .ok (.iload_n 1, 1) := by decide +kernel
theorem dX12_fill_85 : decode cX12_fill 85 = .ok (.iload 4, 2) := by decide +kernel
theorem dX12_fill_87 : decode cX12_fill 87 = .ok (.iastore, 1) := by decide +kernel
theorem dX12_fill_88 : decode cX12_fill 88 = .ok (.aload_n 0, 1) := by decide +kernel
theorem dX12_fill_89 : decode cX12_fill 89 = .ok (.getfield 84, 3) := by decide +kernel
theorem dX12_fill_92 : decode cX12_fill 92 = .ok (.iload_n 1, 1) := by decide +kernel
theorem dX12_fill_93 : decode cX12_fill 93 = .ok (.iload 4, 2) := by decide +kernel
theorem dX12_fill_95 : decode cX12_fill 95 = .ok (.iastore, 1) := by decide +kernel
theorem dX12_fill_96 : decode cX12_fill 96 = .ok (.sipush 200, 3) := by decide +kernel
theorem dX12_fill_99 : decode cX12_fill 99 = .ok (.iload_n 1, 1) := by decide +kernel
theorem dX12_fill_100 : decode cX12_fill 100 = .ok (.imul, 1) := by decide +kernel
theorem dX12_fill_101 : decode cX12_fill 101 = .ok (.iload 4, 2) := by decide +kernel
theorem dX12_fill_103 : decode cX12_fill 103 = .ok (.iadd, 1) := by decide +kernel
theorem dX12_fill_104 : decode cX12_fill 104 = .ok (.sipush 1600, 3) := by decide +kernel
theorem dX12_fill_107 : decode cX12_fill 107 = .ok (.isub, 1) := by decide +kernel
theorem dX12_fill_108 : decode cX12_fill 108 = .ok (.istore 5, 2) := by decide +kernel
theorem dX12_fill_110 : decode cX12_fill 110 = .ok (.aload_n 0, 1) := by decide +kernel
theorem dX12_fill_111 : decode cX12_fill 111 = .ok (.getfield 93, 3) := by decide +kernel
theorem dX12_fill_114 : decode cX12_fill 114 = .ok (.iload 5, 2) := by decide +kernel
theorem dX12_fill_116 : decode cX12_fill 116 = .ok (.iconst (-1), 1) := by decide +kernel
theorem dX12_fill_117 : decode cX12_fill 117 = .ok (.iastore, 1) := by decide +kernel
theorem dX12_fill_118 : decode cX12_fill 118 = .ok (.aload_n 0, 1) := by decide +kernel
theorem dX12_fill_119 : decode cX12_fill 119 = .ok (.getfield 96, 3) := by decide +kernel
theorem dX12_fill_122 : decode cX12_fill 122 = .ok (.iload 5, 2) := by decide +kernel
theorem dX12_fill_124 : decode cX12_fill 124 = .ok (.iconst 0, 1) := by decide +kernel
theorem dX12_fill_125 : decode cX12_fill 125 = .ok (.bastore, 1) := by decide +kernel
theorem dX12_fill_126 : decode cX12_fill 126 = .ok (.aload_n 0, 1) := by decide +kernel
theorem dX12_fill_127 : decode cX12_fill 127 = .ok (.getfield 100, 3) := by decide +kernel
theorem dX12_fill_130 : decode cX12_fill 130 = .ok (.iload 5, 2) := by decide +kernel
theorem dX12_fill_132 : decode cX12_fill 132 = .ok (.iconst 0, 1) := by decide +kernel
theorem dX12_fill_133 : decode cX12_fill 133 = .ok (.iastore, 1) := by decide +kernel
theorem dX12_fill_134 : decode cX12_fill 134 = .ok (.aload_n 0, 1) := by decide +kernel
theorem dX12_fill_135 : decode cX12_fill 135 = .ok (.getfield 87, 3) := by decide +kernel
theorem dX12_fill_138 : decode cX12_fill 138 = .ok (.iload_n 1, 1) := by decide +kernel
theorem dX12_fill_139 : decode cX12_fill 139 = .ok (.iaload, 1) := by decide +kernel
theorem dX12_fill_140 : decode cX12_fill 140 = .ok (.iconst 1, 1) := by decide +kernel
theorem dX12_fill_141 : decode cX12_fill 141 = .ok (.iadd, 1) := by decide +kernel
theorem dX12_fill_142 : decode cX12_fill 142 = .ok (.istore 6, 2) := by decide +kernel
theorem dX12_fill_144 : decode cX12_fill 144 = .ok (.iconst 0, 1) := by decide +kernel
theorem dX12_fill_145 : decode cX12_fill 145 = .ok (.istore 7, 2) := by decide +kernel
theorem dX12_fill_147 : decode cX12_fill 147 = .ok (.iload 7, 2) := by decide +kernel
theorem dX12_fill_149 : decode cX12_fill 149 = .ok (.aload_n 0, 1) := by decide +kernel
theorem dX12_fill_150 : decode cX12_fill 150 = .ok (.getfield 260, 3) := by decide +kernel
theorem dX12_fill_153 : decode cX12_fill 153 = .ok (.if_icmp .ge 128, 3) := by decide +kernel
theorem dX12_fill_156 : decode cX12_fill 156 = .ok (.aload_n 0, 1) := by decide +kernel
theorem dX12_fill_157 : decode cX12_fill 157 = .ok (.getfield 93, 3) := by decide +kernel
theorem dX12_fill_160 : decode cX12_fill 160 = .ok (.iload 5, 2) := by decide +kernel
theorem dX12_fill_162 : decode cX12_fill 162 = .ok (.iaload, 1) := by decide +kernel
theorem dX12_fill_163 : decode cX12_fill 163 = .ok (.iconst (-1), 1) := by decide +kernel
theorem dX12_fill_164 : decode cX12_fill 164 = .ok (.if_icmp .ne 117, 3) := by decide +kernel
theorem dX12_fill_167 : decode cX12_fill 167 = .ok (.iload 6, 2) := by decide +kernel
theorem dX12_fill_169 : decode cX12_fill 169 = .ok (.iload 7, 2) := by decide +kernel
theorem dX12_fill_171 : decode cX12_fill 171 = .ok (.iadd, 1) := by decide +kernel
theorem dX12_fill_172 : decode cX12_fill 172 = .ok (.aload_n 0, 1) := by decide +kernel
theorem dX12_fill_173 : decode cX12_fill 173 = .ok (.getfield 260, 3) := by decide +kernel
theorem dX12_fill_176 : decode cX12_fill 176 = .ok (.irem, 1) := by decide +kernel
theorem dX12_fill_177 : decode cX12_fill 177 = .ok (.istore 8, 2) := by decide +kernel
theorem dX12_fill_179 : decode cX12_fill 179 = .ok (.aload_n 0, 1) := by decide +kernel
theorem dX12_fill_180 : decode cX12_fill 180 = .ok (.getfield 66, 3) := by decide +kernel
theorem dX12_fill_183 : decode cX12_fill 183 = .ok (.iload 8, 2) := by decide +kernel
theorem dX12_fill_185 : decode cX12_fill 185 = .ok (.iaload, 1) := by decide +kernel
theorem dX12_fill_186 : decode cX12_fill 186 = .ok (.iload_n 1, 1) := by decide +kernel
theorem dX12_fill_187 : decode cX12_fill 187 = .ok (.if_icmp .ne 88, 3) := by decide +kernel
theorem dX12_fill_190 : decode cX12_fill 190 = .ok (.iload 4, 2) := by decide +kernel
theorem dX12_fill_192 : decode cX12_fill 192 = .ok (.aload_n 0, 1) := by decide +kernel
theorem dX12_fill_193 : decode cX12_fill 193 = .ok (.getfield 69, 3) := by decide +kernel
theorem dX12_fill_196 : decode cX12_fill 196 = .ok (.iload 8, 2) := by decide +kernel
theorem dX12_fill_198 : decode cX12_fill 198 = .ok (.iaload, 1) := by decide +kernel
theorem dX12_fill_199 : decode cX12_fill 199 = .ok (.isub, 1) := by decide +kernel
theorem dX12_fill_200 : decode cX12_fill 200 = .ok (.aload_n 0, 1) := by decide +kernel
theorem dX12_fill_201 : decode cX12_fill 201 = .ok (.getfield 57, 3) := by decide +kernel
theorem dX12_fill_204 : decode cX12_fill 204 = .ok (.bipush 8, 2) := by decide +kernel
theorem dX12_fill_206 : decode cX12_fill 206 = .ok (.iload_n 1, 1) := by decide +kernel
theorem dX12_fill_207 : decode cX12_fill 207 = .ok (.imul, 1) := by decide +kernel
theorem dX12_fill_208 : decode cX12_fill 208 = .ok (.iaload, 1) := by decide +kernel
theorem dX12_fill_209 : decode cX12_fill 209 = .ok (.aload_n 0, 1) := by decide +kernel
theorem dX12_fill_210 : decode cX12_fill 210 = .ok (.getfield 57, 3) := by decide +kernel
theorem dX12_fill_213 : decode cX12_fill 213 = .ok (.bipush 8, 2) := by decide +kernel
theorem dX12_fill_215 : decode cX12_fill 215 = .ok (.iload_n 1, 1) := by decide +kernel
theorem dX12_fill_216 : decode cX12_fill 216 = .ok (.imul, 1) := by decide +kernel
theorem dX12_fill_217 : decode cX12_fill 217 = .ok (.iconst 1, 1) := by decide +kernel
theorem dX12_fill_218 : decode cX12_fill 218 = .ok (.iadd, 1) := by decide +kernel
theorem dX12_fill_219 : decode cX12_fill 219 = .ok (.iaload, 1) := by decide +kernel
theorem dX12_fill_220 : decode cX12_fill 220 = .ok (.invokestatic 188, 3) := by decide +kernel
theorem dX12_fill_223 : decode cX12_fill 223 = .ok (.ifCond .eq 52, 3) := by decide +kernel
theorem dX12_fill_226 : decode cX12_fill 226 = .ok (.aload_n 0, 1) := by decide +kernel
theorem dX12_fill_227 : decode cX12_fill 227 = .ok (.getfield 78, 3) := by decide +kernel
theorem dX12_fill_230 : decode cX12_fill 230 = .ok (.iload 8, 2) := by decide +kernel
theorem dX12_fill_232 : decode cX12_fill 232 = .ok (.iaload, 1) := by decide +kernel
theorem dX12_fill_233 : decode cX12_fill 233 = .ok (.iconst (-1), 1) := by decide +kernel
theorem dX12_fill_234 : decode cX12_fill 234 = .ok (.if_icmp .eq 30, 3) := by decide +kernel
theorem dX12_fill_237 : decode cX12_fill 237 = .ok (.iload 4, 2) := by decide +kernel
theorem dX12_fill_239 : decode cX12_fill 239 = .ok (.aload_n 0, 1) := by decide +kernel
theorem dX12_fill_240 : decode cX12_fill 240 = .ok (.getfield 78, 3) := by decide +kernel
theorem dX12_fill_243 : decode cX12_fill 243 = .ok (.iload 8, 2) := by decide +kernel
theorem dX12_fill_245 : decode cX12_fill 245 = .ok (.iaload, 1) := by decide +kernel
theorem dX12_fill_246 : decode cX12_fill 246 = .ok (.isub, 1) := by decide +kernel
theorem dX12_fill_247 : decode cX12_fill 247 = .ok (.aload_n 0, 1) := by decide +kernel
theorem dX12_fill_248 : decode cX12_fill 248 = .ok (.getfield 57, 3) := by decide +kernel
theorem dX12_fill_251 : decode cX12_fill 251 = .ok (.bipush 8, 2) := by decide +kernel
theorem dX12_fill_253 : decode cX12_fill 253 = .ok (.iload_n 1, 1) := by decide +kernel
theorem dX12_fill_254 : decode cX12_fill 254 = .ok (.imul, 1) := by decide +kernel
theorem dX12_fill_255 : decode cX12_fill 255 = .ok (.iconst 2, 1) := by decide +kernel
theorem dX12_fill_256 : decode cX12_fill 256 = .ok (.iadd, 1) := by decide +kernel
theorem dX12_fill_257 : decode cX12_fill 257 = .ok (.iaload, 1) := by decide +kernel
theorem dX12_fill_258 : decode cX12_fill 258 = .ok (.if_icmp .gt 6, 3) := by decide +kernel
theorem dX12_fill_261 : decode cX12_fill 261 = .ok (.goto 14, 3) := by decide +kernel
theorem dX12_fill_264 : decode cX12_fill 264 = .ok (.aload_n 0, 1) := by decide +kernel
theorem dX12_fill_265 : decode cX12_fill 265 = .ok (.iload 8, 2) := by decide +kernel
theorem dX12_fill_267 : decode cX12_fill 267 = .ok (.iload_n 1, 1) := by decide +kernel
theorem dX12_fill_268 : decode cX12_fill 268 = .ok (.iload 5, 2) := by decide +kernel
theorem dX12_fill_270 : decode cX12_fill 270 = .ok (.iload 4, 2) := by decide +kernel
theorem dX12_fill_272 : decode cX12_fill 272 = .ok (.invokevirtual 267, 3) := by decide +kernel
theorem dX12_fill_275 : decode cX12_fill 275 = .ok (.iinc 7 1, 3) := by decide +kernel
theorem dX12_fill_278 : decode cX12_fill 278 = .ok (.goto (-131), 3) := by decide +kernel
theorem dX12_fill_281 : decode cX12_fill 281 = .ok (.aload_n 0, 1) := by decide +kernel
theorem dX12_fill_282 : decode cX12_fill 282 = .ok (.getfield 93, 3) := by decide +kernel
theorem dX12_fill_285 : decode cX12_fill 285 = .ok (.iload 5, 2) := by decide +kernel
theorem dX12_fill_287 : decode cX12_fill 287 = .ok (.iaload, 1) := by decide +kernel
theorem dX12_fill_288 : decode cX12_fill 288 = .ok (.ireturn, 1) := by decide +kernel
theorem dX12_turns_0 : decode cX12_turns 0 = .ok (.aload_n 0, 1) := by decide +kernel
theorem dX12_turns_1 : decode cX12_turns 1 = .ok (.getfield 57, 3) := by decide +kernel
theorem dX12_turns_4 : decode cX12_turns 4 = .ok (.bipush 8, 2) := by decide +kernel
theorem dX12_turns_6 : decode cX12_turns 6 = .ok (.iload_n 2, 1) := by decide +kernel
theorem dX12_turns_7 : decode cX12_turns 7 = .ok (.imul, 1) := by decide +kernel
theorem dX12_turns_8 : decode cX12_turns 8 = .ok (.iconst 4, 1) := by decide +kernel
theorem dX12_turns_9 : decode cX12_turns 9 = .ok (.iadd, 1) := by decide +kernel
theorem dX12_turns_10 : decode cX12_turns 10 = .ok (.iaload, 1) := by decide +kernel
theorem dX12_turns_11 : decode cX12_turns 11 = .ok (.istore 5, 2) := by decide +kernel
theorem dX12_turns_13 : decode cX12_turns 13 = .ok (.aload_n 0, 1) := by decide +kernel
theorem dX12_turns_14 : decode cX12_turns 14 = .ok (.getfield 57, 3) := by decide +kernel
theorem dX12_turns_17 : decode cX12_turns 17 = .ok (.bipush 8, 2) := by decide +kernel
theorem dX12_turns_19 : decode cX12_turns 19 = .ok (.iload_n 2, 1) := by decide +kernel
theorem dX12_turns_20 : decode cX12_turns 20 = .ok (.imul, 1) := by decide +kernel
theorem dX12_turns_21 : decode cX12_turns 21 = .ok (.iconst 3, 1) := by decide +kernel
theorem dX12_turns_22 : decode cX12_turns 22 = .ok (.iadd, 1) := by decide +kernel
theorem dX12_turns_23 : decode cX12_turns 23 = .ok (.iaload, 1) := by decide +kernel
theorem dX12_turns_24 : decode cX12_turns 24 = .ok (.istore 6, 2) := by decide +kernel
theorem dX12_turns_26 : decode cX12_turns 26 = .ok (.aload_n 0, 1) := by decide +kernel
theorem dX12_turns_27 : decode cX12_turns 27 = .ok (.getfield 78, 3) := by decide +kernel
theorem dX12_turns_30 : decode cX12_turns 30 = .ok (.iload_n 1, 1) := by decide +kernel
theorem dX12_turns_31 : decode cX12_turns 31 = .ok (.iload 4, 2) := by decide +kernel
theorem dX12_turns_33 : decode cX12_turns 33 = .ok (.iastore, 1) := by decide +kernel
theorem dX12_turns_34 : decode cX12_turns 34 = .ok (.aload_n 0, 1) := by decide +kernel
theorem dX12_turns_35 : decode cX12_turns 35 = .ok (.getfield 81, 3) := by decide +kernel
theorem dX12_turns_38 : decode cX12_turns 38 = .ok (.iload_n 1, 1) := by decide +kernel
theorem dX12_turns_39 : decode cX12_turns 39 = .ok (.dup2, 1) := by decide +kernel
theorem dX12_turns_40 : decode cX12_turns 40 = .ok (.iaload, 1) := by decide +kernel
theorem dX12_turns_41 : decode cX12_turns 41 = .ok (.iconst 1, 1) := by decide +kernel
theorem dX12_turns_42 : decode cX12_turns 42 = .ok (.iadd, 1) := by decide +kernel
theorem dX12_turns_43 : decode cX12_turns 43 = .ok (.iastore, 1) := by decide +kernel
theorem dX12_turns_44 : decode cX12_turns 44 = .ok (.aload_n 0, 1) := by decide +kernel
theorem dX12_turns_45 : decode cX12_turns 45 = .ok (.getfield 87, 3) := by decide +kernel
theorem dX12_turns_48 : decode cX12_turns 48 = .ok (.iload_n 2, 1) := by decide +kernel
theorem dX12_turns_49 : decode cX12_turns 49 = .ok (.iload_n 1, 1) := by decide +kernel
theorem dX12_turns_50 : decode cX12_turns 50 = .ok (.iastore, 1) := by decide +kernel
theorem dX12_turns_51 : decode cX12_turns 51 = .ok (.aload_n 0, 1) := by decide +kernel
theorem dX12_turns_52 : decode cX12_turns 52 = .ok (.getfield 75, 3) := by decide +kernel
theorem dX12_turns_55 : decode cX12_turns 55 = .ok (.iload_n 1, 1) := by decide +kernel
theorem dX12_turns_56 : decode cX12_turns 56 = .ok (.iaload, 1) := by decide +kernel
theorem dX12_turns_57 : decode cX12_turns 57 = .ok (.iconst 2, 1) := by decide +kernel
theorem dX12_turns_58 : decode cX12_turns 58 = .ok (.if_icmp .ne 47, 3) := by decide +kernel
theorem dX12_turns_61 : decode cX12_turns 61 = .ok (.aload_n 0, 1) := by decide +kernel
theorem dX12_turns_62 : decode cX12_turns 62 = .ok (.getfield 72, 3) := by decide +kernel
theorem dX12_turns_65 : decode cX12_turns 65 = .ok (.iload_n 1, 1) := by decide +kernel
theorem dX12_turns_66 : decode cX12_turns 66 = .ok (.iaload, 1) := by decide +kernel
theorem dX12_turns_67 : decode cX12_turns 67 = .ok (.iload 6, 2) := by decide +kernel
theorem dX12_turns_69 : decode cX12_turns 69 = .ok (.if_icmp .lt 36, 3) := by decide +kernel
theorem dX12_turns_72 : decode cX12_turns 72 = .ok (.aload_n 0, 1) := by decide +kernel
theorem dX12_turns_73 : decode cX12_turns 73 = .ok (.getfield 72, 3) := by decide +kernel
theorem dX12_turns_76 : decode cX12_turns 76 = .ok (.iload_n 1, 1) := by decide +kernel
theorem dX12_turns_77 : decode cX12_turns 77 = .ok (.dup2, 1) := by decide +kernel
theorem dX12_turns_78 : decode cX12_turns 78 = .ok (.iaload, 1) := by decide +kernel
theorem dX12_turns_79 : decode cX12_turns 79 = .ok (.iload 6, 2) := by decide +kernel
theorem dX12_turns_81 : decode cX12_turns 81 = .ok (.isub, 1) := by decide +kernel
theorem dX12_turns_82 : decode cX12_turns 82 = .ok (.iastore, 1) := by decide +kernel
theorem dX12_turns_83 : decode cX12_turns 83 = .ok (.aload_n 0, 1) := by decide +kernel
theorem dX12_turns_84 : decode cX12_turns 84 = .ok (.getfield 103, 3) := by decide +kernel
theorem dX12_turns_87 : decode cX12_turns 87 = .ok (.iload_n 2, 1) := by decide +kernel
theorem dX12_turns_88 : decode cX12_turns 88 = .ok (.dup2, 1) := by decide +kernel
theorem dX12_turns_89 : decode cX12_turns 89 = .ok (.iaload, 1) := by decide +kernel
theorem dX12_turns_90 : decode cX12_turns 90 = .ok (.iload 6, 2) := by decide +kernel
theorem dX12_turns_92 : decode cX12_turns 92 = .ok (.iadd, 1) := by decide +kernel
theorem dX12_turns_93 : decode cX12_turns 93 = .ok (.iastore, 1) := by decide +kernel
theorem dX12_turns_94 : decode cX12_turns 94 = .ok (.aload_n 0, 1) := by decide +kernel
theorem dX12_turns_95 : decode cX12_turns 95 = .ok (.getfield 100, 3) := by decide +kernel
theorem dX12_turns_98 : decode cX12_turns 98 = .ok (.iload_n 3, 1) := by decide +kernel
theorem dX12_turns_99 : decode cX12_turns 99 = .ok (.dup2, 1) := by decide +kernel
theorem dX12_turns_100 : decode cX12_turns 100 = .ok (.iaload, 1) := by decide +kernel
theorem dX12_turns_101 : decode cX12_turns 101 = .ok (.iconst 1, 1) := by decide +kernel
theorem dX12_turns_102 : decode cX12_turns 102 = .ok (.iadd, 1) := by decide +kernel
theorem dX12_turns_103 : decode cX12_turns 103 = .ok (.iastore, 1) := by decide +kernel
theorem dX12_turns_104 : decode cX12_turns 104 = .ok (.return_, 1) := by decide +kernel
theorem dX12_turns_105 : decode cX12_turns 105 = .ok (.aload_n 0, 1) := by decide +kernel
theorem dX12_turns_106 : decode cX12_turns 106 = .ok (.getfield 93, 3) := by decide +kernel
theorem dX12_turns_109 : decode cX12_turns 109 = .ok (.iload_n 3, 1) := by decide +kernel
theorem dX12_turns_110 : decode cX12_turns 110 = .ok (.iload_n 1, 1) := by decide +kernel
theorem dX12_turns_111 : decode cX12_turns 111 = .ok (.iastore, 1) := by decide +kernel
theorem dX12_turns_112 : decode cX12_turns 112 = .ok (.aload_n 0, 1) := by decide +kernel
theorem dX12_turns_113 : decode cX12_turns 113 = .ok (.getfield 75, 3) := by decide +kernel
theorem dX12_turns_116 : decode cX12_turns 116 = .ok (.iload_n 1, 1) := by decide +kernel
theorem dX12_turns_117 : decode cX12_turns 117 = .ok (.iaload, 1) := by decide +kernel
theorem dX12_turns_118 : decode cX12_turns 118 = .ok (.iconst 1, 1) := by decide +kernel
theorem dX12_turns_119 : decode cX12_turns 119 = .ok (.if_icmp .ne 20, 3) := by decide +kernel
theorem dX12_turns_122 : decode cX12_turns 122 = .ok (.iload 5, 2) := by decide +kernel
theorem dX12_turns_124 : decode cX12_turns 124 = .ok (.iconst (-1), 1) := by decide +kernel
theorem dX12_turns_125 : decode cX12_turns 125 = .ok (.if_icmp .eq 14, 3) := by decide +kernel
theorem dX12_turns_128 : decode cX12_turns 128 = .ok (.aload_n 0, 1) := by decide +kernel
end
section
theorem dX12_turns_129 : decode cX12_turns 129 = .ok (.getfield 72, 3) := by decide +kernel
theorem dX12_turns_132 : decode cX12_turns 132 = .ok (.iload_n 1, 1) := by decide +kernel
theorem dX12_turns_133 : decode cX12_turns 133 = .ok (.iaload, 1) := by decide +kernel
theorem dX12_turns_134 : decode cX12_turns 134 = .ok (.iload 5, 2) := by decide +kernel
theorem dX12_turns_136 : decode cX12_turns 136 = .ok (.if_icmp .ge 4, 3) := by decide +kernel
theorem dX12_turns_139 : decode cX12_turns 139 = .ok (.return_, 1) := by decide +kernel
theorem dX12_turns_140 : decode cX12_turns 140 = .ok (.aload_n 0, 1) := by decide +kernel
theorem dX12_turns_141 : decode cX12_turns 141 = .ok (.getfield 72, 3) := by decide +kernel
theorem dX12_turns_144 : decode cX12_turns 144 = .ok (.iload_n 1, 1) := by decide +kernel
theorem dX12_turns_145 : decode cX12_turns 145 = .ok (.dup2, 1) := by decide +kernel
theorem dX12_turns_146 : decode cX12_turns 146 = .ok (.iaload, 1) := by decide +kernel
theorem dX12_turns_147 : decode cX12_turns 147 = .ok (.iload 5, 2) := by decide +kernel
theorem dX12_turns_149 : decode cX12_turns 149 = .ok (.isub, 1) := by decide +kernel
theorem dX12_turns_150 : decode cX12_turns 150 = .ok (.iastore, 1) := by decide +kernel
theorem dX12_turns_151 : decode cX12_turns 151 = .ok (.aload_n 0, 1) := by decide +kernel
theorem dX12_turns_152 : decode cX12_turns 152 = .ok (.getfield 96, 3) := by decide +kernel
theorem dX12_turns_155 : decode cX12_turns 155 = .ok (.iload_n 3, 1) := by decide +kernel
theorem dX12_turns_156 : decode cX12_turns 156 = .ok (.iconst 1, 1) := by decide +kernel
theorem dX12_turns_157 : decode cX12_turns 157 = .ok (.bastore, 1) := by decide +kernel
theorem dX12_turns_158 : decode cX12_turns 158 = .ok (.return_, 1) := by decide +kernel
theorem dX12_year_0 : decode cX12_year 0 = .ok (.iload_n 1, 1) := by decide +kernel
theorem dX12_year_1 : decode cX12_year 1 = .ok (.invokestatic 195, 3) := by decide +kernel
theorem dX12_year_4 : decode cX12_year 4 = .ok (.ifCond .eq 41, 3) := by decide +kernel
theorem dX12_year_7 : decode cX12_year 7 = .ok (.aload_n 0, 1) := by decide +kernel
theorem dX12_year_8 : decode cX12_year 8 = .ok (.getfield 84, 3) := by decide +kernel
theorem dX12_year_11 : decode cX12_year 11 = .ok (.iload_n 1, 1) := by decide +kernel
theorem dX12_year_12 : decode cX12_year 12 = .ok (.iaload, 1) := by decide +kernel
theorem dX12_year_13 : decode cX12_year 13 = .ok (.iconst (-1), 1) := by decide +kernel
theorem dX12_year_14 : decode cX12_year 14 = .ok (.if_icmp .eq 31, 3) := by decide +kernel
theorem dX12_year_17 : decode cX12_year 17 = .ok (.iload_n 2, 1) := by decide +kernel
theorem dX12_year_18 : decode cX12_year 18 = .ok (.aload_n 0, 1) := by decide +kernel
theorem dX12_year_19 : decode cX12_year 19 = .ok (.getfield 90, 3) := by decide +kernel
theorem dX12_year_22 : decode cX12_year 22 = .ok (.iload_n 1, 1) := by decide +kernel
theorem dX12_year_23 : decode cX12_year 23 = .ok (.iaload, 1) := by decide +kernel
theorem dX12_year_24 : decode cX12_year 24 = .ok (.aload_n 0, 1) := by decide +kernel
theorem dX12_year_25 : decode cX12_year 25 = .ok (.getfield 84, 3) := by decide +kernel
theorem dX12_year_28 : decode cX12_year 28 = .ok (.iload_n 1, 1) := by decide +kernel
theorem dX12_year_29 : decode cX12_year 29 = .ok (.iaload, 1) := by decide +kernel
theorem dX12_year_30 : decode cX12_year 30 = .ok (.invokestatic 188, 3) := by decide +kernel
theorem dX12_year_33 : decode cX12_year 33 = .ok (.ifCond .eq 12, 3) := by decide +kernel
theorem dX12_year_36 : decode cX12_year 36 = .ok (.iload_n 3, 1) := by decide +kernel
theorem dX12_year_37 : decode cX12_year 37 = .ok (.iconst 0, 1) := by decide +kernel
theorem dX12_year_38 : decode cX12_year 38 = .ok (.iconst 2, 1) := by decide +kernel
theorem dX12_year_39 : decode cX12_year 39 = .ok (.invokestatic 188, 3) := by decide +kernel
theorem dX12_year_42 : decode cX12_year 42 = .ok (.ifCond .ne 6, 3) := by decide +kernel
theorem dX12_year_45 : decode cX12_year 45 = .ok (.bipush (-9), 2) := by decide +kernel
theorem dX12_year_47 : decode cX12_year 47 = .ok (.ireturn, 1) := by decide +kernel
theorem dX12_year_48 : decode cX12_year 48 = .ok (.sipush 200, 3) := by decide +kernel
theorem dX12_year_51 : decode cX12_year 51 = .ok (.iload_n 1, 1) := by decide +kernel
theorem dX12_year_52 : decode cX12_year 52 = .ok (.imul, 1) := by decide +kernel
theorem dX12_year_53 : decode cX12_year 53 = .ok (.iload_n 2, 1) := by decide +kernel
theorem dX12_year_54 : decode cX12_year 54 = .ok (.iadd, 1) := by decide +kernel
theorem dX12_year_55 : decode cX12_year 55 = .ok (.sipush 1600, 3) := by decide +kernel
theorem dX12_year_58 : decode cX12_year 58 = .ok (.isub, 1) := by decide +kernel
theorem dX12_year_59 : decode cX12_year 59 = .ok (.istore 4, 2) := by decide +kernel
theorem dX12_year_61 : decode cX12_year 61 = .ok (.iload_n 3, 1) := by decide +kernel
theorem dX12_year_62 : decode cX12_year 62 = .ok (.ifCond .ne 13, 3) := by decide +kernel
theorem dX12_year_65 : decode cX12_year 65 = .ok (.aload_n 0, 1) := by decide +kernel
theorem dX12_year_66 : decode cX12_year 66 = .ok (.getfield 93, 3) := by decide +kernel
theorem dX12_year_69 : decode cX12_year 69 = .ok (.iload 4, 2) := by decide +kernel
theorem dX12_year_71 : decode cX12_year 71 = .ok (.iaload, 1) := by decide +kernel
theorem dX12_year_72 : decode cX12_year 72 = .ok (.goto 33, 3) := by decide +kernel
theorem dX12_year_75 : decode cX12_year 75 = .ok (.iload_n 3, 1) := by decide +kernel
theorem dX12_year_76 : decode cX12_year 76 = .ok (.iconst 1, 1) := by decide +kernel
theorem dX12_year_77 : decode cX12_year 77 = .ok (.if_icmp .ne 21, 3) := by decide +kernel
theorem dX12_year_80 : decode cX12_year 80 = .ok (.aload_n 0, 1) := by decide +kernel
theorem dX12_year_81 : decode cX12_year 81 = .ok (.getfield 96, 3) := by decide +kernel
theorem dX12_year_84 : decode cX12_year 84 = .ok (.iload 4, 2) := by decide +kernel
theorem dX12_year_86 : decode cX12_year 86 = .ok (.baload, 1) := by decide +kernel
theorem dX12_year_87 : decode cX12_year 87 = .ok (.ifCond .eq 7, 3) := by decide +kernel
theorem dX12_year_90 : decode cX12_year 90 = .ok (.iconst 1, 1) := by decide +kernel
theorem dX12_year_91 : decode cX12_year 91 = .ok (.goto 14, 3) := by decide +kernel
theorem dX12_year_94 : decode cX12_year 94 = .ok (.iconst 0, 1) := by decide +kernel
theorem dX12_year_95 : decode cX12_year 95 = .ok (.goto 10, 3) := by decide +kernel
theorem dX12_year_98 : decode cX12_year 98 = .ok (.aload_n 0, 1) := by decide +kernel
theorem dX12_year_99 : decode cX12_year 99 = .ok (.getfield 100, 3) := by decide +kernel
theorem dX12_year_102 : decode cX12_year 102 = .ok (.iload 4, 2) := by decide +kernel
theorem dX12_year_104 : decode cX12_year 104 = .ok (.iaload, 1) := by decide +kernel
theorem dX12_year_105 : decode cX12_year 105 = .ok (.ireturn, 1) := by decide +kernel
theorem dX12_about_0 : decode cX12_about 0 = .ok (.aload_n 0, 1) := by decide +kernel
theorem dX12_about_1 : decode cX12_about 1 = .ok (.iload_n 1, 1) := by decide +kernel
theorem dX12_about_2 : decode cX12_about 2 = .ok (.invokevirtual 263, 3) := by decide +kernel
theorem dX12_about_5 : decode cX12_about 5 = .ok (.ifCond .ne 5, 3) := by decide +kernel
theorem dX12_about_8 : decode cX12_about 8 = .ok (.iconst (-1), 1) := by decide +kernel
theorem dX12_about_9 : decode cX12_about 9 = .ok (.ireturn, 1) := by decide +kernel
theorem dX12_about_10 : decode cX12_about 10 = .ok (.iload_n 2, 1) := by decide +kernel
theorem dX12_about_11 : decode cX12_about 11 = .ok (.tableswitch 79 0 5 #[37, 44, 51, 58, 65, 72], 37) := by decide +kernel
theorem dX12_about_48 : decode cX12_about 48 = .ok (.aload_n 0, 1) := by decide +kernel
theorem dX12_about_49 : decode cX12_about 49 = .ok (.getfield 66, 3) := by decide +kernel
theorem dX12_about_52 : decode cX12_about 52 = .ok (.iload_n 1, 1) := by decide +kernel
theorem dX12_about_53 : decode cX12_about 53 = .ok (.iaload, 1) := by decide +kernel
theorem dX12_about_54 : decode cX12_about 54 = .ok (.ireturn, 1) := by decide +kernel
theorem dX12_about_55 : decode cX12_about 55 = .ok (.aload_n 0, 1) := by decide +kernel
theorem dX12_about_56 : decode cX12_about 56 = .ok (.getfield 69, 3) := by decide +kernel
theorem dX12_about_59 : decode cX12_about 59 = .ok (.iload_n 1, 1) := by decide +kernel
theorem dX12_about_60 : decode cX12_about 60 = .ok (.iaload, 1) := by decide +kernel
theorem dX12_about_61 : decode cX12_about 61 = .ok (.ireturn, 1) := by decide +kernel
theorem dX12_about_62 : decode cX12_about 62 = .ok (.aload_n 0, 1) := by decide +kernel
theorem dX12_about_63 : decode cX12_about 63 = .ok (.getfield 72, 3) := by decide +kernel
theorem dX12_about_66 : decode cX12_about 66 = .ok (.iload_n 1, 1) := by decide +kernel
theorem dX12_about_67 : decode cX12_about 67 = .ok (.iaload, 1) := by decide +kernel
theorem dX12_about_68 : decode cX12_about 68 = .ok (.ireturn, 1) := by decide +kernel
theorem dX12_about_69 : decode cX12_about 69 = .ok (.aload_n 0, 1) := by decide +kernel
theorem dX12_about_70 : decode cX12_about 70 = .ok (.getfield 75, 3) := by decide +kernel
theorem dX12_about_73 : decode cX12_about 73 = .ok (.iload_n 1, 1) := by decide +kernel
theorem dX12_about_74 : decode cX12_about 74 = .ok (.iaload, 1) := by decide +kernel
theorem dX12_about_75 : decode cX12_about 75 = .ok (.ireturn, 1) := by decide +kernel
theorem dX12_about_76 : decode cX12_about 76 = .ok (.aload_n 0, 1) := by decide +kernel
theorem dX12_about_77 : decode cX12_about 77 = .ok (.getfield 78, 3) := by decide +kernel
theorem dX12_about_80 : decode cX12_about 80 = .ok (.iload_n 1, 1) := by decide +kernel
theorem dX12_about_81 : decode cX12_about 81 = .ok (.iaload, 1) := by decide +kernel
theorem dX12_about_82 : decode cX12_about 82 = .ok (.ireturn, 1) := by decide +kernel
theorem dX12_about_83 : decode cX12_about 83 = .ok (.aload_n 0, 1) := by decide +kernel
theorem dX12_about_84 : decode cX12_about 84 = .ok (.getfield 81, 3) := by decide +kernel
theorem dX12_about_87 : decode cX12_about 87 = .ok (.iload_n 1, 1) := by decide +kernel
theorem dX12_about_88 : decode cX12_about 88 = .ok (.iaload, 1) := by decide +kernel
theorem dX12_about_89 : decode cX12_about 89 = .ok (.ireturn, 1) := by decide +kernel
theorem dX12_about_90 : decode cX12_about 90 = .ok (.iconst (-1), 1) := by decide +kernel
theorem dX12_about_91 : decode cX12_about 91 = .ok (.ireturn, 1) := by decide +kernel
theorem dX12_lying_0 : decode cX12_lying 0 = .ok (.iconst 0, 1) := by decide +kernel
theorem dX12_lying_1 : decode cX12_lying 1 = .ok (.istore_n 2, 1) := by decide +kernel
theorem dX12_lying_2 : decode cX12_lying 2 = .ok (.iconst 0, 1) := by decide +kernel
theorem dX12_lying_3 : decode cX12_lying 3 = .ok (.istore_n 3, 1) := by decide +kernel
theorem dX12_lying_4 : decode cX12_lying 4 = .ok (.iload_n 3, 1) := by decide +kernel
theorem dX12_lying_5 : decode cX12_lying 5 = .ok (.aload_n 0, 1) := by decide +kernel
theorem dX12_lying_6 : decode cX12_lying 6 = .ok (.getfield 271, 3) := by decide +kernel
theorem dX12_lying_9 : decode cX12_lying 9 = .ok (.if_icmp .ge 36, 3) := by decide +kernel
theorem dX12_lying_12 : decode cX12_lying 12 = .ok (.iload_n 2, 1) := by decide +kernel
theorem dX12_lying_13 : decode cX12_lying 13 = .ok (.aload_n 0, 1) := by decide +kernel
theorem dX12_lying_14 : decode cX12_lying 14 = .ok (.getfield 115, 3) := by decide +kernel
theorem dX12_lying_17 : decode cX12_lying 17 = .ok (.iload_n 3, 1) := by decide +kernel
theorem dX12_lying_18 : decode cX12_lying 18 = .ok (.iaload, 1) := by decide +kernel
theorem dX12_lying_19 : decode cX12_lying 19 = .ok (.ifCond .ne 17, 3) := by decide +kernel
theorem dX12_lying_22 : decode cX12_lying 22 = .ok (.aload_n 0, 1) := by decide +kernel
theorem dX12_lying_23 : decode cX12_lying 23 = .ok (.getfield 118, 3) := by decide +kernel
theorem dX12_lying_26 : decode cX12_lying 26 = .ok (.iload_n 3, 1) := by decide +kernel
theorem dX12_lying_27 : decode cX12_lying 27 = .ok (.iaload, 1) := by decide +kernel
theorem dX12_lying_28 : decode cX12_lying 28 = .ok (.iload_n 1, 1) := by decide +kernel
theorem dX12_lying_29 : decode cX12_lying 29 = .ok (.if_icmp .ne 7, 3) := by decide +kernel
theorem dX12_lying_32 : decode cX12_lying 32 = .ok (.iconst 1, 1) := by decide +kernel
theorem dX12_lying_33 : decode cX12_lying 33 = .ok (.goto 4, 3) := by decide +kernel
theorem dX12_lying_36 : decode cX12_lying 36 = .ok (.iconst 0, 1) := by decide +kernel
theorem dX12_lying_37 : decode cX12_lying 37 = .ok (.iadd, 1) := by decide +kernel
theorem dX12_lying_38 : decode cX12_lying 38 = .ok (.istore_n 2, 1) := by decide +kernel
theorem dX12_lying_39 : decode cX12_lying 39 = .ok (.iinc 3 1, 3) := by decide +kernel
theorem dX12_lying_42 : decode cX12_lying 42 = .ok (.goto (-38), 3) := by decide +kernel
theorem dX12_lying_45 : decode cX12_lying 45 = .ok (.iload_n 2, 1) := by decide +kernel
theorem dX12_lying_46 : decode cX12_lying 46 = .ok (.ireturn, 1) := by decide +kernel
theorem dX12_hasPlace_0 : decode cX12_hasPlace 0 = .ok (.aload_n 0, 1) := by decide +kernel
theorem dX12_hasPlace_1 : decode cX12_hasPlace 1 = .ok (.iload_n 1, 1) := by decide +kernel
theorem dX12_hasPlace_2 : decode cX12_hasPlace 2 = .ok (.invokevirtual 274, 3) := by decide +kernel
theorem dX12_hasPlace_5 : decode cX12_hasPlace 5 = .ok (.aload_n 0, 1) := by decide +kernel
theorem dX12_hasPlace_6 : decode cX12_hasPlace 6 = .ok (.getfield 57, 3) := by decide +kernel
theorem dX12_hasPlace_9 : decode cX12_hasPlace 9 = .ok (.bipush 8, 2) := by decide +kernel
theorem dX12_hasPlace_11 : decode cX12_hasPlace 11 = .ok (.iload_n 1, 1) := by decide +kernel
theorem dX12_hasPlace_12 : decode cX12_hasPlace 12 = .ok (.imul, 1) := by decide +kernel
theorem dX12_hasPlace_13 : decode cX12_hasPlace 13 = .ok (.bipush 7, 2) := by decide +kernel
theorem dX12_hasPlace_15 : decode cX12_hasPlace 15 = .ok (.iadd, 1) := by decide +kernel
theorem dX12_hasPlace_16 : decode cX12_hasPlace 16 = .ok (.iaload, 1) := by decide +kernel
theorem dX12_hasPlace_17 : decode cX12_hasPlace 17 = .ok (.if_icmp .ge 7, 3) := by decide +kernel
theorem dX12_hasPlace_20 : decode cX12_hasPlace 20 = .ok (.iconst 1, 1) := by decide +kernel
theorem dX12_hasPlace_21 : decode cX12_hasPlace 21 = .ok (.goto 4, 3) := by decide +kernel
theorem dX12_hasPlace_24 : decode cX12_hasPlace 24 = .ok (.iconst 0, 1) := by decide +kernel
theorem dX12_hasPlace_25 : decode cX12_hasPlace 25 = .ok (.ireturn, 1) := by decide +kernel
theorem dX12_placeFor_0 : decode cX12_placeFor 0 = .ok (.aload_n 0, 1) := by decide +kernel
theorem dX12_placeFor_1 : decode cX12_placeFor 1 = .ok (.iload_n 1, 1) := by decide +kernel
theorem dX12_placeFor_2 : decode cX12_placeFor 2 = .ok (.invokevirtual 277, 3) := by decide +kernel
theorem dX12_placeFor_5 : decode cX12_placeFor 5 = .ok (.ifCond .eq 5, 3) := by decide +kernel
theorem dX12_placeFor_8 : decode cX12_placeFor 8 = .ok (.iload_n 1, 1) := by decide +kernel
theorem dX12_placeFor_9 : decode cX12_placeFor 9 = .ok (.ireturn, 1) := by decide +kernel
theorem dX12_placeFor_10 : decode cX12_placeFor 10 = .ok (.iconst 1, 1) := by decide +kernel
theorem dX12_placeFor_11 : decode cX12_placeFor 11 = .ok (.istore_n 3, 1) := by decide +kernel
theorem dX12_placeFor_12 : decode cX12_placeFor 12 = .ok (.iload_n 3, 1) := by decide +kernel
theorem dX12_placeFor_13 : decode cX12_placeFor 13 = .ok (.iconst 4, 1) := by decide +kernel
theorem dX12_placeFor_14 : decode cX12_placeFor 14 = .ok (.if_icmp .ge 83, 3) := by decide +kernel
theorem dX12_placeFor_17 : decode cX12_placeFor 17 = .ok (.iload_n 1, 1) := by decide +kernel
theorem dX12_placeFor_18 : decode cX12_placeFor 18 = .ok (.iload_n 3, 1) := by decide +kernel
theorem dX12_placeFor_19 : decode cX12_placeFor 19 = .ok (.iadd, 1) := by decide +kernel
theorem dX12_placeFor_20 : decode cX12_placeFor 20 = .ok (.iconst 4, 1) := by decide +kernel
theorem dX12_placeFor_21 : decode cX12_placeFor 21 = .ok (.irem, 1) := by decide +kernel
theorem dX12_placeFor_22 : decode cX12_placeFor 22 = .ok (.istore 4, 2) := by decide +kernel
theorem dX12_placeFor_24 : decode cX12_placeFor 24 = .ok (.aload_n 0, 1) := by decide +kernel
theorem dX12_placeFor_25 : decode cX12_placeFor 25 = .ok (.iload 4, 2) := by decide +kernel
theorem dX12_placeFor_27 : decode cX12_placeFor 27 = .ok (.invokevirtual 277, 3) := by decide +kernel
theorem dX12_placeFor_30 : decode cX12_placeFor 30 = .ok (.ifCond .ne 6, 3) := by decide +kernel
theorem dX12_placeFor_33 : decode cX12_placeFor 33 = .ok (.goto 58, 3) := by decide +kernel
theorem dX12_placeFor_36 : decode cX12_placeFor 36 = .ok (.aload_n 0, 1) := by decide +kernel
theorem dX12_placeFor_37 : decode cX12_placeFor 37 = .ok (.getfield 57, 3) := by decide +kernel
theorem dX12_placeFor_40 : decode cX12_placeFor 40 = .ok (.bipush 8, 2) := by decide +kernel
theorem dX12_placeFor_42 : decode cX12_placeFor 42 = .ok (.iload 4, 2) := by decide +kernel
theorem dX12_placeFor_44 : decode cX12_placeFor 44 = .ok (.imul, 1) := by decide +kernel
theorem dX12_placeFor_45 : decode cX12_placeFor 45 = .ok (.iconst 5, 1) := by decide +kernel
theorem dX12_placeFor_46 : decode cX12_placeFor 46 = .ok (.iadd, 1) := by decide +kernel
theorem dX12_placeFor_47 : decode cX12_placeFor 47 = .ok (.iaload, 1) := by decide +kernel
theorem dX12_placeFor_48 : decode cX12_placeFor 48 = .ok (.iconst (-1), 1) := by decide +kernel
theorem dX12_placeFor_49 : decode cX12_placeFor 49 = .ok (.if_icmp .eq 27, 3) := by decide +kernel
theorem dX12_placeFor_52 : decode cX12_placeFor 52 = .ok (.aload_n 0, 1) := by decide +kernel
theorem dX12_placeFor_53 : decode cX12_placeFor 53 = .ok (.getfield 57, 3) := by decide +kernel
theorem dX12_placeFor_56 : decode cX12_placeFor 56 = .ok (.bipush 8, 2) := by decide +kernel
theorem dX12_placeFor_58 : decode cX12_placeFor 58 = .ok (.iload 4, 2) := by decide +kernel
theorem dX12_placeFor_60 : decode cX12_placeFor 60 = .ok (.imul, 1) := by decide +kernel
theorem dX12_placeFor_61 : decode cX12_placeFor 61 = .ok (.bipush 6, 2) := by decide +kernel
theorem dX12_placeFor_63 : decode cX12_placeFor 63 = .ok (.iadd, 1) := by decide +kernel
theorem dX12_placeFor_64 : decode cX12_placeFor 64 = .ok (.iaload, 1) := by decide +kernel
theorem dX12_placeFor_65 : decode cX12_placeFor 65 = .ok (.ifCond .eq 7, 3) := by decide +kernel
theorem dX12_placeFor_68 : decode cX12_placeFor 68 = .ok (.iload_n 2, 1) := by decide +kernel
theorem dX12_placeFor_69 : decode cX12_placeFor 69 = .ok (.ifCond .eq 7, 3) := by decide +kernel
theorem dX12_placeFor_72 : decode cX12_placeFor 72 = .ok (.iconst 1, 1) := by decide +kernel
theorem dX12_placeFor_73 : decode cX12_placeFor 73 = .ok (.goto 4, 3) := by decide +kernel
theorem dX12_placeFor_76 : decode cX12_placeFor 76 = .ok (.iconst 0, 1) := by decide +kernel
theorem dX12_placeFor_77 : decode cX12_placeFor 77 = .ok (.istore 5, 2) := by decide +kernel
theorem dX12_placeFor_79 : decode cX12_placeFor 79 = .ok (.iload 5, 2) := by decide +kernel
theorem dX12_placeFor_81 : decode cX12_placeFor 81 = .ok (.ifCond .eq 8, 3) := by decide +kernel
theorem dX12_placeFor_84 : decode cX12_placeFor 84 = .ok (.iload 4, 2) := by decide +kernel
theorem dX12_placeFor_86 : decode cX12_placeFor 86 = .ok (.goto 4, 3) := by decide +kernel
theorem dX12_placeFor_89 : decode cX12_placeFor 89 = .ok (.iconst (-1), 1) := by decide +kernel
theorem dX12_placeFor_90 : decode cX12_placeFor 90 = .ok (.ireturn, 1) := by decide +kernel
theorem dX12_placeFor_91 : decode cX12_placeFor 91 = .ok (.iinc 3 1, 3) := by decide +kernel
theorem dX12_placeFor_94 : decode cX12_placeFor 94 = .ok (.goto (-82), 3) := by decide +kernel
theorem dX12_placeFor_97 : decode cX12_placeFor 97 = .ok (.iconst (-1), 1) := by decide +kernel
theorem dX12_placeFor_98 : decode cX12_placeFor 98 = .ok (.ireturn, 1) := by decide +kernel
theorem dX12_charge_0 : decode cX12_charge 0 = .ok (.iload_n 1, 1) := by decide +kernel
theorem dX12_charge_1 : decode cX12_charge 1 = .ok (.invokestatic 195, 3) := by decide +kernel
theorem dX12_charge_4 : decode cX12_charge 4 = .ok (.ifCond .eq 22, 3) := by decide +kernel
theorem dX12_charge_7 : decode cX12_charge 7 = .ok (.iload_n 2, 1) := by decide +kernel
theorem dX12_charge_8 : decode cX12_charge 8 = .ok (.iconst 0, 1) := by decide +kernel
theorem dX12_charge_9 : decode cX12_charge 9 = .ok (.iconst 2, 1) := by decide +kernel
theorem dX12_charge_10 : decode cX12_charge 10 = .ok (.invokestatic 188, 3) := by decide +kernel
theorem dX12_charge_13 : decode cX12_charge 13 = .ok (.ifCond .eq 13, 3) := by decide +kernel
theorem dX12_charge_16 : decode cX12_charge 16 = .ok (.iload_n 3, 1) := by decide +kernel
theorem dX12_charge_17 : decode cX12_charge 17 = .ok (.iconst 0, 1) := by decide +kernel
theorem dX12_charge_18 : decode cX12_charge 18 = .ok (.bipush 23, 2) := by decide +kernel
theorem dX12_charge_20 : decode cX12_charge 20 = .ok (.invokestatic 188, 3) := by decide +kernel
theorem dX12_charge_23 : decode cX12_charge 23 = .ok (.ifCond .ne 6, 3) := by decide +kernel
theorem dX12_charge_26 : decode cX12_charge 26 = .ok (.bipush (-2), 2) := by decide +kernel
theorem dX12_charge_28 : decode cX12_charge 28 = .ok (.ireturn, 1) := by decide +kernel
theorem dX12_charge_29 : decode cX12_charge 29 = .ok (.aload_n 0, 1) := by decide +kernel
theorem dX12_charge_30 : decode cX12_charge 30 = .ok (.getfield 271, 3) := by decide +kernel
theorem dX12_charge_33 : decode cX12_charge 33 = .ok (.bipush 100, 2) := by decide +kernel
theorem dX12_charge_35 : decode cX12_charge 35 = .ok (.if_icmp .ne 6, 3) := by decide +kernel
theorem dX12_charge_38 : decode cX12_charge 38 = .ok (.bipush (-3), 2) := by decide +kernel
theorem dX12_charge_40 : decode cX12_charge 40 = .ok (.ireturn, 1) := by decide +kernel
theorem dX12_charge_41 : decode cX12_charge 41 = .ok (.aload_n 0, 1) := by decide +kernel
theorem dX12_charge_42 : decode cX12_charge 42 = .ok (.getfield 271, 3) := by decide +kernel
theorem dX12_charge_45 : decode cX12_charge 45 = .ok (.istore 5, 2) := by decide +kernel
theorem dX12_charge_47 : decode cX12_charge 47 = .ok (.aload_n 0, 1) := by decide +kernel
theorem dX12_charge_48 : decode cX12_charge 48 = .ok (.getfield 106, 3) := by decide +kernel
theorem dX12_charge_51 : decode cX12_charge 51 = .ok (.iload 5, 2) := by decide +kernel
theorem dX12_charge_53 : decode cX12_charge 53 = .ok (.iload_n 1, 1) := by decide +kernel
theorem dX12_charge_54 : decode cX12_charge 54 = .ok (.iastore, 1) := by decide +kernel
theorem dX12_charge_55 : decode cX12_charge 55 = .ok (.aload_n 0, 1) := by decide +kernel
theorem dX12_charge_56 : decode cX12_charge 56 = .ok (.getfield 109, 3) := by decide +kernel
theorem dX12_charge_59 : decode cX12_charge 59 = .ok (.iload 5, 2) := by decide +kernel
theorem dX12_charge_61 : decode cX12_charge 61 = .ok (.iload_n 2, 1) := by decide +kernel
theorem dX12_charge_62 : decode cX12_charge 62 = .ok (.iastore, 1) := by decide +kernel
theorem dX12_charge_63 : decode cX12_charge 63 = .ok (.aload_n 0, 1) := by decide +kernel
theorem dX12_charge_64 : decode cX12_charge 64 = .ok (.getfield 112, 3) := by decide +kernel
theorem dX12_charge_67 : decode cX12_charge 67 = .ok (.iload 5, 2) := by decide +kernel
theorem dX12_charge_69 : decode cX12_charge 69 = .ok (.iload_n 3, 1) := by decide +kernel
theorem dX12_charge_70 : decode cX12_charge 70 = .ok (.iastore, 1) := by decide +kernel
theorem dX12_charge_71 : decode cX12_charge 71 = .ok (.aload_n 0, 1) := by decide +kernel
theorem dX12_charge_72 : decode cX12_charge 72 = .ok (.getfield 118, 3) := by decide +kernel
theorem dX12_charge_75 : decode cX12_charge 75 = .ok (.iload 5, 2) := by decide +kernel
theorem dX12_charge_77 : decode cX12_charge 77 = .ok (.iconst (-1), 1) := by decide +kernel
theorem dX12_charge_78 : decode cX12_charge 78 = .ok (.iastore, 1) := by decide +kernel
theorem dX12_charge_79 : decode cX12_charge 79 = .ok (.aload_n 0, 1) := by decide +kernel
theorem dX12_charge_80 : decode cX12_charge 80 = .ok (.iload_n 1, 1) := by decide +kernel
theorem dX12_charge_81 : decode cX12_charge 81 = .ok (.iload_n 2, 1) := by decide +kernel
theorem dX12_charge_82 : decode cX12_charge 82 = .ok (.iload_n 3, 1) := by decide +kernel
theorem dX12_charge_83 : decode cX12_charge 83 = .ok (.iload 4, 2) := by decide +kernel
theorem dX12_charge_85 : decode cX12_charge 85 = .ok (.invokevirtual 256, 3) := by decide +kernel
theorem dX12_charge_88 : decode cX12_charge 88 = .ok (.ifCond .ne 24, 3) := by decide +kernel
theorem dX12_charge_91 : decode cX12_charge 91 = .ok (.aload_n 0, 1) := by decide +kernel
theorem dX12_charge_92 : decode cX12_charge 92 = .ok (.getfield 115, 3) := by decide +kernel
theorem dX12_charge_95 : decode cX12_charge 95 = .ok (.iload 5, 2) := by decide +kernel
theorem dX12_charge_97 : decode cX12_charge 97 = .ok (.iconst 1, 1) := by decide +kernel
theorem dX12_charge_98 : decode cX12_charge 98 = .ok (.iastore, 1) := by decide +kernel
theorem dX12_charge_99 : decode cX12_charge 99 = .ok (.aload_n 0, 1) := by decide +kernel
theorem dX12_charge_100 : decode cX12_charge 100 = .ok (.getfield 103, 3) := by decide +kernel
theorem dX12_charge_103 : decode cX12_charge 103 = .ok (.iload_n 1, 1) := by decide +kernel
theorem dX12_charge_104 : decode cX12_charge 104 = .ok (.dup2, 1) := by decide +kernel
theorem dX12_charge_105 : decode cX12_charge 105 = .ok (.iaload, 1) := by decide +kernel
theorem dX12_charge_106 : decode cX12_charge 106 = .ok (.iconst 5, 1) := by decide +kernel
theorem dX12_charge_107 : decode cX12_charge 107 = .ok (.isub, 1) := by decide +kernel
theorem dX12_charge_108 : decode cX12_charge 108 = .ok (.iastore, 1) := by decide +kernel
theorem dX12_charge_109 : decode cX12_charge 109 = .ok (.goto 40, 3) := by decide +kernel
theorem dX12_charge_112 : decode cX12_charge 112 = .ok (.aload_n 0, 1) := by decide +kernel
theorem dX12_charge_113 : decode cX12_charge 113 = .ok (.getfield 118, 3) := by decide +kernel
theorem dX12_charge_116 : decode cX12_charge 116 = .ok (.iload 5, 2) := by decide +kernel
theorem dX12_charge_118 : decode cX12_charge 118 = .ok (.aload_n 0, 1) := by decide +kernel
theorem dX12_charge_119 : decode cX12_charge 119 = .ok (.iload_n 1, 1) := by decide +kernel
theorem dX12_charge_120 : decode cX12_charge 120 = .ok (.iload 4, 2) := by decide +kernel
theorem dX12_charge_122 : decode cX12_charge 122 = .ok (.invokevirtual 280, 3) := by decide +kernel
theorem dX12_charge_125 : decode cX12_charge 125 = .ok (.iastore, 1) := by decide +kernel
theorem dX12_charge_126 : decode cX12_charge 126 = .ok (.aload_n 0, 1) := by decide +kernel
theorem dX12_charge_127 : decode cX12_charge 127 = .ok (.getfield 115, 3) := by decide +kernel
theorem dX12_charge_130 : decode cX12_charge 130 = .ok (.iload 5, 2) := by decide +kernel
theorem dX12_charge_132 : decode cX12_charge 132 = .ok (.aload_n 0, 1) := by decide +kernel
theorem dX12_charge_133 : decode cX12_charge 133 = .ok (.getfield 118, 3) := by decide +kernel
theorem dX12_charge_136 : decode cX12_charge 136 = .ok (.iload 5, 2) := by decide +kernel
theorem dX12_charge_138 : decode cX12_charge 138 = .ok (.iaload, 1) := by decide +kernel
theorem dX12_charge_139 : decode cX12_charge 139 = .ok (.iconst (-1), 1) := by decide +kernel
theorem dX12_charge_140 : decode cX12_charge 140 = .ok (.if_icmp .ne 7, 3) := by decide +kernel
theorem dX12_charge_143 : decode cX12_charge 143 = .ok (.iconst 2, 1) := by decide +kernel
theorem dX12_charge_144 : decode cX12_charge 144 = .ok (.goto 4, 3) := by decide +kernel
theorem dX12_charge_147 : decode cX12_charge 147 = .ok (.iconst 0, 1) := by decide +kernel
theorem dX12_charge_148 : decode cX12_charge 148 = .ok (.iastore, 1) := by decide +kernel
theorem dX12_charge_149 : decode cX12_charge 149 = .ok (.aload_n 0, 1) := by decide +kernel
theorem dX12_charge_150 : decode cX12_charge 150 = .ok (.dup, 1) := by decide +kernel
theorem dX12_charge_151 : decode cX12_charge 151 = .ok (.getfield 271, 3) := by decide +kernel
theorem dX12_charge_154 : decode cX12_charge 154 = .ok (.iconst 1, 1) := by decide +kernel
theorem dX12_charge_155 : decode cX12_charge 155 = .ok (.iadd, 1) := by decide +kernel
theorem dX12_charge_156 : decode cX12_charge 156 = .ok (.putfield 271, 3) := by decide +kernel
theorem dX12_charge_159 : decode cX12_charge 159 = .ok (.iload 5, 2) := by decide +kernel
theorem dX12_charge_161 : decode cX12_charge 161 = .ok (.ireturn, 1) := by decide +kernel
theorem dX12_charged_0 : decode cX12_charged 0 = .ok (.iload_n 1, 1) := by decide +kernel
theorem dX12_charged_1 : decode cX12_charged 1 = .ok (.iconst 0, 1) := by decide +kernel
theorem dX12_charged_2 : decode cX12_charged 2 = .ok (.aload_n 0, 1) := by decide +kernel
theorem dX12_charged_3 : decode cX12_charged 3 = .ok (.getfield 271, 3) := by decide +kernel
theorem dX12_charged_6 : decode cX12_charged 6 = .ok (.iconst 1, 1) := by decide +kernel
theorem dX12_charged_7 : decode cX12_charged 7 = .ok (.isub, 1) := by decide +kernel
theorem dX12_charged_8 : decode cX12_charged 8 = .ok (.invokestatic 188, 3) := by decide +kernel
theorem dX12_charged_11 : decode cX12_charged 11 = .ok (.ifCond .ne 5, 3) := by decide +kernel
theorem dX12_charged_14 : decode cX12_charged 14 = .ok (.iconst (-1), 1) := by decide +kernel
theorem dX12_charged_15 : decode cX12_charged 15 = .ok (.ireturn, 1) := by decide +kernel
theorem dX12_charged_16 : decode cX12_charged 16 = .ok (.iload_n 2, 1) := by decide +kernel
theorem dX12_charged_17 : decode cX12_charged 17 = .ok (.tableswitch 70 0 4 #[35, 42, 49, 56, 63], 35) := by decide +kernel
theorem dX12_charged_52 : decode cX12_charged 52 = .ok (.aload_n 0, 1) := by decide +kernel
theorem dX12_charged_53 : decode cX12_charged 53 = .ok (.getfield 106, 3) := by decide +kernel
theorem dX12_charged_56 : decode cX12_charged 56 = .ok (.iload_n 1, 1) := by decide +kernel
theorem dX12_charged_57 : decode cX12_charged 57 = .ok (.iaload, 1) := by decide +kernel
theorem dX12_charged_58 : decode cX12_charged 58 = .ok (.ireturn, 1) := by decide +kernel
theorem dX12_charged_59 : decode cX12_charged 59 = .ok (.aload_n 0, 1) := by decide +kernel
theorem dX12_charged_60 : decode cX12_charged 60 = .ok (.getfield 109, 3) := by decide +kernel
theorem dX12_charged_63 : decode cX12_charged 63 = .ok (.iload_n 1, 1) := by decide +kernel
theorem dX12_charged_64 : decode cX12_charged 64 = .ok (.iaload, 1) := by decide +kernel
theorem dX12_charged_65 : decode cX12_charged 65 = .ok (.ireturn, 1) := by decide +kernel
theorem dX12_charged_66 : decode cX12_charged 66 = .ok (.aload_n 0, 1) := by decide +kernel
theorem dX12_charged_67 : decode cX12_charged 67 = .ok (.getfield 112, 3) := by decide +kernel
theorem dX12_charged_70 : decode cX12_charged 70 = .ok (.iload_n 1, 1) := by decide +kernel
theorem dX12_charged_71 : decode cX12_charged 71 = .ok (.iaload, 1) := by decide +kernel
theorem dX12_charged_72 : decode cX12_charged 72 = .ok (.ireturn, 1) := by decide +kernel
theorem dX12_charged_73 : decode cX12_charged 73 = .ok (.aload_n 0, 1) := by decide +kernel
theorem dX12_charged_74 : decode cX12_charged 74 = .ok (.getfield 115, 3) := by decide +kernel
theorem dX12_charged_77 : decode cX12_charged 77 = .ok (.iload_n 1, 1) := by decide +kernel
theorem dX12_charged_78 : decode cX12_charged 78 = .ok (.iaload, 1) := by decide +kernel
theorem dX12_charged_79 : decode cX12_charged 79 = .ok (.ireturn, 1) := by decide +kernel
theorem dX12_charged_80 : decode cX12_charged 80 = .ok (.aload_n 0, 1) := by decide +kernel
theorem dX12_charged_81 : decode cX12_charged 81 = .ok (.getfield 118, 3) := by decide +kernel
theorem dX12_charged_84 : decode cX12_charged 84 = .ok (.iload_n 1, 1) := by decide +kernel
theorem dX12_charged_85 : decode cX12_charged 85 = .ok (.iaload, 1) := by decide +kernel
theorem dX12_charged_86 : decode cX12_charged 86 = .ok (.ireturn, 1) := by decide +kernel
theorem dX12_charged_87 : decode cX12_charged 87 = .ok (.iconst (-1), 1) := by decide +kernel
theorem dX12_charged_88 : decode cX12_charged 88 = .ok (.ireturn, 1) := by decide +kernel
theorem dX12_morning_0 : decode cX12_morning 0 = .ok (.iconst 0, 1) := by decide +kernel
theorem dX12_morning_1 : decode cX12_morning 1 = .ok (.istore_n 1, 1) := by decide +kernel
theorem dX12_morning_2 : decode cX12_morning 2 = .ok (.iconst 0, 1) := by decide +kernel
theorem dX12_morning_3 : decode cX12_morning 3 = .ok (.istore_n 2, 1) := by decide +kernel
theorem dX12_morning_4 : decode cX12_morning 4 = .ok (.iload_n 2, 1) := by decide +kernel
theorem dX12_morning_5 : decode cX12_morning 5 = .ok (.aload_n 0, 1) := by decide +kernel
theorem dX12_morning_6 : decode cX12_morning 6 = .ok (.getfield 271, 3) := by decide +kernel
theorem dX12_morning_9 : decode cX12_morning 9 = .ok (.if_icmp .ge 31, 3) := by decide +kernel
theorem dX12_morning_12 : decode cX12_morning 12 = .ok (.aload_n 0, 1) := by decide +kernel
theorem dX12_morning_13 : decode cX12_morning 13 = .ok (.getfield 115, 3) := by decide +kernel
theorem dX12_morning_16 : decode cX12_morning 16 = .ok (.iload_n 2, 1) := by decide +kernel
theorem dX12_morning_17 : decode cX12_morning 17 = .ok (.iaload, 1) := by decide +kernel
theorem dX12_morning_18 : decode cX12_morning 18 = .ok (.ifCond .eq 6, 3) := by decide +kernel
theorem dX12_morning_21 : decode cX12_morning 21 = .ok (.goto 13, 3) := by decide +kernel
theorem dX12_morning_24 : decode cX12_morning 24 = .ok (.aload_n 0, 1) := by decide +kernel
theorem dX12_morning_25 : decode cX12_morning 25 = .ok (.getfield 115, 3) := by decide +kernel
theorem dX12_morning_28 : decode cX12_morning 28 = .ok (.iload_n 2, 1) := by decide +kernel
theorem dX12_morning_29 : decode cX12_morning 29 = .ok (.iconst 3, 1) := by decide +kernel
theorem dX12_morning_30 : decode cX12_morning 30 = .ok (.iastore, 1) := by decide +kernel
theorem dX12_morning_31 : decode cX12_morning 31 = .ok (.iinc 1 1, 3) := by decide +kernel
theorem dX12_morning_34 : decode cX12_morning 34 = .ok (.iinc 2 1, 3) := by decide +kernel
theorem dX12_morning_37 : decode cX12_morning 37 = .ok (.goto (-33), 3) := by decide +kernel
theorem dX12_morning_40 : decode cX12_morning 40 = .ok (.iload_n 1, 1) := by decide +kernel
theorem dX12_morning_41 : decode cX12_morning 41 = .ok (.ireturn, 1) := by decide +kernel
theorem dX12_flee_0 : decode cX12_flee 0 = .ok (.aload_n 0, 1) := by decide +kernel
theorem dX12_flee_1 : decode cX12_flee 1 = .ok (.getfield 138, 3) := by decide +kernel
theorem dX12_flee_4 : decode cX12_flee 4 = .ok (.istore_n 2, 1) := by decide +kernel
theorem dX12_flee_5 : decode cX12_flee 5 = .ok (.aload_n 0, 1) := by decide +kernel
theorem dX12_flee_6 : decode cX12_flee 6 = .ok (.iconst 0, 1) := by decide +kernel
theorem dX12_flee_7 : decode cX12_flee 7 = .ok (.putfield 138, 3) := by decide +kernel
theorem dX12_flee_10 : decode cX12_flee 10 = .ok (.iload_n 2, 1) := by decide +kernel
theorem dX12_flee_11 : decode cX12_flee 11 = .ok (.iconst 2, 1) := by decide +kernel
theorem dX12_flee_12 : decode cX12_flee 12 = .ok (.bipush 10, 2) := by decide +kernel
theorem dX12_flee_14 : decode cX12_flee 14 = .ok (.invokestatic 188, 3) := by decide +kernel
theorem dX12_flee_17 : decode cX12_flee 17 = .ok (.ifCond .ne 5, 3) := by decide +kernel
theorem dX12_flee_20 : decode cX12_flee 20 = .ok (.iconst (-1), 1) := by decide +kernel
theorem dX12_flee_21 : decode cX12_flee 21 = .ok (.ireturn, 1) := by decide +kernel
theorem dX12_flee_22 : decode cX12_flee 22 = .ok (.iconst 0, 1) := by decide +kernel
theorem dX12_flee_23 : decode cX12_flee 23 = .ok (.istore_n 3, 1) := by decide +kernel
theorem dX12_flee_24 : decode cX12_flee 24 = .ok (.iload_n 3, 1) := by decide +kernel
theorem dX12_flee_25 : decode cX12_flee 25 = .ok (.iload_n 2, 1) := by decide +kernel
theorem dX12_flee_26 : decode cX12_flee 26 = .ok (.if_icmp .ge 65, 3) := by decide +kernel
theorem dX12_flee_29 : decode cX12_flee 29 = .ok (.aload_n 0, 1) := by decide +kernel
theorem dX12_flee_30 : decode cX12_flee 30 = .ok (.getfield 7, 3) := by decide +kernel
theorem dX12_flee_33 : decode cX12_flee 33 = .ok (.iload_n 3, 1) := by decide +kernel
theorem dX12_flee_34 : decode cX12_flee 34 = .ok (.baload, 1) := by decide +kernel
theorem dX12_flee_35 : decode cX12_flee 35 = .ok (.bipush 65, 2) := by decide +kernel
theorem dX12_flee_37 : decode cX12_flee 37 = .ok (.isub, 1) := by decide +kernel
theorem dX12_flee_38 : decode cX12_flee 38 = .ok (.invokestatic 192, 3) := by decide +kernel
theorem dX12_flee_41 : decode cX12_flee 41 = .ok (.ifCond .ne 5, 3) := by decide +kernel
theorem dX12_flee_44 : decode cX12_flee 44 = .ok (.iconst (-1), 1) := by decide +kernel
theorem dX12_flee_45 : decode cX12_flee 45 = .ok (.ireturn, 1) := by decide +kernel
theorem dX12_flee_46 : decode cX12_flee 46 = .ok (.iload_n 3, 1) := by decide +kernel
theorem dX12_flee_47 : decode cX12_flee 47 = .ok (.ifCond .le 38, 3) := by decide +kernel
theorem dX12_flee_50 : decode cX12_flee 50 = .ok (.aload_n 0, 1) := by decide +kernel
theorem dX12_flee_51 : decode cX12_flee 51 = .ok (.getfield 24, 3) := by decide +kernel
theorem dX12_flee_54 : decode cX12_flee 54 = .ok (.bipush 12, 2) := by decide +kernel
theorem dX12_flee_56 : decode cX12_flee 56 = .ok (.aload_n 0, 1) := by decide +kernel
theorem dX12_flee_57 : decode cX12_flee 57 = .ok (.getfield 7, 3) := by decide +kernel
theorem dX12_flee_60 : decode cX12_flee 60 = .ok (.iload_n 3, 1) := by decide +kernel
theorem dX12_flee_61 : decode cX12_flee 61 = .ok (.iconst 1, 1) := by decide +kernel
theorem dX12_flee_62 : decode cX12_flee 62 = .ok (.isub, 1) := by decide +kernel
theorem dX12_flee_63 : decode cX12_flee 63 = .ok (.baload, 1) := by decide +kernel
theorem dX12_flee_64 : decode cX12_flee 64 = .ok (.bipush 65, 2) := by decide +kernel
theorem dX12_flee_66 : decode cX12_flee 66 = .ok (.isub, 1) := by decide +kernel
theorem dX12_flee_67 : decode cX12_flee 67 = .ok (.imul, 1) := by decide +kernel
theorem dX12_flee_68 : decode cX12_flee 68 = .ok (.aload_n 0, 1) := by decide +kernel
theorem dX12_flee_69 : decode cX12_flee 69 = .ok (.getfield 7, 3) := by decide +kernel
theorem dX12_flee_72 : decode cX12_flee 72 = .ok (.iload_n 3, 1) := by decide +kernel
theorem dX12_flee_73 : decode cX12_flee 73 = .ok (.baload, 1) := by decide +kernel
theorem dX12_flee_74 : decode cX12_flee 74 = .ok (.iadd, 1) := by decide +kernel
theorem dX12_flee_75 : decode cX12_flee 75 = .ok (.bipush 65, 2) := by decide +kernel
theorem dX12_flee_77 : decode cX12_flee 77 = .ok (.isub, 1) := by decide +kernel
theorem dX12_flee_78 : decode cX12_flee 78 = .ok (.iaload, 1) := by decide +kernel
theorem dX12_flee_79 : decode cX12_flee 79 = .ok (.iconst (-1), 1) := by decide +kernel
theorem dX12_flee_80 : decode cX12_flee 80 = .ok (.if_icmp .ne 5, 3) := by decide +kernel
theorem dX12_flee_83 : decode cX12_flee 83 = .ok (.iconst (-1), 1) := by decide +kernel
theorem dX12_flee_84 : decode cX12_flee 84 = .ok (.ireturn, 1) := by decide +kernel
theorem dX12_flee_85 : decode cX12_flee 85 = .ok (.iinc 3 1, 3) := by decide +kernel
theorem dX12_flee_88 : decode cX12_flee 88 = .ok (.goto (-64), 3) := by decide +kernel
theorem dX12_flee_91 : decode cX12_flee 91 = .ok (.aload_n 0, 1) := by decide +kernel
theorem dX12_flee_92 : decode cX12_flee 92 = .ok (.getfield 17, 3) := by decide +kernel
theorem dX12_flee_95 : decode cX12_flee 95 = .ok (.aload_n 0, 1) := by decide +kernel
theorem dX12_flee_96 : decode cX12_flee 96 = .ok (.getfield 7, 3) := by decide +kernel
theorem dX12_flee_99 : decode cX12_flee 99 = .ok (.iconst 0, 1) := by decide +kernel
theorem dX12_flee_100 : decode cX12_flee 100 = .ok (.baload, 1) := by decide +kernel
theorem dX12_flee_101 : decode cX12_flee 101 = .ok (.bipush 65, 2) := by decide +kernel
theorem dX12_flee_103 : decode cX12_flee 103 = .ok (.isub, 1) := by decide +kernel
theorem dX12_flee_104 : decode cX12_flee 104 = .ok (.iaload, 1) := by decide +kernel
theorem dX12_flee_105 : decode cX12_flee 105 = .ok (.istore_n 3, 1) := by decide +kernel
theorem dX12_flee_106 : decode cX12_flee 106 = .ok (.iconst 0, 1) := by decide +kernel
theorem dX12_flee_107 : decode cX12_flee 107 = .ok (.istore 4, 2) := by decide +kernel
theorem dX12_flee_109 : decode cX12_flee 109 = .ok (.iconst 0, 1) := by decide +kernel
theorem dX12_flee_110 : decode cX12_flee 110 = .ok (.istore 5, 2) := by decide +kernel
theorem dX12_flee_112 : decode cX12_flee 112 = .ok (.iconst 0, 1) := by decide +kernel
theorem dX12_flee_113 : decode cX12_flee 113 = .ok (.istore 6, 2) := by decide +kernel
theorem dX12_flee_115 : decode cX12_flee 115 = .ok (.iconst 1, 1) := by decide +kernel
theorem dX12_flee_116 : decode cX12_flee 116 = .ok (.istore 7, 2) := by decide +kernel
theorem dX12_flee_118 : decode cX12_flee 118 = .ok (.iload 7, 2) := by decide +kernel
theorem dX12_flee_120 : decode cX12_flee 120 = .ok (.ifCond .eq 156, 3) := by decide +kernel
theorem dX12_flee_123 : decode cX12_flee 123 = .ok (.iload 6, 2) := by decide +kernel
theorem dX12_flee_125 : decode cX12_flee 125 = .ok (.iconst 1, 1) := by decide +kernel
theorem dX12_flee_126 : decode cX12_flee 126 = .ok (.iadd, 1) := by decide +kernel
theorem dX12_flee_127 : decode cX12_flee 127 = .ok (.iload_n 2, 1) := by decide +kernel
theorem dX12_flee_128 : decode cX12_flee 128 = .ok (.if_icmp .ge 148, 3) := by decide +kernel
theorem dX12_flee_131 : decode cX12_flee 131 = .ok (.aload_n 0, 1) := by decide +kernel
theorem dX12_flee_132 : decode cX12_flee 132 = .ok (.getfield 7, 3) := by decide +kernel
theorem dX12_flee_135 : decode cX12_flee 135 = .ok (.iload 6, 2) := by decide +kernel
theorem dX12_flee_137 : decode cX12_flee 137 = .ok (.iconst 1, 1) := by decide +kernel
theorem dX12_flee_138 : decode cX12_flee 138 = .ok (.iadd, 1) := by decide +kernel
theorem dX12_flee_139 : decode cX12_flee 139 = .ok (.baload, 1) := by decide +kernel
theorem dX12_flee_140 : decode cX12_flee 140 = .ok (.bipush 65, 2) := by decide +kernel
theorem dX12_flee_142 : decode cX12_flee 142 = .ok (.isub, 1) := by decide +kernel
theorem dX12_flee_143 : decode cX12_flee 143 = .ok (.istore 8, 2) := by decide +kernel
theorem dX12_flee_145 : decode cX12_flee 145 = .ok (.aload_n 0, 1) := by decide +kernel
theorem dX12_flee_146 : decode cX12_flee 146 = .ok (.getfield 24, 3) := by decide +kernel
theorem dX12_flee_149 : decode cX12_flee 149 = .ok (.bipush 12, 2) := by decide +kernel
theorem dX12_flee_151 : decode cX12_flee 151 = .ok (.aload_n 0, 1) := by decide +kernel
theorem dX12_flee_152 : decode cX12_flee 152 = .ok (.getfield 7, 3) := by decide +kernel
theorem dX12_flee_155 : decode cX12_flee 155 = .ok (.iload 6, 2) := by decide +kernel
theorem dX12_flee_157 : decode cX12_flee 157 = .ok (.baload, 1) := by decide +kernel
theorem dX12_flee_158 : decode cX12_flee 158 = .ok (.bipush 65, 2) := by decide +kernel
theorem dX12_flee_160 : decode cX12_flee 160 = .ok (.isub, 1) := by decide +kernel
theorem dX12_flee_161 : decode cX12_flee 161 = .ok (.imul, 1) := by decide +kernel
theorem dX12_flee_162 : decode cX12_flee 162 = .ok (.iload 8, 2) := by decide +kernel
theorem dX12_flee_164 : decode cX12_flee 164 = .ok (.iadd, 1) := by decide +kernel
theorem dX12_flee_165 : decode cX12_flee 165 = .ok (.iaload, 1) := by decide +kernel
theorem dX12_flee_166 : decode cX12_flee 166 = .ok (.istore 9, 2) := by decide +kernel
theorem dX12_flee_168 : decode cX12_flee 168 = .ok (.iload 4, 2) := by decide +kernel
theorem dX12_flee_170 : decode cX12_flee 170 = .ok (.iload 9, 2) := by decide +kernel
theorem dX12_flee_172 : decode cX12_flee 172 = .ok (.iadd, 1) := by decide +kernel
theorem dX12_flee_173 : decode cX12_flee 173 = .ok (.istore 10, 2) := by decide +kernel
theorem dX12_flee_175 : decode cX12_flee 175 = .ok (.bipush 8, 2) := by decide +kernel
theorem dX12_flee_177 : decode cX12_flee 177 = .ok (.aload_n 0, 1) := by decide +kernel
theorem dX12_flee_178 : decode cX12_flee 178 = .ok (.getfield 17, 3) := by decide +kernel
theorem dX12_flee_181 : decode cX12_flee 181 = .ok (.iload 8, 2) := by decide +kernel
theorem dX12_flee_183 : decode cX12_flee 183 = .ok (.iaload, 1) := by decide +kernel
theorem dX12_flee_184 : decode cX12_flee 184 = .ok (.imul, 1) := by decide +kernel
theorem dX12_flee_185 : decode cX12_flee 185 = .ok (.istore 11, 2) := by decide +kernel
theorem dX12_flee_187 : decode cX12_flee 187 = .ok (.aload_n 0, 1) := by decide +kernel
theorem dX12_flee_188 : decode cX12_flee 188 = .ok (.getfield 17, 3) := by decide +kernel
theorem dX12_flee_191 : decode cX12_flee 191 = .ok (.iload 8, 2) := by decide +kernel
theorem dX12_flee_193 : decode cX12_flee 193 = .ok (.iaload, 1) := by decide +kernel
theorem dX12_flee_194 : decode cX12_flee 194 = .ok (.iload_n 3, 1) := by decide +kernel
theorem dX12_flee_195 : decode cX12_flee 195 = .ok (.if_icmp .eq 34, 3) := by decide +kernel
theorem dX12_flee_198 : decode cX12_flee 198 = .ok (.aload_n 0, 1) := by decide +kernel
theorem dX12_flee_199 : decode cX12_flee 199 = .ok (.getfield 57, 3) := by decide +kernel
theorem dX12_flee_202 : decode cX12_flee 202 = .ok (.iload 11, 2) := by decide +kernel
theorem dX12_flee_204 : decode cX12_flee 204 = .ok (.iconst 5, 1) := by decide +kernel
theorem dX12_flee_205 : decode cX12_flee 205 = .ok (.iadd, 1) := by decide +kernel
theorem dX12_flee_206 : decode cX12_flee 206 = .ok (.iaload, 1) := by decide +kernel
theorem dX12_flee_207 : decode cX12_flee 207 = .ok (.iload 10, 2) := by decide +kernel
theorem dX12_flee_209 : decode cX12_flee 209 = .ok (.if_icmp .lt 24, 3) := by decide +kernel
theorem dX12_flee_212 : decode cX12_flee 212 = .ok (.aload_n 0, 1) := by decide +kernel
theorem dX12_flee_213 : decode cX12_flee 213 = .ok (.getfield 57, 3) := by decide +kernel
theorem dX12_flee_216 : decode cX12_flee 216 = .ok (.iload 11, 2) := by decide +kernel
theorem dX12_flee_218 : decode cX12_flee 218 = .ok (.bipush 6, 2) := by decide +kernel
theorem dX12_flee_220 : decode cX12_flee 220 = .ok (.iadd, 1) := by decide +kernel
theorem dX12_flee_221 : decode cX12_flee 221 = .ok (.iaload, 1) := by decide +kernel
theorem dX12_flee_222 : decode cX12_flee 222 = .ok (.ifCond .eq 7, 3) := by decide +kernel
theorem dX12_flee_225 : decode cX12_flee 225 = .ok (.iload_n 1, 1) := by decide +kernel
theorem dX12_flee_226 : decode cX12_flee 226 = .ok (.ifCond .eq 7, 3) := by decide +kernel
theorem dX12_flee_229 : decode cX12_flee 229 = .ok (.iconst 1, 1) := by decide +kernel
theorem dX12_flee_230 : decode cX12_flee 230 = .ok (.goto 4, 3) := by decide +kernel
theorem dX12_flee_233 : decode cX12_flee 233 = .ok (.iconst 0, 1) := by decide +kernel
theorem dX12_flee_234 : decode cX12_flee 234 = .ok (.istore 7, 2) := by decide +kernel
theorem dX12_flee_236 : decode cX12_flee 236 = .ok (.iload 7, 2) := by decide +kernel
theorem dX12_flee_238 : decode cX12_flee 238 = .ok (.ifCond .ne 6, 3) := by decide +kernel
theorem dX12_flee_241 : decode cX12_flee 241 = .ok (.goto (-123), 3) := by decide +kernel
theorem dX12_flee_244 : decode cX12_flee 244 = .ok (.iinc 6 1, 3) := by decide +kernel
theorem dX12_flee_247 : decode cX12_flee 247 = .ok (.iload 5, 2) := by decide +kernel
theorem dX12_flee_249 : decode cX12_flee 249 = .ok (.iload 9, 2) := by decide +kernel
theorem dX12_flee_251 : decode cX12_flee 251 = .ok (.iadd, 1) := by decide +kernel
theorem dX12_flee_252 : decode cX12_flee 252 = .ok (.istore 5, 2) := by decide +kernel
theorem dX12_flee_254 : decode cX12_flee 254 = .ok (.aload_n 0, 1) := by decide +kernel
theorem dX12_flee_255 : decode cX12_flee 255 = .ok (.getfield 17, 3) := by decide +kernel
theorem dX12_flee_258 : decode cX12_flee 258 = .ok (.iload 8, 2) := by decide +kernel
theorem dX12_flee_260 : decode cX12_flee 260 = .ok (.iaload, 1) := by decide +kernel
theorem dX12_flee_261 : decode cX12_flee 261 = .ok (.iload_n 3, 1) := by decide +kernel
theorem dX12_flee_262 : decode cX12_flee 262 = .ok (.if_icmp .ne 7, 3) := by decide +kernel
theorem dX12_flee_265 : decode cX12_flee 265 = .ok (.iconst 0, 1) := by decide +kernel
theorem dX12_flee_266 : decode cX12_flee 266 = .ok (.goto 5, 3) := by decide +kernel
theorem dX12_flee_269 : decode cX12_flee 269 = .ok (.iload 10, 2) := by decide +kernel
theorem dX12_flee_271 : decode cX12_flee 271 = .ok (.istore 4, 2) := by decide +kernel
theorem dX12_flee_273 : decode cX12_flee 273 = .ok (.goto (-155), 3) := by decide +kernel
theorem dX12_flee_276 : decode cX12_flee 276 = .ok (.aload_n 0, 1) := by decide +kernel
theorem dX12_flee_277 : decode cX12_flee 277 = .ok (.iload 5, 2) := by decide +kernel
theorem dX12_flee_279 : decode cX12_flee 279 = .ok (.putfield 121, 3) := by decide +kernel
theorem dX12_flee_282 : decode cX12_flee 282 = .ok (.aload_n 0, 1) := by decide +kernel
theorem dX12_flee_283 : decode cX12_flee 283 = .ok (.aload_n 0, 1) := by decide +kernel
theorem dX12_flee_284 : decode cX12_flee 284 = .ok (.getfield 7, 3) := by decide +kernel
theorem dX12_flee_287 : decode cX12_flee 287 = .ok (.iload 6, 2) := by decide +kernel
theorem dX12_flee_289 : decode cX12_flee 289 = .ok (.baload, 1) := by decide +kernel
theorem dX12_flee_290 : decode cX12_flee 290 = .ok (.bipush 65, 2) := by decide +kernel
theorem dX12_flee_292 : decode cX12_flee 292 = .ok (.isub, 1) := by decide +kernel
theorem dX12_flee_293 : decode cX12_flee 293 = .ok (.putfield 124, 3) := by decide +kernel
theorem dX12_flee_296 : decode cX12_flee 296 = .ok (.iload 6, 2) := by decide +kernel
theorem dX12_flee_298 : decode cX12_flee 298 = .ok (.iconst 1, 1) := by decide +kernel
theorem dX12_flee_299 : decode cX12_flee 299 = .ok (.iadd, 1) := by decide +kernel
theorem dX12_flee_300 : decode cX12_flee 300 = .ok (.ireturn, 1) := by decide +kernel
theorem dX12_fled_0 : decode cX12_fled 0 = .ok (.iload_n 1, 1) := by decide +kernel
theorem dX12_fled_1 : decode cX12_fled 1 = .ok (.ifCond .ne 10, 3) := by decide +kernel
theorem dX12_fled_4 : decode cX12_fled 4 = .ok (.aload_n 0, 1) := by decide +kernel
theorem dX12_fled_5 : decode cX12_fled 5 = .ok (.getfield 121, 3) := by decide +kernel
theorem dX12_fled_8 : decode cX12_fled 8 = .ok (.goto 17, 3) := by decide +kernel
theorem dX12_fled_11 : decode cX12_fled 11 = .ok (.iload_n 1, 1) := by decide +kernel
theorem dX12_fled_12 : decode cX12_fled 12 = .ok (.iconst 1, 1) := by decide +kernel
theorem dX12_fled_13 : decode cX12_fled 13 = .ok (.if_icmp .ne 10, 3) := by decide +kernel
theorem dX12_fled_16 : decode cX12_fled 16 = .ok (.aload_n 0, 1) := by decide +kernel
theorem dX12_fled_17 : decode cX12_fled 17 = .ok (.getfield 124, 3) := by decide +kernel
theorem dX12_fled_20 : decode cX12_fled 20 = .ok (.goto 5, 3) := by decide +kernel
theorem dX12_fled_23 : decode cX12_fled 23 = .ok (.bipush (-9), 2) := by decide +kernel
theorem dX12_fled_25 : decode cX12_fled 25 = .ok (.ireturn, 1) := by decide +kernel
theorem dX12_isSome_0 : decode cX12_isSome 0 = .ok (.iload_n 0, 1) := by decide +kernel
theorem dX12_isSome_1 : decode cX12_isSome 1 = .ok (.iconst 0, 1) := by decide +kernel
theorem dX12_isSome_2 : decode cX12_isSome 2 = .ok (.bipush 15, 2) := by decide +kernel
theorem dX12_isSome_4 : decode cX12_isSome 4 = .ok (.invokestatic 188, 3) := by decide +kernel
theorem dX12_isSome_7 : decode cX12_isSome 7 = .ok (.ireturn, 1) := by decide +kernel
theorem dX12_doubt_0 : decode cX12_doubt 0 = .ok (.iload_n 1, 1) := by decide +kernel
theorem dX12_doubt_1 : decode cX12_doubt 1 = .ok (.invokestatic 284, 3) := by decide +kernel
theorem dX12_doubt_4 : decode cX12_doubt 4 = .ok (.ifCond .eq 46, 3) := by decide +kernel
theorem dX12_doubt_7 : decode cX12_doubt 7 = .ok (.iload_n 2, 1) := by decide +kernel
theorem dX12_doubt_8 : decode cX12_doubt 8 = .ok (.invokestatic 284, 3) := by decide +kernel
theorem dX12_doubt_11 : decode cX12_doubt 11 = .ok (.ifCond .eq 39, 3) := by decide +kernel
theorem dX12_doubt_14 : decode cX12_doubt 14 = .ok (.iload_n 3, 1) := by decide +kernel
theorem dX12_doubt_15 : decode cX12_doubt 15 = .ok (.invokestatic 284, 3) := by decide +kernel
theorem dX12_doubt_18 : decode cX12_doubt 18 = .ok (.ifCond .eq 32, 3) := by decide +kernel
theorem dX12_doubt_21 : decode cX12_doubt 21 = .ok (.iload 4, 2) := by decide +kernel
theorem dX12_doubt_23 : decode cX12_doubt 23 = .ok (.invokestatic 284, 3) := by decide +kernel
theorem dX12_doubt_26 : decode cX12_doubt 26 = .ok (.ifCond .eq 24, 3) := by decide +kernel
theorem dX12_doubt_29 : decode cX12_doubt 29 = .ok (.iload_n 1, 1) := by decide +kernel
theorem dX12_doubt_30 : decode cX12_doubt 30 = .ok (.iload_n 2, 1) := by decide +kernel
theorem dX12_doubt_31 : decode cX12_doubt 31 = .ok (.iadd, 1) := by decide +kernel
theorem dX12_doubt_32 : decode cX12_doubt 32 = .ok (.iload_n 3, 1) := by decide +kernel
theorem dX12_doubt_33 : decode cX12_doubt 33 = .ok (.iadd, 1) := by decide +kernel
theorem dX12_doubt_34 : decode cX12_doubt 34 = .ok (.iload 4, 2) := by decide +kernel
theorem dX12_doubt_36 : decode cX12_doubt 36 = .ok (.iadd, 1) := by decide +kernel
theorem dX12_doubt_37 : decode cX12_doubt 37 = .ok (.ifCond .eq 13, 3) := by decide +kernel
theorem dX12_doubt_40 : decode cX12_doubt 40 = .ok (.iload 5, 2) := by decide +kernel
theorem dX12_doubt_42 : decode cX12_doubt 42 = .ok (.iconst 0, 1) := by decide +kernel
theorem dX12_doubt_43 : decode cX12_doubt 43 = .ok (.iconst 2, 1) := by decide +kernel
theorem dX12_doubt_44 : decode cX12_doubt 44 = .ok (.invokestatic 188, 3) := by decide +kernel
theorem dX12_doubt_47 : decode cX12_doubt 47 = .ok (.ifCond .ne 7, 3) := by decide +kernel
theorem dX12_doubt_50 : decode cX12_doubt 50 = .ok (.ldc2_w 287, 3) := by decide +kernel
theorem dX12_doubt_53 : decode cX12_doubt 53 = .ok (.lreturn, 1) := by decide +kernel
theorem dX12_doubt_54 : decode cX12_doubt 54 = .ok (.aload_n 0, 1) := by decide +kernel
theorem dX12_doubt_55 : decode cX12_doubt 55 = .ok (.iload_n 1, 1) := by decide +kernel
theorem dX12_doubt_56 : decode cX12_doubt 56 = .ok (.iload_n 2, 1) := by decide +kernel
theorem dX12_doubt_57 : decode cX12_doubt 57 = .ok (.iadd, 1) := by decide +kernel
theorem dX12_doubt_58 : decode cX12_doubt 58 = .ok (.iload_n 3, 1) := by decide +kernel
theorem dX12_doubt_59 : decode cX12_doubt 59 = .ok (.iadd, 1) := by decide +kernel
theorem dX12_doubt_60 : decode cX12_doubt 60 = .ok (.iload 4, 2) := by decide +kernel
theorem dX12_doubt_62 : decode cX12_doubt 62 = .ok (.iadd, 1) := by decide +kernel
theorem dX12_doubt_63 : decode cX12_doubt 63 = .ok (.iload_n 1, 1) := by decide +kernel
theorem dX12_doubt_64 : decode cX12_doubt 64 = .ok (.iload_n 3, 1) := by decide +kernel
theorem dX12_doubt_65 : decode cX12_doubt 65 = .ok (.iadd, 1) := by decide +kernel
theorem dX12_doubt_66 : decode cX12_doubt 66 = .ok (.invokevirtual 289, 3) := by decide +kernel
theorem dX12_doubt_69 : decode cX12_doubt 69 = .ok (.lstore 6, 2) := by decide +kernel
theorem dX12_doubt_71 : decode cX12_doubt 71 = .ok (.lconst 0, 1) := by decide +kernel
theorem dX12_doubt_72 : decode cX12_doubt 72 = .ok (.lstore 8, 2) := by decide +kernel
theorem dX12_doubt_74 : decode cX12_doubt 74 = .ok (.iconst 0, 1) := by decide +kernel
theorem dX12_doubt_75 : decode cX12_doubt 75 = .ok (.istore 10, 2) := by decide +kernel
theorem dX12_doubt_77 : decode cX12_doubt 77 = .ok (.iload 10, 2) := by decide +kernel
theorem dX12_doubt_79 : decode cX12_doubt 79 = .ok (.iload_n 1, 1) := by decide +kernel
theorem dX12_doubt_80 : decode cX12_doubt 80 = .ok (.if_icmp .gt 55, 3) := by decide +kernel
theorem dX12_doubt_83 : decode cX12_doubt 83 = .ok (.lload 8, 2) := by decide +kernel
theorem dX12_doubt_85 : decode cX12_doubt 85 = .ok (.iload_n 1, 1) := by decide +kernel
theorem dX12_doubt_86 : decode cX12_doubt 86 = .ok (.iload_n 3, 1) := by decide +kernel
theorem dX12_doubt_87 : decode cX12_doubt 87 = .ok (.iadd, 1) := by decide +kernel
theorem dX12_doubt_88 : decode cX12_doubt 88 = .ok (.iload 10, 2) := by decide +kernel
theorem dX12_doubt_90 : decode cX12_doubt 90 = .ok (.isub, 1) := by decide +kernel
theorem dX12_doubt_91 : decode cX12_doubt 91 = .ok (.iload_n 3, 1) := by decide +kernel
theorem dX12_doubt_92 : decode cX12_doubt 92 = .ok (.iload 4, 2) := by decide +kernel
theorem dX12_doubt_94 : decode cX12_doubt 94 = .ok (.iadd, 1) := by decide +kernel
theorem dX12_doubt_95 : decode cX12_doubt 95 = .ok (.if_icmp .le 7, 3) := by decide +kernel
theorem dX12_doubt_98 : decode cX12_doubt 98 = .ok (.lconst 0, 1) := by decide +kernel
theorem dX12_doubt_99 : decode cX12_doubt 99 = .ok (.goto 27, 3) := by decide +kernel
theorem dX12_doubt_102 : decode cX12_doubt 102 = .ok (.aload_n 0, 1) := by decide +kernel
theorem dX12_doubt_103 : decode cX12_doubt 103 = .ok (.iload_n 1, 1) := by decide +kernel
theorem dX12_doubt_104 : decode cX12_doubt 104 = .ok (.iload_n 2, 1) := by decide +kernel
theorem dX12_doubt_105 : decode cX12_doubt 105 = .ok (.iadd, 1) := by decide +kernel
theorem dX12_doubt_106 : decode cX12_doubt 106 = .ok (.iload 10, 2) := by decide +kernel
theorem dX12_doubt_108 : decode cX12_doubt 108 = .ok (.invokevirtual 289, 3) := by decide +kernel
theorem dX12_doubt_111 : decode cX12_doubt 111 = .ok (.aload_n 0, 1) := by decide +kernel
theorem dX12_doubt_112 : decode cX12_doubt 112 = .ok (.iload_n 3, 1) := by decide +kernel
theorem dX12_doubt_113 : decode cX12_doubt 113 = .ok (.iload 4, 2) := by decide +kernel
theorem dX12_doubt_115 : decode cX12_doubt 115 = .ok (.iadd, 1) := by decide +kernel
theorem dX12_doubt_116 : decode cX12_doubt 116 = .ok (.iload_n 1, 1) := by decide +kernel
theorem dX12_doubt_117 : decode cX12_doubt 117 = .ok (.iload_n 3, 1) := by decide +kernel
theorem dX12_doubt_118 : decode cX12_doubt 118 = .ok (.iadd, 1) := by decide +kernel
theorem dX12_doubt_119 : decode cX12_doubt 119 = .ok (.iload 10, 2) := by decide +kernel
theorem dX12_doubt_121 : decode cX12_doubt 121 = .ok (.isub, 1) := by decide +kernel
theorem dX12_doubt_122 : decode cX12_doubt 122 = .ok (.invokevirtual 289, 3) := by decide +kernel
theorem dX12_doubt_125 : decode cX12_doubt 125 = .ok (.lmul, 1) := by decide +kernel
theorem dX12_doubt_126 : decode cX12_doubt 126 = .ok (.ladd, 1) := by decide +kernel
theorem dX12_doubt_127 : decode cX12_doubt 127 = .ok (.lstore 8, 2) := by decide +kernel
theorem dX12_doubt_129 : decode cX12_doubt 129 = .ok (.iinc 10 1, 3) := by decide +kernel
theorem dX12_doubt_132 : decode cX12_doubt 132 = .ok (.goto (-55), 3) := by decide +kernel
theorem dX12_doubt_135 : decode cX12_doubt 135 = .ok (.iload 5, 2) := by decide +kernel
theorem dX12_doubt_137 : decode cX12_doubt 137 = .ok (.iconst 2, 1) := by decide +kernel
theorem dX12_doubt_138 : decode cX12_doubt 138 = .ok (.if_icmp .ne 21, 3) := by decide +kernel
theorem dX12_doubt_141 : decode cX12_doubt 141 = .ok (.ldc2_w 293, 3) := by decide +kernel
theorem dX12_doubt_144 : decode cX12_doubt 144 = .ok (.lload 8, 2) := by decide +kernel
theorem dX12_doubt_146 : decode cX12_doubt 146 = .ok (.lmul, 1) := by decide +kernel
theorem dX12_doubt_147 : decode cX12_doubt 147 = .ok (.lload 6, 2) := by decide +kernel
theorem dX12_doubt_149 : decode cX12_doubt 149 = .ok (.lcmp, 1) := by decide +kernel
theorem dX12_doubt_150 : decode cX12_doubt 150 = .ok (.ifCond .gt 7, 3) := by decide +kernel
theorem dX12_doubt_153 : decode cX12_doubt 153 = .ok (.lconst 1, 1) := by decide +kernel
theorem dX12_doubt_154 : decode cX12_doubt 154 = .ok (.goto 4, 3) := by decide +kernel
theorem dX12_doubt_157 : decode cX12_doubt 157 = .ok (.lconst 0, 1) := by decide +kernel
theorem dX12_doubt_158 : decode cX12_doubt 158 = .ok (.lreturn, 1) := by decide +kernel
theorem dX12_doubt_159 : decode cX12_doubt 159 = .ok (.lload 8, 2) := by decide +kernel
theorem dX12_doubt_161 : decode cX12_doubt 161 = .ok (.lstore 10, 2) := by decide +kernel
theorem dX12_doubt_163 : decode cX12_doubt 163 = .ok (.lload 6, 2) := by decide +kernel
theorem dX12_doubt_165 : decode cX12_doubt 165 = .ok (.lstore 12, 2) := by decide +kernel
theorem dX12_doubt_167 : decode cX12_doubt 167 = .ok (.lload 12, 2) := by decide +kernel
theorem dX12_doubt_169 : decode cX12_doubt 169 = .ok (.lconst 0, 1) := by decide +kernel
theorem dX12_doubt_170 : decode cX12_doubt 170 = .ok (.lcmp, 1) := by decide +kernel
theorem dX12_doubt_171 : decode cX12_doubt 171 = .ok (.ifCond .eq 21, 3) := by decide +kernel
theorem dX12_doubt_174 : decode cX12_doubt 174 = .ok (.lload 10, 2) := by decide +kernel
theorem dX12_doubt_176 : decode cX12_doubt 176 = .ok (.lload 12, 2) := by decide +kernel
theorem dX12_doubt_178 : decode cX12_doubt 178 = .ok (.lrem, 1) := by decide +kernel
theorem dX12_doubt_179 : decode cX12_doubt 179 = .ok (.lstore 14, 2) := by decide +kernel
theorem dX12_doubt_181 : decode cX12_doubt 181 = .ok (.lload 12, 2) := by decide +kernel
theorem dX12_doubt_183 : decode cX12_doubt 183 = .ok (.lstore 10, 2) := by decide +kernel
theorem dX12_doubt_185 : decode cX12_doubt 185 = .ok (.lload 14, 2) := by decide +kernel
theorem dX12_doubt_187 : decode cX12_doubt 187 = .ok (.lstore 12, 2) := by decide +kernel
theorem dX12_doubt_189 : decode cX12_doubt 189 = .ok (.goto (-22), 3) := by decide +kernel
theorem dX12_doubt_192 : decode cX12_doubt 192 = .ok (.iload 5, 2) := by decide +kernel
theorem dX12_doubt_194 : decode cX12_doubt 194 = .ok (.ifCond .ne 11, 3) := by decide +kernel
theorem dX12_doubt_197 : decode cX12_doubt 197 = .ok (.lload 8, 2) := by decide +kernel
theorem dX12_doubt_199 : decode cX12_doubt 199 = .ok (.lload 10, 2) := by decide +kernel
theorem dX12_doubt_201 : decode cX12_doubt 201 = .ok (.ldiv, 1) := by decide +kernel
theorem dX12_doubt_202 : decode cX12_doubt 202 = .ok (.goto 8, 3) := by decide +kernel
theorem dX12_doubt_205 : decode cX12_doubt 205 = .ok (.lload 6, 2) := by decide +kernel
theorem dX12_doubt_207 : decode cX12_doubt 207 = .ok (.lload 10, 2) := by decide +kernel
theorem dX12_doubt_209 : decode cX12_doubt 209 = .ok (.ldiv, 1) := by decide +kernel
theorem dX12_doubt_210 : decode cX12_doubt 210 = .ok (.lreturn, 1) := by decide +kernel
theorem dX12_count_0 : decode cX12_count 0 = .ok (.iload_n 1, 1) := by decide +kernel
theorem dX12_count_1 : decode cX12_count 1 = .ok (.tableswitch 42 0 2 #[27, 32, 37], 27) := by decide +kernel
theorem dX12_count_28 : decode cX12_count 28 = .ok (.aload_n 0, 1) := by decide +kernel
theorem dX12_count_29 : decode cX12_count 29 = .ok (.getfield 260, 3) := by decide +kernel
theorem dX12_count_32 : decode cX12_count 32 = .ok (.ireturn, 1) := by decide +kernel
theorem dX12_count_33 : decode cX12_count 33 = .ok (.aload_n 0, 1) := by decide +kernel
theorem dX12_count_34 : decode cX12_count 34 = .ok (.getfield 271, 3) := by decide +kernel
theorem dX12_count_37 : decode cX12_count 37 = .ok (.ireturn, 1) := by decide +kernel
theorem dX12_count_38 : decode cX12_count 38 = .ok (.aload_n 0, 1) := by decide +kernel
theorem dX12_count_39 : decode cX12_count 39 = .ok (.getfield 138, 3) := by decide +kernel
theorem dX12_count_42 : decode cX12_count 42 = .ok (.ireturn, 1) := by decide +kernel
theorem dX12_count_43 : decode cX12_count 43 = .ok (.iload_n 1, 1) := by decide +kernel
theorem dX12_count_44 : decode cX12_count 44 = .ok (.bipush 10, 2) := by decide +kernel
theorem dX12_count_46 : decode cX12_count 46 = .ok (.bipush 13, 2) := by decide +kernel
theorem dX12_count_48 : decode cX12_count 48 = .ok (.invokestatic 188, 3) := by decide +kernel
theorem dX12_count_51 : decode cX12_count 51 = .ok (.ifCond .eq 13, 3) := by decide +kernel
theorem dX12_count_54 : decode cX12_count 54 = .ok (.aload_n 0, 1) := by decide +kernel
theorem dX12_count_55 : decode cX12_count 55 = .ok (.getfield 103, 3) := by decide +kernel
theorem dX12_count_58 : decode cX12_count 58 = .ok (.iload_n 1, 1) := by decide +kernel
theorem dX12_count_59 : decode cX12_count 59 = .ok (.bipush 10, 2) := by decide +kernel
theorem dX12_count_61 : decode cX12_count 61 = .ok (.isub, 1) := by decide +kernel
theorem dX12_count_62 : decode cX12_count 62 = .ok (.iaload, 1) := by decide +kernel
theorem dX12_count_63 : decode cX12_count 63 = .ok (.ireturn, 1) := by decide +kernel
theorem dX12_count_64 : decode cX12_count 64 = .ok (.iload_n 1, 1) := by decide +kernel
theorem dX12_count_65 : decode cX12_count 65 = .ok (.bipush 20, 2) := by decide +kernel
theorem dX12_count_67 : decode cX12_count 67 = .ok (.bipush 23, 2) := by decide +kernel
theorem dX12_count_69 : decode cX12_count 69 = .ok (.invokestatic 188, 3) := by decide +kernel
theorem dX12_count_72 : decode cX12_count 72 = .ok (.ifCond .eq 12, 3) := by decide +kernel
theorem dX12_count_75 : decode cX12_count 75 = .ok (.aload_n 0, 1) := by decide +kernel
theorem dX12_count_76 : decode cX12_count 76 = .ok (.iload_n 1, 1) := by decide +kernel
theorem dX12_count_77 : decode cX12_count 77 = .ok (.bipush 20, 2) := by decide +kernel
theorem dX12_count_79 : decode cX12_count 79 = .ok (.isub, 1) := by decide +kernel
theorem dX12_count_80 : decode cX12_count 80 = .ok (.invokevirtual 274, 3) := by decide +kernel
theorem dX12_count_83 : decode cX12_count 83 = .ok (.ireturn, 1) := by decide +kernel
theorem dX12_count_84 : decode cX12_count 84 = .ok (.iload_n 1, 1) := by decide +kernel
theorem dX12_count_85 : decode cX12_count 85 = .ok (.bipush 30, 2) := by decide +kernel
theorem dX12_count_87 : decode cX12_count 87 = .ok (.bipush 33, 2) := by decide +kernel
theorem dX12_count_89 : decode cX12_count 89 = .ok (.invokestatic 188, 3) := by decide +kernel
theorem dX12_count_92 : decode cX12_count 92 = .ok (.ifCond .eq 15, 3) := by decide +kernel
theorem dX12_count_95 : decode cX12_count 95 = .ok (.aload_n 0, 1) := by decide +kernel
theorem dX12_count_96 : decode cX12_count 96 = .ok (.getfield 84, 3) := by decide +kernel
theorem dX12_count_99 : decode cX12_count 99 = .ok (.iload_n 1, 1) := by decide +kernel
theorem dX12_count_100 : decode cX12_count 100 = .ok (.bipush 30, 2) := by decide +kernel
theorem dX12_count_102 : decode cX12_count 102 = .ok (.isub, 1) := by decide +kernel
theorem dX12_count_103 : decode cX12_count 103 = .ok (.iaload, 1) := by decide +kernel
theorem dX12_count_104 : decode cX12_count 104 = .ok (.goto 4, 3) := by decide +kernel
theorem dX12_count_107 : decode cX12_count 107 = .ok (.iconst (-1), 1) := by decide +kernel
theorem dX12_count_108 : decode cX12_count 108 = .ok (.ireturn, 1) := by decide +kernel
theorem dX12_chosen_0 : decode cX12_chosen 0 = .ok (.aload_n 0, 1) := by decide +kernel
theorem dX12_chosen_1 : decode cX12_chosen 1 = .ok (.getfield 295, 3) := by decide +kernel
theorem dX12_chosen_4 : decode cX12_chosen 4 = .ok (.ifCond .ne 100, 3) := by decide +kernel
theorem dX12_chosen_7 : decode cX12_chosen 7 = .ok (.aload_n 0, 1) := by decide +kernel
theorem dX12_chosen_8 : decode cX12_chosen 8 = .ok (.iconst 1, 1) := by decide +kernel
theorem dX12_chosen_9 : decode cX12_chosen 9 = .ok (.putfield 295, 3) := by decide +kernel
theorem dX12_chosen_12 : decode cX12_chosen 12 = .ok (.iconst 0, 1) := by decide +kernel
theorem dX12_chosen_13 : decode cX12_chosen 13 = .ok (.istore_n 3, 1) := by decide +kernel
theorem dX12_chosen_14 : decode cX12_chosen 14 = .ok (.iload_n 3, 1) := by decide +kernel
theorem dX12_chosen_15 : decode cX12_chosen 15 = .ok (.bipush 61, 2) := by decide +kernel
theorem dX12_chosen_17 : decode cX12_chosen 17 = .ok (.if_icmp .ge 87, 3) := by decide +kernel
theorem dX12_chosen_20 : decode cX12_chosen 20 = .ok (.aload_n 0, 1) := by decide +kernel
theorem dX12_chosen_21 : decode cX12_chosen 21 = .ok (.getfield 127, 3) := by decide +kernel
theorem dX12_chosen_24 : decode cX12_chosen 24 = .ok (.bipush 61, 2) := by decide +kernel
theorem dX12_chosen_26 : decode cX12_chosen 26 = .ok (.iload_n 3, 1) := by decide +kernel
theorem dX12_chosen_27 : decode cX12_chosen 27 = .ok (.imul, 1) := by decide +kernel
theorem dX12_chosen_28 : decode cX12_chosen 28 = .ok (.lconst 1, 1) := by decide +kernel
theorem dX12_chosen_29 : decode cX12_chosen 29 = .ok (.lastore, 1) := by decide +kernel
theorem dX12_chosen_30 : decode cX12_chosen 30 = .ok (.iconst 1, 1) := by decide +kernel
theorem dX12_chosen_31 : decode cX12_chosen 31 = .ok (.istore 4, 2) := by decide +kernel
theorem dX12_chosen_33 : decode cX12_chosen 33 = .ok (.iload 4, 2) := by decide +kernel
theorem dX12_chosen_35 : decode cX12_chosen 35 = .ok (.iload_n 3, 1) := by decide +kernel
theorem dX12_chosen_36 : decode cX12_chosen 36 = .ok (.if_icmp .gt 62, 3) := by decide +kernel
theorem dX12_chosen_39 : decode cX12_chosen 39 = .ok (.aload_n 0, 1) := by decide +kernel
theorem dX12_chosen_40 : decode cX12_chosen 40 = .ok (.getfield 127, 3) := by decide +kernel
theorem dX12_chosen_43 : decode cX12_chosen 43 = .ok (.bipush 61, 2) := by decide +kernel
theorem dX12_chosen_45 : decode cX12_chosen 45 = .ok (.iload_n 3, 1) := by decide +kernel
theorem dX12_chosen_46 : decode cX12_chosen 46 = .ok (.imul, 1) := by decide +kernel
theorem dX12_chosen_47 : decode cX12_chosen 47 = .ok (.iload 4, 2) := by decide +kernel
theorem dX12_chosen_49 : decode cX12_chosen 49 = .ok (.iadd, 1) := by decide +kernel
theorem dX12_chosen_50 : decode cX12_chosen 50 = .ok (.aload_n 0, 1) := by decide +kernel
theorem dX12_chosen_51 : decode cX12_chosen 51 = .ok (.getfield 127, 3) := by decide +kernel
theorem dX12_chosen_54 : decode cX12_chosen 54 = .ok (.bipush 61, 2) := by decide +kernel
theorem dX12_chosen_56 : decode cX12_chosen 56 = .ok (.iload_n 3, 1) := by decide +kernel
theorem dX12_chosen_57 : decode cX12_chosen 57 = .ok (.iconst 1, 1) := by decide +kernel
theorem dX12_chosen_58 : decode cX12_chosen 58 = .ok (.isub, 1) := by decide +kernel
theorem dX12_chosen_59 : decode cX12_chosen 59 = .ok (.imul, 1) := by decide +kernel
theorem dX12_chosen_60 : decode cX12_chosen 60 = .ok (.iload 4, 2) := by decide +kernel
theorem dX12_chosen_62 : decode cX12_chosen 62 = .ok (.iadd, 1) := by decide +kernel
theorem dX12_chosen_63 : decode cX12_chosen 63 = .ok (.iconst 1, 1) := by decide +kernel
theorem dX12_chosen_64 : decode cX12_chosen 64 = .ok (.isub, 1) := by decide +kernel
theorem dX12_chosen_65 : decode cX12_chosen 65 = .ok (.laload, 1) := by decide +kernel
theorem dX12_chosen_66 : decode cX12_chosen 66 = .ok (.iload 4, 2) := by decide +kernel
theorem dX12_chosen_68 : decode cX12_chosen 68 = .ok (.iload_n 3, 1) := by decide +kernel
theorem dX12_chosen_69 : decode cX12_chosen 69 = .ok (.if_icmp .ge 20, 3) := by decide +kernel
theorem dX12_chosen_72 : decode cX12_chosen 72 = .ok (.aload_n 0, 1) := by decide +kernel
theorem dX12_chosen_73 : decode cX12_chosen 73 = .ok (.getfield 127, 3) := by decide +kernel
theorem dX12_chosen_76 : decode cX12_chosen 76 = .ok (.bipush 61, 2) := by decide +kernel
theorem dX12_chosen_78 : decode cX12_chosen 78 = .ok (.iload_n 3, 1) := by decide +kernel
theorem dX12_chosen_79 : decode cX12_chosen 79 = .ok (.iconst 1, 1) := by decide +kernel
theorem dX12_chosen_80 : decode cX12_chosen 80 = .ok (.isub, 1) := by decide +kernel
theorem dX12_chosen_81 : decode cX12_chosen 81 = .ok (.imul, 1) := by decide +kernel
theorem dX12_chosen_82 : decode cX12_chosen 82 = .ok (.iload 4, 2) := by decide +kernel
theorem dX12_chosen_84 : decode cX12_chosen 84 = .ok (.iadd, 1) := by decide +kernel
theorem dX12_chosen_85 : decode cX12_chosen 85 = .ok (.laload, 1) := by decide +kernel
theorem dX12_chosen_86 : decode cX12_chosen 86 = .ok (.goto 4, 3) := by decide +kernel
theorem dX12_chosen_89 : decode cX12_chosen 89 = .ok (.lconst 0, 1) := by decide +kernel
theorem dX12_chosen_90 : decode cX12_chosen 90 = .ok (.ladd, 1) := by decide +kernel
theorem dX12_chosen_91 : decode cX12_chosen 91 = .ok (.lastore, 1) := by decide +kernel
theorem dX12_chosen_92 : decode cX12_chosen 92 = .ok (.iinc 4 1, 3) := by decide +kernel
theorem dX12_chosen_95 : decode cX12_chosen 95 = .ok (.goto (-62), 3) := by decide +kernel
theorem dX12_chosen_98 : decode cX12_chosen 98 = .ok (.iinc 3 1, 3) := by decide +kernel
theorem dX12_chosen_101 : decode cX12_chosen 101 = .ok (.goto (-87), 3) := by decide +kernel
theorem dX12_chosen_104 : decode cX12_chosen 104 = .ok (.iload_n 2, 1) := by decide +kernel
theorem dX12_chosen_105 : decode cX12_chosen 105 = .ok (.ifCond .lt 8, 3) := by decide +kernel
theorem dX12_chosen_108 : decode cX12_chosen 108 = .ok (.iload_n 2, 1) := by decide +kernel
theorem dX12_chosen_109 : decode cX12_chosen 109 = .ok (.iload_n 1, 1) := by decide +kernel
theorem dX12_chosen_110 : decode cX12_chosen 110 = .ok (.if_icmp .le 7, 3) := by decide +kernel
theorem dX12_chosen_113 : decode cX12_chosen 113 = .ok (.lconst 0, 1) := by decide +kernel
theorem dX12_chosen_114 : decode cX12_chosen 114 = .ok (.goto 14, 3) := by decide +kernel
theorem dX12_chosen_117 : decode cX12_chosen 117 = .ok (.aload_n 0, 1) := by decide +kernel
theorem dX12_chosen_118 : decode cX12_chosen 118 = .ok (.getfield 127, 3) := by decide +kernel
theorem dX12_chosen_121 : decode cX12_chosen 121 = .ok (.bipush 61, 2) := by decide +kernel
theorem dX12_chosen_123 : decode cX12_chosen 123 = .ok (.iload_n 1, 1) := by decide +kernel
theorem dX12_chosen_124 : decode cX12_chosen 124 = .ok (.imul, 1) := by decide +kernel
theorem dX12_chosen_125 : decode cX12_chosen 125 = .ok (.iload_n 2, 1) := by decide +kernel
theorem dX12_chosen_126 : decode cX12_chosen 126 = .ok (.iadd, 1) := by decide +kernel
theorem dX12_chosen_127 : decode cX12_chosen 127 = .ok (.laload, 1) := by decide +kernel
theorem dX12_chosen_128 : decode cX12_chosen 128 = .ok (.lreturn, 1) := by decide +kernel
theorem dJ6_numberOfTrailingZeros_0f7a4_0 : decode cJ6_numberOfTrailingZeros_0f7a4 0 = .ok (.iload_n 0, 1) := by decide +kernel
theorem dJ6_numberOfTrailingZeros_0f7a4_1 : decode cJ6_numberOfTrailingZeros_0f7a4 1 = .ok (.iconst (-1), 1) := by decide +kernel
theorem dJ6_numberOfTrailingZeros_0f7a4_2 : decode cJ6_numberOfTrailingZeros_0f7a4 2 = .ok (.ixor, 1) := by decide +kernel
theorem dJ6_numberOfTrailingZeros_0f7a4_3 : decode cJ6_numberOfTrailingZeros_0f7a4 3 = .ok (.iload_n 0, 1) := by decide +kernel
theorem dJ6_numberOfTrailingZeros_0f7a4_4 : decode cJ6_numberOfTrailingZeros_0f7a4 4 = .ok (.iconst 1, 1) := by decide +kernel
theorem dJ6_numberOfTrailingZeros_0f7a4_5 : decode cJ6_numberOfTrailingZeros_0f7a4 5 = .ok (.isub, 1) := by decide +kernel
theorem dJ6_numberOfTrailingZeros_0f7a4_6 : decode cJ6_numberOfTrailingZeros_0f7a4 6 = .ok (.iand, 1) := by decide +kernel
theorem dJ6_numberOfTrailingZeros_0f7a4_7 : decode cJ6_numberOfTrailingZeros_0f7a4 7 = .ok (.istore_n 0, 1) := by decide +kernel
theorem dJ6_numberOfTrailingZeros_0f7a4_8 : decode cJ6_numberOfTrailingZeros_0f7a4 8 = .ok (.iload_n 0, 1) := by decide +kernel
theorem dJ6_numberOfTrailingZeros_0f7a4_9 : decode cJ6_numberOfTrailingZeros_0f7a4 9 = .ok (.ifCond .gt 8, 3) := by decide +kernel
theorem dJ6_numberOfTrailingZeros_0f7a4_12 : decode cJ6_numberOfTrailingZeros_0f7a4 12 = .ok (.iload_n 0, 1) := by decide +kernel
theorem dJ6_numberOfTrailingZeros_0f7a4_13 : decode cJ6_numberOfTrailingZeros_0f7a4 13 = .ok (.bipush 32, 2) := by decide +kernel
theorem dJ6_numberOfTrailingZeros_0f7a4_15 : decode cJ6_numberOfTrailingZeros_0f7a4 15 = .ok (.iand, 1) := by decide +kernel
theorem dJ6_numberOfTrailingZeros_0f7a4_16 : decode cJ6_numberOfTrailingZeros_0f7a4 16 = .ok (.ireturn, 1) := by decide +kernel
theorem dJ6_numberOfTrailingZeros_0f7a4_17 : decode cJ6_numberOfTrailingZeros_0f7a4 17 = .ok (.iconst 1, 1) := by decide +kernel
theorem dJ6_numberOfTrailingZeros_0f7a4_18 : decode cJ6_numberOfTrailingZeros_0f7a4 18 = .ok (.istore_n 1, 1) := by decide +kernel
theorem dJ6_numberOfTrailingZeros_0f7a4_19 : decode cJ6_numberOfTrailingZeros_0f7a4 19 = .ok (.iload_n 0, 1) := by decide +kernel
theorem dJ6_numberOfTrailingZeros_0f7a4_20 : decode cJ6_numberOfTrailingZeros_0f7a4 20 = .ok (.ldc_w 264, 3) := by decide +kernel
theorem dJ6_numberOfTrailingZeros_0f7a4_23 : decode cJ6_numberOfTrailingZeros_0f7a4 23 = .ok (.if_icmp .le 11, 3) := by decide +kernel
theorem dJ6_numberOfTrailingZeros_0f7a4_26 : decode cJ6_numberOfTrailingZeros_0f7a4 26 = .ok (.iinc 1 16, 3) := by decide +kernel
theorem dJ6_numberOfTrailingZeros_0f7a4_29 : decode cJ6_numberOfTrailingZeros_0f7a4 29 = .ok (.iload_n 0, 1) := by decide +kernel
theorem dJ6_numberOfTrailingZeros_0f7a4_30 : decode cJ6_numberOfTrailingZeros_0f7a4 30 = .ok (.bipush 16, 2) := by decide +kernel
theorem dJ6_numberOfTrailingZeros_0f7a4_32 : decode cJ6_numberOfTrailingZeros_0f7a4 32 = .ok (.iushr, 1) := by decide +kernel
theorem dJ6_numberOfTrailingZeros_0f7a4_33 : decode cJ6_numberOfTrailingZeros_0f7a4 33 = .ok (.istore_n 0, 1) := by decide +kernel
theorem dJ6_numberOfTrailingZeros_0f7a4_34 : decode cJ6_numberOfTrailingZeros_0f7a4 34 = .ok (.iload_n 0, 1) := by decide +kernel
theorem dJ6_numberOfTrailingZeros_0f7a4_35 : decode cJ6_numberOfTrailingZeros_0f7a4 35 = .ok (.sipush 256, 3) := by decide +kernel
theorem dJ6_numberOfTrailingZeros_0f7a4_38 : decode cJ6_numberOfTrailingZeros_0f7a4 38 = .ok (.if_icmp .le 11, 3) := by decide +kernel
theorem dJ6_numberOfTrailingZeros_0f7a4_41 : decode cJ6_numberOfTrailingZeros_0f7a4 41 = .ok (.iinc 1 8, 3) := by decide +kernel
theorem dJ6_numberOfTrailingZeros_0f7a4_44 : decode cJ6_numberOfTrailingZeros_0f7a4 44 = .ok (.iload_n 0, 1) := by decide +kernel
theorem dJ6_numberOfTrailingZeros_0f7a4_45 : decode cJ6_numberOfTrailingZeros_0f7a4 45 = .ok (.bipush 8, 2) := by decide +kernel
theorem dJ6_numberOfTrailingZeros_0f7a4_47 : decode cJ6_numberOfTrailingZeros_0f7a4 47 = .ok (.iushr, 1) := by decide +kernel
theorem dJ6_numberOfTrailingZeros_0f7a4_48 : decode cJ6_numberOfTrailingZeros_0f7a4 48 = .ok (.istore_n 0, 1) := by decide +kernel
theorem dJ6_numberOfTrailingZeros_0f7a4_49 : decode cJ6_numberOfTrailingZeros_0f7a4 49 = .ok (.iload_n 0, 1) := by decide +kernel
theorem dJ6_numberOfTrailingZeros_0f7a4_50 : decode cJ6_numberOfTrailingZeros_0f7a4 50 = .ok (.bipush 16, 2) := by decide +kernel
theorem dJ6_numberOfTrailingZeros_0f7a4_52 : decode cJ6_numberOfTrailingZeros_0f7a4 52 = .ok (.if_icmp .le 10, 3) := by decide +kernel
theorem dJ6_numberOfTrailingZeros_0f7a4_55 : decode cJ6_numberOfTrailingZeros_0f7a4 55 = .ok (.iinc 1 4, 3) := by decide +kernel
theorem dJ6_numberOfTrailingZeros_0f7a4_58 : decode cJ6_numberOfTrailingZeros_0f7a4 58 = .ok (.iload_n 0, 1) := by decide +kernel
theorem dJ6_numberOfTrailingZeros_0f7a4_59 : decode cJ6_numberOfTrailingZeros_0f7a4 59 = .ok (.iconst 4, 1) := by decide +kernel
theorem dJ6_numberOfTrailingZeros_0f7a4_60 : decode cJ6_numberOfTrailingZeros_0f7a4 60 = .ok (.iushr, 1) := by decide +kernel
theorem dJ6_numberOfTrailingZeros_0f7a4_61 : decode cJ6_numberOfTrailingZeros_0f7a4 61 = .ok (.istore_n 0, 1) := by decide +kernel
theorem dJ6_numberOfTrailingZeros_0f7a4_62 : decode cJ6_numberOfTrailingZeros_0f7a4 62 = .ok (.iload_n 0, 1) := by decide +kernel
theorem dJ6_numberOfTrailingZeros_0f7a4_63 : decode cJ6_numberOfTrailingZeros_0f7a4 63 = .ok (.iconst 4, 1) := by decide +kernel
theorem dJ6_numberOfTrailingZeros_0f7a4_64 : decode cJ6_numberOfTrailingZeros_0f7a4 64 = .ok (.if_icmp .le 10, 3) := by decide +kernel
theorem dJ6_numberOfTrailingZeros_0f7a4_67 : decode cJ6_numberOfTrailingZeros_0f7a4 67 = .ok (.iinc 1 2, 3) := by decide +kernel
theorem dJ6_numberOfTrailingZeros_0f7a4_70 : decode cJ6_numberOfTrailingZeros_0f7a4 70 = .ok (.iload_n 0, 1) := by decide +kernel
theorem dJ6_numberOfTrailingZeros_0f7a4_71 : decode cJ6_numberOfTrailingZeros_0f7a4 71 = .ok (.iconst 2, 1) := by decide +kernel
theorem dJ6_numberOfTrailingZeros_0f7a4_72 : decode cJ6_numberOfTrailingZeros_0f7a4 72 = .ok (.iushr, 1) := by decide +kernel
theorem dJ6_numberOfTrailingZeros_0f7a4_73 : decode cJ6_numberOfTrailingZeros_0f7a4 73 = .ok (.istore_n 0, 1) := by decide +kernel
theorem dJ6_numberOfTrailingZeros_0f7a4_74 : decode cJ6_numberOfTrailingZeros_0f7a4 74 = .ok (.iload_n 1, 1) := by decide +kernel
theorem dJ6_numberOfTrailingZeros_0f7a4_75 : decode cJ6_numberOfTrailingZeros_0f7a4 75 = .ok (.iload_n 0, 1) := by decide +kernel
theorem dJ6_numberOfTrailingZeros_0f7a4_76 : decode cJ6_numberOfTrailingZeros_0f7a4 76 = .ok (.iconst 1, 1) := by decide +kernel
theorem dJ6_numberOfTrailingZeros_0f7a4_77 : decode cJ6_numberOfTrailingZeros_0f7a4 77 = .ok (.iushr, 1) := by decide +kernel
theorem dJ6_numberOfTrailingZeros_0f7a4_78 : decode cJ6_numberOfTrailingZeros_0f7a4 78 = .ok (.iadd, 1) := by decide +kernel
theorem dJ6_numberOfTrailingZeros_0f7a4_79 : decode cJ6_numberOfTrailingZeros_0f7a4 79 = .ok (.ireturn, 1) := by decide +kernel
theorem dJ6_bitCount_0f7a4_0 : decode cJ6_bitCount_0f7a4 0 = .ok (.iload_n 0, 1) := by decide +kernel
theorem dJ6_bitCount_0f7a4_1 : decode cJ6_bitCount_0f7a4 1 = .ok (.iload_n 0, 1) := by decide +kernel
theorem dJ6_bitCount_0f7a4_2 : decode cJ6_bitCount_0f7a4 2 = .ok (.iconst 1, 1) := by decide +kernel
theorem dJ6_bitCount_0f7a4_3 : decode cJ6_bitCount_0f7a4 3 = .ok (.iushr, 1) := by decide +kernel
theorem dJ6_bitCount_0f7a4_4 : decode cJ6_bitCount_0f7a4 4 = .ok (.ldc_w 265, 3) := by decide +kernel
theorem dJ6_bitCount_0f7a4_7 : decode cJ6_bitCount_0f7a4 7 = .ok (.iand, 1) := by decide +kernel
theorem dJ6_bitCount_0f7a4_8 : decode cJ6_bitCount_0f7a4 8 = .ok (.isub, 1) := by decide +kernel
theorem dJ6_bitCount_0f7a4_9 : decode cJ6_bitCount_0f7a4 9 = .ok (.istore_n 0, 1) := by decide +kernel
theorem dJ6_bitCount_0f7a4_10 : decode cJ6_bitCount_0f7a4 10 = .ok (.iload_n 0, 1) := by decide +kernel
theorem dJ6_bitCount_0f7a4_11 : decode cJ6_bitCount_0f7a4 11 = .ok (.ldc_w 266, 3) := by decide +kernel
theorem dJ6_bitCount_0f7a4_14 : decode cJ6_bitCount_0f7a4 14 = .ok (.iand, 1) := by decide +kernel
theorem dJ6_bitCount_0f7a4_15 : decode cJ6_bitCount_0f7a4 15 = .ok (.iload_n 0, 1) := by decide +kernel
theorem dJ6_bitCount_0f7a4_16 : decode cJ6_bitCount_0f7a4 16 = .ok (.iconst 2, 1) := by decide +kernel
theorem dJ6_bitCount_0f7a4_17 : decode cJ6_bitCount_0f7a4 17 = .ok (.iushr, 1) := by decide +kernel
theorem dJ6_bitCount_0f7a4_18 : decode cJ6_bitCount_0f7a4 18 = .ok (.ldc_w 266, 3) := by decide +kernel
theorem dJ6_bitCount_0f7a4_21 : decode cJ6_bitCount_0f7a4 21 = .ok (.iand, 1) := by decide +kernel
theorem dJ6_bitCount_0f7a4_22 : decode cJ6_bitCount_0f7a4 22 = .ok (.iadd, 1) := by decide +kernel
theorem dJ6_bitCount_0f7a4_23 : decode cJ6_bitCount_0f7a4 23 = .ok (.istore_n 0, 1) := by decide +kernel
theorem dJ6_bitCount_0f7a4_24 : decode cJ6_bitCount_0f7a4 24 = .ok (.iload_n 0, 1) := by decide +kernel
theorem dJ6_bitCount_0f7a4_25 : decode cJ6_bitCount_0f7a4 25 = .ok (.iload_n 0, 1) := by decide +kernel
theorem dJ6_bitCount_0f7a4_26 : decode cJ6_bitCount_0f7a4 26 = .ok (.iconst 4, 1) := by decide +kernel
theorem dJ6_bitCount_0f7a4_27 : decode cJ6_bitCount_0f7a4 27 = .ok (.iushr, 1) := by decide +kernel
theorem dJ6_bitCount_0f7a4_28 : decode cJ6_bitCount_0f7a4 28 = .ok (.iadd, 1) := by decide +kernel
theorem dJ6_bitCount_0f7a4_29 : decode cJ6_bitCount_0f7a4 29 = .ok (.ldc_w 267, 3) := by decide +kernel
theorem dJ6_bitCount_0f7a4_32 : decode cJ6_bitCount_0f7a4 32 = .ok (.iand, 1) := by decide +kernel
theorem dJ6_bitCount_0f7a4_33 : decode cJ6_bitCount_0f7a4 33 = .ok (.istore_n 0, 1) := by decide +kernel
theorem dJ6_bitCount_0f7a4_34 : decode cJ6_bitCount_0f7a4 34 = .ok (.iload_n 0, 1) := by decide +kernel
end
section
theorem dJ6_bitCount_0f7a4_35 : decode cJ6_bitCount_0f7a4 35 = .ok (.iload_n 0, 1) := by decide +kernel
theorem dJ6_bitCount_0f7a4_36 : decode cJ6_bitCount_0f7a4 36 = .ok (.bipush 8, 2) := by decide +kernel
theorem dJ6_bitCount_0f7a4_38 : decode cJ6_bitCount_0f7a4 38 = .ok (.iushr, 1) := by decide +kernel
theorem dJ6_bitCount_0f7a4_39 : decode cJ6_bitCount_0f7a4 39 = .ok (.iadd, 1) := by decide +kernel
theorem dJ6_bitCount_0f7a4_40 : decode cJ6_bitCount_0f7a4 40 = .ok (.istore_n 0, 1) := by decide +kernel
theorem dJ6_bitCount_0f7a4_41 : decode cJ6_bitCount_0f7a4 41 = .ok (.iload_n 0, 1) := by decide +kernel
theorem dJ6_bitCount_0f7a4_42 : decode cJ6_bitCount_0f7a4 42 = .ok (.iload_n 0, 1) := by decide +kernel
theorem dJ6_bitCount_0f7a4_43 : decode cJ6_bitCount_0f7a4 43 = .ok (.bipush 16, 2) := by decide +kernel
theorem dJ6_bitCount_0f7a4_45 : decode cJ6_bitCount_0f7a4 45 = .ok (.iushr, 1) := by decide +kernel
theorem dJ6_bitCount_0f7a4_46 : decode cJ6_bitCount_0f7a4 46 = .ok (.iadd, 1) := by decide +kernel
theorem dJ6_bitCount_0f7a4_47 : decode cJ6_bitCount_0f7a4 47 = .ok (.istore_n 0, 1) := by decide +kernel
theorem dJ6_bitCount_0f7a4_48 : decode cJ6_bitCount_0f7a4 48 = .ok (.iload_n 0, 1) := by decide +kernel
theorem dJ6_bitCount_0f7a4_49 : decode cJ6_bitCount_0f7a4 49 = .ok (.bipush 63, 2) := by decide +kernel
theorem dJ6_bitCount_0f7a4_51 : decode cJ6_bitCount_0f7a4 51 = .ok (.iand, 1) := by decide +kernel
theorem dJ6_bitCount_0f7a4_52 : decode cJ6_bitCount_0f7a4 52 = .ok (.ireturn, 1) := by decide +kernel
theorem dJ9_max_f86c9_0 : decode cJ9_max_f86c9 0 = .ok (.lload_n 0, 1) := by decide +kernel
theorem dJ9_max_f86c9_1 : decode cJ9_max_f86c9 1 = .ok (.lload_n 2, 1) := by decide +kernel
theorem dJ9_max_f86c9_2 : decode cJ9_max_f86c9 2 = .ok (.lcmp, 1) := by decide +kernel
theorem dJ9_max_f86c9_3 : decode cJ9_max_f86c9 3 = .ok (.ifCond .lt 7, 3) := by decide +kernel
theorem dJ9_max_f86c9_6 : decode cJ9_max_f86c9 6 = .ok (.lload_n 0, 1) := by decide +kernel
theorem dJ9_max_f86c9_7 : decode cJ9_max_f86c9 7 = .ok (.goto 4, 3) := by decide +kernel
theorem dJ9_max_f86c9_10 : decode cJ9_max_f86c9 10 = .ok (.lload_n 2, 1) := by decide +kernel
theorem dJ9_max_f86c9_11 : decode cJ9_max_f86c9 11 = .ok (.lreturn, 1) := by decide +kernel
theorem dJ9_min_7cf53_0 : decode cJ9_min_7cf53 0 = .ok (.iload_n 0, 1) := by decide +kernel
theorem dJ9_min_7cf53_1 : decode cJ9_min_7cf53 1 = .ok (.iload_n 1, 1) := by decide +kernel
theorem dJ9_min_7cf53_2 : decode cJ9_min_7cf53 2 = .ok (.if_icmp .gt 7, 3) := by decide +kernel
theorem dJ9_min_7cf53_5 : decode cJ9_min_7cf53 5 = .ok (.iload_n 0, 1) := by decide +kernel
theorem dJ9_min_7cf53_6 : decode cJ9_min_7cf53 6 = .ok (.goto 4, 3) := by decide +kernel
theorem dJ9_min_7cf53_9 : decode cJ9_min_7cf53 9 = .ok (.iload_n 1, 1) := by decide +kernel
theorem dJ9_min_7cf53_10 : decode cJ9_min_7cf53 10 = .ok (.ireturn, 1) := by decide +kernel
theorem dJ9_min_f86c9_0 : decode cJ9_min_f86c9 0 = .ok (.lload_n 0, 1) := by decide +kernel
theorem dJ9_min_f86c9_1 : decode cJ9_min_f86c9 1 = .ok (.lload_n 2, 1) := by decide +kernel
theorem dJ9_min_f86c9_2 : decode cJ9_min_f86c9 2 = .ok (.lcmp, 1) := by decide +kernel
theorem dJ9_min_f86c9_3 : decode cJ9_min_f86c9 3 = .ok (.ifCond .gt 7, 3) := by decide +kernel
theorem dJ9_min_f86c9_6 : decode cJ9_min_f86c9 6 = .ok (.lload_n 0, 1) := by decide +kernel
theorem dJ9_min_f86c9_7 : decode cJ9_min_f86c9 7 = .ok (.goto 4, 3) := by decide +kernel
theorem dJ9_min_f86c9_10 : decode cJ9_min_f86c9 10 = .ok (.lload_n 2, 1) := by decide +kernel
theorem dJ9_min_f86c9_11 : decode cJ9_min_f86c9 11 = .ok (.lreturn, 1) := by decide +kernel
theorem dJ0_length_8abf5_0 : decode cJ0_length_8abf5 0 = .ok (.aload_n 0, 1) := by decide +kernel
theorem dJ0_length_8abf5_1 : decode cJ0_length_8abf5 1 = .ok (.getfield 9, 3) := by decide +kernel
theorem dJ0_length_8abf5_4 : decode cJ0_length_8abf5 4 = .ok (.arraylength, 1) := by decide +kernel
theorem dJ0_length_8abf5_5 : decode cJ0_length_8abf5 5 = .ok (.aload_n 0, 1) := by decide +kernel
theorem dJ0_length_8abf5_6 : decode cJ0_length_8abf5 6 = .ok (.invokevirtual 335, 3) := by decide +kernel
theorem dJ0_length_8abf5_9 : decode cJ0_length_8abf5 9 = .ok (.ishr, 1) := by decide +kernel
theorem dJ0_length_8abf5_10 : decode cJ0_length_8abf5 10 = .ok (.ireturn, 1) := by decide +kernel
theorem dJ0_charAt_5068e_0 : decode cJ0_charAt_5068e 0 = .ok (.aload_n 0, 1) := by decide +kernel
theorem dJ0_charAt_5068e_1 : decode cJ0_charAt_5068e 1 = .ok (.invokevirtual 492, 3) := by decide +kernel
theorem dJ0_charAt_5068e_4 : decode cJ0_charAt_5068e 4 = .ok (.ifCond .eq 12, 3) := by decide +kernel
theorem dJ0_charAt_5068e_7 : decode cJ0_charAt_5068e 7 = .ok (.aload_n 0, 1) := by decide +kernel
theorem dJ0_charAt_5068e_8 : decode cJ0_charAt_5068e 8 = .ok (.getfield 9, 3) := by decide +kernel
theorem dJ0_charAt_5068e_11 : decode cJ0_charAt_5068e 11 = .ok (.iload_n 1, 1) := by decide +kernel
theorem dJ0_charAt_5068e_12 : decode cJ0_charAt_5068e 12 = .ok (.invokestatic 495, 3) := by decide +kernel
theorem dJ0_charAt_5068e_15 : decode cJ0_charAt_5068e 15 = .ok (.ireturn, 1) := by decide +kernel
theorem dJ0_charAt_5068e_16 : decode cJ0_charAt_5068e 16 = .ok (.aload_n 0, 1) := by decide +kernel
theorem dJ0_charAt_5068e_17 : decode cJ0_charAt_5068e 17 = .ok (.getfield 9, 3) := by decide +kernel
theorem dJ0_charAt_5068e_20 : decode cJ0_charAt_5068e 20 = .ok (.iload_n 1, 1) := by decide +kernel
theorem dJ0_charAt_5068e_21 : decode cJ0_charAt_5068e 21 = .ok (.invokestatic 498, 3) := by decide +kernel
theorem dJ0_charAt_5068e_24 : decode cJ0_charAt_5068e 24 = .ok (.ireturn, 1) := by decide +kernel
theorem dJ0_coder_7d493_0 : decode cJ0_coder_7d493 0 = .ok (.getstatic 38, 3) := by decide +kernel
theorem dJ0_coder_7d493_3 : decode cJ0_coder_7d493 3 = .ok (.ifCond .eq 10, 3) := by decide +kernel
theorem dJ0_coder_7d493_6 : decode cJ0_coder_7d493 6 = .ok (.aload_n 0, 1) := by decide +kernel
theorem dJ0_coder_7d493_7 : decode cJ0_coder_7d493 7 = .ok (.getfield 15, 3) := by decide +kernel
theorem dJ0_coder_7d493_10 : decode cJ0_coder_7d493 10 = .ok (.goto 4, 3) := by decide +kernel
theorem dJ0_coder_7d493_13 : decode cJ0_coder_7d493 13 = .ok (.iconst 1, 1) := by decide +kernel
theorem dJ0_coder_7d493_14 : decode cJ0_coder_7d493 14 = .ok (.ireturn, 1) := by decide +kernel
theorem dJ0_isLatin1_aae02_0 : decode cJ0_isLatin1_aae02 0 = .ok (.getstatic 38, 3) := by decide +kernel
theorem dJ0_isLatin1_aae02_3 : decode cJ0_isLatin1_aae02 3 = .ok (.ifCond .eq 14, 3) := by decide +kernel
theorem dJ0_isLatin1_aae02_6 : decode cJ0_isLatin1_aae02 6 = .ok (.aload_n 0, 1) := by decide +kernel
theorem dJ0_isLatin1_aae02_7 : decode cJ0_isLatin1_aae02 7 = .ok (.getfield 15, 3) := by decide +kernel
theorem dJ0_isLatin1_aae02_10 : decode cJ0_isLatin1_aae02 10 = .ok (.ifCond .ne 7, 3) := by decide +kernel
theorem dJ0_isLatin1_aae02_13 : decode cJ0_isLatin1_aae02 13 = .ok (.iconst 1, 1) := by decide +kernel
theorem dJ0_isLatin1_aae02_14 : decode cJ0_isLatin1_aae02 14 = .ok (.goto 4, 3) := by decide +kernel
theorem dJ0_isLatin1_aae02_17 : decode cJ0_isLatin1_aae02 17 = .ok (.iconst 0, 1) := by decide +kernel
theorem dJ0_isLatin1_aae02_18 : decode cJ0_isLatin1_aae02 18 = .ok (.ireturn, 1) := by decide +kernel
theorem dJ0_checkIndex_df160_0 : decode cJ0_checkIndex_df160 0 = .ok (.iload_n 0, 1) := by decide +kernel
theorem dJ0_checkIndex_df160_1 : decode cJ0_checkIndex_df160 1 = .ok (.iload_n 1, 1) := by decide +kernel
theorem dJ0_checkIndex_df160_2 : decode cJ0_checkIndex_df160 2 = .ok (.getstatic 1053, 3) := by decide +kernel
theorem dJ0_checkIndex_df160_5 : decode cJ0_checkIndex_df160 5 = .ok (.invokestatic 1059, 3) := by decide +kernel
theorem dJ0_checkIndex_df160_8 : decode cJ0_checkIndex_df160 8 = .ok (.pop, 1) := by decide +kernel
theorem dJ0_checkIndex_df160_9 : decode cJ0_checkIndex_df160 9 = .ok (.return_, 1) := by decide +kernel
theorem dJ1_charAt_3b067_0 : decode cJ1_charAt_3b067 0 = .ok (.iload_n 1, 1) := by decide +kernel
theorem dJ1_charAt_3b067_1 : decode cJ1_charAt_3b067 1 = .ok (.aload_n 0, 1) := by decide +kernel
theorem dJ1_charAt_3b067_2 : decode cJ1_charAt_3b067 2 = .ok (.arraylength, 1) := by decide +kernel
theorem dJ1_charAt_3b067_3 : decode cJ1_charAt_3b067 3 = .ok (.invokestatic 9, 3) := by decide +kernel
theorem dJ1_charAt_3b067_6 : decode cJ1_charAt_3b067 6 = .ok (.aload_n 0, 1) := by decide +kernel
theorem dJ1_charAt_3b067_7 : decode cJ1_charAt_3b067 7 = .ok (.iload_n 1, 1) := by decide +kernel
theorem dJ1_charAt_3b067_8 : decode cJ1_charAt_3b067 8 = .ok (.baload, 1) := by decide +kernel
theorem dJ1_charAt_3b067_9 : decode cJ1_charAt_3b067 9 = .ok (.sipush 255, 3) := by decide +kernel
theorem dJ1_charAt_3b067_12 : decode cJ1_charAt_3b067 12 = .ok (.iand, 1) := by decide +kernel
theorem dJ1_charAt_3b067_13 : decode cJ1_charAt_3b067 13 = .ok (.i2c, 1) := by decide +kernel
theorem dJ1_charAt_3b067_14 : decode cJ1_charAt_3b067 14 = .ok (.ireturn, 1) := by decide +kernel
theorem dJ2_getChar_3b067_0 : decode cJ2_getChar_3b067 0 = .ok (.getstatic 44, 3) := by decide +kernel
theorem dJ2_getChar_3b067_3 : decode cJ2_getChar_3b067 3 = .ok (.ifCond .ne 25, 3) := by decide +kernel
theorem dJ2_getChar_3b067_6 : decode cJ2_getChar_3b067 6 = .ok (.iload_n 1, 1) := by decide +kernel
theorem dJ2_getChar_3b067_7 : decode cJ2_getChar_3b067 7 = .ok (.ifCond .lt 11, 3) := by decide +kernel
theorem dJ2_getChar_3b067_10 : decode cJ2_getChar_3b067 10 = .ok (.iload_n 1, 1) := by decide +kernel
theorem dJ2_getChar_3b067_11 : decode cJ2_getChar_3b067 11 = .ok (.aload_n 0, 1) := by decide +kernel
theorem dJ2_getChar_3b067_12 : decode cJ2_getChar_3b067 12 = .ok (.invokestatic 48, 3) := by decide +kernel
theorem dJ2_getChar_3b067_15 : decode cJ2_getChar_3b067 15 = .ok (.if_icmp .lt 13, 3) := by decide +kernel
theorem dJ2_getChar_3b067_18 : decode cJ2_getChar_3b067 18 = .ok (.new 52, 3) := by decide +kernel
theorem dJ2_getChar_3b067_21 : decode cJ2_getChar_3b067 21 = .ok (.dup, 1) := by decide +kernel
theorem dJ2_getChar_3b067_22 : decode cJ2_getChar_3b067 22 = .ok (.ldc 54, 2) := by decide +kernel
theorem dJ2_getChar_3b067_24 : decode cJ2_getChar_3b067 24 = .ok (.invokespecial 56, 3) := by decide +kernel
theorem dJ2_getChar_3b067_27 : decode cJ2_getChar_3b067 27 = .ok (.athrow, 1) := by decide +kernel
theorem dJ2_getChar_3b067_28 : decode cJ2_getChar_3b067 28 = .ok (.iload_n 1, 1) := by decide +kernel
theorem dJ2_getChar_3b067_29 : decode cJ2_getChar_3b067 29 = .ok (.iconst 1, 1) := by decide +kernel
theorem dJ2_getChar_3b067_30 : decode cJ2_getChar_3b067 30 = .ok (.ishl, 1) := by decide +kernel
theorem dJ2_getChar_3b067_31 : decode cJ2_getChar_3b067 31 = .ok (.istore_n 1, 1) := by decide +kernel
theorem dJ2_getChar_3b067_32 : decode cJ2_getChar_3b067 32 = .ok (.aload_n 0, 1) := by decide +kernel
theorem dJ2_getChar_3b067_33 : decode cJ2_getChar_3b067 33 = .ok (.iload_n 1, 1) := by decide +kernel
theorem dJ2_getChar_3b067_34 : decode cJ2_getChar_3b067 34 = .ok (.iinc 1 1, 3) := by decide +kernel
theorem dJ2_getChar_3b067_37 : decode cJ2_getChar_3b067 37 = .ok (.baload, 1) := by decide +kernel
theorem dJ2_getChar_3b067_38 : decode cJ2_getChar_3b067 38 = .ok (.sipush 255, 3) := by decide +kernel
theorem dJ2_getChar_3b067_41 : decode cJ2_getChar_3b067 41 = .ok (.iand, 1) := by decide +kernel
theorem dJ2_getChar_3b067_42 : decode cJ2_getChar_3b067 42 = .ok (.getstatic 59, 3) := by decide +kernel
theorem dJ2_getChar_3b067_45 : decode cJ2_getChar_3b067 45 = .ok (.ishl, 1) := by decide +kernel
theorem dJ2_getChar_3b067_46 : decode cJ2_getChar_3b067 46 = .ok (.aload_n 0, 1) := by decide +kernel
theorem dJ2_getChar_3b067_47 : decode cJ2_getChar_3b067 47 = .ok (.iload_n 1, 1) := by decide +kernel
theorem dJ2_getChar_3b067_48 : decode cJ2_getChar_3b067 48 = .ok (.baload, 1) := by decide +kernel
theorem dJ2_getChar_3b067_49 : decode cJ2_getChar_3b067 49 = .ok (.sipush 255, 3) := by decide +kernel
theorem dJ2_getChar_3b067_52 : decode cJ2_getChar_3b067 52 = .ok (.iand, 1) := by decide +kernel
theorem dJ2_getChar_3b067_53 : decode cJ2_getChar_3b067 53 = .ok (.getstatic 63, 3) := by decide +kernel
theorem dJ2_getChar_3b067_56 : decode cJ2_getChar_3b067 56 = .ok (.ishl, 1) := by decide +kernel
theorem dJ2_getChar_3b067_57 : decode cJ2_getChar_3b067 57 = .ok (.ior, 1) := by decide +kernel
theorem dJ2_getChar_3b067_58 : decode cJ2_getChar_3b067 58 = .ok (.i2c, 1) := by decide +kernel
theorem dJ2_getChar_3b067_59 : decode cJ2_getChar_3b067 59 = .ok (.ireturn, 1) := by decide +kernel
theorem dJ2_length_9d52b_0 : decode cJ2_length_9d52b 0 = .ok (.aload_n 0, 1) := by decide +kernel
theorem dJ2_length_9d52b_1 : decode cJ2_length_9d52b 1 = .ok (.arraylength, 1) := by decide +kernel
theorem dJ2_length_9d52b_2 : decode cJ2_length_9d52b 2 = .ok (.iconst 1, 1) := by decide +kernel
theorem dJ2_length_9d52b_3 : decode cJ2_length_9d52b 3 = .ok (.ishr, 1) := by decide +kernel
theorem dJ2_length_9d52b_4 : decode cJ2_length_9d52b 4 = .ok (.ireturn, 1) := by decide +kernel
theorem dJ2_charAt_3b067_0 : decode cJ2_charAt_3b067 0 = .ok (.iload_n 1, 1) := by decide +kernel
theorem dJ2_charAt_3b067_1 : decode cJ2_charAt_3b067 1 = .ok (.aload_n 0, 1) := by decide +kernel
theorem dJ2_charAt_3b067_2 : decode cJ2_charAt_3b067 2 = .ok (.invokestatic 67, 3) := by decide +kernel
theorem dJ2_charAt_3b067_5 : decode cJ2_charAt_3b067 5 = .ok (.aload_n 0, 1) := by decide +kernel
theorem dJ2_charAt_3b067_6 : decode cJ2_charAt_3b067 6 = .ok (.iload_n 1, 1) := by decide +kernel
theorem dJ2_charAt_3b067_7 : decode cJ2_charAt_3b067 7 = .ok (.invokestatic 71, 3) := by decide +kernel
theorem dJ2_charAt_3b067_10 : decode cJ2_charAt_3b067 10 = .ok (.ireturn, 1) := by decide +kernel
theorem dJ2_checkIndex_2214a_0 : decode cJ2_checkIndex_2214a 0 = .ok (.iload_n 0, 1) := by decide +kernel
theorem dJ2_checkIndex_2214a_1 : decode cJ2_checkIndex_2214a 1 = .ok (.aload_n 1, 1) := by decide +kernel
theorem dJ2_checkIndex_2214a_2 : decode cJ2_checkIndex_2214a 2 = .ok (.invokestatic 48, 3) := by decide +kernel
theorem dJ2_checkIndex_2214a_5 : decode cJ2_checkIndex_2214a 5 = .ok (.invokestatic 414, 3) := by decide +kernel
theorem dJ2_checkIndex_2214a_8 : decode cJ2_checkIndex_2214a 8 = .ok (.return_, 1) := by decide +kernel
theorem dJ7_fill_53178_0 : decode cJ7_fill_53178 0 = .ok (.iconst 0, 1) := by decide +kernel
theorem dJ7_fill_53178_1 : decode cJ7_fill_53178 1 = .ok (.istore_n 2, 1) := by decide +kernel
theorem dJ7_fill_53178_2 : decode cJ7_fill_53178 2 = .ok (.aload_n 0, 1) := by decide +kernel
theorem dJ7_fill_53178_3 : decode cJ7_fill_53178 3 = .ok (.arraylength, 1) := by decide +kernel
theorem dJ7_fill_53178_4 : decode cJ7_fill_53178 4 = .ok (.istore_n 3, 1) := by decide +kernel
theorem dJ7_fill_53178_5 : decode cJ7_fill_53178 5 = .ok (.iload_n 2, 1) := by decide +kernel
theorem dJ7_fill_53178_6 : decode cJ7_fill_53178 6 = .ok (.iload_n 3, 1) := by decide +kernel
theorem dJ7_fill_53178_7 : decode cJ7_fill_53178 7 = .ok (.if_icmp .ge 13, 3) := by decide +kernel
theorem dJ7_fill_53178_10 : decode cJ7_fill_53178 10 = .ok (.aload_n 0, 1) := by decide +kernel
theorem dJ7_fill_53178_11 : decode cJ7_fill_53178 11 = .ok (.iload_n 2, 1) := by decide +kernel
theorem dJ7_fill_53178_12 : decode cJ7_fill_53178 12 = .ok (.iload_n 1, 1) := by decide +kernel
theorem dJ7_fill_53178_13 : decode cJ7_fill_53178 13 = .ok (.iastore, 1) := by decide +kernel
theorem dJ7_fill_53178_14 : decode cJ7_fill_53178 14 = .ok (.iinc 2 1, 3) := by decide +kernel
theorem dJ7_fill_53178_17 : decode cJ7_fill_53178 17 = .ok (.goto (-12), 3) := by decide +kernel
theorem dJ7_fill_53178_20 : decode cJ7_fill_53178 20 = .ok (.return_, 1) := by decide +kernel
theorem dJ3_checkIndex_8e157_0 : decode cJ3_checkIndex_8e157 0 = .ok (.iload_n 0, 1) := by decide +kernel
theorem dJ3_checkIndex_8e157_1 : decode cJ3_checkIndex_8e157 1 = .ok (.ifCond .lt 8, 3) := by decide +kernel
theorem dJ3_checkIndex_8e157_4 : decode cJ3_checkIndex_8e157 4 = .ok (.iload_n 0, 1) := by decide +kernel
theorem dJ3_checkIndex_8e157_5 : decode cJ3_checkIndex_8e157 5 = .ok (.iload_n 1, 1) := by decide +kernel
theorem dJ3_checkIndex_8e157_6 : decode cJ3_checkIndex_8e157 6 = .ok (.if_icmp .lt 10, 3) := by decide +kernel
theorem dJ3_checkIndex_8e157_9 : decode cJ3_checkIndex_8e157 9 = .ok (.aload_n 2, 1) := by decide +kernel
theorem dJ3_checkIndex_8e157_10 : decode cJ3_checkIndex_8e157 10 = .ok (.iload_n 0, 1) := by decide +kernel
theorem dJ3_checkIndex_8e157_11 : decode cJ3_checkIndex_8e157 11 = .ok (.iload_n 1, 1) := by decide +kernel
theorem dJ3_checkIndex_8e157_12 : decode cJ3_checkIndex_8e157 12 = .ok (.invokestatic 95, 3) := by decide +kernel
theorem dJ3_checkIndex_8e157_15 : decode cJ3_checkIndex_8e157 15 = .ok (.athrow, 1) := by decide +kernel
theorem dJ3_checkIndex_8e157_16 : decode cJ3_checkIndex_8e157 16 = .ok (.iload_n 0, 1) := by decide +kernel
theorem dJ3_checkIndex_8e157_17 : decode cJ3_checkIndex_8e157 17 = .ok (.ireturn, 1) := by decide +kernel
theorem dL_law_0 : decode cL_law 0 = .ok (.new 7, 3) := by decide +kernel
theorem dL_law_3 : decode cL_law 3 = .ok (.dup, 1) := by decide +kernel
theorem dL_law_4 : decode cL_law 4 = .ok (.invokespecial 9, 3) := by decide +kernel
theorem dL_law_7 : decode cL_law 7 = .ok (.astore_n 1, 1) := by decide +kernel
theorem dL_law_8 : decode cL_law 8 = .ok (.new 10, 3) := by decide +kernel
theorem dL_law_11 : decode cL_law 11 = .ok (.dup, 1) := by decide +kernel
theorem dL_law_12 : decode cL_law 12 = .ok (.invokespecial 12, 3) := by decide +kernel
theorem dL_law_15 : decode cL_law 15 = .ok (.astore_n 2, 1) := by decide +kernel
theorem dL_law_16 : decode cL_law 16 = .ok (.iconst 0, 1) := by decide +kernel
theorem dL_law_17 : decode cL_law 17 = .ok (.istore_n 3, 1) := by decide +kernel
theorem dL_law_18 : decode cL_law 18 = .ok (.iload_n 3, 1) := by decide +kernel
theorem dL_law_19 : decode cL_law 19 = .ok (.aload_n 0, 1) := by decide +kernel
theorem dL_law_20 : decode cL_law 20 = .ok (.arraylength, 1) := by decide +kernel
theorem dL_law_21 : decode cL_law 21 = .ok (.bipush 6, 2) := by decide +kernel
theorem dL_law_23 : decode cL_law 23 = .ok (.isub, 1) := by decide +kernel
theorem dL_law_24 : decode cL_law 24 = .ok (.if_icmp .gt 1034, 3) := by decide +kernel
theorem dL_law_27 : decode cL_law 27 = .ok (.aload_n 0, 1) := by decide +kernel
theorem dL_law_28 : decode cL_law 28 = .ok (.iload_n 3, 1) := by decide +kernel
theorem dL_law_29 : decode cL_law 29 = .ok (.iaload, 1) := by decide +kernel
theorem dL_law_30 : decode cL_law 30 = .ok (.bipush 31, 2) := by decide +kernel
theorem dL_law_32 : decode cL_law 32 = .ok (.iand, 1) := by decide +kernel
theorem dL_law_33 : decode cL_law 33 = .ok (.tableswitch 1019 0 24 #[115, 178, 201, 244, 287, 320, 343, 366, 399, 422, 445, 478, 547, 580, 613, 646, 679, 722, 755, 824, 857, 870, 909, 932, 996], 115) := by decide +kernel
theorem dL_law_148 : decode cL_law 148 = .ok (.aload_n 1, 1) := by decide +kernel
theorem dL_law_149 : decode cL_law 149 = .ok (.aload_n 0, 1) := by decide +kernel
theorem dL_law_150 : decode cL_law 150 = .ok (.iload_n 3, 1) := by decide +kernel
theorem dL_law_151 : decode cL_law 151 = .ok (.iconst 1, 1) := by decide +kernel
theorem dL_law_152 : decode cL_law 152 = .ok (.iadd, 1) := by decide +kernel
theorem dL_law_153 : decode cL_law 153 = .ok (.iaload, 1) := by decide +kernel
theorem dL_law_154 : decode cL_law 154 = .ok (.aload_n 0, 1) := by decide +kernel
theorem dL_law_155 : decode cL_law 155 = .ok (.iload_n 3, 1) := by decide +kernel
theorem dL_law_156 : decode cL_law 156 = .ok (.iconst 2, 1) := by decide +kernel
theorem dL_law_157 : decode cL_law 157 = .ok (.iadd, 1) := by decide +kernel
theorem dL_law_158 : decode cL_law 158 = .ok (.iaload, 1) := by decide +kernel
theorem dL_law_159 : decode cL_law 159 = .ok (.aload_n 0, 1) := by decide +kernel
theorem dL_law_160 : decode cL_law 160 = .ok (.iload_n 3, 1) := by decide +kernel
theorem dL_law_161 : decode cL_law 161 = .ok (.iconst 3, 1) := by decide +kernel
theorem dL_law_162 : decode cL_law 162 = .ok (.iadd, 1) := by decide +kernel
theorem dL_law_163 : decode cL_law 163 = .ok (.iaload, 1) := by decide +kernel
theorem dL_law_164 : decode cL_law 164 = .ok (.aload_n 0, 1) := by decide +kernel
theorem dL_law_165 : decode cL_law 165 = .ok (.iload_n 3, 1) := by decide +kernel
theorem dL_law_166 : decode cL_law 166 = .ok (.iconst 4, 1) := by decide +kernel
theorem dL_law_167 : decode cL_law 167 = .ok (.iadd, 1) := by decide +kernel
theorem dL_law_168 : decode cL_law 168 = .ok (.iaload, 1) := by decide +kernel
theorem dL_law_169 : decode cL_law 169 = .ok (.aload_n 0, 1) := by decide +kernel
theorem dL_law_170 : decode cL_law 170 = .ok (.iload_n 3, 1) := by decide +kernel
theorem dL_law_171 : decode cL_law 171 = .ok (.iconst 5, 1) := by decide +kernel
theorem dL_law_172 : decode cL_law 172 = .ok (.iadd, 1) := by decide +kernel
theorem dL_law_173 : decode cL_law 173 = .ok (.iaload, 1) := by decide +kernel
theorem dL_law_174 : decode cL_law 174 = .ok (.invokevirtual 13, 3) := by decide +kernel
theorem dL_law_177 : decode cL_law 177 = .ok (.aload_n 2, 1) := by decide +kernel
theorem dL_law_178 : decode cL_law 178 = .ok (.aload_n 0, 1) := by decide +kernel
theorem dL_law_179 : decode cL_law 179 = .ok (.iload_n 3, 1) := by decide +kernel
theorem dL_law_180 : decode cL_law 180 = .ok (.iconst 1, 1) := by decide +kernel
theorem dL_law_181 : decode cL_law 181 = .ok (.iadd, 1) := by decide +kernel
theorem dL_law_182 : decode cL_law 182 = .ok (.iaload, 1) := by decide +kernel
theorem dL_law_183 : decode cL_law 183 = .ok (.aload_n 0, 1) := by decide +kernel
theorem dL_law_184 : decode cL_law 184 = .ok (.iload_n 3, 1) := by decide +kernel
theorem dL_law_185 : decode cL_law 185 = .ok (.iconst 2, 1) := by decide +kernel
theorem dL_law_186 : decode cL_law 186 = .ok (.iadd, 1) := by decide +kernel
theorem dL_law_187 : decode cL_law 187 = .ok (.iaload, 1) := by decide +kernel
theorem dL_law_188 : decode cL_law 188 = .ok (.aload_n 0, 1) := by decide +kernel
theorem dL_law_189 : decode cL_law 189 = .ok (.iload_n 3, 1) := by decide +kernel
theorem dL_law_190 : decode cL_law 190 = .ok (.iconst 3, 1) := by decide +kernel
theorem dL_law_191 : decode cL_law 191 = .ok (.iadd, 1) := by decide +kernel
theorem dL_law_192 : decode cL_law 192 = .ok (.iaload, 1) := by decide +kernel
theorem dL_law_193 : decode cL_law 193 = .ok (.aload_n 0, 1) := by decide +kernel
theorem dL_law_194 : decode cL_law 194 = .ok (.iload_n 3, 1) := by decide +kernel
theorem dL_law_195 : decode cL_law 195 = .ok (.iconst 4, 1) := by decide +kernel
theorem dL_law_196 : decode cL_law 196 = .ok (.iadd, 1) := by decide +kernel
theorem dL_law_197 : decode cL_law 197 = .ok (.iaload, 1) := by decide +kernel
theorem dL_law_198 : decode cL_law 198 = .ok (.aload_n 0, 1) := by decide +kernel
theorem dL_law_199 : decode cL_law 199 = .ok (.iload_n 3, 1) := by decide +kernel
theorem dL_law_200 : decode cL_law 200 = .ok (.iconst 5, 1) := by decide +kernel
theorem dL_law_201 : decode cL_law 201 = .ok (.iadd, 1) := by decide +kernel
theorem dL_law_202 : decode cL_law 202 = .ok (.iaload, 1) := by decide +kernel
theorem dL_law_203 : decode cL_law 203 = .ok (.invokevirtual 17, 3) := by decide +kernel
theorem dL_law_206 : decode cL_law 206 = .ok (.if_icmp .eq 846, 3) := by decide +kernel
theorem dL_law_209 : decode cL_law 209 = .ok (.iconst 0, 1) := by decide +kernel
theorem dL_law_210 : decode cL_law 210 = .ok (.ireturn, 1) := by decide +kernel
theorem dL_law_211 : decode cL_law 211 = .ok (.aload_n 1, 1) := by decide +kernel
theorem dL_law_212 : decode cL_law 212 = .ok (.aload_n 0, 1) := by decide +kernel
theorem dL_law_213 : decode cL_law 213 = .ok (.iload_n 3, 1) := by decide +kernel
theorem dL_law_214 : decode cL_law 214 = .ok (.iconst 1, 1) := by decide +kernel
theorem dL_law_215 : decode cL_law 215 = .ok (.iadd, 1) := by decide +kernel
theorem dL_law_216 : decode cL_law 216 = .ok (.iaload, 1) := by decide +kernel
theorem dL_law_217 : decode cL_law 217 = .ok (.invokevirtual 18, 3) := by decide +kernel
theorem dL_law_220 : decode cL_law 220 = .ok (.aload_n 2, 1) := by decide +kernel
theorem dL_law_221 : decode cL_law 221 = .ok (.aload_n 0, 1) := by decide +kernel
theorem dL_law_222 : decode cL_law 222 = .ok (.iload_n 3, 1) := by decide +kernel
theorem dL_law_223 : decode cL_law 223 = .ok (.iconst 1, 1) := by decide +kernel
theorem dL_law_224 : decode cL_law 224 = .ok (.iadd, 1) := by decide +kernel
theorem dL_law_225 : decode cL_law 225 = .ok (.iaload, 1) := by decide +kernel
theorem dL_law_226 : decode cL_law 226 = .ok (.invokevirtual 22, 3) := by decide +kernel
theorem dL_law_229 : decode cL_law 229 = .ok (.if_icmp .eq 823, 3) := by decide +kernel
theorem dL_law_232 : decode cL_law 232 = .ok (.iconst 0, 1) := by decide +kernel
theorem dL_law_233 : decode cL_law 233 = .ok (.ireturn, 1) := by decide +kernel
theorem dL_law_234 : decode cL_law 234 = .ok (.aload_n 1, 1) := by decide +kernel
theorem dL_law_235 : decode cL_law 235 = .ok (.aload_n 0, 1) := by decide +kernel
theorem dL_law_236 : decode cL_law 236 = .ok (.iload_n 3, 1) := by decide +kernel
theorem dL_law_237 : decode cL_law 237 = .ok (.iconst 1, 1) := by decide +kernel
theorem dL_law_238 : decode cL_law 238 = .ok (.iadd, 1) := by decide +kernel
theorem dL_law_239 : decode cL_law 239 = .ok (.iaload, 1) := by decide +kernel
theorem dL_law_240 : decode cL_law 240 = .ok (.aload_n 0, 1) := by decide +kernel
theorem dL_law_241 : decode cL_law 241 = .ok (.iload_n 3, 1) := by decide +kernel
theorem dL_law_242 : decode cL_law 242 = .ok (.iconst 2, 1) := by decide +kernel
theorem dL_law_243 : decode cL_law 243 = .ok (.iadd, 1) := by decide +kernel
theorem dL_law_244 : decode cL_law 244 = .ok (.iaload, 1) := by decide +kernel
theorem dL_law_245 : decode cL_law 245 = .ok (.aload_n 0, 1) := by decide +kernel
theorem dL_law_246 : decode cL_law 246 = .ok (.iload_n 3, 1) := by decide +kernel
theorem dL_law_247 : decode cL_law 247 = .ok (.iconst 3, 1) := by decide +kernel
theorem dL_law_248 : decode cL_law 248 = .ok (.iadd, 1) := by decide +kernel
theorem dL_law_249 : decode cL_law 249 = .ok (.iaload, 1) := by decide +kernel
theorem dL_law_250 : decode cL_law 250 = .ok (.invokevirtual 23, 3) := by decide +kernel
theorem dL_law_253 : decode cL_law 253 = .ok (.aload_n 2, 1) := by decide +kernel
theorem dL_law_254 : decode cL_law 254 = .ok (.aload_n 0, 1) := by decide +kernel
theorem dL_law_255 : decode cL_law 255 = .ok (.iload_n 3, 1) := by decide +kernel
theorem dL_law_256 : decode cL_law 256 = .ok (.iconst 1, 1) := by decide +kernel
theorem dL_law_257 : decode cL_law 257 = .ok (.iadd, 1) := by decide +kernel
theorem dL_law_258 : decode cL_law 258 = .ok (.iaload, 1) := by decide +kernel
theorem dL_law_259 : decode cL_law 259 = .ok (.aload_n 0, 1) := by decide +kernel
theorem dL_law_260 : decode cL_law 260 = .ok (.iload_n 3, 1) := by decide +kernel
theorem dL_law_261 : decode cL_law 261 = .ok (.iconst 2, 1) := by decide +kernel
theorem dL_law_262 : decode cL_law 262 = .ok (.iadd, 1) := by decide +kernel
theorem dL_law_263 : decode cL_law 263 = .ok (.iaload, 1) := by decide +kernel
theorem dL_law_264 : decode cL_law 264 = .ok (.aload_n 0, 1) := by decide +kernel
theorem dL_law_265 : decode cL_law 265 = .ok (.iload_n 3, 1) := by decide +kernel
theorem dL_law_266 : decode cL_law 266 = .ok (.iconst 3, 1) := by decide +kernel
theorem dL_law_267 : decode cL_law 267 = .ok (.iadd, 1) := by decide +kernel
theorem dL_law_268 : decode cL_law 268 = .ok (.iaload, 1) := by decide +kernel
theorem dL_law_269 : decode cL_law 269 = .ok (.invokevirtual 27, 3) := by decide +kernel
theorem dL_law_272 : decode cL_law 272 = .ok (.if_icmp .eq 780, 3) := by decide +kernel
theorem dL_law_275 : decode cL_law 275 = .ok (.iconst 0, 1) := by decide +kernel
theorem dL_law_276 : decode cL_law 276 = .ok (.ireturn, 1) := by decide +kernel
theorem dL_law_277 : decode cL_law 277 = .ok (.aload_n 1, 1) := by decide +kernel
theorem dL_law_278 : decode cL_law 278 = .ok (.aload_n 0, 1) := by decide +kernel
theorem dL_law_279 : decode cL_law 279 = .ok (.iload_n 3, 1) := by decide +kernel
theorem dL_law_280 : decode cL_law 280 = .ok (.iconst 1, 1) := by decide +kernel
theorem dL_law_281 : decode cL_law 281 = .ok (.iadd, 1) := by decide +kernel
theorem dL_law_282 : decode cL_law 282 = .ok (.iaload, 1) := by decide +kernel
theorem dL_law_283 : decode cL_law 283 = .ok (.aload_n 0, 1) := by decide +kernel
theorem dL_law_284 : decode cL_law 284 = .ok (.iload_n 3, 1) := by decide +kernel
theorem dL_law_285 : decode cL_law 285 = .ok (.iconst 2, 1) := by decide +kernel
theorem dL_law_286 : decode cL_law 286 = .ok (.iadd, 1) := by decide +kernel
theorem dL_law_287 : decode cL_law 287 = .ok (.iaload, 1) := by decide +kernel
theorem dL_law_288 : decode cL_law 288 = .ok (.aload_n 0, 1) := by decide +kernel
theorem dL_law_289 : decode cL_law 289 = .ok (.iload_n 3, 1) := by decide +kernel
theorem dL_law_290 : decode cL_law 290 = .ok (.iconst 3, 1) := by decide +kernel
theorem dL_law_291 : decode cL_law 291 = .ok (.iadd, 1) := by decide +kernel
theorem dL_law_292 : decode cL_law 292 = .ok (.iaload, 1) := by decide +kernel
theorem dL_law_293 : decode cL_law 293 = .ok (.invokevirtual 28, 3) := by decide +kernel
theorem dL_law_296 : decode cL_law 296 = .ok (.aload_n 2, 1) := by decide +kernel
theorem dL_law_297 : decode cL_law 297 = .ok (.aload_n 0, 1) := by decide +kernel
theorem dL_law_298 : decode cL_law 298 = .ok (.iload_n 3, 1) := by decide +kernel
theorem dL_law_299 : decode cL_law 299 = .ok (.iconst 1, 1) := by decide +kernel
theorem dL_law_300 : decode cL_law 300 = .ok (.iadd, 1) := by decide +kernel
theorem dL_law_301 : decode cL_law 301 = .ok (.iaload, 1) := by decide +kernel
theorem dL_law_302 : decode cL_law 302 = .ok (.aload_n 0, 1) := by decide +kernel
theorem dL_law_303 : decode cL_law 303 = .ok (.iload_n 3, 1) := by decide +kernel
theorem dL_law_304 : decode cL_law 304 = .ok (.iconst 2, 1) := by decide +kernel
theorem dL_law_305 : decode cL_law 305 = .ok (.iadd, 1) := by decide +kernel
theorem dL_law_306 : decode cL_law 306 = .ok (.iaload, 1) := by decide +kernel
theorem dL_law_307 : decode cL_law 307 = .ok (.aload_n 0, 1) := by decide +kernel
theorem dL_law_308 : decode cL_law 308 = .ok (.iload_n 3, 1) := by decide +kernel
theorem dL_law_309 : decode cL_law 309 = .ok (.iconst 3, 1) := by decide +kernel
theorem dL_law_310 : decode cL_law 310 = .ok (.iadd, 1) := by decide +kernel
theorem dL_law_311 : decode cL_law 311 = .ok (.iaload, 1) := by decide +kernel
theorem dL_law_312 : decode cL_law 312 = .ok (.invokevirtual 31, 3) := by decide +kernel
theorem dL_law_315 : decode cL_law 315 = .ok (.if_icmp .eq 737, 3) := by decide +kernel
theorem dL_law_318 : decode cL_law 318 = .ok (.iconst 0, 1) := by decide +kernel
theorem dL_law_319 : decode cL_law 319 = .ok (.ireturn, 1) := by decide +kernel
theorem dL_law_320 : decode cL_law 320 = .ok (.aload_n 1, 1) := by decide +kernel
theorem dL_law_321 : decode cL_law 321 = .ok (.aload_n 0, 1) := by decide +kernel
theorem dL_law_322 : decode cL_law 322 = .ok (.iload_n 3, 1) := by decide +kernel
theorem dL_law_323 : decode cL_law 323 = .ok (.iconst 1, 1) := by decide +kernel
theorem dL_law_324 : decode cL_law 324 = .ok (.iadd, 1) := by decide +kernel
theorem dL_law_325 : decode cL_law 325 = .ok (.iaload, 1) := by decide +kernel
theorem dL_law_326 : decode cL_law 326 = .ok (.aload_n 0, 1) := by decide +kernel
theorem dL_law_327 : decode cL_law 327 = .ok (.iload_n 3, 1) := by decide +kernel
theorem dL_law_328 : decode cL_law 328 = .ok (.iconst 2, 1) := by decide +kernel
theorem dL_law_329 : decode cL_law 329 = .ok (.iadd, 1) := by decide +kernel
theorem dL_law_330 : decode cL_law 330 = .ok (.iaload, 1) := by decide +kernel
theorem dL_law_331 : decode cL_law 331 = .ok (.invokevirtual 32, 3) := by decide +kernel
theorem dL_law_334 : decode cL_law 334 = .ok (.aload_n 2, 1) := by decide +kernel
theorem dL_law_335 : decode cL_law 335 = .ok (.aload_n 0, 1) := by decide +kernel
theorem dL_law_336 : decode cL_law 336 = .ok (.iload_n 3, 1) := by decide +kernel
theorem dL_law_337 : decode cL_law 337 = .ok (.iconst 1, 1) := by decide +kernel
theorem dL_law_338 : decode cL_law 338 = .ok (.iadd, 1) := by decide +kernel
theorem dL_law_339 : decode cL_law 339 = .ok (.iaload, 1) := by decide +kernel
theorem dL_law_340 : decode cL_law 340 = .ok (.aload_n 0, 1) := by decide +kernel
theorem dL_law_341 : decode cL_law 341 = .ok (.iload_n 3, 1) := by decide +kernel
theorem dL_law_342 : decode cL_law 342 = .ok (.iconst 2, 1) := by decide +kernel
theorem dL_law_343 : decode cL_law 343 = .ok (.iadd, 1) := by decide +kernel
theorem dL_law_344 : decode cL_law 344 = .ok (.iaload, 1) := by decide +kernel
theorem dL_law_345 : decode cL_law 345 = .ok (.invokevirtual 36, 3) := by decide +kernel
theorem dL_law_348 : decode cL_law 348 = .ok (.if_icmp .eq 704, 3) := by decide +kernel
theorem dL_law_351 : decode cL_law 351 = .ok (.iconst 0, 1) := by decide +kernel
theorem dL_law_352 : decode cL_law 352 = .ok (.ireturn, 1) := by decide +kernel
theorem dL_law_353 : decode cL_law 353 = .ok (.aload_n 1, 1) := by decide +kernel
theorem dL_law_354 : decode cL_law 354 = .ok (.aload_n 0, 1) := by decide +kernel
theorem dL_law_355 : decode cL_law 355 = .ok (.iload_n 3, 1) := by decide +kernel
theorem dL_law_356 : decode cL_law 356 = .ok (.iconst 1, 1) := by decide +kernel
theorem dL_law_357 : decode cL_law 357 = .ok (.iadd, 1) := by decide +kernel
theorem dL_law_358 : decode cL_law 358 = .ok (.iaload, 1) := by decide +kernel
theorem dL_law_359 : decode cL_law 359 = .ok (.invokevirtual 37, 3) := by decide +kernel
theorem dL_law_362 : decode cL_law 362 = .ok (.aload_n 2, 1) := by decide +kernel
theorem dL_law_363 : decode cL_law 363 = .ok (.aload_n 0, 1) := by decide +kernel
theorem dL_law_364 : decode cL_law 364 = .ok (.iload_n 3, 1) := by decide +kernel
theorem dL_law_365 : decode cL_law 365 = .ok (.iconst 1, 1) := by decide +kernel
theorem dL_law_366 : decode cL_law 366 = .ok (.iadd, 1) := by decide +kernel
theorem dL_law_367 : decode cL_law 367 = .ok (.iaload, 1) := by decide +kernel
theorem dL_law_368 : decode cL_law 368 = .ok (.invokevirtual 40, 3) := by decide +kernel
theorem dL_law_371 : decode cL_law 371 = .ok (.if_icmp .eq 681, 3) := by decide +kernel
theorem dL_law_374 : decode cL_law 374 = .ok (.iconst 0, 1) := by decide +kernel
theorem dL_law_375 : decode cL_law 375 = .ok (.ireturn, 1) := by decide +kernel
theorem dL_law_376 : decode cL_law 376 = .ok (.aload_n 1, 1) := by decide +kernel
theorem dL_law_377 : decode cL_law 377 = .ok (.aload_n 0, 1) := by decide +kernel
theorem dL_law_378 : decode cL_law 378 = .ok (.iload_n 3, 1) := by decide +kernel
theorem dL_law_379 : decode cL_law 379 = .ok (.iconst 1, 1) := by decide +kernel
theorem dL_law_380 : decode cL_law 380 = .ok (.iadd, 1) := by decide +kernel
theorem dL_law_381 : decode cL_law 381 = .ok (.iaload, 1) := by decide +kernel
theorem dL_law_382 : decode cL_law 382 = .ok (.invokevirtual 41, 3) := by decide +kernel
theorem dL_law_385 : decode cL_law 385 = .ok (.aload_n 2, 1) := by decide +kernel
theorem dL_law_386 : decode cL_law 386 = .ok (.aload_n 0, 1) := by decide +kernel
theorem dL_law_387 : decode cL_law 387 = .ok (.iload_n 3, 1) := by decide +kernel
theorem dL_law_388 : decode cL_law 388 = .ok (.iconst 1, 1) := by decide +kernel
theorem dL_law_389 : decode cL_law 389 = .ok (.iadd, 1) := by decide +kernel
theorem dL_law_390 : decode cL_law 390 = .ok (.iaload, 1) := by decide +kernel
theorem dL_law_391 : decode cL_law 391 = .ok (.invokevirtual 44, 3) := by decide +kernel
theorem dL_law_394 : decode cL_law 394 = .ok (.if_icmp .eq 658, 3) := by decide +kernel
theorem dL_law_397 : decode cL_law 397 = .ok (.iconst 0, 1) := by decide +kernel
theorem dL_law_398 : decode cL_law 398 = .ok (.ireturn, 1) := by decide +kernel
theorem dL_law_399 : decode cL_law 399 = .ok (.aload_n 1, 1) := by decide +kernel
theorem dL_law_400 : decode cL_law 400 = .ok (.aload_n 0, 1) := by decide +kernel
theorem dL_law_401 : decode cL_law 401 = .ok (.iload_n 3, 1) := by decide +kernel
theorem dL_law_402 : decode cL_law 402 = .ok (.iconst 1, 1) := by decide +kernel
theorem dL_law_403 : decode cL_law 403 = .ok (.iadd, 1) := by decide +kernel
theorem dL_law_404 : decode cL_law 404 = .ok (.iaload, 1) := by decide +kernel
theorem dL_law_405 : decode cL_law 405 = .ok (.aload_n 0, 1) := by decide +kernel
theorem dL_law_406 : decode cL_law 406 = .ok (.iload_n 3, 1) := by decide +kernel
theorem dL_law_407 : decode cL_law 407 = .ok (.iconst 2, 1) := by decide +kernel
theorem dL_law_408 : decode cL_law 408 = .ok (.iadd, 1) := by decide +kernel
theorem dL_law_409 : decode cL_law 409 = .ok (.iaload, 1) := by decide +kernel
theorem dL_law_410 : decode cL_law 410 = .ok (.invokevirtual 45, 3) := by decide +kernel
theorem dL_law_413 : decode cL_law 413 = .ok (.aload_n 2, 1) := by decide +kernel
theorem dL_law_414 : decode cL_law 414 = .ok (.aload_n 0, 1) := by decide +kernel
theorem dL_law_415 : decode cL_law 415 = .ok (.iload_n 3, 1) := by decide +kernel
theorem dL_law_416 : decode cL_law 416 = .ok (.iconst 1, 1) := by decide +kernel
theorem dL_law_417 : decode cL_law 417 = .ok (.iadd, 1) := by decide +kernel
theorem dL_law_418 : decode cL_law 418 = .ok (.iaload, 1) := by decide +kernel
theorem dL_law_419 : decode cL_law 419 = .ok (.aload_n 0, 1) := by decide +kernel
theorem dL_law_420 : decode cL_law 420 = .ok (.iload_n 3, 1) := by decide +kernel
theorem dL_law_421 : decode cL_law 421 = .ok (.iconst 2, 1) := by decide +kernel
theorem dL_law_422 : decode cL_law 422 = .ok (.iadd, 1) := by decide +kernel
theorem dL_law_423 : decode cL_law 423 = .ok (.iaload, 1) := by decide +kernel
theorem dL_law_424 : decode cL_law 424 = .ok (.invokevirtual 48, 3) := by decide +kernel
theorem dL_law_427 : decode cL_law 427 = .ok (.if_icmp .eq 625, 3) := by decide +kernel
theorem dL_law_430 : decode cL_law 430 = .ok (.iconst 0, 1) := by decide +kernel
theorem dL_law_431 : decode cL_law 431 = .ok (.ireturn, 1) := by decide +kernel
theorem dL_law_432 : decode cL_law 432 = .ok (.aload_n 1, 1) := by decide +kernel
theorem dL_law_433 : decode cL_law 433 = .ok (.aload_n 0, 1) := by decide +kernel
theorem dL_law_434 : decode cL_law 434 = .ok (.iload_n 3, 1) := by decide +kernel
theorem dL_law_435 : decode cL_law 435 = .ok (.iconst 1, 1) := by decide +kernel
theorem dL_law_436 : decode cL_law 436 = .ok (.iadd, 1) := by decide +kernel
theorem dL_law_437 : decode cL_law 437 = .ok (.iaload, 1) := by decide +kernel
theorem dL_law_438 : decode cL_law 438 = .ok (.invokevirtual 49, 3) := by decide +kernel
theorem dL_law_441 : decode cL_law 441 = .ok (.aload_n 2, 1) := by decide +kernel
theorem dL_law_442 : decode cL_law 442 = .ok (.aload_n 0, 1) := by decide +kernel
theorem dL_law_443 : decode cL_law 443 = .ok (.iload_n 3, 1) := by decide +kernel
theorem dL_law_444 : decode cL_law 444 = .ok (.iconst 1, 1) := by decide +kernel
theorem dL_law_445 : decode cL_law 445 = .ok (.iadd, 1) := by decide +kernel
theorem dL_law_446 : decode cL_law 446 = .ok (.iaload, 1) := by decide +kernel
theorem dL_law_447 : decode cL_law 447 = .ok (.invokevirtual 52, 3) := by decide +kernel
theorem dL_law_450 : decode cL_law 450 = .ok (.if_icmp .eq 602, 3) := by decide +kernel
theorem dL_law_453 : decode cL_law 453 = .ok (.iconst 0, 1) := by decide +kernel
theorem dL_law_454 : decode cL_law 454 = .ok (.ireturn, 1) := by decide +kernel
theorem dL_law_455 : decode cL_law 455 = .ok (.aload_n 1, 1) := by decide +kernel
theorem dL_law_456 : decode cL_law 456 = .ok (.aload_n 0, 1) := by decide +kernel
theorem dL_law_457 : decode cL_law 457 = .ok (.iload_n 3, 1) := by decide +kernel
theorem dL_law_458 : decode cL_law 458 = .ok (.iconst 1, 1) := by decide +kernel
theorem dL_law_459 : decode cL_law 459 = .ok (.iadd, 1) := by decide +kernel
theorem dL_law_460 : decode cL_law 460 = .ok (.iaload, 1) := by decide +kernel
theorem dL_law_461 : decode cL_law 461 = .ok (.invokevirtual 53, 3) := by decide +kernel
theorem dL_law_464 : decode cL_law 464 = .ok (.aload_n 2, 1) := by decide +kernel
theorem dL_law_465 : decode cL_law 465 = .ok (.aload_n 0, 1) := by decide +kernel
theorem dL_law_466 : decode cL_law 466 = .ok (.iload_n 3, 1) := by decide +kernel
theorem dL_law_467 : decode cL_law 467 = .ok (.iconst 1, 1) := by decide +kernel
theorem dL_law_468 : decode cL_law 468 = .ok (.iadd, 1) := by decide +kernel
theorem dL_law_469 : decode cL_law 469 = .ok (.iaload, 1) := by decide +kernel
theorem dL_law_470 : decode cL_law 470 = .ok (.invokevirtual 56, 3) := by decide +kernel
theorem dL_law_473 : decode cL_law 473 = .ok (.if_icmp .eq 579, 3) := by decide +kernel
theorem dL_law_476 : decode cL_law 476 = .ok (.iconst 0, 1) := by decide +kernel
theorem dL_law_477 : decode cL_law 477 = .ok (.ireturn, 1) := by decide +kernel
theorem dL_law_478 : decode cL_law 478 = .ok (.aload_n 1, 1) := by decide +kernel
theorem dL_law_479 : decode cL_law 479 = .ok (.aload_n 0, 1) := by decide +kernel
theorem dL_law_480 : decode cL_law 480 = .ok (.iload_n 3, 1) := by decide +kernel
theorem dL_law_481 : decode cL_law 481 = .ok (.iconst 1, 1) := by decide +kernel
theorem dL_law_482 : decode cL_law 482 = .ok (.iadd, 1) := by decide +kernel
theorem dL_law_483 : decode cL_law 483 = .ok (.iaload, 1) := by decide +kernel
theorem dL_law_484 : decode cL_law 484 = .ok (.aload_n 0, 1) := by decide +kernel
theorem dL_law_485 : decode cL_law 485 = .ok (.iload_n 3, 1) := by decide +kernel
theorem dL_law_486 : decode cL_law 486 = .ok (.iconst 2, 1) := by decide +kernel
theorem dL_law_487 : decode cL_law 487 = .ok (.iadd, 1) := by decide +kernel
theorem dL_law_488 : decode cL_law 488 = .ok (.iaload, 1) := by decide +kernel
theorem dL_law_489 : decode cL_law 489 = .ok (.invokevirtual 57, 3) := by decide +kernel
theorem dL_law_492 : decode cL_law 492 = .ok (.aload_n 2, 1) := by decide +kernel
theorem dL_law_493 : decode cL_law 493 = .ok (.aload_n 0, 1) := by decide +kernel
theorem dL_law_494 : decode cL_law 494 = .ok (.iload_n 3, 1) := by decide +kernel
theorem dL_law_495 : decode cL_law 495 = .ok (.iconst 1, 1) := by decide +kernel
theorem dL_law_496 : decode cL_law 496 = .ok (.iadd, 1) := by decide +kernel
theorem dL_law_497 : decode cL_law 497 = .ok (.iaload, 1) := by decide +kernel
theorem dL_law_498 : decode cL_law 498 = .ok (.aload_n 0, 1) := by decide +kernel
theorem dL_law_499 : decode cL_law 499 = .ok (.iload_n 3, 1) := by decide +kernel
theorem dL_law_500 : decode cL_law 500 = .ok (.iconst 2, 1) := by decide +kernel
theorem dL_law_501 : decode cL_law 501 = .ok (.iadd, 1) := by decide +kernel
theorem dL_law_502 : decode cL_law 502 = .ok (.iaload, 1) := by decide +kernel
theorem dL_law_503 : decode cL_law 503 = .ok (.invokevirtual 60, 3) := by decide +kernel
theorem dL_law_506 : decode cL_law 506 = .ok (.if_icmp .eq 546, 3) := by decide +kernel
theorem dL_law_509 : decode cL_law 509 = .ok (.iconst 0, 1) := by decide +kernel
theorem dL_law_510 : decode cL_law 510 = .ok (.ireturn, 1) := by decide +kernel
theorem dL_law_511 : decode cL_law 511 = .ok (.aload_n 1, 1) := by decide +kernel
theorem dL_law_512 : decode cL_law 512 = .ok (.aload_n 0, 1) := by decide +kernel
theorem dL_law_513 : decode cL_law 513 = .ok (.iload_n 3, 1) := by decide +kernel
theorem dL_law_514 : decode cL_law 514 = .ok (.iconst 1, 1) := by decide +kernel
theorem dL_law_515 : decode cL_law 515 = .ok (.iadd, 1) := by decide +kernel
theorem dL_law_516 : decode cL_law 516 = .ok (.iaload, 1) := by decide +kernel
theorem dL_law_517 : decode cL_law 517 = .ok (.aload_n 0, 1) := by decide +kernel
theorem dL_law_518 : decode cL_law 518 = .ok (.iload_n 3, 1) := by decide +kernel
theorem dL_law_519 : decode cL_law 519 = .ok (.iconst 2, 1) := by decide +kernel
theorem dL_law_520 : decode cL_law 520 = .ok (.iadd, 1) := by decide +kernel
theorem dL_law_521 : decode cL_law 521 = .ok (.iaload, 1) := by decide +kernel
theorem dL_law_522 : decode cL_law 522 = .ok (.aload_n 0, 1) := by decide +kernel
theorem dL_law_523 : decode cL_law 523 = .ok (.iload_n 3, 1) := by decide +kernel
theorem dL_law_524 : decode cL_law 524 = .ok (.iconst 3, 1) := by decide +kernel
theorem dL_law_525 : decode cL_law 525 = .ok (.iadd, 1) := by decide +kernel
theorem dL_law_526 : decode cL_law 526 = .ok (.iaload, 1) := by decide +kernel
theorem dL_law_527 : decode cL_law 527 = .ok (.aload_n 0, 1) := by decide +kernel
theorem dL_law_528 : decode cL_law 528 = .ok (.iload_n 3, 1) := by decide +kernel
theorem dL_law_529 : decode cL_law 529 = .ok (.iconst 4, 1) := by decide +kernel
theorem dL_law_530 : decode cL_law 530 = .ok (.iadd, 1) := by decide +kernel
theorem dL_law_531 : decode cL_law 531 = .ok (.iaload, 1) := by decide +kernel
theorem dL_law_532 : decode cL_law 532 = .ok (.ifCond .eq 7, 3) := by decide +kernel
theorem dL_law_535 : decode cL_law 535 = .ok (.iconst 1, 1) := by decide +kernel
theorem dL_law_536 : decode cL_law 536 = .ok (.goto 4, 3) := by decide +kernel
theorem dL_law_539 : decode cL_law 539 = .ok (.iconst 0, 1) := by decide +kernel
theorem dL_law_540 : decode cL_law 540 = .ok (.invokevirtual 61, 3) := by decide +kernel
theorem dL_law_543 : decode cL_law 543 = .ok (.aload_n 2, 1) := by decide +kernel
theorem dL_law_544 : decode cL_law 544 = .ok (.aload_n 0, 1) := by decide +kernel
theorem dL_law_545 : decode cL_law 545 = .ok (.iload_n 3, 1) := by decide +kernel
theorem dL_law_546 : decode cL_law 546 = .ok (.iconst 1, 1) := by decide +kernel
theorem dL_law_547 : decode cL_law 547 = .ok (.iadd, 1) := by decide +kernel
theorem dL_law_548 : decode cL_law 548 = .ok (.iaload, 1) := by decide +kernel
theorem dL_law_549 : decode cL_law 549 = .ok (.aload_n 0, 1) := by decide +kernel
theorem dL_law_550 : decode cL_law 550 = .ok (.iload_n 3, 1) := by decide +kernel
theorem dL_law_551 : decode cL_law 551 = .ok (.iconst 2, 1) := by decide +kernel
theorem dL_law_552 : decode cL_law 552 = .ok (.iadd, 1) := by decide +kernel
theorem dL_law_553 : decode cL_law 553 = .ok (.iaload, 1) := by decide +kernel
theorem dL_law_554 : decode cL_law 554 = .ok (.aload_n 0, 1) := by decide +kernel
theorem dL_law_555 : decode cL_law 555 = .ok (.iload_n 3, 1) := by decide +kernel
theorem dL_law_556 : decode cL_law 556 = .ok (.iconst 3, 1) := by decide +kernel
theorem dL_law_557 : decode cL_law 557 = .ok (.iadd, 1) := by decide +kernel
theorem dL_law_558 : decode cL_law 558 = .ok (.iaload, 1) := by decide +kernel
theorem dL_law_559 : decode cL_law 559 = .ok (.aload_n 0, 1) := by decide +kernel
theorem dL_law_560 : decode cL_law 560 = .ok (.iload_n 3, 1) := by decide +kernel
theorem dL_law_561 : decode cL_law 561 = .ok (.iconst 4, 1) := by decide +kernel
theorem dL_law_562 : decode cL_law 562 = .ok (.iadd, 1) := by decide +kernel
theorem dL_law_563 : decode cL_law 563 = .ok (.iaload, 1) := by decide +kernel
theorem dL_law_564 : decode cL_law 564 = .ok (.ifCond .eq 7, 3) := by decide +kernel
theorem dL_law_567 : decode cL_law 567 = .ok (.iconst 1, 1) := by decide +kernel
theorem dL_law_568 : decode cL_law 568 = .ok (.goto 4, 3) := by decide +kernel
theorem dL_law_571 : decode cL_law 571 = .ok (.iconst 0, 1) := by decide +kernel
theorem dL_law_572 : decode cL_law 572 = .ok (.invokevirtual 65, 3) := by decide +kernel
theorem dL_law_575 : decode cL_law 575 = .ok (.if_icmp .eq 477, 3) := by decide +kernel
theorem dL_law_578 : decode cL_law 578 = .ok (.iconst 0, 1) := by decide +kernel
theorem dL_law_579 : decode cL_law 579 = .ok (.ireturn, 1) := by decide +kernel
theorem dL_law_580 : decode cL_law 580 = .ok (.aload_n 1, 1) := by decide +kernel
theorem dL_law_581 : decode cL_law 581 = .ok (.aload_n 0, 1) := by decide +kernel
theorem dL_law_582 : decode cL_law 582 = .ok (.iload_n 3, 1) := by decide +kernel
theorem dL_law_583 : decode cL_law 583 = .ok (.iconst 1, 1) := by decide +kernel
theorem dL_law_584 : decode cL_law 584 = .ok (.iadd, 1) := by decide +kernel
theorem dL_law_585 : decode cL_law 585 = .ok (.iaload, 1) := by decide +kernel
theorem dL_law_586 : decode cL_law 586 = .ok (.aload_n 0, 1) := by decide +kernel
theorem dL_law_587 : decode cL_law 587 = .ok (.iload_n 3, 1) := by decide +kernel
theorem dL_law_588 : decode cL_law 588 = .ok (.iconst 2, 1) := by decide +kernel
theorem dL_law_589 : decode cL_law 589 = .ok (.iadd, 1) := by decide +kernel
theorem dL_law_590 : decode cL_law 590 = .ok (.iaload, 1) := by decide +kernel
theorem dL_law_591 : decode cL_law 591 = .ok (.invokevirtual 66, 3) := by decide +kernel
theorem dL_law_594 : decode cL_law 594 = .ok (.aload_n 2, 1) := by decide +kernel
theorem dL_law_595 : decode cL_law 595 = .ok (.aload_n 0, 1) := by decide +kernel
theorem dL_law_596 : decode cL_law 596 = .ok (.iload_n 3, 1) := by decide +kernel
theorem dL_law_597 : decode cL_law 597 = .ok (.iconst 1, 1) := by decide +kernel
theorem dL_law_598 : decode cL_law 598 = .ok (.iadd, 1) := by decide +kernel
theorem dL_law_599 : decode cL_law 599 = .ok (.iaload, 1) := by decide +kernel
theorem dL_law_600 : decode cL_law 600 = .ok (.aload_n 0, 1) := by decide +kernel
theorem dL_law_601 : decode cL_law 601 = .ok (.iload_n 3, 1) := by decide +kernel
theorem dL_law_602 : decode cL_law 602 = .ok (.iconst 2, 1) := by decide +kernel
theorem dL_law_603 : decode cL_law 603 = .ok (.iadd, 1) := by decide +kernel
theorem dL_law_604 : decode cL_law 604 = .ok (.iaload, 1) := by decide +kernel
theorem dL_law_605 : decode cL_law 605 = .ok (.invokevirtual 69, 3) := by decide +kernel
theorem dL_law_608 : decode cL_law 608 = .ok (.if_icmp .eq 444, 3) := by decide +kernel
theorem dL_law_611 : decode cL_law 611 = .ok (.iconst 0, 1) := by decide +kernel
theorem dL_law_612 : decode cL_law 612 = .ok (.ireturn, 1) := by decide +kernel
theorem dL_law_613 : decode cL_law 613 = .ok (.aload_n 1, 1) := by decide +kernel
theorem dL_law_614 : decode cL_law 614 = .ok (.aload_n 0, 1) := by decide +kernel
theorem dL_law_615 : decode cL_law 615 = .ok (.iload_n 3, 1) := by decide +kernel
theorem dL_law_616 : decode cL_law 616 = .ok (.iconst 1, 1) := by decide +kernel
theorem dL_law_617 : decode cL_law 617 = .ok (.iadd, 1) := by decide +kernel
theorem dL_law_618 : decode cL_law 618 = .ok (.iaload, 1) := by decide +kernel
theorem dL_law_619 : decode cL_law 619 = .ok (.aload_n 0, 1) := by decide +kernel
theorem dL_law_620 : decode cL_law 620 = .ok (.iload_n 3, 1) := by decide +kernel
theorem dL_law_621 : decode cL_law 621 = .ok (.iconst 2, 1) := by decide +kernel
theorem dL_law_622 : decode cL_law 622 = .ok (.iadd, 1) := by decide +kernel
theorem dL_law_623 : decode cL_law 623 = .ok (.iaload, 1) := by decide +kernel
theorem dL_law_624 : decode cL_law 624 = .ok (.invokevirtual 70, 3) := by decide +kernel
theorem dL_law_627 : decode cL_law 627 = .ok (.aload_n 2, 1) := by decide +kernel
theorem dL_law_628 : decode cL_law 628 = .ok (.aload_n 0, 1) := by decide +kernel
theorem dL_law_629 : decode cL_law 629 = .ok (.iload_n 3, 1) := by decide +kernel
theorem dL_law_630 : decode cL_law 630 = .ok (.iconst 1, 1) := by decide +kernel
theorem dL_law_631 : decode cL_law 631 = .ok (.iadd, 1) := by decide +kernel
theorem dL_law_632 : decode cL_law 632 = .ok (.iaload, 1) := by decide +kernel
theorem dL_law_633 : decode cL_law 633 = .ok (.aload_n 0, 1) := by decide +kernel
theorem dL_law_634 : decode cL_law 634 = .ok (.iload_n 3, 1) := by decide +kernel
theorem dL_law_635 : decode cL_law 635 = .ok (.iconst 2, 1) := by decide +kernel
theorem dL_law_636 : decode cL_law 636 = .ok (.iadd, 1) := by decide +kernel
theorem dL_law_637 : decode cL_law 637 = .ok (.iaload, 1) := by decide +kernel
theorem dL_law_638 : decode cL_law 638 = .ok (.invokevirtual 73, 3) := by decide +kernel
theorem dL_law_641 : decode cL_law 641 = .ok (.if_icmp .eq 411, 3) := by decide +kernel
theorem dL_law_644 : decode cL_law 644 = .ok (.iconst 0, 1) := by decide +kernel
theorem dL_law_645 : decode cL_law 645 = .ok (.ireturn, 1) := by decide +kernel
theorem dL_law_646 : decode cL_law 646 = .ok (.aload_n 1, 1) := by decide +kernel
theorem dL_law_647 : decode cL_law 647 = .ok (.aload_n 0, 1) := by decide +kernel
theorem dL_law_648 : decode cL_law 648 = .ok (.iload_n 3, 1) := by decide +kernel
theorem dL_law_649 : decode cL_law 649 = .ok (.iconst 1, 1) := by decide +kernel
theorem dL_law_650 : decode cL_law 650 = .ok (.iadd, 1) := by decide +kernel
theorem dL_law_651 : decode cL_law 651 = .ok (.iaload, 1) := by decide +kernel
theorem dL_law_652 : decode cL_law 652 = .ok (.aload_n 0, 1) := by decide +kernel
theorem dL_law_653 : decode cL_law 653 = .ok (.iload_n 3, 1) := by decide +kernel
theorem dL_law_654 : decode cL_law 654 = .ok (.iconst 2, 1) := by decide +kernel
theorem dL_law_655 : decode cL_law 655 = .ok (.iadd, 1) := by decide +kernel
theorem dL_law_656 : decode cL_law 656 = .ok (.iaload, 1) := by decide +kernel
theorem dL_law_657 : decode cL_law 657 = .ok (.invokevirtual 74, 3) := by decide +kernel
theorem dL_law_660 : decode cL_law 660 = .ok (.aload_n 2, 1) := by decide +kernel
theorem dL_law_661 : decode cL_law 661 = .ok (.aload_n 0, 1) := by decide +kernel
theorem dL_law_662 : decode cL_law 662 = .ok (.iload_n 3, 1) := by decide +kernel
theorem dL_law_663 : decode cL_law 663 = .ok (.iconst 1, 1) := by decide +kernel
theorem dL_law_664 : decode cL_law 664 = .ok (.iadd, 1) := by decide +kernel
theorem dL_law_665 : decode cL_law 665 = .ok (.iaload, 1) := by decide +kernel
theorem dL_law_666 : decode cL_law 666 = .ok (.aload_n 0, 1) := by decide +kernel
theorem dL_law_667 : decode cL_law 667 = .ok (.iload_n 3, 1) := by decide +kernel
theorem dL_law_668 : decode cL_law 668 = .ok (.iconst 2, 1) := by decide +kernel
theorem dL_law_669 : decode cL_law 669 = .ok (.iadd, 1) := by decide +kernel
theorem dL_law_670 : decode cL_law 670 = .ok (.iaload, 1) := by decide +kernel
theorem dL_law_671 : decode cL_law 671 = .ok (.invokevirtual 77, 3) := by decide +kernel
theorem dL_law_674 : decode cL_law 674 = .ok (.if_icmp .eq 378, 3) := by decide +kernel
theorem dL_law_677 : decode cL_law 677 = .ok (.iconst 0, 1) := by decide +kernel
theorem dL_law_678 : decode cL_law 678 = .ok (.ireturn, 1) := by decide +kernel
theorem dL_law_679 : decode cL_law 679 = .ok (.aload_n 1, 1) := by decide +kernel
theorem dL_law_680 : decode cL_law 680 = .ok (.aload_n 0, 1) := by decide +kernel
theorem dL_law_681 : decode cL_law 681 = .ok (.iload_n 3, 1) := by decide +kernel
theorem dL_law_682 : decode cL_law 682 = .ok (.iconst 1, 1) := by decide +kernel
theorem dL_law_683 : decode cL_law 683 = .ok (.iadd, 1) := by decide +kernel
theorem dL_law_684 : decode cL_law 684 = .ok (.iaload, 1) := by decide +kernel
theorem dL_law_685 : decode cL_law 685 = .ok (.aload_n 0, 1) := by decide +kernel
theorem dL_law_686 : decode cL_law 686 = .ok (.iload_n 3, 1) := by decide +kernel
theorem dL_law_687 : decode cL_law 687 = .ok (.iconst 2, 1) := by decide +kernel
theorem dL_law_688 : decode cL_law 688 = .ok (.iadd, 1) := by decide +kernel
theorem dL_law_689 : decode cL_law 689 = .ok (.iaload, 1) := by decide +kernel
theorem dL_law_690 : decode cL_law 690 = .ok (.invokevirtual 78, 3) := by decide +kernel
theorem dL_law_693 : decode cL_law 693 = .ok (.aload_n 2, 1) := by decide +kernel
theorem dL_law_694 : decode cL_law 694 = .ok (.aload_n 0, 1) := by decide +kernel
theorem dL_law_695 : decode cL_law 695 = .ok (.iload_n 3, 1) := by decide +kernel
theorem dL_law_696 : decode cL_law 696 = .ok (.iconst 1, 1) := by decide +kernel
theorem dL_law_697 : decode cL_law 697 = .ok (.iadd, 1) := by decide +kernel
theorem dL_law_698 : decode cL_law 698 = .ok (.iaload, 1) := by decide +kernel
theorem dL_law_699 : decode cL_law 699 = .ok (.aload_n 0, 1) := by decide +kernel
theorem dL_law_700 : decode cL_law 700 = .ok (.iload_n 3, 1) := by decide +kernel
theorem dL_law_701 : decode cL_law 701 = .ok (.iconst 2, 1) := by decide +kernel
theorem dL_law_702 : decode cL_law 702 = .ok (.iadd, 1) := by decide +kernel
theorem dL_law_703 : decode cL_law 703 = .ok (.iaload, 1) := by decide +kernel
theorem dL_law_704 : decode cL_law 704 = .ok (.invokevirtual 81, 3) := by decide +kernel
theorem dL_law_707 : decode cL_law 707 = .ok (.if_icmp .eq 345, 3) := by decide +kernel
theorem dL_law_710 : decode cL_law 710 = .ok (.iconst 0, 1) := by decide +kernel
theorem dL_law_711 : decode cL_law 711 = .ok (.ireturn, 1) := by decide +kernel
theorem dL_law_712 : decode cL_law 712 = .ok (.aload_n 1, 1) := by decide +kernel
theorem dL_law_713 : decode cL_law 713 = .ok (.aload_n 0, 1) := by decide +kernel
theorem dL_law_714 : decode cL_law 714 = .ok (.iload_n 3, 1) := by decide +kernel
theorem dL_law_715 : decode cL_law 715 = .ok (.iconst 1, 1) := by decide +kernel
theorem dL_law_716 : decode cL_law 716 = .ok (.iadd, 1) := by decide +kernel
theorem dL_law_717 : decode cL_law 717 = .ok (.iaload, 1) := by decide +kernel
theorem dL_law_718 : decode cL_law 718 = .ok (.aload_n 0, 1) := by decide +kernel
theorem dL_law_719 : decode cL_law 719 = .ok (.iload_n 3, 1) := by decide +kernel
theorem dL_law_720 : decode cL_law 720 = .ok (.iconst 2, 1) := by decide +kernel
theorem dL_law_721 : decode cL_law 721 = .ok (.iadd, 1) := by decide +kernel
theorem dL_law_722 : decode cL_law 722 = .ok (.iaload, 1) := by decide +kernel
theorem dL_law_723 : decode cL_law 723 = .ok (.aload_n 0, 1) := by decide +kernel
theorem dL_law_724 : decode cL_law 724 = .ok (.iload_n 3, 1) := by decide +kernel
theorem dL_law_725 : decode cL_law 725 = .ok (.iconst 3, 1) := by decide +kernel
theorem dL_law_726 : decode cL_law 726 = .ok (.iadd, 1) := by decide +kernel
theorem dL_law_727 : decode cL_law 727 = .ok (.iaload, 1) := by decide +kernel
theorem dL_law_728 : decode cL_law 728 = .ok (.invokevirtual 82, 3) := by decide +kernel
theorem dL_law_731 : decode cL_law 731 = .ok (.aload_n 2, 1) := by decide +kernel
theorem dL_law_732 : decode cL_law 732 = .ok (.aload_n 0, 1) := by decide +kernel
theorem dL_law_733 : decode cL_law 733 = .ok (.iload_n 3, 1) := by decide +kernel
theorem dL_law_734 : decode cL_law 734 = .ok (.iconst 1, 1) := by decide +kernel
theorem dL_law_735 : decode cL_law 735 = .ok (.iadd, 1) := by decide +kernel
theorem dL_law_736 : decode cL_law 736 = .ok (.iaload, 1) := by decide +kernel
theorem dL_law_737 : decode cL_law 737 = .ok (.aload_n 0, 1) := by decide +kernel
theorem dL_law_738 : decode cL_law 738 = .ok (.iload_n 3, 1) := by decide +kernel
theorem dL_law_739 : decode cL_law 739 = .ok (.iconst 2, 1) := by decide +kernel
theorem dL_law_740 : decode cL_law 740 = .ok (.iadd, 1) := by decide +kernel
theorem dL_law_741 : decode cL_law 741 = .ok (.iaload, 1) := by decide +kernel
theorem dL_law_742 : decode cL_law 742 = .ok (.aload_n 0, 1) := by decide +kernel
theorem dL_law_743 : decode cL_law 743 = .ok (.iload_n 3, 1) := by decide +kernel
theorem dL_law_744 : decode cL_law 744 = .ok (.iconst 3, 1) := by decide +kernel
theorem dL_law_745 : decode cL_law 745 = .ok (.iadd, 1) := by decide +kernel
theorem dL_law_746 : decode cL_law 746 = .ok (.iaload, 1) := by decide +kernel
theorem dL_law_747 : decode cL_law 747 = .ok (.invokevirtual 85, 3) := by decide +kernel
theorem dL_law_750 : decode cL_law 750 = .ok (.if_icmp .eq 302, 3) := by decide +kernel
theorem dL_law_753 : decode cL_law 753 = .ok (.iconst 0, 1) := by decide +kernel
theorem dL_law_754 : decode cL_law 754 = .ok (.ireturn, 1) := by decide +kernel
theorem dL_law_755 : decode cL_law 755 = .ok (.aload_n 1, 1) := by decide +kernel
theorem dL_law_756 : decode cL_law 756 = .ok (.aload_n 0, 1) := by decide +kernel
theorem dL_law_757 : decode cL_law 757 = .ok (.iload_n 3, 1) := by decide +kernel
theorem dL_law_758 : decode cL_law 758 = .ok (.iconst 1, 1) := by decide +kernel
theorem dL_law_759 : decode cL_law 759 = .ok (.iadd, 1) := by decide +kernel
theorem dL_law_760 : decode cL_law 760 = .ok (.iaload, 1) := by decide +kernel
theorem dL_law_761 : decode cL_law 761 = .ok (.aload_n 0, 1) := by decide +kernel
theorem dL_law_762 : decode cL_law 762 = .ok (.iload_n 3, 1) := by decide +kernel
theorem dL_law_763 : decode cL_law 763 = .ok (.iconst 2, 1) := by decide +kernel
theorem dL_law_764 : decode cL_law 764 = .ok (.iadd, 1) := by decide +kernel
theorem dL_law_765 : decode cL_law 765 = .ok (.iaload, 1) := by decide +kernel
theorem dL_law_766 : decode cL_law 766 = .ok (.invokevirtual 86, 3) := by decide +kernel
theorem dL_law_769 : decode cL_law 769 = .ok (.aload_n 2, 1) := by decide +kernel
theorem dL_law_770 : decode cL_law 770 = .ok (.aload_n 0, 1) := by decide +kernel
theorem dL_law_771 : decode cL_law 771 = .ok (.iload_n 3, 1) := by decide +kernel
theorem dL_law_772 : decode cL_law 772 = .ok (.iconst 1, 1) := by decide +kernel
theorem dL_law_773 : decode cL_law 773 = .ok (.iadd, 1) := by decide +kernel
theorem dL_law_774 : decode cL_law 774 = .ok (.iaload, 1) := by decide +kernel
theorem dL_law_775 : decode cL_law 775 = .ok (.aload_n 0, 1) := by decide +kernel
theorem dL_law_776 : decode cL_law 776 = .ok (.iload_n 3, 1) := by decide +kernel
theorem dL_law_777 : decode cL_law 777 = .ok (.iconst 2, 1) := by decide +kernel
theorem dL_law_778 : decode cL_law 778 = .ok (.iadd, 1) := by decide +kernel
theorem dL_law_779 : decode cL_law 779 = .ok (.iaload, 1) := by decide +kernel
theorem dL_law_780 : decode cL_law 780 = .ok (.invokevirtual 89, 3) := by decide +kernel
theorem dL_law_783 : decode cL_law 783 = .ok (.if_icmp .eq 269, 3) := by decide +kernel
theorem dL_law_786 : decode cL_law 786 = .ok (.iconst 0, 1) := by decide +kernel
theorem dL_law_787 : decode cL_law 787 = .ok (.ireturn, 1) := by decide +kernel
theorem dL_law_788 : decode cL_law 788 = .ok (.aload_n 1, 1) := by decide +kernel
theorem dL_law_789 : decode cL_law 789 = .ok (.aload_n 0, 1) := by decide +kernel
theorem dL_law_790 : decode cL_law 790 = .ok (.iload_n 3, 1) := by decide +kernel
theorem dL_law_791 : decode cL_law 791 = .ok (.iconst 1, 1) := by decide +kernel
theorem dL_law_792 : decode cL_law 792 = .ok (.iadd, 1) := by decide +kernel
theorem dL_law_793 : decode cL_law 793 = .ok (.iaload, 1) := by decide +kernel
theorem dL_law_794 : decode cL_law 794 = .ok (.aload_n 0, 1) := by decide +kernel
theorem dL_law_795 : decode cL_law 795 = .ok (.iload_n 3, 1) := by decide +kernel
theorem dL_law_796 : decode cL_law 796 = .ok (.iconst 2, 1) := by decide +kernel
theorem dL_law_797 : decode cL_law 797 = .ok (.iadd, 1) := by decide +kernel
theorem dL_law_798 : decode cL_law 798 = .ok (.iaload, 1) := by decide +kernel
theorem dL_law_799 : decode cL_law 799 = .ok (.aload_n 0, 1) := by decide +kernel
theorem dL_law_800 : decode cL_law 800 = .ok (.iload_n 3, 1) := by decide +kernel
theorem dL_law_801 : decode cL_law 801 = .ok (.iconst 3, 1) := by decide +kernel
theorem dL_law_802 : decode cL_law 802 = .ok (.iadd, 1) := by decide +kernel
theorem dL_law_803 : decode cL_law 803 = .ok (.iaload, 1) := by decide +kernel
theorem dL_law_804 : decode cL_law 804 = .ok (.aload_n 0, 1) := by decide +kernel
theorem dL_law_805 : decode cL_law 805 = .ok (.iload_n 3, 1) := by decide +kernel
theorem dL_law_806 : decode cL_law 806 = .ok (.iconst 4, 1) := by decide +kernel
theorem dL_law_807 : decode cL_law 807 = .ok (.iadd, 1) := by decide +kernel
theorem dL_law_808 : decode cL_law 808 = .ok (.iaload, 1) := by decide +kernel
theorem dL_law_809 : decode cL_law 809 = .ok (.ifCond .eq 7, 3) := by decide +kernel
theorem dL_law_812 : decode cL_law 812 = .ok (.iconst 1, 1) := by decide +kernel
theorem dL_law_813 : decode cL_law 813 = .ok (.goto 4, 3) := by decide +kernel
theorem dL_law_816 : decode cL_law 816 = .ok (.iconst 0, 1) := by decide +kernel
theorem dL_law_817 : decode cL_law 817 = .ok (.invokevirtual 90, 3) := by decide +kernel
theorem dL_law_820 : decode cL_law 820 = .ok (.aload_n 2, 1) := by decide +kernel
theorem dL_law_821 : decode cL_law 821 = .ok (.aload_n 0, 1) := by decide +kernel
theorem dL_law_822 : decode cL_law 822 = .ok (.iload_n 3, 1) := by decide +kernel
theorem dL_law_823 : decode cL_law 823 = .ok (.iconst 1, 1) := by decide +kernel
theorem dL_law_824 : decode cL_law 824 = .ok (.iadd, 1) := by decide +kernel
theorem dL_law_825 : decode cL_law 825 = .ok (.iaload, 1) := by decide +kernel
theorem dL_law_826 : decode cL_law 826 = .ok (.aload_n 0, 1) := by decide +kernel
theorem dL_law_827 : decode cL_law 827 = .ok (.iload_n 3, 1) := by decide +kernel
theorem dL_law_828 : decode cL_law 828 = .ok (.iconst 2, 1) := by decide +kernel
theorem dL_law_829 : decode cL_law 829 = .ok (.iadd, 1) := by decide +kernel
theorem dL_law_830 : decode cL_law 830 = .ok (.iaload, 1) := by decide +kernel
theorem dL_law_831 : decode cL_law 831 = .ok (.aload_n 0, 1) := by decide +kernel
theorem dL_law_832 : decode cL_law 832 = .ok (.iload_n 3, 1) := by decide +kernel
theorem dL_law_833 : decode cL_law 833 = .ok (.iconst 3, 1) := by decide +kernel
theorem dL_law_834 : decode cL_law 834 = .ok (.iadd, 1) := by decide +kernel
theorem dL_law_835 : decode cL_law 835 = .ok (.iaload, 1) := by decide +kernel
theorem dL_law_836 : decode cL_law 836 = .ok (.aload_n 0, 1) := by decide +kernel
theorem dL_law_837 : decode cL_law 837 = .ok (.iload_n 3, 1) := by decide +kernel
theorem dL_law_838 : decode cL_law 838 = .ok (.iconst 4, 1) := by decide +kernel
theorem dL_law_839 : decode cL_law 839 = .ok (.iadd, 1) := by decide +kernel
theorem dL_law_840 : decode cL_law 840 = .ok (.iaload, 1) := by decide +kernel
theorem dL_law_841 : decode cL_law 841 = .ok (.ifCond .eq 7, 3) := by decide +kernel
theorem dL_law_844 : decode cL_law 844 = .ok (.iconst 1, 1) := by decide +kernel
theorem dL_law_845 : decode cL_law 845 = .ok (.goto 4, 3) := by decide +kernel
theorem dL_law_848 : decode cL_law 848 = .ok (.iconst 0, 1) := by decide +kernel
theorem dL_law_849 : decode cL_law 849 = .ok (.invokevirtual 93, 3) := by decide +kernel
theorem dL_law_852 : decode cL_law 852 = .ok (.if_icmp .eq 200, 3) := by decide +kernel
theorem dL_law_855 : decode cL_law 855 = .ok (.iconst 0, 1) := by decide +kernel
theorem dL_law_856 : decode cL_law 856 = .ok (.ireturn, 1) := by decide +kernel
theorem dL_law_857 : decode cL_law 857 = .ok (.aload_n 1, 1) := by decide +kernel
theorem dL_law_858 : decode cL_law 858 = .ok (.aload_n 0, 1) := by decide +kernel
theorem dL_law_859 : decode cL_law 859 = .ok (.iload_n 3, 1) := by decide +kernel
theorem dL_law_860 : decode cL_law 860 = .ok (.iconst 1, 1) := by decide +kernel
theorem dL_law_861 : decode cL_law 861 = .ok (.iadd, 1) := by decide +kernel
theorem dL_law_862 : decode cL_law 862 = .ok (.iaload, 1) := by decide +kernel
theorem dL_law_863 : decode cL_law 863 = .ok (.aload_n 0, 1) := by decide +kernel
theorem dL_law_864 : decode cL_law 864 = .ok (.iload_n 3, 1) := by decide +kernel
theorem dL_law_865 : decode cL_law 865 = .ok (.iconst 2, 1) := by decide +kernel
theorem dL_law_866 : decode cL_law 866 = .ok (.iadd, 1) := by decide +kernel
theorem dL_law_867 : decode cL_law 867 = .ok (.iaload, 1) := by decide +kernel
theorem dL_law_868 : decode cL_law 868 = .ok (.invokevirtual 94, 3) := by decide +kernel
theorem dL_law_871 : decode cL_law 871 = .ok (.aload_n 2, 1) := by decide +kernel
theorem dL_law_872 : decode cL_law 872 = .ok (.aload_n 0, 1) := by decide +kernel
theorem dL_law_873 : decode cL_law 873 = .ok (.iload_n 3, 1) := by decide +kernel
theorem dL_law_874 : decode cL_law 874 = .ok (.iconst 1, 1) := by decide +kernel
theorem dL_law_875 : decode cL_law 875 = .ok (.iadd, 1) := by decide +kernel
theorem dL_law_876 : decode cL_law 876 = .ok (.iaload, 1) := by decide +kernel
theorem dL_law_877 : decode cL_law 877 = .ok (.aload_n 0, 1) := by decide +kernel
theorem dL_law_878 : decode cL_law 878 = .ok (.iload_n 3, 1) := by decide +kernel
theorem dL_law_879 : decode cL_law 879 = .ok (.iconst 2, 1) := by decide +kernel
theorem dL_law_880 : decode cL_law 880 = .ok (.iadd, 1) := by decide +kernel
theorem dL_law_881 : decode cL_law 881 = .ok (.iaload, 1) := by decide +kernel
theorem dL_law_882 : decode cL_law 882 = .ok (.invokevirtual 97, 3) := by decide +kernel
theorem dL_law_885 : decode cL_law 885 = .ok (.if_icmp .eq 167, 3) := by decide +kernel
theorem dL_law_888 : decode cL_law 888 = .ok (.iconst 0, 1) := by decide +kernel
theorem dL_law_889 : decode cL_law 889 = .ok (.ireturn, 1) := by decide +kernel
theorem dL_law_890 : decode cL_law 890 = .ok (.aload_n 1, 1) := by decide +kernel
theorem dL_law_891 : decode cL_law 891 = .ok (.invokevirtual 98, 3) := by decide +kernel
theorem dL_law_894 : decode cL_law 894 = .ok (.aload_n 2, 1) := by decide +kernel
theorem dL_law_895 : decode cL_law 895 = .ok (.invokevirtual 102, 3) := by decide +kernel
theorem dL_law_898 : decode cL_law 898 = .ok (.if_icmp .eq 154, 3) := by decide +kernel
theorem dL_law_901 : decode cL_law 901 = .ok (.iconst 0, 1) := by decide +kernel
theorem dL_law_902 : decode cL_law 902 = .ok (.ireturn, 1) := by decide +kernel
theorem dL_law_903 : decode cL_law 903 = .ok (.aload_n 1, 1) := by decide +kernel
theorem dL_law_904 : decode cL_law 904 = .ok (.aload_n 0, 1) := by decide +kernel
theorem dL_law_905 : decode cL_law 905 = .ok (.iload_n 3, 1) := by decide +kernel
theorem dL_law_906 : decode cL_law 906 = .ok (.iconst 1, 1) := by decide +kernel
theorem dL_law_907 : decode cL_law 907 = .ok (.iadd, 1) := by decide +kernel
theorem dL_law_908 : decode cL_law 908 = .ok (.iaload, 1) := by decide +kernel
theorem dL_law_909 : decode cL_law 909 = .ok (.ifCond .eq 7, 3) := by decide +kernel
theorem dL_law_912 : decode cL_law 912 = .ok (.iconst 1, 1) := by decide +kernel
theorem dL_law_913 : decode cL_law 913 = .ok (.goto 4, 3) := by decide +kernel
theorem dL_law_916 : decode cL_law 916 = .ok (.iconst 0, 1) := by decide +kernel
theorem dL_law_917 : decode cL_law 917 = .ok (.invokevirtual 103, 3) := by decide +kernel
theorem dL_law_920 : decode cL_law 920 = .ok (.aload_n 2, 1) := by decide +kernel
theorem dL_law_921 : decode cL_law 921 = .ok (.aload_n 0, 1) := by decide +kernel
theorem dL_law_922 : decode cL_law 922 = .ok (.iload_n 3, 1) := by decide +kernel
theorem dL_law_923 : decode cL_law 923 = .ok (.iconst 1, 1) := by decide +kernel
theorem dL_law_924 : decode cL_law 924 = .ok (.iadd, 1) := by decide +kernel
theorem dL_law_925 : decode cL_law 925 = .ok (.iaload, 1) := by decide +kernel
theorem dL_law_926 : decode cL_law 926 = .ok (.ifCond .eq 7, 3) := by decide +kernel
theorem dL_law_929 : decode cL_law 929 = .ok (.iconst 1, 1) := by decide +kernel
theorem dL_law_930 : decode cL_law 930 = .ok (.goto 4, 3) := by decide +kernel
theorem dL_law_933 : decode cL_law 933 = .ok (.iconst 0, 1) := by decide +kernel
theorem dL_law_934 : decode cL_law 934 = .ok (.invokevirtual 107, 3) := by decide +kernel
theorem dL_law_937 : decode cL_law 937 = .ok (.if_icmp .eq 115, 3) := by decide +kernel
theorem dL_law_940 : decode cL_law 940 = .ok (.iconst 0, 1) := by decide +kernel
theorem dL_law_941 : decode cL_law 941 = .ok (.ireturn, 1) := by decide +kernel
theorem dL_law_942 : decode cL_law 942 = .ok (.aload_n 1, 1) := by decide +kernel
theorem dL_law_943 : decode cL_law 943 = .ok (.aload_n 0, 1) := by decide +kernel
theorem dL_law_944 : decode cL_law 944 = .ok (.iload_n 3, 1) := by decide +kernel
theorem dL_law_945 : decode cL_law 945 = .ok (.iconst 1, 1) := by decide +kernel
theorem dL_law_946 : decode cL_law 946 = .ok (.iadd, 1) := by decide +kernel
theorem dL_law_947 : decode cL_law 947 = .ok (.iaload, 1) := by decide +kernel
theorem dL_law_948 : decode cL_law 948 = .ok (.invokevirtual 108, 3) := by decide +kernel
theorem dL_law_951 : decode cL_law 951 = .ok (.aload_n 2, 1) := by decide +kernel
theorem dL_law_952 : decode cL_law 952 = .ok (.aload_n 0, 1) := by decide +kernel
theorem dL_law_953 : decode cL_law 953 = .ok (.iload_n 3, 1) := by decide +kernel
theorem dL_law_954 : decode cL_law 954 = .ok (.iconst 1, 1) := by decide +kernel
theorem dL_law_955 : decode cL_law 955 = .ok (.iadd, 1) := by decide +kernel
theorem dL_law_956 : decode cL_law 956 = .ok (.iaload, 1) := by decide +kernel
theorem dL_law_957 : decode cL_law 957 = .ok (.invokevirtual 111, 3) := by decide +kernel
theorem dL_law_960 : decode cL_law 960 = .ok (.if_icmp .eq 92, 3) := by decide +kernel
theorem dL_law_963 : decode cL_law 963 = .ok (.iconst 0, 1) := by decide +kernel
theorem dL_law_964 : decode cL_law 964 = .ok (.ireturn, 1) := by decide +kernel
theorem dL_law_965 : decode cL_law 965 = .ok (.aload_n 1, 1) := by decide +kernel
theorem dL_law_966 : decode cL_law 966 = .ok (.aload_n 0, 1) := by decide +kernel
theorem dL_law_967 : decode cL_law 967 = .ok (.iload_n 3, 1) := by decide +kernel
theorem dL_law_968 : decode cL_law 968 = .ok (.iconst 1, 1) := by decide +kernel
theorem dL_law_969 : decode cL_law 969 = .ok (.iadd, 1) := by decide +kernel
theorem dL_law_970 : decode cL_law 970 = .ok (.iaload, 1) := by decide +kernel
theorem dL_law_971 : decode cL_law 971 = .ok (.aload_n 0, 1) := by decide +kernel
theorem dL_law_972 : decode cL_law 972 = .ok (.iload_n 3, 1) := by decide +kernel
theorem dL_law_973 : decode cL_law 973 = .ok (.iconst 2, 1) := by decide +kernel
theorem dL_law_974 : decode cL_law 974 = .ok (.iadd, 1) := by decide +kernel
theorem dL_law_975 : decode cL_law 975 = .ok (.iaload, 1) := by decide +kernel
theorem dL_law_976 : decode cL_law 976 = .ok (.aload_n 0, 1) := by decide +kernel
theorem dL_law_977 : decode cL_law 977 = .ok (.iload_n 3, 1) := by decide +kernel
theorem dL_law_978 : decode cL_law 978 = .ok (.iconst 3, 1) := by decide +kernel
theorem dL_law_979 : decode cL_law 979 = .ok (.iadd, 1) := by decide +kernel
theorem dL_law_980 : decode cL_law 980 = .ok (.iaload, 1) := by decide +kernel
theorem dL_law_981 : decode cL_law 981 = .ok (.aload_n 0, 1) := by decide +kernel
theorem dL_law_982 : decode cL_law 982 = .ok (.iload_n 3, 1) := by decide +kernel
theorem dL_law_983 : decode cL_law 983 = .ok (.iconst 4, 1) := by decide +kernel
theorem dL_law_984 : decode cL_law 984 = .ok (.iadd, 1) := by decide +kernel
theorem dL_law_985 : decode cL_law 985 = .ok (.iaload, 1) := by decide +kernel
theorem dL_law_986 : decode cL_law 986 = .ok (.aload_n 0, 1) := by decide +kernel
theorem dL_law_987 : decode cL_law 987 = .ok (.iload_n 3, 1) := by decide +kernel
theorem dL_law_988 : decode cL_law 988 = .ok (.iconst 5, 1) := by decide +kernel
theorem dL_law_989 : decode cL_law 989 = .ok (.iadd, 1) := by decide +kernel
theorem dL_law_990 : decode cL_law 990 = .ok (.iaload, 1) := by decide +kernel
theorem dL_law_991 : decode cL_law 991 = .ok (.invokevirtual 112, 3) := by decide +kernel
theorem dL_law_994 : decode cL_law 994 = .ok (.aload_n 2, 1) := by decide +kernel
theorem dL_law_995 : decode cL_law 995 = .ok (.aload_n 0, 1) := by decide +kernel
theorem dL_law_996 : decode cL_law 996 = .ok (.iload_n 3, 1) := by decide +kernel
theorem dL_law_997 : decode cL_law 997 = .ok (.iconst 1, 1) := by decide +kernel
theorem dL_law_998 : decode cL_law 998 = .ok (.iadd, 1) := by decide +kernel
theorem dL_law_999 : decode cL_law 999 = .ok (.iaload, 1) := by decide +kernel
theorem dL_law_1000 : decode cL_law 1000 = .ok (.aload_n 0, 1) := by decide +kernel
theorem dL_law_1001 : decode cL_law 1001 = .ok (.iload_n 3, 1) := by decide +kernel
theorem dL_law_1002 : decode cL_law 1002 = .ok (.iconst 2, 1) := by decide +kernel
theorem dL_law_1003 : decode cL_law 1003 = .ok (.iadd, 1) := by decide +kernel
theorem dL_law_1004 : decode cL_law 1004 = .ok (.iaload, 1) := by decide +kernel
theorem dL_law_1005 : decode cL_law 1005 = .ok (.aload_n 0, 1) := by decide +kernel
theorem dL_law_1006 : decode cL_law 1006 = .ok (.iload_n 3, 1) := by decide +kernel
theorem dL_law_1007 : decode cL_law 1007 = .ok (.iconst 3, 1) := by decide +kernel
theorem dL_law_1008 : decode cL_law 1008 = .ok (.iadd, 1) := by decide +kernel
theorem dL_law_1009 : decode cL_law 1009 = .ok (.iaload, 1) := by decide +kernel
theorem dL_law_1010 : decode cL_law 1010 = .ok (.aload_n 0, 1) := by decide +kernel
theorem dL_law_1011 : decode cL_law 1011 = .ok (.iload_n 3, 1) := by decide +kernel
theorem dL_law_1012 : decode cL_law 1012 = .ok (.iconst 4, 1) := by decide +kernel
theorem dL_law_1013 : decode cL_law 1013 = .ok (.iadd, 1) := by decide +kernel
theorem dL_law_1014 : decode cL_law 1014 = .ok (.iaload, 1) := by decide +kernel
theorem dL_law_1015 : decode cL_law 1015 = .ok (.aload_n 0, 1) := by decide +kernel
theorem dL_law_1016 : decode cL_law 1016 = .ok (.iload_n 3, 1) := by decide +kernel
theorem dL_law_1017 : decode cL_law 1017 = .ok (.iconst 5, 1) := by decide +kernel
theorem dL_law_1018 : decode cL_law 1018 = .ok (.iadd, 1) := by decide +kernel
theorem dL_law_1019 : decode cL_law 1019 = .ok (.iaload, 1) := by decide +kernel
end
section
theorem dL_law_1020 : decode cL_law 1020 = .ok (.invokevirtual 116, 3) := by decide +kernel
theorem dL_law_1023 : decode cL_law 1023 = .ok (.lcmp, 1) := by decide +kernel
theorem dL_law_1024 : decode cL_law 1024 = .ok (.ifCond .eq 28, 3) := by decide +kernel
theorem dL_law_1027 : decode cL_law 1027 = .ok (.iconst 0, 1) := by decide +kernel
theorem dL_law_1028 : decode cL_law 1028 = .ok (.ireturn, 1) := by decide +kernel
theorem dL_law_1029 : decode cL_law 1029 = .ok (.aload_n 1, 1) := by decide +kernel
theorem dL_law_1030 : decode cL_law 1030 = .ok (.aload_n 0, 1) := by decide +kernel
theorem dL_law_1031 : decode cL_law 1031 = .ok (.iload_n 3, 1) := by decide +kernel
theorem dL_law_1032 : decode cL_law 1032 = .ok (.iconst 1, 1) := by decide +kernel
theorem dL_law_1033 : decode cL_law 1033 = .ok (.iadd, 1) := by decide +kernel
theorem dL_law_1034 : decode cL_law 1034 = .ok (.iaload, 1) := by decide +kernel
theorem dL_law_1035 : decode cL_law 1035 = .ok (.invokevirtual 117, 3) := by decide +kernel
theorem dL_law_1038 : decode cL_law 1038 = .ok (.aload_n 2, 1) := by decide +kernel
theorem dL_law_1039 : decode cL_law 1039 = .ok (.aload_n 0, 1) := by decide +kernel
theorem dL_law_1040 : decode cL_law 1040 = .ok (.iload_n 3, 1) := by decide +kernel
theorem dL_law_1041 : decode cL_law 1041 = .ok (.iconst 1, 1) := by decide +kernel
theorem dL_law_1042 : decode cL_law 1042 = .ok (.iadd, 1) := by decide +kernel
theorem dL_law_1043 : decode cL_law 1043 = .ok (.iaload, 1) := by decide +kernel
theorem dL_law_1044 : decode cL_law 1044 = .ok (.invokevirtual 120, 3) := by decide +kernel
theorem dL_law_1047 : decode cL_law 1047 = .ok (.if_icmp .eq 5, 3) := by decide +kernel
theorem dL_law_1050 : decode cL_law 1050 = .ok (.iconst 0, 1) := by decide +kernel
theorem dL_law_1051 : decode cL_law 1051 = .ok (.ireturn, 1) := by decide +kernel
theorem dL_law_1052 : decode cL_law 1052 = .ok (.iinc 3 6, 3) := by decide +kernel
theorem dL_law_1055 : decode cL_law 1055 = .ok (.goto (-1037), 3) := by decide +kernel
theorem dL_law_1058 : decode cL_law 1058 = .ok (.iconst 1, 1) := by decide +kernel
theorem dL_law_1059 : decode cL_law 1059 = .ok (.ireturn, 1) := by decide +kernel
end
section
/-! ===== the pure side: partial functions, loops ===== -/
noncomputable def brn {α : Type} (c : Prop) (x y : Option α) : Option α := @ite _ c (Classical.propDecidable c) x y
noncomputable def grd {α : Type} (c : Prop) (x : Option α) : Option α := brn c x none
def nm {α β : Type} (a : α) (f : α → β) : β := f a
theorem brn_t {α : Type} {c : Prop} {x y : Option α} (h : c) : brn c x y = x := by unfold brn; rw [if_pos h]
theorem brn_f {α : Type} {c : Prop} {x y : Option α} (h : ¬ c) : brn c x y = y := by unfold brn; rw [if_neg h]
theorem grd_t {α : Type} {c : Prop} {x : Option α} (h : c) : grd c x = x := brn_t h
theorem of_brn {α : Type} {c : Prop} {x y : Option α} {z : α} (h : brn c x y = some z) : (c ∧ x = some z) ∨ (¬ c ∧ y = some z) := by
  by_cases hc : c
  · rw [brn_t hc] at h; exact Or.inl ⟨hc, h⟩
  · rw [brn_f hc] at h; exact Or.inr ⟨hc, h⟩
theorem of_grd {α : Type} {c : Prop} {x : Option α} {z : α} (h : grd c x = some z) : c ∧ x = some z := by
  rcases of_brn h with h | h
  · exact h
  · exact absurd h.2 (by simp)
theorem of_nm {α β : Type} {a : α} {f : α → β} {z : β} (h : nm a f = z) : ∃ x, x = a ∧ f x = z := ⟨a, rfl, h⟩
theorem of_bnd {α β : Type} {o : Option α} {f : α → Option β} {z : β} (h : o.bind f = some z) : ∃ y, o = some y ∧ f y = some z := by
  cases o with
  | none => cases h
  | some y => exact ⟨y, rfl, h⟩
def itr {σ β : Type} (f : σ → Option (σ ⊕ β)) : Nat → σ → Option β
  | 0, _ => none
  | n + 1, s => match f s with
    | none => none
    | some (.inl t) => itr f n t
    | some (.inr b) => some b
theorem itr_mono {σ β : Type} {f : σ → Option (σ ⊕ β)} {b : β} : ∀ (n : Nat) (s : σ), itr f n s = some b → ∀ m, itr f (n + m) s = some b := by
  intro n
  induction n with
  | zero => intro s h; cases h
  | succ n ih =>
    intro s h m
    rw [show n + 1 + m = (n + m) + 1 by omega]
    unfold itr at h ⊢
    cases hf : f s with
    | none => rw [hf] at h; cases h
    | some x =>
      rw [hf] at h
      cases x with
      | inl t => exact ih t h m
      | inr c => exact h
theorem itr_one {σ β : Type} {f : σ → Option (σ ⊕ β)} {b c : β} {n m : Nat} {s : σ} (h : itr f n s = some b) (g : itr f m s = some c) : b = c := by
  have h1 := itr_mono n s h m
  have h2 := itr_mono m s g n
  rw [Nat.add_comm] at h2
  exact Option.some.inj (h1.symm.trans h2)
noncomputable def lop {σ β : Type} (f : σ → Option (σ ⊕ β)) (s : σ) : Option β := @dite _ (∃ b n, itr f n s = some b) (Classical.propDecidable _) (fun h => some (Classical.choose h)) (fun _ => none)
theorem lop_some {σ β : Type} {f : σ → Option (σ ⊕ β)} {s : σ} {b : β} (h : lop f s = some b) : ∃ n, itr f n s = some b := by
  unfold lop at h
  by_cases hc : ∃ b n, itr f n s = some b
  · rw [dif_pos hc] at h
    cases h
    exact Classical.choose_spec hc
  · rw [dif_neg hc] at h; cases h
theorem lop_of {σ β : Type} {f : σ → Option (σ ⊕ β)} {s : σ} {b : β} {n : Nat} (h : itr f n s = some b) : lop f s = some b := by
  have hc : ∃ b n, itr f n s = some b := ⟨b, n, h⟩
  unfold lop
  rw [dif_pos hc]
  obtain ⟨m, hm⟩ := Classical.choose_spec hc
  rw [itr_one hm h]
theorem lop_none {σ β : Type} {f : σ → Option (σ ⊕ β)} {s : σ} (h : ¬ ∃ b n, itr f n s = some b) : lop f s = none := by
  unfold lop
  rw [dif_neg h]
theorem lop_eq {σ β : Type} (f : σ → Option (σ ⊕ β)) (s : σ) : lop f s = match f s with
    | none => none
    | some (.inl t) => lop f t
    | some (.inr b) => some b := by
  cases hf : f s with
  | none =>
    refine lop_none ?_
    rintro ⟨b, n, h⟩
    cases n with
    | zero => cases h
    | succ n => unfold itr at h; rw [hf] at h; cases h
  | some x =>
    cases x with
    | inl t =>
      show lop f s = lop f t
      by_cases hc : ∃ b n, itr f n t = some b
      · obtain ⟨b, n, h⟩ := hc
        rw [lop_of h]
        refine lop_of (n := n + 1) ?_
        unfold itr; rw [hf]; exact h
      · rw [lop_none hc]
        refine lop_none ?_
        rintro ⟨b, n, h⟩
        cases n with
        | zero => cases h
        | succ n => unfold itr at h; rw [hf] at h; exact hc ⟨b, n, h⟩
    | inr b =>
      refine lop_of (n := 1) ?_
      unfold itr; rw [hf]
/-! ===== the heap of the pure side: places, kinds, ints, longs, references ===== -/
abbrev Hp : Type := (Nat → Option (Nat × Nat)) × (Nat → Nat → Int32) × (Nat → Nat → Int64) × (Nat → Nat → Option Nat)
def up2 {α : Type} (f : Nat → Nat → α) (k j : Nat) (v : α) : Nat → Nat → α := fun a b => if a = k ∧ b = j then v else f a b
def upr {α : Type} (f : Nat → Nat → α) (k : Nat) (r : Nat → α) : Nat → Nat → α := fun a => if a = k then r else f a
def setI (h : Hp) (k j : Nat) (v : Int32) : Hp := (h.1, up2 h.2.1 k j v, h.2.2.1, h.2.2.2)
def setL (h : Hp) (k j : Nat) (v : Int64) : Hp := (h.1, h.2.1, up2 h.2.2.1 k j v, h.2.2.2)
def setR (h : Hp) (k j : Nat) (v : Option Nat) : Hp := (h.1, h.2.1, h.2.2.1, up2 h.2.2.2 k j v)
def setA (h : Hp) (k : Nat) (r : Nat → Int32) : Hp := (h.1, upr h.2.1 k r, h.2.2.1, h.2.2.2)
def newC (h : Hp) (k : Nat) (q : Nat × Nat) : Hp := (fun a => if a = k then some q else h.1 a, upr h.2.1 k (fun _ => 0), upr h.2.2.1 k (fun _ => 0), upr h.2.2.2 k (fun _ => none))
def okA (h : Hp) (k t : Nat) (i : Int32) : Prop := ∃ n, h.1 k = some (100 + t, n) ∧ vp_in i n
theorem up2_s {α : Type} (f : Nat → Nat → α) (k j : Nat) (v : α) : up2 f k j v k j = v := by simp [up2]
theorem up2_k {α : Type} {f : Nat → Nat → α} {k j a : Nat} {v : α} (h : a ≠ k) : up2 f k j v a = f a := by funext b; simp [up2, h]
theorem up2_row {α : Type} (f : Nat → Nat → α) (k j : Nat) (v : α) : up2 f k j v k = va_up (f k) j v := by funext b; simp [up2, va_up]
/-- field codes: 0 an int (or boolean), 1 a reference -/
def fcs : Nat → List Nat
  | 0 => [0, 0, 0, 0, 0]
  | 1 => [1, 0, 0, 0]
  | 2 => [0, 0, 0, 0, 0, 0]
  | 3 => [1, 0, 0, 0, 0, 0, 0, 0]
  | 4 => [0, 0, 0, 0, 0, 0, 0, 0, 0, 1, 1, 1, 1]
  | 5 => [1, 0]
  | 6 => [1, 1, 1, 1, 1, 1, 0, 0, 0, 1, 1, 1]
  | 7 => [1, 0]
  | 8 => [1, 0]
  | 9 => [1, 1, 1, 1, 0]
  | 10 => [1, 0, 0, 0, 0, 0, 1, 1, 1]
  | 11 => [1, 1, 1, 1, 1, 1, 1, 1, 1]
  | 12 => [1, 0, 0, 0, 0, 0, 0, 0, 0, 0, 1, 1, 1, 1, 1, 0, 1, 1, 1, 1, 1, 0, 0, 0, 0, 0, 1, 1, 1, 1, 1, 1, 0, 1, 1, 1, 1, 1, 1, 1, 1, 1, 1, 1, 1, 1, 0, 1, 1, 1, 1, 1, 0, 0, 1, 0]
  | _ => []
def fvl (ad : Nat → Nat) (h : Hp) (k c j : Nat) : Value := if c = 0 then .int (h.2.1 k j) else va_rf ((h.2.2.2 k j).map ad)
def fls (ad : Nat → Nat) (h : Hp) (k ci : Nat) : List Value := (fcs ci).mapIdx (fun j c => fvl ad h k c j)
def celE (cA : Nat → ClassId) (ad : Nat → Nat) (h : Hp) (k : Nat) : va_E := match h.1 k with
  | none => .inr (0, [])
  | some (kd, n) => if kd < 100 then .inr (kd, fls ad h k kd) else if kd < 103 then .inl (cA (kd - 100), n, .inl (h.2.1 k)) else if kd = 103 then .inl (cA 3, n, .inr (.inl (h.2.2.1 k))) else .inl (cA (kd - 100), n, .inr (.inr (.inr (.inr (fun j => (h.2.2.2 k j).map ad)))))
def wl (cA : Nat → ClassId) (ad : Nat → Nat) (h : Hp) (P : List Nat) : va_W := P.map (fun k => (ad k, celE cA ad h k))
def tysA (cA : Nat → ClassId) : List (ClassId × FieldType) := [(cA 0, .int), (cA 1, .byte), (cA 2, .boolean), (cA 3, .long), (cA 4, .object RX10), (cA 5, .object RX2), (cA 6, .object RX0)]
theorem wl_at {cA : Nat → ClassId} {ad : Nat → Nat} {h : Hp} {P : List Nat} {i k : Nat} (hi : P[i]? = some k) : (wl cA ad h P)[i]? = some (ad k, celE cA ad h k) := by
  unfold wl; rw [List.getElem?_map, hi]; rfl
theorem wl_inj {cA : Nat → ClassId} {ad : Nat → Nat} {h : Hp} {P : List Nat} {A : Nat → Prop} (hD : va_D A (wl cA ad h P)) {i j a b : Nat} (hi : P[i]? = some a) (hj : P[j]? = some b) (e : ad a = ad b) : i = j := hD.1 i j _ _ (wl_at hi) (wl_at hj) e
theorem wl_set {cA : Nat → ClassId} {ad : Nat → Nat} {h h' : Hp} {P : List Nat} {A : Nat → Prop} (hD : va_D A (wl cA ad h P)) {i k : Nat} (hi : P[i]? = some k) (ho : ∀ a, a ≠ k → celE cA ad h' a = celE cA ad h a) : (wl cA ad h P).set i (ad k, celE cA ad h' k) = wl cA ad h' P := by
  apply List.ext_getElem?
  intro j
  rw [List.getElem?_set]
  by_cases hij : i = j
  · subst hij
    have hlt : i < (wl cA ad h P).length := (List.getElem?_eq_some_iff.mp (wl_at (cA := cA) (ad := ad) (h := h) hi)).1
    rw [if_pos rfl, if_pos hlt, wl_at hi]
  · rw [if_neg hij]
    unfold wl
    rw [List.getElem?_map, List.getElem?_map]
    cases hj : P[j]? with
    | none => rfl
    | some a =>
      show some (ad a, celE cA ad h a) = some (ad a, celE cA ad h' a)
      rw [ho a (fun e => hij (wl_inj hD hi hj (by rw [e])))]
theorem celE_o {cA : Nat → ClassId} {ad : Nat → Nat} {h : Hp} {k ci n : Nat} (hk : h.1 k = some (ci, n)) (hc : ci < 100) : celE cA ad h k = .inr (ci, fls ad h k ci) := by
  unfold celE; rw [hk]; show (if ci < 100 then _ else _) = _; rw [if_pos hc]
theorem celE_i {cA : Nat → ClassId} {ad : Nat → Nat} {h : Hp} {k t n : Nat} (hk : h.1 k = some (100 + t, n)) (ht : t < 3) : celE cA ad h k = .inl (cA t, n, .inl (h.2.1 k)) := by
  unfold celE; rw [hk]; show (if 100 + t < 100 then _ else _) = _
  rw [if_neg (by omega), if_pos (by omega), show 100 + t - 100 = t by omega]
theorem celE_l {cA : Nat → ClassId} {ad : Nat → Nat} {h : Hp} {k n : Nat} (hk : h.1 k = some (100 + 3, n)) : celE cA ad h k = .inl (cA 3, n, .inr (.inl (h.2.2.1 k))) := by
  unfold celE; rw [hk]; rfl
theorem celE_r {cA : Nat → ClassId} {ad : Nat → Nat} {h : Hp} {k t n : Nat} (hk : h.1 k = some (100 + t, n)) (ht : 3 < t) : celE cA ad h k = .inl (cA t, n, .inr (.inr (.inr (.inr (fun j => (h.2.2.2 k j).map ad))))) := by
  unfold celE; rw [hk]; show (if 100 + t < 100 then _ else _) = _
  rw [if_neg (by omega), if_neg (by omega), if_neg (by omega), show 100 + t - 100 = t by omega]
theorem celE_same {cA : Nat → ClassId} {ad : Nat → Nat} {h h' : Hp} {k : Nat} (e1 : h'.1 k = h.1 k) (e2 : h'.2.1 k = h.2.1 k) (e3 : h'.2.2.1 k = h.2.2.1 k) (e4 : h'.2.2.2 k = h.2.2.2 k) : celE cA ad h' k = celE cA ad h k := by
  have hf : ∀ ci, fls ad h' k ci = fls ad h k ci := by
    intro ci
    unfold fls
    congr 1
    funext j c
    unfold fvl
    rw [e2, e4]
  unfold celE
  rw [e1]
  cases h.1 k with
  | none => rfl
  | some q =>
    obtain ⟨kd, n⟩ := q
    simp only [hf, e2, e3, e4]
theorem fls_len (ad : Nat → Nat) (h : Hp) (k ci : Nat) : (fls ad h k ci).length = (fcs ci).length := by unfold fls; rw [List.length_mapIdx]
theorem fls_at {ad : Nat → Nat} {h : Hp} {k ci j c : Nat} (hj : (fcs ci)[j]? = some c) : (fls ad h k ci)[j]? = some (fvl ad h k c j) := by
  unfold fls; rw [List.getElem?_mapIdx, hj]; rfl
theorem fls_set {ad : Nat → Nat} {h h' : Hp} {k ci j c : Nat} {v : Value} (hj : (fcs ci)[j]? = some c) (hv : fvl ad h' k c j = v) (ho : ∀ i d, i ≠ j → fvl ad h' k d i = fvl ad h k d i) : (fls ad h k ci).set j v = fls ad h' k ci := by
  apply List.ext_getElem?
  intro i
  rw [List.getElem?_set]
  by_cases hij : j = i
  · subst hij
    have hlt : j < (fls ad h k ci).length := (List.getElem?_eq_some_iff.mp (fls_at (ad := ad) (h := h) (k := k) hj)).1
    rw [if_pos rfl, if_pos hlt, fls_at hj, hv]
  · rw [if_neg hij]
    unfold fls
    rw [List.getElem?_mapIdx, List.getElem?_mapIdx]
    cases (fcs ci)[i]? with
    | none => rfl
    | some d => exact congrArg some (ho i d (fun e => hij e.symm)).symm
end
section
/-! ===== words, strings, what stays as it is within a method ===== -/
def isN : Cond → Bool
  | .fieldLinkNest _ _ _ _ _ _ => true
  | .methodLinkNest _ _ _ _ => true
  | .arrayOver (.object _) => true
  | _ => false
def gw_tbl : List Cond := lw_tbl.filter goodWord
theorem mg {w : Cond} (h : w ∈ lw_tbl) (hg : goodWord w = true) : w ∈ gw_tbl := List.mem_filter.mpr ⟨h, hg⟩
theorem gw_good {w : Cond} (h : w ∈ gw_tbl) : w ∈ gw_tbl ∧ ((w.onTables && w.keeps) = true ∨ ∃ ty, w = .arrayClass ty) := ⟨h, good_of_word (List.mem_filter.mp h).2⟩
def sT : List (String × Nat × String) := [("WardWatch$LawReader", 52, "age"), ("WardWatch$LawReader", 72, "leave"), ("WardWatch$LawReader", 76, "fine"), ("WardWatch$LawReader", 80, "hire"), ("WardWatch$LawReader", 84, "power"), ("WardWatch$LawReader", 126, "stop"), ("WardWatch$LawReader", 127, "hold"), ("WardWatch$LawReader", 129, "enter"), ("WardWatch$LawReader", 114, "from"), ("WardWatch$LawReader", 120, "to"), ("WardWatch$LawReader", 131, "cry"), ("WardWatch$LawReader", 89, "follow"), ("WardWatch$LawReader", 101, "lockup"), ("WardWatchModel", 144, "age leave fine hire power follow lockup from to cry stop hold enter ")]
def lenS : List Nat := [3, 5, 4, 4, 5, 4, 4, 5, 4, 2, 3, 6, 6, 68]
def bytS : List (List Int32) := [[97, 103, 101], [108, 101, 97, 118, 101], [102, 105, 110, 101], [104, 105, 114, 101], [112, 111, 119, 101, 114], [115, 116, 111, 112], [104, 111, 108, 100], [101, 110, 116, 101, 114], [102, 114, 111, 109], [116, 111], [99, 114, 121], [102, 111, 108, 108, 111, 119], [108, 111, 99, 107, 117, 112], [97, 103, 101, 32, 108, 101, 97, 118, 101, 32, 102, 105, 110, 101, 32, 104, 105, 114, 101, 32, 112, 111, 119, 101, 114, 32, 102, 111, 108, 108, 111, 119, 32, 108, 111, 99, 107, 117, 112, 32, 102, 114, 111, 109, 32, 116, 111, 32, 99, 114, 121, 32, 115, 116, 111, 112, 32, 104, 111, 108, 100, 32, 101, 110, 116, 101, 114, 32]]
def NW (s : State) : Prop := ∀ w, w ∈ lw_tbl → isN w = true → va_Nw w s
def Zs (sk : (Nat → Nat) × (Nat → Nat)) (A : Nat → Prop) (s : State) : Prop := vk_S 14 lenS bytS sk.1 sk.2 A s s.heap ∧ (∀ i q, sT[i]? = some q → vk_R q.1 q.2.1 q.2.2 (sk.1 i) s) ∧ va_Z "java/lang/String" "COMPACT_STRINGS" "Z" (.int 1) A s s.heap
def Fx (D : va_G) (cA : Nat → ClassId) (sk : (Nat → Nat) × (Nat → Nat)) (A : Nat → Prop) (s : State) : Prop := va_K D vwCl (tysA cA) s ∧ NW s ∧ Zs sk A s ∧ ∀ q, s.heap.size ≤ q → A q
def Wp (D : va_G) (cA : Nat → ClassId) (ad : Nat → Nat) (h : Hp) (A : Nat → Prop) (H : Heap) : Prop := ∃ P : List Nat, (∀ k, k ∈ P ↔ h.1 k ≠ none) ∧ va_P D vwCl (wl cA ad h P) H ∧ va_D A (wl cA ad h P)
def Dy (D : va_G) (cA : Nat → ClassId) (ad : Nat → Nat) (h : Hp) (A : Nat → Prop) (H0 H : Heap) (locs : List Loc) : Prop := Wp D cA ad h A H ∧ va_S A H0 H locs
abbrev Pre (D : va_G) (cA : Nat → ClassId) (sk : (Nat → Nat) × (Nat → Nat)) (ad : Nat → Nat) (h : Hp) (A : Nat → Prop) (av : List Value) : Array Value → State → Prop := va_Pc av (fun U => Fx D cA sk A U ∧ Wp D cA ad h A U.heap)
theorem NW.warm {s U : State} (hW : s.WarmedH U.vm) (h : NW s) : NW U := by
  intro w h1 h2
  have h3 := h w h1 h2
  cases w with
  | fieldLinkNest a b c d e f => exact va_Nw.warmF hW h3
  | methodLinkNest a b c d => exact va_Nw.warmM hW h3
  | arrayOver ty =>
    cases ty with
    | object C => exact va_AO.moved hW.alike h3
    | _ => cases h2
  | _ => cases h2
theorem NW.same {s U : State} (hv : s.vm = U.vm) (h : NW s) : NW U := by
  intro w h1 h2
  have h3 := h w h1 h2
  cases w with
  | fieldLinkNest a b c d e f => exact va_Nw.same rfl hv h3
  | methodLinkNest a b c d => exact va_Nw.same rfl hv h3
  | arrayOver ty =>
    cases ty with
    | object C => exact va_AO.moved (by rw [hv]; exact Vm.Alike.refl _) h3
    | _ => cases h2
  | _ => cases h2
theorem Fx.calling {D : va_G} {cA : Nat → ClassId} {sk : (Nat → Nat) × (Nat → Nat)} {A : Nat → Prop} {U : State} {g : JFrame} {mk : MethodId} {a : Array Value} (h : Fx D cA sk A U) : Fx D cA sk A (U.calling g mk a) := by
  obtain ⟨h1, h2, ⟨h3, h4, h5⟩, h6⟩ := h
  exact ⟨va_K.moved (u := U) (U := U.calling g mk a) (Vm.Alike.refl U.vm) h1, NW.same (s := U) rfl h2, ⟨vk_S.moved (u := U) (U := U.calling g mk a) (Vm.Alike.refl U.vm) h3, fun i q hq => vk_R.same (u := U) rfl (h4 i q hq), va_Z.moved (u := U) (U := U.calling g mk a) (Vm.Alike.refl U.vm) h5⟩, h6⟩
theorem Fx.call {D : va_G} {cA : Nat → ClassId} {sk : (Nat → Nat) × (Nat → Nat)} {A : Nat → Prop} {s U : State} {H : Heap} {locs : List Loc} (h : Fx D cA sk A s) (hS : va_S A s.heap H locs) (hU : U.heap = H) (hW : s.WarmedH U.vm) : Fx D cA sk A U := by
  obtain ⟨h1, h2, ⟨h3, h4, h5⟩, h6⟩ := h
  refine ⟨va_K.moved hW.alike h1, h2.warm hW, ⟨?_, fun i q hq => vk_R.warm hW (h4 i q hq), ?_⟩, fun q hq => h6 q (Nat.le_trans hS.1 (by rw [← hU]; exact hq))⟩
  · rw [hU]; exact (vk_S.moved hW.alike h3).kept hS.2.1
  · rw [hU]; exact (va_Z.moved hW.alike h5).kept hS.2.1
theorem pre_blind {D : va_G} {cA : Nat → ClassId} {sk : (Nat → Nat) × (Nat → Nat)} {ad : Nat → Nat} {h : Hp} {A : Nat → Prop} {av : List Value} : FrameBlind (Pre D cA sk ad h A av) := by
  rintro a U g mk ⟨q0, q1, q2⟩
  exact ⟨q0, q1.calling, q2⟩
theorem pre_at {D : va_G} {cA : Nat → ClassId} {sk : (Nat → Nat) × (Nat → Nat)} {ad : Nat → Nat} {h : Hp} {A : Nat → Prop} {av : List Value} {s : State} {H : Heap} {locs : List Loc} (fx : Fx D cA sk A s) (dy : Dy D cA ad h A s.heap H locs) : ∀ U : State, U.heap = H → s.WarmedH U.vm → Pre D cA sk ad h A av av.toArray U := fun U hU hW => ⟨rfl, fx.call dy.2 hU hW, by rw [hU]; exact dy.1⟩
theorem Wp.at {D : va_G} {cA : Nat → ClassId} {ad : Nat → Nat} {h : Hp} {A : Nat → Prop} {H : Heap} (w : Wp D cA ad h A H) {k : Nat} {q : Nat × Nat} (hk : h.1 k = some q) : ∃ (P : List Nat) (i : Nat), P[i]? = some k ∧ va_P D vwCl (wl cA ad h P) H ∧ va_D A (wl cA ad h P) ∧ ∀ k, k ∈ P ↔ h.1 k ≠ none := by
  obtain ⟨P, h1, h2, h3⟩ := w
  obtain ⟨i, hi⟩ := List.getElem?_of_mem ((h1 k).mpr (by rw [hk]; simp))
  exact ⟨P, i, hi, h2, h3, h1⟩
/-- a class's field: class ci, slot j, its code -/
def FD (ci j : Nat) (C : String) (T : u_T) (N c : Nat) (ref nme desc : String) : Prop := (∀ w ∈ u_ws C T N, w ∈ gw_tbl) ∧ vwCl[ci]? = some (C, T, N) ∧ (fcs ci)[j]? = some c ∧ j < N ∧ ci < 100 ∧ (T j).1 = ref ∧ (T j).2.1 = nme ∧ (T j).2.2.1 = desc
def PD (ci j : Nat) (C : String) (T : u_T) (N : Nat) (ty : FieldType) : Prop := ∃ ty0 : Nat → FieldType, (∀ k, k < N → parseFieldDescriptor (T k).2.2.1 = some (ty0 k)) ∧ (∀ a, a < N → ∀ b, b < N → a ≠ b → (T a).2.1 ≠ (T b).2.1) ∧ parseFieldDescriptor (T j).2.2.1 = some ty ∧ j < (fcs ci).length
end
section
section HR
variable {p : Program} {l : Launch} {e : Env} {R : Room} {s : State} {m : MethodId} {args : Array Value} {below : List Frame} {meth : Method} {c : Code} {H : Heap} {locs : List Loc} {cells slots : Nat} {Q : State → Prop} {cc : ByteArray} {pc : Nat} {ls : Array Slot} {rest : List Value} {nL : Nat} {own : String} {D : va_G} {cA : Nat → ClassId} {sk : (Nat → Nat) × (Nat → Nat)} {ad : Nat → Nat} {h : Hp} {A : Nat → Prop}
theorem h_getI (cx : CallFix p m c cc nL s args gw_tbl own) (fx : Fx D cA sk A s) (dy : Dy D cA ad h A s.heap H locs) {ci j N k idx n : Nat} {C ref nme desc : String} {T : u_T} (fd : FD ci j C T N 0 ref nme desc) (hk : h.1 k = some (ci, n)) (hl : Cond.fieldLink own idx ref nme desc ∈ gw_tbl) (hdg : decode cc pc = .ok (.getfield idx, 3))
    (kk : W p l e R s m args below meth c H locs cells slots Q (F0 m (pc + 3) ls (.int (h.2.1 k j) :: rest))) : W p l e R s m args below meth c H locs cells slots Q (F0 m pc ls (.ref (ad k) :: rest)) := by
  obtain ⟨hx, hb, hml, hown, hts⟩ := cx
  obtain ⟨f1, f2, f3, f4, f5, rfl, rfl, rfl⟩ := fd
  obtain ⟨P, i, hi, hP, hD, -⟩ := dy.1.at hk
  have he := wl_at (cA := cA) (ad := ad) (h := h) hi
  rw [celE_o hk f5] at he
  exact va_get hx hb hts f1 hown fx.1 hP i he f2 j f4 (hts _ hl) (fun _ h9 => h9) (v := .int (h.2.1 k j)) (fls_at f3) hdg kk
theorem h_getIN (cx : CallFix p m c cc nL s args gw_tbl own) (fx : Fx D cA sk A s) (dy : Dy D cA ad h A s.heap H locs) {ci j N k idx n : Nat} {C ref nme desc host : String} {T : u_T} (fd : FD ci j C T N 0 ref nme desc) (hk : h.1 k = some (ci, n)) (hl : Cond.fieldLinkNest own idx ref nme desc host ∈ lw_tbl) (hdg : decode cc pc = .ok (.getfield idx, 3))
    (kk : W p l e R s m args below meth c H locs cells slots Q (F0 m (pc + 3) ls (.int (h.2.1 k j) :: rest))) : W p l e R s m args below meth c H locs cells slots Q (F0 m pc ls (.ref (ad k) :: rest)) := by
  obtain ⟨hx, hb, hml, hown, hts⟩ := cx
  obtain ⟨f1, f2, f3, f4, f5, rfl, rfl, rfl⟩ := fd
  obtain ⟨P, i, hi, hP, hD, -⟩ := dy.1.at hk
  have he := wl_at (cA := cA) (ad := ad) (h := h) hi
  rw [celE_o hk f5] at he
  exact va_getN hx hb hts f1 hown fx.1 hP i he f2 j f4 (va_Nw.use rfl (fx.2.1 _ hl rfl)) (fun _ h9 => h9) (v := .int (h.2.1 k j)) (fls_at f3) hdg kk
theorem h_getR (cx : CallFix p m c cc nL s args gw_tbl own) (fx : Fx D cA sk A s) (dy : Dy D cA ad h A s.heap H locs) {ci j N k idx n r : Nat} {C ref nme desc : String} {T : u_T} (fd : FD ci j C T N 1 ref nme desc) (hk : h.1 k = some (ci, n)) (hl : Cond.fieldLink own idx ref nme desc ∈ gw_tbl) (hr : h.2.2.2 k j = some r) (hdg : decode cc pc = .ok (.getfield idx, 3))
    (kk : W p l e R s m args below meth c H locs cells slots Q (F0 m (pc + 3) ls (.ref (ad r) :: rest))) : W p l e R s m args below meth c H locs cells slots Q (F0 m pc ls (.ref (ad k) :: rest)) := by
  obtain ⟨hx, hb, hml, hown, hts⟩ := cx
  obtain ⟨f1, f2, f3, f4, f5, rfl, rfl, rfl⟩ := fd
  obtain ⟨P, i, hi, hP, hD, -⟩ := dy.1.at hk
  have he := wl_at (cA := cA) (ad := ad) (h := h) hi
  rw [celE_o hk f5] at he
  refine va_get hx hb hts f1 hown fx.1 hP i he f2 j f4 (hts _ hl) (fun _ h9 => h9) (v := .ref (ad r)) ?_ hdg kk
  rw [fls_at f3]
  unfold fvl
  rw [hr]
  rfl
theorem h_getRN (cx : CallFix p m c cc nL s args gw_tbl own) (fx : Fx D cA sk A s) (dy : Dy D cA ad h A s.heap H locs) {ci j N k idx n r : Nat} {C ref nme desc host : String} {T : u_T} (fd : FD ci j C T N 1 ref nme desc) (hk : h.1 k = some (ci, n)) (hl : Cond.fieldLinkNest own idx ref nme desc host ∈ lw_tbl) (hr : h.2.2.2 k j = some r) (hdg : decode cc pc = .ok (.getfield idx, 3))
    (kk : W p l e R s m args below meth c H locs cells slots Q (F0 m (pc + 3) ls (.ref (ad r) :: rest))) : W p l e R s m args below meth c H locs cells slots Q (F0 m pc ls (.ref (ad k) :: rest)) := by
  obtain ⟨hx, hb, hml, hown, hts⟩ := cx
  obtain ⟨f1, f2, f3, f4, f5, rfl, rfl, rfl⟩ := fd
  obtain ⟨P, i, hi, hP, hD, -⟩ := dy.1.at hk
  have he := wl_at (cA := cA) (ad := ad) (h := h) hi
  rw [celE_o hk f5] at he
  refine va_getN hx hb hts f1 hown fx.1 hP i he f2 j f4 (va_Nw.use rfl (fx.2.1 _ hl rfl)) (fun _ h9 => h9) (v := .ref (ad r)) ?_ hdg kk
  rw [fls_at f3]
  unfold fvl
  rw [hr]
  rfl
/-- one cell of the world gets new contents -/
theorem Dy.upd {h' : Hp} {H1 : Heap} {locs1 : List Loc} {P : List Nat} {i k : Nat} (hm : ∀ k, k ∈ P ↔ h.1 k ≠ none) (hi : P[i]? = some k) (hD0 : va_D A (wl cA ad h P)) (hv : h'.1 = h.1) (ho : ∀ a, a ≠ k → celE cA ad h' a = celE cA ad h a) {E : va_E} (hE : celE cA ad h' k = E) (hP : va_P D vwCl ((wl cA ad h P).set i (ad k, E)) H1) (hD : va_D A ((wl cA ad h P).set i (ad k, E))) (hS : va_S A s.heap H1 locs1) : Dy D cA ad h' A s.heap H1 locs1 := by
  subst hE
  rw [wl_set hD0 hi ho] at hP hD
  exact ⟨⟨P, fun k => by rw [hv]; exact hm k, hP, hD⟩, hS⟩
theorem cel_setI (cA : Nat → ClassId) (ad : Nat → Nat) (h : Hp) (k j : Nat) (v : Int32) : ∀ a, a ≠ k → celE cA ad (setI h k j v) a = celE cA ad h a := fun a ha => celE_same rfl (up2_k ha) rfl rfl
theorem cel_setL (cA : Nat → ClassId) (ad : Nat → Nat) (h : Hp) (k j : Nat) (v : Int64) : ∀ a, a ≠ k → celE cA ad (setL h k j v) a = celE cA ad h a := fun a ha => celE_same rfl rfl (up2_k ha) rfl
theorem cel_setR (cA : Nat → ClassId) (ad : Nat → Nat) (h : Hp) (k j : Nat) (v : Option Nat) : ∀ a, a ≠ k → celE cA ad (setR h k j v) a = celE cA ad h a := fun a ha => celE_same rfl rfl rfl (up2_k ha)
theorem fls_setI {ci j k : Nat} {v : Int32} (hj : (fcs ci)[j]? = some 0) : (fls ad h k ci).set j (.int v) = fls ad (setI h k j v) k ci := by
  refine fls_set hj ?_ ?_
  · show Value.int (up2 h.2.1 k j v k j) = _
    rw [up2_s]
  · intro i d hne
    show (if d = 0 then Value.int (up2 h.2.1 k j v k i) else _) = (if d = 0 then _ else _)
    have e : up2 h.2.1 k j v k i = h.2.1 k i := by simp [up2, hne]
    rw [e]
    rfl
theorem fls_setR {ci j k : Nat} {v : Option Nat} (hj : (fcs ci)[j]? = some 1) : (fls ad h k ci).set j (va_rf (v.map ad)) = fls ad (setR h k j v) k ci := by
  refine fls_set hj ?_ ?_
  · show va_rf ((up2 h.2.2.2 k j v k j).map ad) = _
    rw [up2_s]
  · intro i d hne
    show (if d = 0 then _ else va_rf ((up2 h.2.2.2 k j v k i).map ad)) = (if d = 0 then _ else _)
    have e : up2 h.2.2.2 k j v k i = h.2.2.2 k i := by simp [up2, hne]
    rw [e]
    rfl
theorem h_putI (cx : CallFix p m c cc nL s args gw_tbl own) (fx : Fx D cA sk A s) (dy : Dy D cA ad h A s.heap H locs) {ci j N k idx n : Nat} {C ref nme desc : String} {T : u_T} {ty : FieldType} {x : Int32} (fd : FD ci j C T N 0 ref nme desc) (pd : PD ci j C T N ty) (hfin : (T j).2.2.2 = false) (hn : narrow ty (.int x) = .int x) (hfit : fits ty (.int x) = true) (hk : h.1 k = some (ci, n)) (hl : Cond.fieldLink own idx ref nme desc ∈ gw_tbl) (hdg : decode cc pc = .ok (.putfield idx, 3))
    (kk : ∀ (H1 : Heap) (locs1 : List Loc), Dy D cA ad (setI h k j x) A s.heap H1 locs1 → W p l e R s m args below meth c H1 locs1 cells slots Q (F0 m (pc + 3) ls rest)) : W p l e R s m args below meth c H locs cells slots Q (F0 m pc ls (.int x :: .ref (ad k) :: rest)) := by
  obtain ⟨hx, hb, hml, hown, hts⟩ := cx
  obtain ⟨f1, f2, f3, f4, f5, rfl, rfl, rfl⟩ := fd
  obtain ⟨ty0, p1, p2, p3, p4⟩ := pd
  obtain ⟨P, i, hi, hP, hD, hm⟩ := dy.1.at hk
  have he := wl_at (cA := cA) (ad := ad) (h := h) hi
  rw [celE_o hk f5] at he
  exact va_put hx hb hts f1 ty0 p1 p2 hown fx.1 hP hD dy.2 i he f2 j f4 (hts _ hl) (fun _ h9 => h9) hfin p3 hn hfit (by rw [fls_len]; exact p4) hdg (fun H1 locs1 hP1 hD1 hS1 => kk H1 locs1 (Dy.upd (h' := setI h k j x) hm hi hD rfl (cel_setI cA ad h k j x) (E := .inr (ci, (fls ad h k ci).set j (.int x))) (by rw [celE_o (n := n) (h := setI h k j x) hk f5, fls_setI f3]) hP1 hD1 hS1))
theorem h_putIF (cx : CallFix p m c cc nL s args gw_tbl own) (fx : Fx D cA sk A s) (dy : Dy D cA ad h A s.heap H locs) {ci j N k idx n : Nat} {C ref nme desc : String} {T : u_T} {ty : FieldType} {x : Int32} (hini : meth.name = "<init>") (hdecl : ref = own) (fd : FD ci j C T N 0 ref nme desc) (pd : PD ci j C T N ty) (hfin : (T j).2.2.2 = true) (hn : narrow ty (.int x) = .int x) (hfit : fits ty (.int x) = true) (hk : h.1 k = some (ci, n)) (hl : Cond.fieldLink own idx ref nme desc ∈ gw_tbl) (hdg : decode cc pc = .ok (.putfield idx, 3))
    (kk : ∀ (H1 : Heap) (locs1 : List Loc), Dy D cA ad (setI h k j x) A s.heap H1 locs1 → W p l e R s m args below meth c H1 locs1 cells slots Q (F0 m (pc + 3) ls rest)) : W p l e R s m args below meth c H locs cells slots Q (F0 m pc ls (.int x :: .ref (ad k) :: rest)) := by
  obtain ⟨hx, hb, hml, hown, hts⟩ := cx
  obtain ⟨f1, f2, f3, f4, f5, rfl, rfl, rfl⟩ := fd
  obtain ⟨ty0, p1, p2, p3, p4⟩ := pd
  obtain ⟨P, i, hi, hP, hD, hm⟩ := dy.1.at hk
  have he := wl_at (cA := cA) (ad := ad) (h := h) hi
  rw [celE_o hk f5] at he
  exact va_putF hx hb hts f1 ty0 p1 p2 hown fx.1 hP hD dy.2 i he f2 j f4 (hts _ hl) (fun _ h9 => h9) hfin hini hdecl p3 hn hfit (by rw [fls_len]; exact p4) hdg (fun H1 locs1 hP1 hD1 hS1 => kk H1 locs1 (Dy.upd (h' := setI h k j x) hm hi hD rfl (cel_setI cA ad h k j x) (E := .inr (ci, (fls ad h k ci).set j (.int x))) (by rw [celE_o (n := n) (h := setI h k j x) hk f5, fls_setI f3]) hP1 hD1 hS1))
theorem h_putIN (cx : CallFix p m c cc nL s args gw_tbl own) (fx : Fx D cA sk A s) (dy : Dy D cA ad h A s.heap H locs) {ci j N k idx n : Nat} {C ref nme desc host : String} {T : u_T} {ty : FieldType} {x : Int32} (fd : FD ci j C T N 0 ref nme desc) (pd : PD ci j C T N ty) (hfin : (T j).2.2.2 = false) (hn : narrow ty (.int x) = .int x) (hfit : fits ty (.int x) = true) (hk : h.1 k = some (ci, n)) (hl : Cond.fieldLinkNest own idx ref nme desc host ∈ lw_tbl) (hdg : decode cc pc = .ok (.putfield idx, 3))
    (kk : ∀ (H1 : Heap) (locs1 : List Loc), Dy D cA ad (setI h k j x) A s.heap H1 locs1 → W p l e R s m args below meth c H1 locs1 cells slots Q (F0 m (pc + 3) ls rest)) : W p l e R s m args below meth c H locs cells slots Q (F0 m pc ls (.int x :: .ref (ad k) :: rest)) := by
  obtain ⟨hx, hb, hml, hown, hts⟩ := cx
  obtain ⟨f1, f2, f3, f4, f5, rfl, rfl, rfl⟩ := fd
  obtain ⟨ty0, p1, p2, p3, p4⟩ := pd
  obtain ⟨P, i, hi, hP, hD, hm⟩ := dy.1.at hk
  have he := wl_at (cA := cA) (ad := ad) (h := h) hi
  rw [celE_o hk f5] at he
  exact va_putN hx hb hts f1 ty0 p1 p2 hown fx.1 hP hD dy.2 i he f2 j f4 (va_Nw.use rfl (fx.2.1 _ hl rfl)) (fun _ h9 => h9) hfin p3 hn hfit (by rw [fls_len]; exact p4) hdg (fun H1 locs1 hP1 hD1 hS1 => kk H1 locs1 (Dy.upd (h' := setI h k j x) hm hi hD rfl (cel_setI cA ad h k j x) (E := .inr (ci, (fls ad h k ci).set j (.int x))) (by rw [celE_o (n := n) (h := setI h k j x) hk f5, fls_setI f3]) hP1 hD1 hS1))
theorem h_putR (cx : CallFix p m c cc nL s args gw_tbl own) (fx : Fx D cA sk A s) (dy : Dy D cA ad h A s.heap H locs) {ci j N k idx n r : Nat} {C ref nme desc : String} {T : u_T} {ty : FieldType} (fd : FD ci j C T N 1 ref nme desc) (pd : PD ci j C T N ty) (hfin : (T j).2.2.2 = false) (hn : narrow ty (.ref (ad r)) = .ref (ad r)) (hfit : fits ty (.ref (ad r)) = true) (hk : h.1 k = some (ci, n)) (hl : Cond.fieldLink own idx ref nme desc ∈ gw_tbl) (hdg : decode cc pc = .ok (.putfield idx, 3))
    (kk : ∀ (H1 : Heap) (locs1 : List Loc), Dy D cA ad (setR h k j (some r)) A s.heap H1 locs1 → W p l e R s m args below meth c H1 locs1 cells slots Q (F0 m (pc + 3) ls rest)) : W p l e R s m args below meth c H locs cells slots Q (F0 m pc ls (.ref (ad r) :: .ref (ad k) :: rest)) := by
  obtain ⟨hx, hb, hml, hown, hts⟩ := cx
  obtain ⟨f1, f2, f3, f4, f5, rfl, rfl, rfl⟩ := fd
  obtain ⟨ty0, p1, p2, p3, p4⟩ := pd
  obtain ⟨P, i, hi, hP, hD, hm⟩ := dy.1.at hk
  have he := wl_at (cA := cA) (ad := ad) (h := h) hi
  rw [celE_o hk f5] at he
  exact va_put hx hb hts f1 ty0 p1 p2 hown fx.1 hP hD dy.2 i he f2 j f4 (hts _ hl) (fun _ h9 => h9) hfin p3 hn hfit (by rw [fls_len]; exact p4) hdg (fun H1 locs1 hP1 hD1 hS1 => kk H1 locs1 (Dy.upd (h' := setR h k j (some r)) hm hi hD rfl (cel_setR cA ad h k j (some r)) (E := .inr (ci, (fls ad h k ci).set j (.ref (ad r)))) (by rw [celE_o (n := n) (h := setR h k j (some r)) hk f5, ← fls_setR f3]; rfl) hP1 hD1 hS1))
theorem h_putRF (cx : CallFix p m c cc nL s args gw_tbl own) (fx : Fx D cA sk A s) (dy : Dy D cA ad h A s.heap H locs) {ci j N k idx n r : Nat} {C ref nme desc : String} {T : u_T} {ty : FieldType} (hini : meth.name = "<init>") (hdecl : ref = own) (fd : FD ci j C T N 1 ref nme desc) (pd : PD ci j C T N ty) (hfin : (T j).2.2.2 = true) (hn : narrow ty (.ref (ad r)) = .ref (ad r)) (hfit : fits ty (.ref (ad r)) = true) (hk : h.1 k = some (ci, n)) (hl : Cond.fieldLink own idx ref nme desc ∈ gw_tbl) (hdg : decode cc pc = .ok (.putfield idx, 3))
    (kk : ∀ (H1 : Heap) (locs1 : List Loc), Dy D cA ad (setR h k j (some r)) A s.heap H1 locs1 → W p l e R s m args below meth c H1 locs1 cells slots Q (F0 m (pc + 3) ls rest)) : W p l e R s m args below meth c H locs cells slots Q (F0 m pc ls (.ref (ad r) :: .ref (ad k) :: rest)) := by
  obtain ⟨hx, hb, hml, hown, hts⟩ := cx
  obtain ⟨f1, f2, f3, f4, f5, rfl, rfl, rfl⟩ := fd
  obtain ⟨ty0, p1, p2, p3, p4⟩ := pd
  obtain ⟨P, i, hi, hP, hD, hm⟩ := dy.1.at hk
  have he := wl_at (cA := cA) (ad := ad) (h := h) hi
  rw [celE_o hk f5] at he
  exact va_putF hx hb hts f1 ty0 p1 p2 hown fx.1 hP hD dy.2 i he f2 j f4 (hts _ hl) (fun _ h9 => h9) hfin hini hdecl p3 hn hfit (by rw [fls_len]; exact p4) hdg (fun H1 locs1 hP1 hD1 hS1 => kk H1 locs1 (Dy.upd (h' := setR h k j (some r)) hm hi hD rfl (cel_setR cA ad h k j (some r)) (E := .inr (ci, (fls ad h k ci).set j (.ref (ad r)))) (by rw [celE_o (n := n) (h := setR h k j (some r)) hk f5, ← fls_setR f3]; rfl) hP1 hD1 hS1))
theorem h_putRN (cx : CallFix p m c cc nL s args gw_tbl own) (fx : Fx D cA sk A s) (dy : Dy D cA ad h A s.heap H locs) {ci j N k idx n r : Nat} {C ref nme desc host : String} {T : u_T} {ty : FieldType} (fd : FD ci j C T N 1 ref nme desc) (pd : PD ci j C T N ty) (hfin : (T j).2.2.2 = false) (hn : narrow ty (.ref (ad r)) = .ref (ad r)) (hfit : fits ty (.ref (ad r)) = true) (hk : h.1 k = some (ci, n)) (hl : Cond.fieldLinkNest own idx ref nme desc host ∈ lw_tbl) (hdg : decode cc pc = .ok (.putfield idx, 3))
    (kk : ∀ (H1 : Heap) (locs1 : List Loc), Dy D cA ad (setR h k j (some r)) A s.heap H1 locs1 → W p l e R s m args below meth c H1 locs1 cells slots Q (F0 m (pc + 3) ls rest)) : W p l e R s m args below meth c H locs cells slots Q (F0 m pc ls (.ref (ad r) :: .ref (ad k) :: rest)) := by
  obtain ⟨hx, hb, hml, hown, hts⟩ := cx
  obtain ⟨f1, f2, f3, f4, f5, rfl, rfl, rfl⟩ := fd
  obtain ⟨ty0, p1, p2, p3, p4⟩ := pd
  obtain ⟨P, i, hi, hP, hD, hm⟩ := dy.1.at hk
  have he := wl_at (cA := cA) (ad := ad) (h := h) hi
  rw [celE_o hk f5] at he
  exact va_putN hx hb hts f1 ty0 p1 p2 hown fx.1 hP hD dy.2 i he f2 j f4 (va_Nw.use rfl (fx.2.1 _ hl rfl)) (fun _ h9 => h9) hfin p3 hn hfit (by rw [fls_len]; exact p4) hdg (fun H1 locs1 hP1 hD1 hS1 => kk H1 locs1 (Dy.upd (h' := setR h k j (some r)) hm hi hD rfl (cel_setR cA ad h k j (some r)) (E := .inr (ci, (fls ad h k ci).set j (.ref (ad r)))) (by rw [celE_o (n := n) (h := setR h k j (some r)) hk f5, ← fls_setR f3]; rfl) hP1 hD1 hS1))
end HR
end
section
section HA
variable {p : Program} {l : Launch} {e : Env} {R : Room} {s : State} {m : MethodId} {args : Array Value} {below : List Frame} {meth : Method} {c : Code} {H : Heap} {locs : List Loc} {cells slots : Nat} {Q : State → Prop} {cc : ByteArray} {pc : Nat} {ls : Array Slot} {rest : List Value} {nL : Nat} {own : String} {D : va_G} {cA : Nat → ClassId} {sk : (Nat → Nat) × (Nat → Nat)} {ad : Nat → Nat} {h : Hp} {A : Nat → Prop}
theorem h_iald (cx : CallFix p m c cc nL s args gw_tbl own) (fx : Fx D cA sk A s) (dy : Dy D cA ad h A s.heap H locs) {k : Nat} {i : Int32} (ok : okA h k 0 i) (hdg : decode cc pc = .ok (.iaload, 1))
    (kk : W p l e R s m args below meth c H locs cells slots Q (F0 m (pc + 1) ls (.int (h.2.1 k i.toNatClampNeg) :: rest))) : W p l e R s m args below meth c H locs cells slots Q (F0 m pc ls (.int i :: .ref (ad k) :: rest)) := by
  obtain ⟨hx, hb, hml, hown, hts⟩ := cx
  obtain ⟨n, hk, hin⟩ := ok
  obtain ⟨P, i0, hi, hP, hD, hm⟩ := dy.1.at hk
  have he := wl_at (cA := cA) (ad := ad) (h := h) hi
  rw [celE_i hk (by omega)] at he
  exact va_iald hx hb fx.1 hP i0 0 he rfl hin hdg kk
theorem h_bald (cx : CallFix p m c cc nL s args gw_tbl own) (fx : Fx D cA sk A s) (dy : Dy D cA ad h A s.heap H locs) {k : Nat} {i : Int32} (ok : okA h k 1 i) (hdg : decode cc pc = .ok (.baload, 1))
    (kk : W p l e R s m args below meth c H locs cells slots Q (F0 m (pc + 1) ls (.int (h.2.1 k i.toNatClampNeg) :: rest))) : W p l e R s m args below meth c H locs cells slots Q (F0 m pc ls (.int i :: .ref (ad k) :: rest)) := by
  obtain ⟨hx, hb, hml, hown, hts⟩ := cx
  obtain ⟨n, hk, hin⟩ := ok
  obtain ⟨P, i0, hi, hP, hD, hm⟩ := dy.1.at hk
  have he := wl_at (cA := cA) (ad := ad) (h := h) hi
  rw [celE_i hk (by omega)] at he
  exact va_bald hx hb fx.1 hP i0 1 he rfl hin hdg kk
theorem h_zald (cx : CallFix p m c cc nL s args gw_tbl own) (fx : Fx D cA sk A s) (dy : Dy D cA ad h A s.heap H locs) {k : Nat} {i : Int32} (ok : okA h k 2 i) (hdg : decode cc pc = .ok (.baload, 1))
    (kk : W p l e R s m args below meth c H locs cells slots Q (F0 m (pc + 1) ls (.int (h.2.1 k i.toNatClampNeg) :: rest))) : W p l e R s m args below meth c H locs cells slots Q (F0 m pc ls (.int i :: .ref (ad k) :: rest)) := by
  obtain ⟨hx, hb, hml, hown, hts⟩ := cx
  obtain ⟨n, hk, hin⟩ := ok
  obtain ⟨P, i0, hi, hP, hD, hm⟩ := dy.1.at hk
  have he := wl_at (cA := cA) (ad := ad) (h := h) hi
  rw [celE_i hk (by omega)] at he
  exact va_zald hx hb fx.1 hP i0 2 he rfl hin hdg kk
theorem h_lald (cx : CallFix p m c cc nL s args gw_tbl own) (fx : Fx D cA sk A s) (dy : Dy D cA ad h A s.heap H locs) {k : Nat} {i : Int32} (ok : okA h k 3 i) (hdg : decode cc pc = .ok (.laload, 1))
    (kk : W p l e R s m args below meth c H locs cells slots Q (F0 m (pc + 1) ls (.long (h.2.2.1 k i.toNatClampNeg) :: rest))) : W p l e R s m args below meth c H locs cells slots Q (F0 m pc ls (.int i :: .ref (ad k) :: rest)) := by
  obtain ⟨hx, hb, hml, hown, hts⟩ := cx
  obtain ⟨n, hk, hin⟩ := ok
  obtain ⟨P, i0, hi, hP, hD, hm⟩ := dy.1.at hk
  have he := wl_at (cA := cA) (ad := ad) (h := h) hi
  rw [celE_l hk] at he
  exact va_lald hx hb fx.1 hP i0 3 he rfl hin hdg kk
theorem h_aald (cx : CallFix p m c cc nL s args gw_tbl own) (fx : Fx D cA sk A s) (dy : Dy D cA ad h A s.heap H locs) {k : Nat} {t r : Nat} {C : String} {i : Int32} (ht : 3 < t) (hty : (tysA cA)[t]? = some (cA t, .object C)) (ok : okA h k t i) (hr : h.2.2.2 k i.toNatClampNeg = some r) (hdg : decode cc pc = .ok (.aaload, 1))
    (kk : W p l e R s m args below meth c H locs cells slots Q (F0 m (pc + 1) ls (.ref (ad r) :: rest))) : W p l e R s m args below meth c H locs cells slots Q (F0 m pc ls (.int i :: .ref (ad k) :: rest)) := by
  obtain ⟨hx, hb, hml, hown, hts⟩ := cx
  obtain ⟨n, hk, hin⟩ := ok
  obtain ⟨P, i0, hi, hP, hD, hm⟩ := dy.1.at hk
  have he := wl_at (cA := cA) (ad := ad) (h := h) hi
  rw [celE_r hk ht] at he
  refine va_aldq hx hb fx.1 hP i0 t he hty hin hdg ?_
  rw [hr]
  exact kk
theorem h_iast (cx : CallFix p m c cc nL s args gw_tbl own) (fx : Fx D cA sk A s) (dy : Dy D cA ad h A s.heap H locs) {k : Nat} {i x : Int32} (ok : okA h k 0 i) (hdg : decode cc pc = .ok (.iastore, 1))
    (kk : ∀ (H1 : Heap) (locs1 : List Loc), Dy D cA ad (setI h k i.toNatClampNeg x) A s.heap H1 locs1 → W p l e R s m args below meth c H1 locs1 cells slots Q (F0 m (pc + 1) ls rest)) : W p l e R s m args below meth c H locs cells slots Q (F0 m pc ls (.int x :: .int i :: .ref (ad k) :: rest)) := by
  obtain ⟨hx, hb, hml, hown, hts⟩ := cx
  obtain ⟨n, hk, hin⟩ := ok
  obtain ⟨P, i0, hi, hP, hD, hm⟩ := dy.1.at hk
  have he := wl_at (cA := cA) (ad := ad) (h := h) hi
  rw [celE_i hk (by omega)] at he
  refine va_iast hx hb fx.1 hP hD dy.2 i0 0 he rfl hin hdg (fun H1 locs1 hP1 hD1 hS1 => kk H1 locs1 (Dy.upd (h' := setI h k i.toNatClampNeg x) hm hi hD rfl (cel_setI cA ad h k _ _) ?_ hP1 hD1 hS1))
  rw [celE_i (n := n) (t := 0) (h := setI h k i.toNatClampNeg x) hk (by omega)]
  have e1 : up2 h.2.1 k i.toNatClampNeg x k = upd (h.2.1 k) i.toNatClampNeg x := by funext b; simp [up2, upd]
  show Sum.inl (cA 0, n, Sum.inl (up2 h.2.1 k i.toNatClampNeg x k)) = _
  rw [e1]
theorem h_bast (cx : CallFix p m c cc nL s args gw_tbl own) (fx : Fx D cA sk A s) (dy : Dy D cA ad h A s.heap H locs) {k : Nat} {i x : Int32} (ok : okA h k 1 i) (hdg : decode cc pc = .ok (.bastore, 1))
    (kk : ∀ (H1 : Heap) (locs1 : List Loc), Dy D cA ad (setI h k i.toNatClampNeg (vp_nar .byte x)) A s.heap H1 locs1 → W p l e R s m args below meth c H1 locs1 cells slots Q (F0 m (pc + 1) ls rest)) : W p l e R s m args below meth c H locs cells slots Q (F0 m pc ls (.int x :: .int i :: .ref (ad k) :: rest)) := by
  obtain ⟨hx, hb, hml, hown, hts⟩ := cx
  obtain ⟨n, hk, hin⟩ := ok
  obtain ⟨P, i0, hi, hP, hD, hm⟩ := dy.1.at hk
  have he := wl_at (cA := cA) (ad := ad) (h := h) hi
  rw [celE_i hk (by omega)] at he
  refine va_bast hx hb fx.1 hP hD dy.2 i0 1 he rfl hin hdg (fun H1 locs1 hP1 hD1 hS1 => kk H1 locs1 (Dy.upd (h' := setI h k i.toNatClampNeg (vp_nar .byte x)) hm hi hD rfl (cel_setI cA ad h k _ _) ?_ hP1 hD1 hS1))
  rw [celE_i (n := n) (t := 1) (h := setI h k i.toNatClampNeg (vp_nar .byte x)) hk (by omega)]
  have e1 : up2 h.2.1 k i.toNatClampNeg (vp_nar .byte x) k = upd (h.2.1 k) i.toNatClampNeg (vp_nar .byte x) := by funext b; simp [up2, upd]
  show Sum.inl (cA 1, n, Sum.inl (up2 h.2.1 k i.toNatClampNeg (vp_nar .byte x) k)) = _
  rw [e1]
theorem h_zast (cx : CallFix p m c cc nL s args gw_tbl own) (fx : Fx D cA sk A s) (dy : Dy D cA ad h A s.heap H locs) {k : Nat} {i x : Int32} (ok : okA h k 2 i) (hdg : decode cc pc = .ok (.bastore, 1))
    (kk : ∀ (H1 : Heap) (locs1 : List Loc), Dy D cA ad (setI h k i.toNatClampNeg (vp_nar .boolean x)) A s.heap H1 locs1 → W p l e R s m args below meth c H1 locs1 cells slots Q (F0 m (pc + 1) ls rest)) : W p l e R s m args below meth c H locs cells slots Q (F0 m pc ls (.int x :: .int i :: .ref (ad k) :: rest)) := by
  obtain ⟨hx, hb, hml, hown, hts⟩ := cx
  obtain ⟨n, hk, hin⟩ := ok
  obtain ⟨P, i0, hi, hP, hD, hm⟩ := dy.1.at hk
  have he := wl_at (cA := cA) (ad := ad) (h := h) hi
  rw [celE_i hk (by omega)] at he
  refine va_zast hx hb fx.1 hP hD dy.2 i0 2 he rfl hin hdg (fun H1 locs1 hP1 hD1 hS1 => kk H1 locs1 (Dy.upd (h' := setI h k i.toNatClampNeg (vp_nar .boolean x)) hm hi hD rfl (cel_setI cA ad h k _ _) ?_ hP1 hD1 hS1))
  rw [celE_i (n := n) (t := 2) (h := setI h k i.toNatClampNeg (vp_nar .boolean x)) hk (by omega)]
  have e1 : up2 h.2.1 k i.toNatClampNeg (vp_nar .boolean x) k = upd (h.2.1 k) i.toNatClampNeg (vp_nar .boolean x) := by funext b; simp [up2, upd]
  show Sum.inl (cA 2, n, Sum.inl (up2 h.2.1 k i.toNatClampNeg (vp_nar .boolean x) k)) = _
  rw [e1]
theorem h_last (cx : CallFix p m c cc nL s args gw_tbl own) (fx : Fx D cA sk A s) (dy : Dy D cA ad h A s.heap H locs) {k : Nat} {i : Int32} {x : Int64} (ok : okA h k 3 i) (hdg : decode cc pc = .ok (.lastore, 1))
    (kk : ∀ (H1 : Heap) (locs1 : List Loc), Dy D cA ad (setL h k i.toNatClampNeg x) A s.heap H1 locs1 → W p l e R s m args below meth c H1 locs1 cells slots Q (F0 m (pc + 1) ls rest)) : W p l e R s m args below meth c H locs cells slots Q (F0 m pc ls (.long x :: .int i :: .ref (ad k) :: rest)) := by
  obtain ⟨hx, hb, hml, hown, hts⟩ := cx
  obtain ⟨n, hk, hin⟩ := ok
  obtain ⟨P, i0, hi, hP, hD, hm⟩ := dy.1.at hk
  have he := wl_at (cA := cA) (ad := ad) (h := h) hi
  rw [celE_l hk] at he
  refine va_last hx hb fx.1 hP hD dy.2 i0 3 he rfl hin hdg (fun H1 locs1 hP1 hD1 hS1 => kk H1 locs1 (Dy.upd (h' := setL h k i.toNatClampNeg x) hm hi hD rfl (cel_setL cA ad h k _ _) ?_ hP1 hD1 hS1))
  rw [celE_l (n := n) (h := setL h k i.toNatClampNeg x) hk]
  have e1 : up2 h.2.2.1 k i.toNatClampNeg x k = vp_updL (h.2.2.1 k) i.toNatClampNeg x := by funext b; simp [up2, vp_updL]
  show Sum.inl (cA 3, n, Sum.inr (Sum.inl (up2 h.2.2.1 k i.toNatClampNeg x k))) = _
  rw [e1]
theorem h_aast (cx : CallFix p m c cc nL s args gw_tbl own) (fx : Fx D cA sk A s) (dy : Dy D cA ad h A s.heap H locs) {k : Nat} {t r ci nr : Nat} {q : vw_C} {i : Int32} (ht : 3 < t) (hty : (tysA cA)[t]? = some (cA t, .object q.1)) (hc : vwCl[ci]? = some q) (hci : ci < 100) (ok : okA h k t i) (hr : h.1 r = some (ci, nr)) (hdg : decode cc pc = .ok (.aastore, 1))
    (kk : ∀ (H1 : Heap) (locs1 : List Loc), Dy D cA ad (setR h k i.toNatClampNeg (some r)) A s.heap H1 locs1 → W p l e R s m args below meth c H1 locs1 cells slots Q (F0 m (pc + 1) ls rest)) : W p l e R s m args below meth c H locs cells slots Q (F0 m pc ls (.ref (ad r) :: .int i :: .ref (ad k) :: rest)) := by
  obtain ⟨hx, hb, hml, hown, hts⟩ := cx
  obtain ⟨n, hk, hin⟩ := ok
  obtain ⟨P, i0, hi, hP, hD, hm⟩ := dy.1.at hk
  have he := wl_at (cA := cA) (ad := ad) (h := h) hi
  rw [celE_r hk ht] at he
  obtain ⟨i1, hi1⟩ := List.getElem?_of_mem ((hm r).mpr (by rw [hr]; simp))
  have he1 := wl_at (cA := cA) (ad := ad) (h := h) hi1
  rw [celE_o hr hci] at he1
  refine va_astq hx hb fx.1 hP hD dy.2 i0 t i1 ci he hty he1 hc hin hdg (fun H1 locs1 hP1 hD1 hS1 => kk H1 locs1 (Dy.upd (h' := setR h k i.toNatClampNeg (some r)) hm hi hD rfl (cel_setR cA ad h k _ _) ?_ hP1 hD1 hS1))
  rw [celE_r (n := n) (t := t) (h := setR h k i.toNatClampNeg (some r)) hk ht]
  have e1 : (fun j => (up2 h.2.2.2 k i.toNatClampNeg (some r) k j).map ad) = va_up (fun j => (h.2.2.2 k j).map ad) i.toNatClampNeg (some (ad r)) := by
    funext b
    by_cases hb : b = i.toNatClampNeg
    · subst hb; simp [up2, va_up]
    · simp [up2, va_up, hb]
  show Sum.inl (cA t, n, Sum.inr (Sum.inr (Sum.inr (Sum.inr (fun j => (up2 h.2.2.2 k i.toNatClampNeg (some r) k j).map ad))))) = _
  rw [e1]
theorem h_alen (cx : CallFix p m c cc nL s args gw_tbl own) (fx : Fx D cA sk A s) (dy : Dy D cA ad h A s.heap H locs) {k : Nat} {t n : Nat} {ty : FieldType} (ht : t < 3) (hty : (tysA cA)[t]? = some (cA t, ty)) (hk : h.1 k = some (100 + t, n)) (hdg : decode cc pc = .ok (.arraylength, 1))
    (kk : W p l e R s m args below meth c H locs cells slots Q (F0 m (pc + 1) ls (.int (nI n) :: rest))) : W p l e R s m args below meth c H locs cells slots Q (F0 m pc ls (.ref (ad k) :: rest)) := by
  obtain ⟨hx, hb, hml, hown, hts⟩ := cx
  obtain ⟨P, i0, hi, hP, hD, hm⟩ := dy.1.at hk
  have he := wl_at (cA := cA) (ad := ad) (h := h) hi
  rw [celE_i hk ht] at he
  exact va_alen hx hb fx.1 hP i0 t he hty rfl hdg kk
def QI (D : va_G) (cA : Nat → ClassId) (ad : Nat → Nat) (A : Nat → Prop) (r : Int32) (h : Hp) : Array Value → State → Outcome → State → Prop := va_Qi (fun r' (_ : Unit) => r' = r) (fun _ t => Wp D cA ad h A t.heap) A
def QL (D : va_G) (cA : Nat → ClassId) (ad : Nat → Nat) (A : Nat → Prop) (r : Int64) (h : Hp) : Array Value → State → Outcome → State → Prop := va_Ql (fun r' (_ : Unit) => r' = r) (fun _ t => Wp D cA ad h A t.heap) A
def QV (D : va_G) (cA : Nat → ClassId) (ad : Nat → Nat) (A : Nat → Prop) (h : Hp) : Array Value → State → Outcome → State → Prop := va_Qv (fun (_ : Unit) => True) (fun _ t => Wp D cA ad h A t.heap) A
def QQ (D : va_G) (cA : Nat → ClassId) (ad : Nat → Nat) (A : Nat → Prop) (r : Option Nat) (h : Hp) : Array Value → State → Outcome → State → Prop := va_Qq (fun r' (_ : Unit) => r' = r.map ad) (fun _ t => Wp D cA ad h A t.heap) A
theorem h_iret (cx : CallFix p m c cc nL s args gw_tbl own) (dy : Dy D cA ad h A s.heap H locs) {r r0 : Int32} {h0 : Hp} {ty : FieldType} (hlocks : meth.locks = false) (hr : meth.sig.returnType = some ty) (hn : narrow ty (.int r) = .int r) (e0 : r = r0) (e1 : h = h0) (hdg : decode cc pc = .ok (.ireturn, 1)) : W p l e R s m args below meth c H locs cells slots (MQ below (QI D cA ad A r0 h0) args s cells slots A) (F0 m pc ls [.int r]) := by
  subst e0; subst e1
  obtain ⟨hx, hb, hml, hown, hts⟩ := cx
  exact W.zret hx hb hr hn (fun t ht hW => ⟨⟨r, (), rfl, rfl, by show Wp D cA ad h A t.heap; rw [ht]; exact dy.1⟩, dy.2.F ht⟩) dy.2.2.2 hdg
theorem h_lret (cx : CallFix p m c cc nL s args gw_tbl own) (dy : Dy D cA ad h A s.heap H locs) {r r0 : Int64} {h0 : Hp} (hlocks : meth.locks = false) (hr : meth.sig.returnType = some .long) (e0 : r = r0) (e1 : h = h0) (hdg : decode cc pc = .ok (.lreturn, 1)) : W p l e R s m args below meth c H locs cells slots (MQ below (QL D cA ad A r0 h0) args s cells slots A) (F0 m pc ls [.long r]) := by
  subst e0; subst e1
  obtain ⟨hx, hb, hml, hown, hts⟩ := cx
  exact W.lret hx hb hr (fun t ht hW => ⟨⟨r, (), rfl, rfl, by show Wp D cA ad h A t.heap; rw [ht]; exact dy.1⟩, dy.2.F ht⟩) dy.2.2.2 hdg
theorem h_vret (cx : CallFix p m c cc nL s args gw_tbl own) (dy : Dy D cA ad h A s.heap H locs) {h0 : Hp} (hlocks : meth.locks = false) (hr : meth.sig.returnType = none) (e1 : h = h0) (hdg : decode cc pc = .ok (.return_, 1)) : W p l e R s m args below meth c H locs cells slots (MQ below (QV D cA ad A h0) args s cells slots A) (F0 m pc ls []) := by
  subst e1
  obtain ⟨hx, hb, hml, hown, hts⟩ := cx
  exact W.vret hx hb hr (fun t ht hW => ⟨⟨(), rfl, trivial, by show Wp D cA ad h A t.heap; rw [ht]; exact dy.1⟩, dy.2.F ht⟩) dy.2.2.2 hdg
theorem h_aret (cx : CallFix p m c cc nL s args gw_tbl own) (dy : Dy D cA ad h A s.heap H locs) {r r0 : Option Nat} {h0 : Hp} {ty : FieldType} {v : Value} (hlocks : meth.locks = false) (hr : meth.sig.returnType = some ty) (hrt : ∃ n, ty = .object n) (hv : va_rf (r.map ad) = v) (e0 : r = r0) (e1 : h = h0) (hdg : decode cc pc = .ok (.areturn, 1)) : W p l e R s m args below meth c H locs cells slots (MQ below (QQ D cA ad A r0 h0) args s cells slots A) (F0 m pc ls [v]) := by
  subst e0; subst e1
  obtain ⟨hx, hb, hml, hown, hts⟩ := cx
  exact W.aret hx hb hr (Or.inl hrt) (by rw [← hv]; cases r with | none => exact Or.inl rfl | some a => exact Or.inr ⟨ad a, rfl⟩) (fun t ht hW => ⟨⟨r.map ad, (), by rw [hv], rfl, by show Wp D cA ad h A t.heap; rw [ht]; exact dy.1⟩, dy.2.F ht⟩) dy.2.2.2 hdg
end HA
end
section
section HC
variable {p : Program} {l : Launch} {e : Env} {R : Room} {s : State} {m : MethodId} {args : Array Value} {below : List Frame} {meth : Method} {c : Code} {H : Heap} {locs : List Loc} {cells slots : Nat} {Q : State → Prop} {cc : ByteArray} {pc : Nat} {ls : Array Slot} {rest : List Value} {nL : Nat} {own : String} {D : va_G} {cA : Nat → ClassId} {sk : (Nat → Nat) × (Nat → Nat)} {ad : Nat → Nat} {h : Hp} {A : Nat → Prop}
/-- what a call of an instance method needs of the tables -/
def MV (y : MethodName) (bytes : ByteArray) (maxL : Nat) (ret : Option FieldType) (C : String) (n : Nat) : Prop := Cond.code y bytes maxL ret ∈ gw_tbl ∧ Cond.instanceMethod y ∈ gw_tbl ∧ Cond.selects C y y ∈ gw_tbl ∧ Cond.initialized y.cls ∈ gw_tbl ∧ (y.cls ≠ "java/lang/invoke/MethodHandle" ∧ y.cls ≠ "java/lang/invoke/VarHandle" ∧ (parseMethodDescriptor y.desc).map (fun d => d.parameters.length) = some n)
def MS (y : MethodName) (bytes : ByteArray) (maxL : Nat) (ret : Option FieldType) (n : Nat) : Prop := Cond.code y bytes maxL ret ∈ gw_tbl ∧ Cond.static y ∈ gw_tbl ∧ Cond.initialized y.cls ∈ gw_tbl ∧ (y.cls ≠ "java/lang/invoke/MethodHandle" ∧ y.cls ≠ "java/lang/invoke/VarHandle" ∧ (parseMethodDescriptor y.desc).map (fun d => d.parameters.length) = some n)
def MC (y : MethodName) (bytes : ByteArray) (maxL n : Nat) : Prop := Cond.code y bytes maxL none ∈ gw_tbl ∧ Cond.instanceMethod y ∈ gw_tbl ∧ Cond.initialized y.cls ∈ gw_tbl ∧ y.name = "<init>" ∧ (y.cls ≠ "java/lang/invoke/MethodHandle" ∧ y.cls ≠ "java/lang/invoke/VarHandle" ∧ (parseMethodDescriptor y.desc).map (fun d => d.parameters.length) = some n)
abbrev wM (y : MethodName) (bytes : ByteArray) (maxL : Nat) (ret : Option FieldType) : List Cond := Cond.code y bytes maxL ret :: gw_tbl
theorem wM_good {y : MethodName} {bytes : ByteArray} {maxL : Nat} {ret : Option FieldType} (h : Cond.code y bytes maxL ret ∈ gw_tbl) : GoodIn gw_tbl (wM y bytes maxL ret) := fun w hw => (List.mem_cons.mp hw).elim (fun e => gw_good (e ▸ h)) gw_good
theorem k_V (cx : CallFix p m c cc nL s args gw_tbl own) (fx : Fx D cA sk A s) (dy : Dy D cA ad h A s.heap H locs) {y : MethodName} {bytes : ByteArray} {maxL n idx b ci nb mc ms : Nat} {ret : Option FieldType} {rm : Room} {Qc : Array Value → State → Outcome → State → Prop} {As : List Value} {q : vw_C}
    (hM : Met l y (wM y bytes maxL ret) rm (Pre D cA sk ad h A (.ref (ad b) :: As)) Qc mc ms A) (mv : MV y bytes maxL ret q.1 n) (hrc : rm.cells = mc) (hrs : rm.slots = ms) (hR : rm.frames + 1 ≤ R.frames ∧ 8 + (maxL + 11) + rm.locals ≤ R.locals) (hl : Cond.methodLink own idx y ∈ gw_tbl) (hb0 : h.1 b = some (ci, nb)) (hc : vwCl[ci]? = some q) (hci : ci < 100) (hn : As.length = n) (hsz : ls.size = nL) {st : List Value} (hst : st = As.reverse ++ .ref (ad b) :: rest) (hroom : (rest.map fun v => v.category).sum ≤ 8) (hf : cells + mc ≤ R.cells ∧ slots + ms ≤ R.slots) (hdg : decode cc pc = .ok (.invokevirtual idx, 3)) :
    va_Run p l e R s m args below meth c H locs cells slots mc ms (F0 m pc ls st) rest (Qc (Value.ref (ad b) :: As).toArray) A := by
  have cx0 := cx
  obtain ⟨hx, hb, hml, hown, hts⟩ := cx
  obtain ⟨m1, m2, m3, m4, m5⟩ := mv
  obtain ⟨P, i0, hi, hP, hD, hm⟩ := dy.1.at hb0
  have he := wl_at (cA := cA) (ad := ad) (h := h) hi
  rw [celE_o hb0 hci] at he
  exact va_runV cx0 hM ⟨callB_of n hts (wM_good m1) rfl hrc hrs (hts _ m4) (hts _ hl) m5 hR, hts _ m2, hts _ m3⟩ ⟨pre_blind, va_recv fx.1 hP hc he, pre_at fx dy⟩ rfl hn hsz hst (lv_room hroom) hdg hf
theorem k_S (cx : CallFix p m c cc nL s args gw_tbl own) (fx : Fx D cA sk A s) (dy : Dy D cA ad h A s.heap H locs) {y : MethodName} {bytes : ByteArray} {maxL n idx mc ms : Nat} {ret : Option FieldType} {rm : Room} {Qc : Array Value → State → Outcome → State → Prop} {As : List Value}
    (hM : Met l y (wM y bytes maxL ret) rm (Pre D cA sk ad h A As) Qc mc ms A) (mv : MS y bytes maxL ret n) (hrc : rm.cells = mc) (hrs : rm.slots = ms) (hR : rm.frames + 1 ≤ R.frames ∧ 8 + (maxL + 11) + rm.locals ≤ R.locals) (hl : Cond.methodLink own idx y ∈ gw_tbl) (hn : As.length = n) (hsz : ls.size = nL) {st : List Value} (hst : st = As.reverse ++ rest) (hroom : (rest.map fun v => v.category).sum ≤ 8) (hf : cells + mc ≤ R.cells ∧ slots + ms ≤ R.slots) (hdg : decode cc pc = .ok (.invokestatic idx, 3)) :
    va_Run p l e R s m args below meth c H locs cells slots mc ms (F0 m pc ls st) rest (Qc As.toArray) A := by
  have cx0 := cx
  obtain ⟨hx, hb, hml, hown, hts⟩ := cx
  obtain ⟨m1, m2, m4, m5⟩ := mv
  exact va_runS cx0 hM ⟨callB_of n hts (wM_good m1) rfl hrc hrs (hts _ m4) (hts _ hl) m5 hR, hts _ m2⟩ ⟨pre_blind, pre_at fx dy⟩ rfl hn hsz hst (lv_room hroom) hdg hf
theorem k_SN (cx : CallFix p m c cc nL s args gw_tbl own) (fx : Fx D cA sk A s) (dy : Dy D cA ad h A s.heap H locs) {y : MethodName} {bytes : ByteArray} {maxL n idx mc ms : Nat} {ret : Option FieldType} {rm : Room} {Qc : Array Value → State → Outcome → State → Prop} {As : List Value} {host : String}
    (hM : Met l y (wM y bytes maxL ret) rm (Pre D cA sk ad h A As) Qc mc ms A) (mv : MS y bytes maxL ret n) (hrc : rm.cells = mc) (hrs : rm.slots = ms) (hR : rm.frames + 1 ≤ R.frames ∧ 8 + (maxL + 11) + rm.locals ≤ R.locals) (hl : Cond.methodLinkNest own idx y host ∈ lw_tbl) (hn : As.length = n) (hsz : ls.size = nL) {st : List Value} (hst : st = As.reverse ++ rest) (hroom : (rest.map fun v => v.category).sum ≤ 8) (hf : cells + mc ≤ R.cells ∧ slots + ms ≤ R.slots) (hdg : decode cc pc = .ok (.invokestatic idx, 3)) :
    va_Run p l e R s m args below meth c H locs cells slots mc ms (F0 m pc ls st) rest (Qc As.toArray) A := by
  have cx0 := cx
  obtain ⟨hx, hb, hml, hown, hts⟩ := cx
  obtain ⟨m1, m2, m4, m5⟩ := mv
  exact va_runSN cx0 hM ⟨va_cnB n hts (wM_good m1) rfl hrc hrs (fx.2.1 _ hl rfl) (hts _ m4) m5 hR, hts _ m2, trivial⟩ ⟨pre_blind, pre_at fx dy⟩ rfl hn hsz hst (lv_room hroom) hdg hf
theorem k_I (cx : CallFix p m c cc nL s args gw_tbl own) (fx : Fx D cA sk A s) (dy : Dy D cA ad h A s.heap H locs) {y : MethodName} {bytes : ByteArray} {maxL n idx b mc ms : Nat} {rm : Room} {Qc : Array Value → State → Outcome → State → Prop} {As : List Value}
    (hM : Met l y (wM y bytes maxL none) rm (Pre D cA sk ad h A (.ref (ad b) :: As)) Qc mc ms A) (mv : MC y bytes maxL n) (hrc : rm.cells = mc) (hrs : rm.slots = ms) (hR : rm.frames + 1 ≤ R.frames ∧ 8 + (maxL + 11) + rm.locals ≤ R.locals) (hl : Cond.methodLink own idx y ∈ gw_tbl) (hn : As.length = n) (hsz : ls.size = nL) {st : List Value} (hst : st = As.reverse ++ .ref (ad b) :: rest) (hroom : (rest.map fun v => v.category).sum ≤ 8) (hf : cells + mc ≤ R.cells ∧ slots + ms ≤ R.slots) (hdg : decode cc pc = .ok (.invokespecial idx, 3)) :
    va_Run p l e R s m args below meth c H locs cells slots mc ms (F0 m pc ls st) rest (Qc (Value.ref (ad b) :: As).toArray) A := by
  have cx0 := cx
  obtain ⟨hx, hb, hml, hown, hts⟩ := cx
  obtain ⟨m1, m2, m4, m6, m5⟩ := mv
  exact va_runI cx0 hM ⟨callB_of n hts (wM_good m1) rfl hrc hrs (hts _ m4) (hts _ hl) m5 hR, m6, hts _ m2⟩ ⟨pre_blind, pre_at fx dy⟩ rfl hn hsz hst (lv_room hroom) hdg hf
theorem k_IN (cx : CallFix p m c cc nL s args gw_tbl own) (fx : Fx D cA sk A s) (dy : Dy D cA ad h A s.heap H locs) {y : MethodName} {bytes : ByteArray} {maxL n idx b mc ms : Nat} {rm : Room} {Qc : Array Value → State → Outcome → State → Prop} {As : List Value} {host : String}
    (hM : Met l y (wM y bytes maxL none) rm (Pre D cA sk ad h A (.ref (ad b) :: As)) Qc mc ms A) (mv : MC y bytes maxL n) (hrc : rm.cells = mc) (hrs : rm.slots = ms) (hR : rm.frames + 1 ≤ R.frames ∧ 8 + (maxL + 11) + rm.locals ≤ R.locals) (hl : Cond.methodLinkNest own idx y host ∈ lw_tbl) (hn : As.length = n) (hsz : ls.size = nL) {st : List Value} (hst : st = As.reverse ++ .ref (ad b) :: rest) (hroom : (rest.map fun v => v.category).sum ≤ 8) (hf : cells + mc ≤ R.cells ∧ slots + ms ≤ R.slots) (hdg : decode cc pc = .ok (.invokespecial idx, 3)) :
    va_Run p l e R s m args below meth c H locs cells slots mc ms (F0 m pc ls st) rest (Qc (Value.ref (ad b) :: As).toArray) A := by
  have cx0 := cx
  obtain ⟨hx, hb, hml, hown, hts⟩ := cx
  obtain ⟨m1, m2, m4, m6, m5⟩ := mv
  exact va_runIN cx0 hM ⟨va_cnB n hts (wM_good m1) rfl hrc hrs (fx.2.1 _ hl rfl) (hts _ m4) m5 hR, m6, hts _ m2⟩ ⟨pre_blind, pre_at fx dy⟩ rfl hn hsz hst (lv_room hroom) hdg hf
theorem r_i {h1 : Hp} {r : Int32} {a : Array Value} {st : List Value} (dy : Dy D cA ad h A s.heap H locs) (hr : va_Run p l e R s m args below meth c H locs cells slots 0 0 (F0 m pc ls st) rest (QI D cA ad A r h1 a) A)
    (kk : ∀ (H1 : Heap) (locs1 : List Loc), Dy D cA ad h1 A s.heap H1 locs1 → W p l e R s m args below meth c H1 locs1 cells slots Q (F0 m (pc + 3) ls (.int r :: rest))) : W p l e R s m args below meth c H locs cells slots Q (F0 m pc ls st) := by
  refine va_calli hr dy.2 (fun q _ h => h) (fun q h => h) (fun r' u t H1 locs1 ht hvm hw hB hz hk hS => ?_)
  subst hw
  have hB : Wp D cA ad h1 A t.heap := hB
  rw [ht] at hB
  exact kk H1 locs1 ⟨hB, hS⟩
theorem r_l {h1 : Hp} {r : Int64} {a : Array Value} {st : List Value} (dy : Dy D cA ad h A s.heap H locs) (hr : va_Run p l e R s m args below meth c H locs cells slots 0 0 (F0 m pc ls st) rest (QL D cA ad A r h1 a) A)
    (kk : ∀ (H1 : Heap) (locs1 : List Loc), Dy D cA ad h1 A s.heap H1 locs1 → W p l e R s m args below meth c H1 locs1 cells slots Q (F0 m (pc + 3) ls (.long r :: rest))) : W p l e R s m args below meth c H locs cells slots Q (F0 m pc ls st) := by
  refine va_calll hr dy.2 (fun q _ h => h) (fun q h => h) (fun r' u t H1 locs1 ht hvm hw hB hz hk hS => ?_)
  subst hw
  have hB : Wp D cA ad h1 A t.heap := hB
  rw [ht] at hB
  exact kk H1 locs1 ⟨hB, hS⟩
theorem r_v {h1 : Hp} {a : Array Value} {st : List Value} (dy : Dy D cA ad h A s.heap H locs) (hr : va_Run p l e R s m args below meth c H locs cells slots 0 0 (F0 m pc ls st) rest (QV D cA ad A h1 a) A)
    (kk : ∀ (H1 : Heap) (locs1 : List Loc), Dy D cA ad h1 A s.heap H1 locs1 → W p l e R s m args below meth c H1 locs1 cells slots Q (F0 m (pc + 3) ls rest)) : W p l e R s m args below meth c H locs cells slots Q (F0 m pc ls st) := by
  refine va_callv hr dy.2 (fun q _ h => h) (fun q h => h) (fun u t H1 locs1 ht hvm hw hB hz hk hS => ?_)
  have hB : Wp D cA ad h1 A t.heap := hB
  rw [ht] at hB
  exact kk H1 locs1 ⟨hB, hS⟩
theorem r_q {h1 : Hp} {r : Option Nat} {a : Array Value} {st : List Value} (dy : Dy D cA ad h A s.heap H locs) (hr : va_Run p l e R s m args below meth c H locs cells slots 0 0 (F0 m pc ls st) rest (QQ D cA ad A r h1 a) A)
    (kk : ∀ (H1 : Heap) (locs1 : List Loc), Dy D cA ad h1 A s.heap H1 locs1 → W p l e R s m args below meth c H1 locs1 cells slots Q (F0 m (pc + 3) ls (va_rf (r.map ad) :: rest))) : W p l e R s m args below meth c H locs cells slots Q (F0 m pc ls st) := by
  refine va_callq hr dy.2 (fun q _ h => h) (fun q h => h) (fun r' u t H1 locs1 ht hvm hw hB hz hk hS => ?_)
  subst hw
  have hB : Wp D cA ad h1 A t.heap := hB
  rw [ht] at hB
  exact kk H1 locs1 ⟨hB, hS⟩
end HC
end
section
abbrev Hq : Type := (Nat → Nat → Int32) × (Nat → Nat → Int64) × (Nat → Nat → Option Nat)
abbrev Vk : Type := Nat → Option (Nat × Nat)
def sI (g : Hq) (k j : Nat) (v : Int32) : Hq := (up2 g.1 k j v, g.2.1, g.2.2)
def sL (g : Hq) (k j : Nat) (v : Int64) : Hq := (g.1, up2 g.2.1 k j v, g.2.2)
def sR (g : Hq) (k j : Nat) (v : Option Nat) : Hq := (g.1, g.2.1, up2 g.2.2 k j v)
def sA (g : Hq) (k : Nat) (r : Nat → Int32) : Hq := (upr g.1 k r, g.2.1, g.2.2)
def okV (V : Vk) (k t : Nat) (i : Int32) : Prop := ∃ n, V k = some (100 + t, n) ∧ vp_in i n
def bnd {α γ : Type} (o : Option (α × Hq)) (f : α → Hq → Option γ) : Option γ := o.bind (fun q => f q.1 q.2)
def onn {γ : Type} (o : Option Nat) (x : Option γ) (f : Nat → Option γ) : Option γ := match o with
  | none => x
  | some k => f k
theorem of_bnd2 {α γ : Type} {o : Option (α × Hq)} {f : α → Hq → Option γ} {z : γ} (h : bnd o f = some z) : ∃ a g, o = some (a, g) ∧ f a g = some z := by
  obtain ⟨q, h1, h2⟩ := of_bnd h
  exact ⟨q.1, q.2, h1, h2⟩
theorem of_onn {γ : Type} {o : Option Nat} {x : Option γ} {f : Nat → Option γ} {z : γ} (h : onn o x f = some z) : (o = none ∧ x = some z) ∨ ∃ k, o = some k ∧ f k = some z := by
  cases o with
  | none => exact Or.inl ⟨rfl, h⟩
  | some k => exact Or.inr ⟨k, rfl, h⟩
theorem of_map {α β : Type} {o : Option α} {f : α → β} {z : β} (h : o.map f = some z) : ∃ y, o = some y ∧ z = f y := by
  cases o with
  | none => cases h
  | some y => exact ⟨y, rfl, (Option.some.inj h).symm⟩
theorem itr_succ {σ β : Type} {f : σ → Option (σ ⊕ β)} {n : Nat} {s : σ} {y : β} (h : itr f (n + 1) s = some y) : ∃ z, f s = some z ∧ (∀ t, z = .inl t → itr f n t = some y) ∧ ∀ b, z = .inr b → b = y := by
  unfold itr at h
  cases hf : f s with
  | none => rw [hf] at h; cases h
  | some x =>
    rw [hf] at h
    refine ⟨x, rfl, ?_, ?_⟩
    · rintro t rfl; exact h
    · rintro b rfl; exact Option.some.inj h
theorem tsw_out {x : Int32} {lo hi : Int} (h : ∀ n : Int, lo ≤ n → n ≤ hi → ¬ x = Int32.ofInt n) : x.toInt < lo ∨ hi < x.toInt := by
  rcases Int.lt_or_le x.toInt lo with h1 | h1
  · exact Or.inl h1
  · rcases Int.lt_or_le hi x.toInt with h2 | h2
    · exact Or.inr h2
    · exact absurd (Int32.ofInt_toInt x).symm (h x.toInt h1 h2)
theorem neI {x : Int32} {n : Int} (h : ¬ x = Int32.ofInt n) : ¬ n = x.toInt := fun e => h (by rw [e, Int32.ofInt_toInt])
section HM
variable {p : Program} {l : Launch} {e : Env} {R : Room} {s : State} {m : MethodId} {args : Array Value} {below : List Frame} {meth : Method} {c : Code} {H : Heap} {locs : List Loc} {cells slots : Nat} {Q : State → Prop} {pc : Nat} {ls : Array Slot} {rest : List Value} {ad : Nat → Nat}
theorem lv_nmi {x y : Int32} (e0 : y = x) (k : W p l e R s m args below meth c H locs cells slots Q (F0 m pc ls (.int y :: rest))) : W p l e R s m args below meth c H locs cells slots Q (F0 m pc ls (.int x :: rest)) := by
  subst e0; exact k
theorem lv_nml {x y : Int64} (e0 : y = x) (k : W p l e R s m args below meth c H locs cells slots Q (F0 m pc ls (.long y :: rest))) : W p l e R s m args below meth c H locs cells slots Q (F0 m pc ls (.long x :: rest)) := by
  subst e0; exact k
theorem lv_rf0 (k : W p l e R s m args below meth c H locs cells slots Q (F0 m pc ls (.null :: rest))) : W p l e R s m args below meth c H locs cells slots Q (F0 m pc ls (va_rf ((none : Option Nat).map ad) :: rest)) := k
theorem lv_rf1 {r : Nat} (k : W p l e R s m args below meth c H locs cells slots Q (F0 m pc ls (.ref (ad r) :: rest))) : W p l e R s m args below meth c H locs cells slots Q (F0 m pc ls (va_rf ((some r).map ad) :: rest)) := k
end HM
end
section
theorem tb_84 : Cond.fieldLink RX8 9 "WardWatch$Tape" "bytes" "[B" ∈ gw_tbl := mg (List.mem_of_getElem? (i := 84) (by decide +kernel)) rfl
theorem tb_85 : Cond.fieldLink RX8 13 "WardWatch$Tape" "length" "I" ∈ gw_tbl := mg (List.mem_of_getElem? (i := 85) (by decide +kernel)) rfl
theorem inX8 : ∀ w ∈ u_ws RX8 TX8 2, w ∈ gw_tbl := fun w hw => mg ((by decide +kernel : ∀ w ∈ u_ws RX8 TX8 2, w ∈ lw_tbl) w hw) ((by decide +kernel : ∀ w ∈ u_ws RX8 TX8 2, goodWord w = true) w hw)
theorem fd_8_0 : FD 8 0 RX8 TX8 2 1 "WardWatch$Tape" "bytes" "[B" := ⟨inX8, rfl, rfl, by decide, by decide, rfl, rfl, rfl⟩
theorem fd_8_1 : FD 8 1 RX8 TX8 2 0 "WardWatch$Tape" "length" "I" := ⟨inX8, rfl, rfl, by decide, by decide, rfl, rfl, rfl⟩
theorem pd_8_1 : PD 8 1 RX8 TX8 2 (.int) := ⟨tyX8, tyX8_ok, nmX8, by decide +kernel, by decide⟩
end
section
noncomputable def r_X8_length (V : Vk) (k0 : Nat) (g : Hq) : Option (Int32 × Hq) :=
  grd (V k0 = some (8, 0)) <| some ((g.1 k0 1), g)
set_option maxHeartbeats 4000000 in
set_option maxRecDepth 100000 in
theorem c_X8_length {l : Launch} {D : va_G} {cA : Nat → ClassId} {sk : (Nat → Nat) × (Nat → Nat)} {ad : Nat → Nat} {A : Nat → Prop} {V : Vk} {k0 : Nat} {g g0 : Hq} {r0 : Int32} (hr : r_X8_length V k0 g = some (r0, g0)) : Met l yX8_length (wM yX8_length cX8_length 1 (some .int)) { frames := 0, cells := 0, slots := 0, locals := 0 } (Pre D cA sk ad (V, g) A [.ref (ad k0)]) (QI D cA ad A r0 (V, g0)) 0 0 A := by
  refine Met.ofW (cc := cX8_length) (maxL := 1) (ret := (some .int)) (by decide) rfl ?_
  intro p e s m args below meth c s₁ B hml hv
  obtain ⟨rfl, fx, w0⟩ := hv
  have hts := atoms_spec (ws := wM yX8_length cX8_length 1 (some .int)) B.pre
  have cx : CallFix p m c cX8_length 1 s ([.ref (ad k0)] : List Value).toArray gw_tbl RX8 := ⟨B.exec, B.bytes, hml, findClass_of_methodNamed B.named, fun w hw => hts w (List.mem_cons_of_mem _ hw)⟩
  have hlocks := B.notSynchronized
  have hret := B.returns
  have hR : 0 ≤ (headSpec (wM yX8_length cX8_length 1 (some .int)) { frames := 0, cells := 0, slots := 0, locals := 0 }).room.frames ∧ 0 ≤ (headSpec (wM yX8_length cX8_length 1 (some .int)) { frames := 0, cells := 0, slots := 0, locals := 0 }).room.locals := ⟨Nat.le_refl _, Nat.le_refl _⟩
  have dy : Dy D cA ad (V, g) A s.heap s.heap [] := ⟨w0, va_S.rf⟩
  have hl := lv_entry [.ref (ad k0)] (n := 1) (Nat.le_of_ble_eq_true rfl)
  rw [lg_entry_eq]
  generalize (lg_sl [.ref (ad k0)] ++ List.replicate (1 - (lg_sl [.ref (ad k0)]).length) Slot.unset).toArray = ls at hl ⊢
  have hl : lv_has ls 1 [(0, .ref (ad k0))] := hl
  have dy0 : ∃ H0, H0 = s.heap ∧ Dy D cA ad (V, g) A s.heap H0 [] := ⟨_, rfl, dy⟩
  obtain ⟨z, ez⟩ : ∃ z, z = (r0, g0) := ⟨_, rfl⟩
  rw [← ez] at hr
  have hq0 : ∀ (rb : Int32) (gb : Hq), z = (rb, gb) → rb = r0 ∧ gb = g0 := fun rb gb eb => by rw [ez] at eb; exact ⟨(congrArg Prod.fst eb).symm, (congrArg Prod.snd eb).symm⟩
  clear ez w0 dy0
  unfold r_X8_length at hr
  obtain ⟨H, hH⟩ : ∃ H, H = s.heap := ⟨_, rfl⟩
  obtain ⟨locs, hlo⟩ : ∃ q : List Loc, q = [] := ⟨_, rfl⟩
  have dy : Dy D cA ad (V, g) A s.heap H locs := by rw [hH, hlo]; exact dy
  suffices K : W p l e (headSpec (wM yX8_length cX8_length 1 (some .int)) { frames := 0, cells := 0, slots := 0, locals := 0 }).room s m ([.ref (ad k0)] : List Value).toArray below meth c H locs 0 0 (MQ below (QI D cA ad A r0 (V, g0)) ([.ref (ad k0)] : List Value).toArray s 0 0 A) (F0 m 0 ls []) by rw [hH, hlo] at K; exact K
  clear hH hlo
  refine lv_aload_n cx.1 cx.2.1 dX8_length_0 rfl (lv_at hl 0 rfl) ?_
  obtain ⟨hv1, hr⟩ := of_grd hr
  refine h_getI cx fx dy fd_8_1 hv1 tb_85 dX8_length_1 ?_
  obtain ⟨e0, e1⟩ := hq0 _ _ (Option.some.inj hr).symm
  exact h_iret cx dy hlocks hret rfl e0 (by rw [e1]) dX8_length_4
noncomputable def r_X8_hasRoomFor (V : Vk) (k0 : Nat) (a1 : Int32) (g : Hq) : Option (Int32 × Hq) :=
  grd (V k0 = some (8, 0)) <| brn ((800 : Int32) < ((g.1 k0 1) + a1)) (some ((0 : Int32), g)) (some ((1 : Int32), g))
set_option maxHeartbeats 4000000 in
set_option maxRecDepth 100000 in
theorem c_X8_hasRoomFor {l : Launch} {D : va_G} {cA : Nat → ClassId} {sk : (Nat → Nat) × (Nat → Nat)} {ad : Nat → Nat} {A : Nat → Prop} {V : Vk} {k0 : Nat} {a1 : Int32} {g g0 : Hq} {r0 : Int32} (hr : r_X8_hasRoomFor V k0 a1 g = some (r0, g0)) : Met l yX8_hasRoomFor (wM yX8_hasRoomFor cX8_hasRoomFor 2 (some .boolean)) { frames := 0, cells := 0, slots := 0, locals := 0 } (Pre D cA sk ad (V, g) A [.ref (ad k0), .int a1]) (QI D cA ad A r0 (V, g0)) 0 0 A := by
  refine Met.ofW (cc := cX8_hasRoomFor) (maxL := 2) (ret := (some .boolean)) (by decide) rfl ?_
  intro p e s m args below meth c s₁ B hml hv
  obtain ⟨rfl, fx, w0⟩ := hv
  have hts := atoms_spec (ws := wM yX8_hasRoomFor cX8_hasRoomFor 2 (some .boolean)) B.pre
  have cx : CallFix p m c cX8_hasRoomFor 2 s ([.ref (ad k0), .int a1] : List Value).toArray gw_tbl RX8 := ⟨B.exec, B.bytes, hml, findClass_of_methodNamed B.named, fun w hw => hts w (List.mem_cons_of_mem _ hw)⟩
  have hlocks := B.notSynchronized
  have hret := B.returns
  have hR : 0 ≤ (headSpec (wM yX8_hasRoomFor cX8_hasRoomFor 2 (some .boolean)) { frames := 0, cells := 0, slots := 0, locals := 0 }).room.frames ∧ 0 ≤ (headSpec (wM yX8_hasRoomFor cX8_hasRoomFor 2 (some .boolean)) { frames := 0, cells := 0, slots := 0, locals := 0 }).room.locals := ⟨Nat.le_refl _, Nat.le_refl _⟩
  have dy : Dy D cA ad (V, g) A s.heap s.heap [] := ⟨w0, va_S.rf⟩
  have hl := lv_entry [.ref (ad k0), .int a1] (n := 2) (Nat.le_of_ble_eq_true rfl)
  rw [lg_entry_eq]
  generalize (lg_sl [.ref (ad k0), .int a1] ++ List.replicate (2 - (lg_sl [.ref (ad k0), .int a1]).length) Slot.unset).toArray = ls at hl ⊢
  have hl : lv_has ls 2 [(0, .ref (ad k0)), (1, .int a1)] := hl
  have dy0 : ∃ H0, H0 = s.heap ∧ Dy D cA ad (V, g) A s.heap H0 [] := ⟨_, rfl, dy⟩
  obtain ⟨z, ez⟩ : ∃ z, z = (r0, g0) := ⟨_, rfl⟩
  rw [← ez] at hr
  have hq0 : ∀ (rb : Int32) (gb : Hq), z = (rb, gb) → rb = r0 ∧ gb = g0 := fun rb gb eb => by rw [ez] at eb; exact ⟨(congrArg Prod.fst eb).symm, (congrArg Prod.snd eb).symm⟩
  clear ez w0 dy0
  unfold r_X8_hasRoomFor at hr
  obtain ⟨H, hH⟩ : ∃ H, H = s.heap := ⟨_, rfl⟩
  obtain ⟨locs, hlo⟩ : ∃ q : List Loc, q = [] := ⟨_, rfl⟩
  have dy : Dy D cA ad (V, g) A s.heap H locs := by rw [hH, hlo]; exact dy
  suffices K : W p l e (headSpec (wM yX8_hasRoomFor cX8_hasRoomFor 2 (some .boolean)) { frames := 0, cells := 0, slots := 0, locals := 0 }).room s m ([.ref (ad k0), .int a1] : List Value).toArray below meth c H locs 0 0 (MQ below (QI D cA ad A r0 (V, g0)) ([.ref (ad k0), .int a1] : List Value).toArray s 0 0 A) (F0 m 0 ls []) by rw [hH, hlo] at K; exact K
  clear hH hlo
  refine lv_aload_n cx.1 cx.2.1 dX8_hasRoomFor_0 rfl (lv_at hl 0 rfl) ?_
  obtain ⟨hv1, hr⟩ := of_grd hr
  refine h_getI cx fx dy fd_8_1 hv1 tb_85 dX8_hasRoomFor_1 ?_
  refine lv_iload_n cx.1 cx.2.1 dX8_hasRoomFor_4 rfl (lv_at hl 1 rfl) ?_
  refine lv_iadd cx.1 cx.2.1 dX8_hasRoomFor_5 ?_
  refine lv_sipush (v := 800) cx.1 cx.2.1 dX8_hasRoomFor_6 (by decide) ?_
  rcases of_brn hr with ⟨hc, hr⟩ | ⟨hc, hr⟩
  · refine lv_icmp_gt (tgt := 16) cx.1 cx.2.1 dX8_hasRoomFor_9 (by decide) (fun _ => ?_) (fun hn => absurd hc hn)
    refine lv_iconst (v := 0) cx.1 cx.2.1 dX8_hasRoomFor_16 (by decide) ?_
    obtain ⟨e0, e1⟩ := hq0 _ _ (Option.some.inj hr).symm
    exact h_iret cx dy hlocks hret rfl e0 (by rw [e1]) dX8_hasRoomFor_17
  · refine lv_icmp_gt (tgt := 16) cx.1 cx.2.1 dX8_hasRoomFor_9 (by decide) (fun hn => absurd hn hc) (fun _ => ?_)
    refine lv_iconst (v := 1) cx.1 cx.2.1 dX8_hasRoomFor_12 (by decide) ?_
    refine lv_goto (tgt := 17) cx.1 cx.2.1 dX8_hasRoomFor_13 (by decide) ?_
    obtain ⟨e0, e1⟩ := hq0 _ _ (Option.some.inj hr).symm
    exact h_iret cx dy hlocks hret rfl e0 (by rw [e1]) dX8_hasRoomFor_17
noncomputable def r_X8_append_3' (V : Vk) (k1 : Nat) (x2 : Int32) (x3 : Int32) (g4 : Hq) : Option ((Nat × Int32 × Int32 × Hq) ⊕ (Unit × Hq)) :=
  brn (x3 < 0) (some (.inr ((), g4))) (grd (V k1 = some (8, 0)) <| brn ((800 : Int32) ≤ (g4.1 k1 1)) (some (.inr ((), g4))) (Option.bind (g4.2.2 k1 0) fun k6 => grd (okV V k6 1 (g4.1 k1 1)) <| nm (sI g4 k6 (g4.1 k1 1).toNatClampNeg (vp_nar .byte (x2 >>> (x3 &&& 31)).toInt8.toInt32)) fun g9 => nm (sI g9 k1 1 ((g9.1 k1 1) + (1 : Int32))) fun g10 => nm (x3 + (-8 : Int32)) fun x11 => some (.inl (k1, x2, x11, g10))))
noncomputable def r_X8_append_3 (V : Vk) (st : (Nat × Int32 × Int32 × Hq)) : Option ((Nat × Int32 × Int32 × Hq) ⊕ (Unit × Hq)) := r_X8_append_3' V st.1 st.2.1 st.2.2.1 st.2.2.2
set_option maxHeartbeats 4000000 in
set_option maxRecDepth 100000 in
theorem w_X8_append_3 {p : Program} {l : Launch} {e : Env} {R : Room} {s : State} {m : MethodId} {args : Array Value} {below : List Frame} {meth : Method} {c : Code} {D : va_G} {cA : Nat → ClassId} {sk : (Nat → Nat) × (Nat → Nat)} {ad : Nat → Nat} {A : Nat → Prop} {V : Vk} (cx : CallFix p m c cX8_append 3 s args gw_tbl RX8) (fx : Fx D cA sk A s) (hlocks : meth.locks = false) (hret : meth.sig.returnType = none) (hR : 0 ≤ R.frames ∧ 0 ≤ R.locals) (g0 : Hq) (y : (Unit × Hq)) (hq : ∀ (rb : Unit) (gb : Hq), y = (rb, gb) → gb = g0) : ∀ (n : Nat) (k1 : Nat) (x2 : Int32) (x3 : Int32) (g4 : Hq), itr (r_X8_append_3 V) n (k1, x2, x3, g4) = some y → ∀ (H : Heap) (locs : List Loc) (ls : Array Slot), Dy D cA ad (V, g4) A s.heap H locs → lv_has ls 3 [(0, .ref (ad k1)), (1, .int x2), (2, .int x3)] → W p l e R s m args below meth c H locs 0 0 (MQ below (QV D cA ad A (V, g0)) args s 0 0 A) (F0 m 3 ls []) := by
  intro n
  induction n with
  | zero => intro k1 x2 x3 g4 hr; cases hr
  | succ n ih =>
    intro k1 x2 x3 g4 hr H locs ls dy hl
    obtain ⟨z, hz, hn1, hn2⟩ := itr_succ hr
    clear hr
    have hr : r_X8_append_3' V k1 x2 x3 g4 = some z := hz
    clear hz
    unfold r_X8_append_3' at hr
    have hh0 : ∀ (b0 : Nat) (b1 : Int32) (b2 : Int32) (gb : Hq), z = .inl (b0, b1, b2, gb) → ∀ (H : Heap) (locs : List Loc) (ls : Array Slot), Dy D cA ad (V, gb) A s.heap H locs → lv_has ls 3 [(0, .ref (ad b0)), (1, .int b1), (2, .int b2)] → W p l e R s m args below meth c H locs 0 0 (MQ below (QV D cA ad A (V, g0)) args s 0 0 A) (F0 m 3 ls []) := fun b0 b1 b2 gb eb => ih b0 b1 b2 gb (hn1 _ eb)
    have hq0 : ∀ (rb : Unit) (gb : Hq), z = (.inr (rb, gb)) → gb = g0 := fun rb gb eb => hq rb gb (hn2 _ eb).symm
    refine lv_iload_n cx.1 cx.2.1 dX8_append_3 rfl (lv_at hl 2 rfl) ?_
    rcases of_brn hr with ⟨hc, hr⟩ | ⟨hc, hr⟩
    · refine lv_if_lt (tgt := 46) cx.1 cx.2.1 dX8_append_4 (by decide) (fun _ => ?_) (fun hn => absurd hc hn)
      have e1 := hq0 _ _ (Option.some.inj hr).symm
      exact h_vret cx dy hlocks hret (by rw [e1]) dX8_append_46
    · refine lv_if_lt (tgt := 46) cx.1 cx.2.1 dX8_append_4 (by decide) (fun hn => absurd hn hc) (fun _ => ?_)
      refine lv_aload_n cx.1 cx.2.1 dX8_append_7 rfl (lv_at hl 0 rfl) ?_
      obtain ⟨hv5, hr⟩ := of_grd hr
      refine h_getI cx fx dy fd_8_1 hv5 tb_85 dX8_append_8 ?_
      refine lv_sipush (v := 800) cx.1 cx.2.1 dX8_append_11 (by decide) ?_
      rcases of_brn hr with ⟨hc, hr⟩ | ⟨hc, hr⟩
      · refine lv_icmp_ge (tgt := 46) cx.1 cx.2.1 dX8_append_14 (by decide) (fun _ => ?_) (fun hn => absurd hc hn)
        have e1 := hq0 _ _ (Option.some.inj hr).symm
        exact h_vret cx dy hlocks hret (by rw [e1]) dX8_append_46
      · refine lv_icmp_ge (tgt := 46) cx.1 cx.2.1 dX8_append_14 (by decide) (fun hn => absurd hn hc) (fun _ => ?_)
        refine lv_aload_n cx.1 cx.2.1 dX8_append_17 rfl (lv_at hl 0 rfl) ?_
        obtain ⟨k6, hf7, hr⟩ := of_bnd hr
        refine h_getR cx fx dy fd_8_0 hv5 tb_84 hf7 dX8_append_18 ?_
        refine lv_aload_n cx.1 cx.2.1 dX8_append_21 rfl (lv_at hl 0 rfl) ?_
        refine h_getI cx fx dy fd_8_1 hv5 tb_85 dX8_append_22 ?_
        refine lv_iload_n cx.1 cx.2.1 dX8_append_25 rfl (lv_at hl 1 rfl) ?_
        refine lv_iload_n cx.1 cx.2.1 dX8_append_26 rfl (lv_at hl 2 rfl) ?_
        refine lv_ishr cx.1 cx.2.1 dX8_append_27 ?_
        refine lv_i2b cx.1 cx.2.1 dX8_append_28 rfl ?_
        obtain ⟨ha8, hr⟩ := of_grd hr
        obtain ⟨g9, eg9, hr⟩ := of_nm hr
        refine h_bast cx fx dy ha8 dX8_append_29 (fun H locs dy => ?_)
        replace dy : Dy D cA ad (V, g9) A s.heap H locs := by rw [eg9]; exact dy
        refine lv_aload_n cx.1 cx.2.1 dX8_append_30 rfl (lv_at hl 0 rfl) ?_
        refine lv_dup cx.1 cx.2.1 dX8_append_31 rfl ?_
        refine h_getI cx fx dy fd_8_1 hv5 tb_85 dX8_append_32 ?_
        refine lv_iconst (v := 1) cx.1 cx.2.1 dX8_append_35 (by decide) ?_
        refine lv_iadd cx.1 cx.2.1 dX8_append_36 ?_
        obtain ⟨g10, eg10, hr⟩ := of_nm hr
        refine h_putI cx fx dy fd_8_1 (pd_8_1 : PD _ _ _ _ _ .int) rfl rfl rfl hv5 tb_85 dX8_append_37 (fun H locs dy => ?_)
        replace dy : Dy D cA ad (V, g10) A s.heap H locs := by rw [eg10]; exact dy
        obtain ⟨x11, ex11, hr⟩ := of_nm hr
        refine lv_iinc (v := x11) (lv' := [(2, .int x11), (0, .ref (ad k1)), (1, .int x2)]) cx.1 cx.2.1 dX8_append_40 hl (k := 2) rfl (by rw [ex11]; rfl) (by decide) rfl (fun ls hl => ?_)
        refine lv_goto (tgt := 3) cx.1 cx.2.1 dX8_append_43 (by decide) ?_
        exact hh0 k1 x2 x11 g10 (Option.some.inj hr).symm H locs ls dy (lv_sub hl [1, 2, 0] rfl)
noncomputable def r_X8_append (V : Vk) (k0 : Nat) (a1 : Int32) (g : Hq) : Option (Unit × Hq) :=
  (lop (r_X8_append_3 V) (k0, a1, (24 : Int32), g))
set_option maxHeartbeats 4000000 in
set_option maxRecDepth 100000 in
theorem c_X8_append {l : Launch} {D : va_G} {cA : Nat → ClassId} {sk : (Nat → Nat) × (Nat → Nat)} {ad : Nat → Nat} {A : Nat → Prop} {V : Vk} {k0 : Nat} {a1 : Int32} {g g0 : Hq} (hr : r_X8_append V k0 a1 g = some ((), g0)) : Met l yX8_append (wM yX8_append cX8_append 3 none) { frames := 0, cells := 0, slots := 0, locals := 0 } (Pre D cA sk ad (V, g) A [.ref (ad k0), .int a1]) (QV D cA ad A (V, g0)) 0 0 A := by
  refine Met.ofW (cc := cX8_append) (maxL := 3) (ret := none) (by decide) rfl ?_
  intro p e s m args below meth c s₁ B hml hv
  obtain ⟨rfl, fx, w0⟩ := hv
  have hts := atoms_spec (ws := wM yX8_append cX8_append 3 none) B.pre
  have cx : CallFix p m c cX8_append 3 s ([.ref (ad k0), .int a1] : List Value).toArray gw_tbl RX8 := ⟨B.exec, B.bytes, hml, findClass_of_methodNamed B.named, fun w hw => hts w (List.mem_cons_of_mem _ hw)⟩
  have hlocks := B.notSynchronized
  have hret := B.returns
  have hR : 0 ≤ (headSpec (wM yX8_append cX8_append 3 none) { frames := 0, cells := 0, slots := 0, locals := 0 }).room.frames ∧ 0 ≤ (headSpec (wM yX8_append cX8_append 3 none) { frames := 0, cells := 0, slots := 0, locals := 0 }).room.locals := ⟨Nat.le_refl _, Nat.le_refl _⟩
  have dy : Dy D cA ad (V, g) A s.heap s.heap [] := ⟨w0, va_S.rf⟩
  have hl := lv_entry [.ref (ad k0), .int a1] (n := 3) (Nat.le_of_ble_eq_true rfl)
  rw [lg_entry_eq]
  generalize (lg_sl [.ref (ad k0), .int a1] ++ List.replicate (3 - (lg_sl [.ref (ad k0), .int a1]).length) Slot.unset).toArray = ls at hl ⊢
  have hl : lv_has ls 3 [(0, .ref (ad k0)), (1, .int a1)] := hl
  have dy0 : ∃ H0, H0 = s.heap ∧ Dy D cA ad (V, g) A s.heap H0 [] := ⟨_, rfl, dy⟩
  obtain ⟨z, ez⟩ : ∃ z, z = (((), g0) : Unit × Hq) := ⟨_, rfl⟩
  rw [← ez] at hr
  have hq0 : ∀ (rb : Unit) (gb : Hq), z = (rb, gb) → gb = g0 := fun rb gb eb => by rw [ez] at eb; exact (congrArg Prod.snd eb).symm
  clear ez w0 dy0
  unfold r_X8_append at hr
  obtain ⟨H, hH⟩ : ∃ H, H = s.heap := ⟨_, rfl⟩
  obtain ⟨locs, hlo⟩ : ∃ q : List Loc, q = [] := ⟨_, rfl⟩
  have dy : Dy D cA ad (V, g) A s.heap H locs := by rw [hH, hlo]; exact dy
  suffices K : W p l e (headSpec (wM yX8_append cX8_append 3 none) { frames := 0, cells := 0, slots := 0, locals := 0 }).room s m ([.ref (ad k0), .int a1] : List Value).toArray below meth c H locs 0 0 (MQ below (QV D cA ad A (V, g0)) ([.ref (ad k0), .int a1] : List Value).toArray s 0 0 A) (F0 m 0 ls []) by rw [hH, hlo] at K; exact K
  clear hH hlo
  refine lv_bipush (v := 24) cx.1 cx.2.1 dX8_append_0 (by decide) ?_
  refine lv_istore_n (lv' := [(2, .int (24 : Int32)), (0, .ref (ad k0)), (1, .int a1)]) cx.1 cx.2.1 dX8_append_2 rfl hl (by decide) rfl (fun ls hl => ?_)
  obtain ⟨n, hr⟩ := lop_some hr
  exact w_X8_append_3 cx fx hlocks hret hR g0 z hq0 n k0 a1 (24 : Int32) g hr H locs ls dy (lv_sub hl [1, 2, 0] rfl)
noncomputable def r_X8_cut (V : Vk) (k0 : Nat) (a1 : Int32) (g : Hq) : Option (Unit × Hq) :=
  grd (V k0 = some (8, 0)) <| nm (sI g k0 1 a1) fun g2 => some ((), g2)
set_option maxHeartbeats 4000000 in
set_option maxRecDepth 100000 in
theorem c_X8_cut {l : Launch} {D : va_G} {cA : Nat → ClassId} {sk : (Nat → Nat) × (Nat → Nat)} {ad : Nat → Nat} {A : Nat → Prop} {V : Vk} {k0 : Nat} {a1 : Int32} {g g0 : Hq} (hr : r_X8_cut V k0 a1 g = some ((), g0)) : Met l yX8_cut (wM yX8_cut cX8_cut 2 none) { frames := 0, cells := 0, slots := 0, locals := 0 } (Pre D cA sk ad (V, g) A [.ref (ad k0), .int a1]) (QV D cA ad A (V, g0)) 0 0 A := by
  refine Met.ofW (cc := cX8_cut) (maxL := 2) (ret := none) (by decide) rfl ?_
  intro p e s m args below meth c s₁ B hml hv
  obtain ⟨rfl, fx, w0⟩ := hv
  have hts := atoms_spec (ws := wM yX8_cut cX8_cut 2 none) B.pre
  have cx : CallFix p m c cX8_cut 2 s ([.ref (ad k0), .int a1] : List Value).toArray gw_tbl RX8 := ⟨B.exec, B.bytes, hml, findClass_of_methodNamed B.named, fun w hw => hts w (List.mem_cons_of_mem _ hw)⟩
  have hlocks := B.notSynchronized
  have hret := B.returns
  have hR : 0 ≤ (headSpec (wM yX8_cut cX8_cut 2 none) { frames := 0, cells := 0, slots := 0, locals := 0 }).room.frames ∧ 0 ≤ (headSpec (wM yX8_cut cX8_cut 2 none) { frames := 0, cells := 0, slots := 0, locals := 0 }).room.locals := ⟨Nat.le_refl _, Nat.le_refl _⟩
  have dy : Dy D cA ad (V, g) A s.heap s.heap [] := ⟨w0, va_S.rf⟩
  have hl := lv_entry [.ref (ad k0), .int a1] (n := 2) (Nat.le_of_ble_eq_true rfl)
  rw [lg_entry_eq]
  generalize (lg_sl [.ref (ad k0), .int a1] ++ List.replicate (2 - (lg_sl [.ref (ad k0), .int a1]).length) Slot.unset).toArray = ls at hl ⊢
  have hl : lv_has ls 2 [(0, .ref (ad k0)), (1, .int a1)] := hl
  have dy0 : ∃ H0, H0 = s.heap ∧ Dy D cA ad (V, g) A s.heap H0 [] := ⟨_, rfl, dy⟩
  obtain ⟨z, ez⟩ : ∃ z, z = (((), g0) : Unit × Hq) := ⟨_, rfl⟩
  rw [← ez] at hr
  have hq0 : ∀ (rb : Unit) (gb : Hq), z = (rb, gb) → gb = g0 := fun rb gb eb => by rw [ez] at eb; exact (congrArg Prod.snd eb).symm
  clear ez w0 dy0
  unfold r_X8_cut at hr
  obtain ⟨H, hH⟩ : ∃ H, H = s.heap := ⟨_, rfl⟩
  obtain ⟨locs, hlo⟩ : ∃ q : List Loc, q = [] := ⟨_, rfl⟩
  have dy : Dy D cA ad (V, g) A s.heap H locs := by rw [hH, hlo]; exact dy
  suffices K : W p l e (headSpec (wM yX8_cut cX8_cut 2 none) { frames := 0, cells := 0, slots := 0, locals := 0 }).room s m ([.ref (ad k0), .int a1] : List Value).toArray below meth c H locs 0 0 (MQ below (QV D cA ad A (V, g0)) ([.ref (ad k0), .int a1] : List Value).toArray s 0 0 A) (F0 m 0 ls []) by rw [hH, hlo] at K; exact K
  clear hH hlo
  refine lv_aload_n cx.1 cx.2.1 dX8_cut_0 rfl (lv_at hl 0 rfl) ?_
  refine lv_iload_n cx.1 cx.2.1 dX8_cut_1 rfl (lv_at hl 1 rfl) ?_
  obtain ⟨hv1, hr⟩ := of_grd hr
  obtain ⟨g2, eg2, hr⟩ := of_nm hr
  refine h_putI cx fx dy fd_8_1 (pd_8_1 : PD _ _ _ _ _ .int) rfl rfl rfl hv1 tb_85 dX8_cut_2 (fun H locs dy => ?_)
  replace dy : Dy D cA ad (V, g2) A s.heap H locs := by rw [eg2]; exact dy
  have e1 := hq0 _ _ (Option.some.inj hr).symm
  exact h_vret cx dy hlocks hret (by rw [e1]) dX8_cut_5
noncomputable def r_X8_at (V : Vk) (k0 : Nat) (a1 : Int32) (g : Hq) : Option (Int32 × Hq) :=
  brn (a1 < 0) (some ((-1 : Int32), g)) (grd (V k0 = some (8, 0)) <| brn ((g.1 k0 1) ≤ a1) (some ((-1 : Int32), g)) (Option.bind (g.2.2 k0 0) fun k2 => grd (okV V k2 1 a1) <| some (((g.1 k2 a1.toNatClampNeg) &&& (255 : Int32)), g)))
set_option maxHeartbeats 4000000 in
set_option maxRecDepth 100000 in
theorem c_X8_at {l : Launch} {D : va_G} {cA : Nat → ClassId} {sk : (Nat → Nat) × (Nat → Nat)} {ad : Nat → Nat} {A : Nat → Prop} {V : Vk} {k0 : Nat} {a1 : Int32} {g g0 : Hq} {r0 : Int32} (hr : r_X8_at V k0 a1 g = some (r0, g0)) : Met l yX8_at (wM yX8_at cX8_at 2 (some .int)) { frames := 0, cells := 0, slots := 0, locals := 0 } (Pre D cA sk ad (V, g) A [.ref (ad k0), .int a1]) (QI D cA ad A r0 (V, g0)) 0 0 A := by
  refine Met.ofW (cc := cX8_at) (maxL := 2) (ret := (some .int)) (by decide) rfl ?_
  intro p e s m args below meth c s₁ B hml hv
  obtain ⟨rfl, fx, w0⟩ := hv
  have hts := atoms_spec (ws := wM yX8_at cX8_at 2 (some .int)) B.pre
  have cx : CallFix p m c cX8_at 2 s ([.ref (ad k0), .int a1] : List Value).toArray gw_tbl RX8 := ⟨B.exec, B.bytes, hml, findClass_of_methodNamed B.named, fun w hw => hts w (List.mem_cons_of_mem _ hw)⟩
  have hlocks := B.notSynchronized
  have hret := B.returns
  have hR : 0 ≤ (headSpec (wM yX8_at cX8_at 2 (some .int)) { frames := 0, cells := 0, slots := 0, locals := 0 }).room.frames ∧ 0 ≤ (headSpec (wM yX8_at cX8_at 2 (some .int)) { frames := 0, cells := 0, slots := 0, locals := 0 }).room.locals := ⟨Nat.le_refl _, Nat.le_refl _⟩
  have dy : Dy D cA ad (V, g) A s.heap s.heap [] := ⟨w0, va_S.rf⟩
  have hl := lv_entry [.ref (ad k0), .int a1] (n := 2) (Nat.le_of_ble_eq_true rfl)
  rw [lg_entry_eq]
  generalize (lg_sl [.ref (ad k0), .int a1] ++ List.replicate (2 - (lg_sl [.ref (ad k0), .int a1]).length) Slot.unset).toArray = ls at hl ⊢
  have hl : lv_has ls 2 [(0, .ref (ad k0)), (1, .int a1)] := hl
  have dy0 : ∃ H0, H0 = s.heap ∧ Dy D cA ad (V, g) A s.heap H0 [] := ⟨_, rfl, dy⟩
  obtain ⟨z, ez⟩ : ∃ z, z = (r0, g0) := ⟨_, rfl⟩
  rw [← ez] at hr
  have hq0 : ∀ (rb : Int32) (gb : Hq), z = (rb, gb) → rb = r0 ∧ gb = g0 := fun rb gb eb => by rw [ez] at eb; exact ⟨(congrArg Prod.fst eb).symm, (congrArg Prod.snd eb).symm⟩
  clear ez w0 dy0
  unfold r_X8_at at hr
  obtain ⟨H, hH⟩ : ∃ H, H = s.heap := ⟨_, rfl⟩
  obtain ⟨locs, hlo⟩ : ∃ q : List Loc, q = [] := ⟨_, rfl⟩
  have dy : Dy D cA ad (V, g) A s.heap H locs := by rw [hH, hlo]; exact dy
  suffices K : W p l e (headSpec (wM yX8_at cX8_at 2 (some .int)) { frames := 0, cells := 0, slots := 0, locals := 0 }).room s m ([.ref (ad k0), .int a1] : List Value).toArray below meth c H locs 0 0 (MQ below (QI D cA ad A r0 (V, g0)) ([.ref (ad k0), .int a1] : List Value).toArray s 0 0 A) (F0 m 0 ls []) by rw [hH, hlo] at K; exact K
  clear hH hlo
  refine lv_iload_n cx.1 cx.2.1 dX8_at_0 rfl (lv_at hl 1 rfl) ?_
  rcases of_brn hr with ⟨hc, hr⟩ | ⟨hc, hr⟩
  · refine lv_if_lt (tgt := 25) cx.1 cx.2.1 dX8_at_1 (by decide) (fun _ => ?_) (fun hn => absurd hc hn)
    refine lv_iconst (v := (-1)) cx.1 cx.2.1 dX8_at_25 (by decide) ?_
    obtain ⟨e0, e1⟩ := hq0 _ _ (Option.some.inj hr).symm
    exact h_iret cx dy hlocks hret rfl e0 (by rw [e1]) dX8_at_26
  · refine lv_if_lt (tgt := 25) cx.1 cx.2.1 dX8_at_1 (by decide) (fun hn => absurd hn hc) (fun _ => ?_)
    refine lv_iload_n cx.1 cx.2.1 dX8_at_4 rfl (lv_at hl 1 rfl) ?_
    refine lv_aload_n cx.1 cx.2.1 dX8_at_5 rfl (lv_at hl 0 rfl) ?_
    obtain ⟨hv1, hr⟩ := of_grd hr
    refine h_getI cx fx dy fd_8_1 hv1 tb_85 dX8_at_6 ?_
    rcases of_brn hr with ⟨hc, hr⟩ | ⟨hc, hr⟩
    · refine lv_icmp_ge (tgt := 25) cx.1 cx.2.1 dX8_at_9 (by decide) (fun _ => ?_) (fun hn => absurd hc hn)
      refine lv_iconst (v := (-1)) cx.1 cx.2.1 dX8_at_25 (by decide) ?_
      obtain ⟨e0, e1⟩ := hq0 _ _ (Option.some.inj hr).symm
      exact h_iret cx dy hlocks hret rfl e0 (by rw [e1]) dX8_at_26
    · refine lv_icmp_ge (tgt := 25) cx.1 cx.2.1 dX8_at_9 (by decide) (fun hn => absurd hn hc) (fun _ => ?_)
      refine lv_aload_n cx.1 cx.2.1 dX8_at_12 rfl (lv_at hl 0 rfl) ?_
      obtain ⟨k2, hf3, hr⟩ := of_bnd hr
      refine h_getR cx fx dy fd_8_0 hv1 tb_84 hf3 dX8_at_13 ?_
      refine lv_iload_n cx.1 cx.2.1 dX8_at_16 rfl (lv_at hl 1 rfl) ?_
      obtain ⟨ha4, hr⟩ := of_grd hr
      refine h_bald cx fx dy ha4 dX8_at_17 ?_
      refine lv_sipush (v := 255) cx.1 cx.2.1 dX8_at_18 (by decide) ?_
      refine lv_iand cx.1 cx.2.1 dX8_at_21 ?_
      refine lv_goto (tgt := 26) cx.1 cx.2.1 dX8_at_22 (by decide) ?_
      obtain ⟨e0, e1⟩ := hq0 _ _ (Option.some.inj hr).symm
      exact h_iret cx dy hlocks hret rfl e0 (by rw [e1]) dX8_at_26
end
