section
-- ===== PART A: goes FIRST, ahead of the names: the tables' words, and 'selects' of the private methods out of them =====
/-- a private method of a class that the tables say can be made, by its rows of tables_1 -/
def lw_okq (q : MethodName × Nat) : Prop := (q.1.cls ≠ "java/lang/invoke/MethodHandle" ∧ q.1.cls ≠ "java/lang/invoke/VarHandle") ∧ Cond.instantiable q.1.cls q.2 ∈ tables_1 ∧ Cond.privateMethod q.1 ∈ tables_1 ∧ Cond.instanceMethod q.1 ∈ tables_1
theorem lw_p0 : lw_okq (⟨"SilenceMatch$Reader", "advance", "()V"⟩, 6) := ⟨⟨by decide +kernel, by decide +kernel⟩, List.mem_of_getElem? (i := 44) (by decide +kernel), List.mem_of_getElem? (i := 390) (by decide +kernel), List.mem_of_getElem? (i := 391) (by decide +kernel)⟩
theorem lw_p1 : lw_okq (⟨"SilenceMatch$Reader", "readLine", "(LSilenceMatch$Green;)V"⟩, 6) := ⟨⟨by decide +kernel, by decide +kernel⟩, List.mem_of_getElem? (i := 44) (by decide +kernel), List.mem_of_getElem? (i := 404) (by decide +kernel), List.mem_of_getElem? (i := 405) (by decide +kernel)⟩
theorem lw_p2 : lw_okq (⟨"SilenceMatch$Reader", "readHead", "(LSilenceMatch$Green;)V"⟩, 6) := ⟨⟨by decide +kernel, by decide +kernel⟩, List.mem_of_getElem? (i := 44) (by decide +kernel), List.mem_of_getElem? (i := 408) (by decide +kernel), List.mem_of_getElem? (i := 409) (by decide +kernel)⟩
theorem lw_p3 : lw_okq (⟨"SilenceMatch$Reader", "takeWord", "(Ljava/lang/String;)V"⟩, 6) := ⟨⟨by decide +kernel, by decide +kernel⟩, List.mem_of_getElem? (i := 44) (by decide +kernel), List.mem_of_getElem? (i := 413) (by decide +kernel), List.mem_of_getElem? (i := 414) (by decide +kernel)⟩
theorem lw_p4 : lw_okq (⟨"SilenceMatch$Reader", "isWord", "(Ljava/lang/String;)Z"⟩, 6) := ⟨⟨by decide +kernel, by decide +kernel⟩, List.mem_of_getElem? (i := 44) (by decide +kernel), List.mem_of_getElem? (i := 417) (by decide +kernel), List.mem_of_getElem? (i := 418) (by decide +kernel)⟩
theorem lw_p5 : lw_okq (⟨"SilenceMatch$Reader", "fail", "(I)V"⟩, 6) := ⟨⟨by decide +kernel, by decide +kernel⟩, List.mem_of_getElem? (i := 44) (by decide +kernel), List.mem_of_getElem? (i := 469) (by decide +kernel), List.mem_of_getElem? (i := 470) (by decide +kernel)⟩
theorem lw_p6 : lw_okq (⟨"SilenceMatch$Reader", "takeNumber", "(Ljava/lang/String;II)I"⟩, 6) := ⟨⟨by decide +kernel, by decide +kernel⟩, List.mem_of_getElem? (i := 44) (by decide +kernel), List.mem_of_getElem? (i := 474) (by decide +kernel), List.mem_of_getElem? (i := 475) (by decide +kernel)⟩
theorem lw_p7 : lw_okq (⟨"SilenceMatch$Reader", "takeValue", "(III)I"⟩, 6) := ⟨⟨by decide +kernel, by decide +kernel⟩, List.mem_of_getElem? (i := 44) (by decide +kernel), List.mem_of_getElem? (i := 478) (by decide +kernel), List.mem_of_getElem? (i := 479) (by decide +kernel)⟩
theorem lw_p8 : lw_okq (⟨"SilenceMatch$Reader", "valueOf", "()I"⟩, 6) := ⟨⟨by decide +kernel, by decide +kernel⟩, List.mem_of_getElem? (i := 44) (by decide +kernel), List.mem_of_getElem? (i := 482) (by decide +kernel), List.mem_of_getElem? (i := 483) (by decide +kernel)⟩
theorem lw_p9 : lw_okq (⟨"SilenceMatch$Reader", "readPlayer", "(LSilenceMatch$Green;)V"⟩, 6) := ⟨⟨by decide +kernel, by decide +kernel⟩, List.mem_of_getElem? (i := 44) (by decide +kernel), List.mem_of_getElem? (i := 494) (by decide +kernel), List.mem_of_getElem? (i := 495) (by decide +kernel)⟩
theorem lw_p10 : lw_okq (⟨"SilenceMatch$Reader", "hasRoom", "(II)Z"⟩, 6) := ⟨⟨by decide +kernel, by decide +kernel⟩, List.mem_of_getElem? (i := 44) (by decide +kernel), List.mem_of_getElem? (i := 498) (by decide +kernel), List.mem_of_getElem? (i := 499) (by decide +kernel)⟩
theorem lw_p11 : lw_okq (⟨"SilenceMatch$Reader", "readUmpire", "(LSilenceMatch$Green;)V"⟩, 6) := ⟨⟨by decide +kernel, by decide +kernel⟩, List.mem_of_getElem? (i := 44) (by decide +kernel), List.mem_of_getElem? (i := 511) (by decide +kernel), List.mem_of_getElem? (i := 512) (by decide +kernel)⟩
theorem lw_p12 : lw_okq (⟨"SilenceMatch$Reader", "readWind", "(LSilenceMatch$Green;)V"⟩, 6) := ⟨⟨by decide +kernel, by decide +kernel⟩, List.mem_of_getElem? (i := 44) (by decide +kernel), List.mem_of_getElem? (i := 517) (by decide +kernel), List.mem_of_getElem? (i := 518) (by decide +kernel)⟩
theorem lw_p13 : lw_okq (⟨"SilenceMatch$Reader", "readFriends", "(LSilenceMatch$Green;)V"⟩, 6) := ⟨⟨by decide +kernel, by decide +kernel⟩, List.mem_of_getElem? (i := 44) (by decide +kernel), List.mem_of_getElem? (i := 524) (by decide +kernel), List.mem_of_getElem? (i := 525) (by decide +kernel)⟩
theorem lw_p14 : lw_okq (⟨"SilenceMatch$Reader", "takeSign", "()V"⟩, 6) := ⟨⟨by decide +kernel, by decide +kernel⟩, List.mem_of_getElem? (i := 44) (by decide +kernel), List.mem_of_getElem? (i := 528) (by decide +kernel), List.mem_of_getElem? (i := 529) (by decide +kernel)⟩
theorem lw_p15 : lw_okq (⟨"SilenceMatch", "isMinute", "(I)Z"⟩, 13) := ⟨⟨by decide +kernel, by decide +kernel⟩, List.mem_of_getElem? (i := 20) (by decide +kernel), List.mem_of_getElem? (i := 622) (by decide +kernel), List.mem_of_getElem? (i := 623) (by decide +kernel)⟩
def lw_privs_1 : List (MethodName × Nat) := [(⟨"SilenceMatch$Reader", "advance", "()V"⟩, 6), (⟨"SilenceMatch$Reader", "readLine", "(LSilenceMatch$Green;)V"⟩, 6), (⟨"SilenceMatch$Reader", "readHead", "(LSilenceMatch$Green;)V"⟩, 6), (⟨"SilenceMatch$Reader", "takeWord", "(Ljava/lang/String;)V"⟩, 6), (⟨"SilenceMatch$Reader", "isWord", "(Ljava/lang/String;)Z"⟩, 6), (⟨"SilenceMatch$Reader", "fail", "(I)V"⟩, 6), (⟨"SilenceMatch$Reader", "takeNumber", "(Ljava/lang/String;II)I"⟩, 6), (⟨"SilenceMatch$Reader", "takeValue", "(III)I"⟩, 6), (⟨"SilenceMatch$Reader", "valueOf", "()I"⟩, 6), (⟨"SilenceMatch$Reader", "readPlayer", "(LSilenceMatch$Green;)V"⟩, 6), (⟨"SilenceMatch$Reader", "hasRoom", "(II)Z"⟩, 6), (⟨"SilenceMatch$Reader", "readUmpire", "(LSilenceMatch$Green;)V"⟩, 6), (⟨"SilenceMatch$Reader", "readWind", "(LSilenceMatch$Green;)V"⟩, 6), (⟨"SilenceMatch$Reader", "readFriends", "(LSilenceMatch$Green;)V"⟩, 6), (⟨"SilenceMatch$Reader", "takeSign", "()V"⟩, 6), (⟨"SilenceMatch", "isMinute", "(I)Z"⟩, 13)]
theorem lw_r1 : ∀ q ∈ lw_privs_1, lw_okq q := List.forall_mem_cons.mpr ⟨lw_p0, List.forall_mem_cons.mpr ⟨lw_p1, List.forall_mem_cons.mpr ⟨lw_p2, List.forall_mem_cons.mpr ⟨lw_p3, List.forall_mem_cons.mpr ⟨lw_p4, List.forall_mem_cons.mpr ⟨lw_p5, List.forall_mem_cons.mpr ⟨lw_p6, List.forall_mem_cons.mpr ⟨lw_p7, List.forall_mem_cons.mpr ⟨lw_p8, List.forall_mem_cons.mpr ⟨lw_p9, List.forall_mem_cons.mpr ⟨lw_p10, List.forall_mem_cons.mpr ⟨lw_p11, List.forall_mem_cons.mpr ⟨lw_p12, List.forall_mem_cons.mpr ⟨lw_p13, List.forall_mem_cons.mpr ⟨lw_p14, List.forall_mem_cons.mpr ⟨lw_p15, fun _ h => absurd h List.not_mem_nil⟩⟩⟩⟩⟩⟩⟩⟩⟩⟩⟩⟩⟩⟩⟩⟩
theorem lw_p16 : lw_okq (⟨"SilenceMatch$Match", "run", "(LSilenceMatch$Green;I)V"⟩, 9) := ⟨⟨by decide +kernel, by decide +kernel⟩, List.mem_of_getElem? (i := 210) (by decide +kernel), List.mem_of_getElem? (i := 646) (by decide +kernel), List.mem_of_getElem? (i := 647) (by decide +kernel)⟩
theorem lw_p17 : lw_okq (⟨"SilenceMatch$Match", "heardCoughers", "(LSilenceMatch$Green;)I"⟩, 9) := ⟨⟨by decide +kernel, by decide +kernel⟩, List.mem_of_getElem? (i := 210) (by decide +kernel), List.mem_of_getElem? (i := 650) (by decide +kernel), List.mem_of_getElem? (i := 651) (by decide +kernel)⟩
theorem lw_p18 : lw_okq (⟨"SilenceMatch$Match", "heardLaughers", "(LSilenceMatch$Green;)I"⟩, 9) := ⟨⟨by decide +kernel, by decide +kernel⟩, List.mem_of_getElem? (i := 210) (by decide +kernel), List.mem_of_getElem? (i := 655) (by decide +kernel), List.mem_of_getElem? (i := 656) (by decide +kernel)⟩
theorem lw_p19 : lw_okq (⟨"SilenceMatch$Draws", "next", "()J"⟩, 4) := ⟨⟨by decide +kernel, by decide +kernel⟩, List.mem_of_getElem? (i := 216) (by decide +kernel), List.mem_of_getElem? (i := 666) (by decide +kernel), List.mem_of_getElem? (i := 667) (by decide +kernel)⟩
theorem lw_p20 : lw_okq (⟨"SilenceMatch", "isSide", "(I)Z"⟩, 13) := ⟨⟨by decide +kernel, by decide +kernel⟩, List.mem_of_getElem? (i := 20) (by decide +kernel), List.mem_of_getElem? (i := 713) (by decide +kernel), List.mem_of_getElem? (i := 714) (by decide +kernel)⟩
theorem lw_p21 : lw_okq (⟨"SilenceMatch", "winner", "()I"⟩, 13) := ⟨⟨by decide +kernel, by decide +kernel⟩, List.mem_of_getElem? (i := 20) (by decide +kernel), List.mem_of_getElem? (i := 735) (by decide +kernel), List.mem_of_getElem? (i := 736) (by decide +kernel)⟩
theorem lw_p22 : lw_okq (⟨"SilenceMatch", "outsWithout", "(II)I"⟩, 13) := ⟨⟨by decide +kernel, by decide +kernel⟩, List.mem_of_getElem? (i := 20) (by decide +kernel), List.mem_of_getElem? (i := 779) (by decide +kernel), List.mem_of_getElem? (i := 780) (by decide +kernel)⟩
theorem lw_p23 : lw_okq (⟨"SilenceMatch", "leadSwapped", "(II)I"⟩, 13) := ⟨⟨by decide +kernel, by decide +kernel⟩, List.mem_of_getElem? (i := 20) (by decide +kernel), List.mem_of_getElem? (i := 800) (by decide +kernel), List.mem_of_getElem? (i := 801) (by decide +kernel)⟩
theorem lw_p24 : lw_okq (⟨"SilenceMatch", "playMoved", "(II)V"⟩, 13) := ⟨⟨by decide +kernel, by decide +kernel⟩, List.mem_of_getElem? (i := 20) (by decide +kernel), List.mem_of_getElem? (i := 808) (by decide +kernel), List.mem_of_getElem? (i := 809) (by decide +kernel)⟩
theorem lw_p25 : lw_okq (⟨"SilenceMatch", "latestCell", "(I)I"⟩, 13) := ⟨⟨by decide +kernel, by decide +kernel⟩, List.mem_of_getElem? (i := 20) (by decide +kernel), List.mem_of_getElem? (i := 816) (by decide +kernel), List.mem_of_getElem? (i := 817) (by decide +kernel)⟩
theorem lw_p26 : lw_okq (⟨"SilenceMatch", "bestCell", "(I)I"⟩, 13) := ⟨⟨by decide +kernel, by decide +kernel⟩, List.mem_of_getElem? (i := 20) (by decide +kernel), List.mem_of_getElem? (i := 828) (by decide +kernel), List.mem_of_getElem? (i := 829) (by decide +kernel)⟩
theorem lw_p27 : lw_okq (⟨"SilenceMatch", "evenRest", "()I"⟩, 13) := ⟨⟨by decide +kernel, by decide +kernel⟩, List.mem_of_getElem? (i := 20) (by decide +kernel), List.mem_of_getElem? (i := 844) (by decide +kernel), List.mem_of_getElem? (i := 845) (by decide +kernel)⟩
theorem lw_p28 : lw_okq (⟨"SilenceMatch", "isEvenWithout", "(I)Z"⟩, 13) := ⟨⟨by decide +kernel, by decide +kernel⟩, List.mem_of_getElem? (i := 20) (by decide +kernel), List.mem_of_getElem? (i := 848) (by decide +kernel), List.mem_of_getElem? (i := 849) (by decide +kernel)⟩
theorem lw_p29 : lw_okq (⟨"SilenceMatch", "areCoverTerms", "(II)Z"⟩, 13) := ⟨⟨by decide +kernel, by decide +kernel⟩, List.mem_of_getElem? (i := 20) (by decide +kernel), List.mem_of_getElem? (i := 868) (by decide +kernel), List.mem_of_getElem? (i := 869) (by decide +kernel)⟩
theorem lw_p30 : lw_okq (⟨"SilenceMatch$Cover", "choose", "(IIII)V"⟩, 5) := ⟨⟨by decide +kernel, by decide +kernel⟩, List.mem_of_getElem? (i := 269) (by decide +kernel), List.mem_of_getElem? (i := 884) (by decide +kernel), List.mem_of_getElem? (i := 885) (by decide +kernel)⟩
theorem lw_p31 : lw_okq (⟨"SilenceMatch", "leastCut", "(II)I"⟩, 13) := ⟨⟨by decide +kernel, by decide +kernel⟩, List.mem_of_getElem? (i := 20) (by decide +kernel), List.mem_of_getElem? (i := 921) (by decide +kernel), List.mem_of_getElem? (i := 922) (by decide +kernel)⟩
def lw_privs_2 : List (MethodName × Nat) := [(⟨"SilenceMatch$Match", "run", "(LSilenceMatch$Green;I)V"⟩, 9), (⟨"SilenceMatch$Match", "heardCoughers", "(LSilenceMatch$Green;)I"⟩, 9), (⟨"SilenceMatch$Match", "heardLaughers", "(LSilenceMatch$Green;)I"⟩, 9), (⟨"SilenceMatch$Draws", "next", "()J"⟩, 4), (⟨"SilenceMatch", "isSide", "(I)Z"⟩, 13), (⟨"SilenceMatch", "winner", "()I"⟩, 13), (⟨"SilenceMatch", "outsWithout", "(II)I"⟩, 13), (⟨"SilenceMatch", "leadSwapped", "(II)I"⟩, 13), (⟨"SilenceMatch", "playMoved", "(II)V"⟩, 13), (⟨"SilenceMatch", "latestCell", "(I)I"⟩, 13), (⟨"SilenceMatch", "bestCell", "(I)I"⟩, 13), (⟨"SilenceMatch", "evenRest", "()I"⟩, 13), (⟨"SilenceMatch", "isEvenWithout", "(I)Z"⟩, 13), (⟨"SilenceMatch", "areCoverTerms", "(II)Z"⟩, 13), (⟨"SilenceMatch$Cover", "choose", "(IIII)V"⟩, 5), (⟨"SilenceMatch", "leastCut", "(II)I"⟩, 13)]
theorem lw_r2 : ∀ q ∈ lw_privs_2, lw_okq q := List.forall_mem_cons.mpr ⟨lw_p16, List.forall_mem_cons.mpr ⟨lw_p17, List.forall_mem_cons.mpr ⟨lw_p18, List.forall_mem_cons.mpr ⟨lw_p19, List.forall_mem_cons.mpr ⟨lw_p20, List.forall_mem_cons.mpr ⟨lw_p21, List.forall_mem_cons.mpr ⟨lw_p22, List.forall_mem_cons.mpr ⟨lw_p23, List.forall_mem_cons.mpr ⟨lw_p24, List.forall_mem_cons.mpr ⟨lw_p25, List.forall_mem_cons.mpr ⟨lw_p26, List.forall_mem_cons.mpr ⟨lw_p27, List.forall_mem_cons.mpr ⟨lw_p28, List.forall_mem_cons.mpr ⟨lw_p29, List.forall_mem_cons.mpr ⟨lw_p30, List.forall_mem_cons.mpr ⟨lw_p31, fun _ h => absurd h List.not_mem_nil⟩⟩⟩⟩⟩⟩⟩⟩⟩⟩⟩⟩⟩⟩⟩⟩
theorem lw_p32 : lw_okq (⟨"SilenceMatch", "listen", "(I)I"⟩, 13) := ⟨⟨by decide +kernel, by decide +kernel⟩, List.mem_of_getElem? (i := 20) (by decide +kernel), List.mem_of_getElem? (i := 933) (by decide +kernel), List.mem_of_getElem? (i := 934) (by decide +kernel)⟩
theorem lw_p33 : lw_okq (⟨"SilenceMatch", "danger", "(I)I"⟩, 13) := ⟨⟨by decide +kernel, by decide +kernel⟩, List.mem_of_getElem? (i := 20) (by decide +kernel), List.mem_of_getElem? (i := 1011) (by decide +kernel), List.mem_of_getElem? (i := 1012) (by decide +kernel)⟩
theorem lw_p34 : lw_okq (⟨"SilenceMatch", "isLikely", "(II)Z"⟩, 13) := ⟨⟨by decide +kernel, by decide +kernel⟩, List.mem_of_getElem? (i := 20) (by decide +kernel), List.mem_of_getElem? (i := 1020) (by decide +kernel), List.mem_of_getElem? (i := 1021) (by decide +kernel)⟩
theorem lw_p35 : lw_okq (⟨"SilenceMatch", "filledSlots", "()I"⟩, 13) := ⟨⟨by decide +kernel, by decide +kernel⟩, List.mem_of_getElem? (i := 20) (by decide +kernel), List.mem_of_getElem? (i := 1074) (by decide +kernel), List.mem_of_getElem? (i := 1075) (by decide +kernel)⟩
theorem lw_p36 : lw_okq (⟨"SilenceMatchModel", "advance", "()V"⟩, 38) := ⟨⟨by decide +kernel, by decide +kernel⟩, List.mem_of_getElem? (i := 1119) (by decide +kernel), List.mem_of_getElem? (i := 1267) (by decide +kernel), List.mem_of_getElem? (i := 1268) (by decide +kernel)⟩
theorem lw_p37 : lw_okq (⟨"SilenceMatchModel", "see", "(I)I"⟩, 38) := ⟨⟨by decide +kernel, by decide +kernel⟩, List.mem_of_getElem? (i := 1119) (by decide +kernel), List.mem_of_getElem? (i := 1271) (by decide +kernel), List.mem_of_getElem? (i := 1272) (by decide +kernel)⟩
theorem lw_p38 : lw_okq (⟨"SilenceMatchModel", "good", "()Z"⟩, 38) := ⟨⟨by decide +kernel, by decide +kernel⟩, List.mem_of_getElem? (i := 1119) (by decide +kernel), List.mem_of_getElem? (i := 1281) (by decide +kernel), List.mem_of_getElem? (i := 1282) (by decide +kernel)⟩
theorem lw_p39 : lw_okq (⟨"SilenceMatchModel", "readLine", "()V"⟩, 38) := ⟨⟨by decide +kernel, by decide +kernel⟩, List.mem_of_getElem? (i := 1119) (by decide +kernel), List.mem_of_getElem? (i := 1285) (by decide +kernel), List.mem_of_getElem? (i := 1286) (by decide +kernel)⟩
theorem lw_p40 : lw_okq (⟨"SilenceMatchModel", "readFirst", "()V"⟩, 38) := ⟨⟨by decide +kernel, by decide +kernel⟩, List.mem_of_getElem? (i := 1119) (by decide +kernel), List.mem_of_getElem? (i := 1289) (by decide +kernel), List.mem_of_getElem? (i := 1290) (by decide +kernel)⟩
theorem lw_p41 : lw_okq (⟨"SilenceMatchModel", "needs", "(Ljava/lang/String;)V"⟩, 38) := ⟨⟨by decide +kernel, by decide +kernel⟩, List.mem_of_getElem? (i := 1119) (by decide +kernel), List.mem_of_getElem? (i := 1294) (by decide +kernel), List.mem_of_getElem? (i := 1295) (by decide +kernel)⟩
theorem lw_p42 : lw_okq (⟨"SilenceMatchModel", "takes", "(Ljava/lang/String;)Z"⟩, 38) := ⟨⟨by decide +kernel, by decide +kernel⟩, List.mem_of_getElem? (i := 1119) (by decide +kernel), List.mem_of_getElem? (i := 1298) (by decide +kernel), List.mem_of_getElem? (i := 1299) (by decide +kernel)⟩
theorem lw_p43 : lw_okq (⟨"SilenceMatchModel", "is", "(Ljava/lang/String;)Z"⟩, 38) := ⟨⟨by decide +kernel, by decide +kernel⟩, List.mem_of_getElem? (i := 1119) (by decide +kernel), List.mem_of_getElem? (i := 1302) (by decide +kernel), List.mem_of_getElem? (i := 1303) (by decide +kernel)⟩
theorem lw_p44 : lw_okq (⟨"SilenceMatchModel", "errs", "(I)V"⟩, 38) := ⟨⟨by decide +kernel, by decide +kernel⟩, List.mem_of_getElem? (i := 1119) (by decide +kernel), List.mem_of_getElem? (i := 1308) (by decide +kernel), List.mem_of_getElem? (i := 1309) (by decide +kernel)⟩
theorem lw_p45 : lw_okq (⟨"SilenceMatchModel", "told", "(Ljava/lang/String;II)I"⟩, 38) := ⟨⟨by decide +kernel, by decide +kernel⟩, List.mem_of_getElem? (i := 1119) (by decide +kernel), List.mem_of_getElem? (i := 1313) (by decide +kernel), List.mem_of_getElem? (i := 1314) (by decide +kernel)⟩
theorem lw_p46 : lw_okq (⟨"SilenceMatchModel", "number", "(II)I"⟩, 38) := ⟨⟨by decide +kernel, by decide +kernel⟩, List.mem_of_getElem? (i := 1119) (by decide +kernel), List.mem_of_getElem? (i := 1317) (by decide +kernel), List.mem_of_getElem? (i := 1318) (by decide +kernel)⟩
theorem lw_p47 : lw_okq (⟨"SilenceMatchModel", "readNext", "()V"⟩, 38) := ⟨⟨by decide +kernel, by decide +kernel⟩, List.mem_of_getElem? (i := 1119) (by decide +kernel), List.mem_of_getElem? (i := 1325) (by decide +kernel), List.mem_of_getElem? (i := 1326) (by decide +kernel)⟩
def lw_privs_3 : List (MethodName × Nat) := [(⟨"SilenceMatch", "listen", "(I)I"⟩, 13), (⟨"SilenceMatch", "danger", "(I)I"⟩, 13), (⟨"SilenceMatch", "isLikely", "(II)Z"⟩, 13), (⟨"SilenceMatch", "filledSlots", "()I"⟩, 13), (⟨"SilenceMatchModel", "advance", "()V"⟩, 38), (⟨"SilenceMatchModel", "see", "(I)I"⟩, 38), (⟨"SilenceMatchModel", "good", "()Z"⟩, 38), (⟨"SilenceMatchModel", "readLine", "()V"⟩, 38), (⟨"SilenceMatchModel", "readFirst", "()V"⟩, 38), (⟨"SilenceMatchModel", "needs", "(Ljava/lang/String;)V"⟩, 38), (⟨"SilenceMatchModel", "takes", "(Ljava/lang/String;)Z"⟩, 38), (⟨"SilenceMatchModel", "is", "(Ljava/lang/String;)Z"⟩, 38), (⟨"SilenceMatchModel", "errs", "(I)V"⟩, 38), (⟨"SilenceMatchModel", "told", "(Ljava/lang/String;II)I"⟩, 38), (⟨"SilenceMatchModel", "number", "(II)I"⟩, 38), (⟨"SilenceMatchModel", "readNext", "()V"⟩, 38)]
theorem lw_r3 : ∀ q ∈ lw_privs_3, lw_okq q := List.forall_mem_cons.mpr ⟨lw_p32, List.forall_mem_cons.mpr ⟨lw_p33, List.forall_mem_cons.mpr ⟨lw_p34, List.forall_mem_cons.mpr ⟨lw_p35, List.forall_mem_cons.mpr ⟨lw_p36, List.forall_mem_cons.mpr ⟨lw_p37, List.forall_mem_cons.mpr ⟨lw_p38, List.forall_mem_cons.mpr ⟨lw_p39, List.forall_mem_cons.mpr ⟨lw_p40, List.forall_mem_cons.mpr ⟨lw_p41, List.forall_mem_cons.mpr ⟨lw_p42, List.forall_mem_cons.mpr ⟨lw_p43, List.forall_mem_cons.mpr ⟨lw_p44, List.forall_mem_cons.mpr ⟨lw_p45, List.forall_mem_cons.mpr ⟨lw_p46, List.forall_mem_cons.mpr ⟨lw_p47, fun _ h => absurd h List.not_mem_nil⟩⟩⟩⟩⟩⟩⟩⟩⟩⟩⟩⟩⟩⟩⟩⟩
theorem lw_p48 : lw_okq (⟨"SilenceMatchModel", "readPlayer", "()V"⟩, 38) := ⟨⟨by decide +kernel, by decide +kernel⟩, List.mem_of_getElem? (i := 1119) (by decide +kernel), List.mem_of_getElem? (i := 1333) (by decide +kernel), List.mem_of_getElem? (i := 1334) (by decide +kernel)⟩
theorem lw_p49 : lw_okq (⟨"SilenceMatchModel", "freshCell", "()I"⟩, 38) := ⟨⟨by decide +kernel, by decide +kernel⟩, List.mem_of_getElem? (i := 1119) (by decide +kernel), List.mem_of_getElem? (i := 1338) (by decide +kernel), List.mem_of_getElem? (i := 1339) (by decide +kernel)⟩
theorem lw_p50 : lw_okq (⟨"SilenceMatchModel", "readFriends", "()V"⟩, 38) := ⟨⟨by decide +kernel, by decide +kernel⟩, List.mem_of_getElem? (i := 1119) (by decide +kernel), List.mem_of_getElem? (i := 1348) (by decide +kernel), List.mem_of_getElem? (i := 1349) (by decide +kernel)⟩
theorem lw_p51 : lw_okq (⟨"SilenceMatchModel", "isUmpire", "(J)Z"⟩, 38) := ⟨⟨by decide +kernel, by decide +kernel⟩, List.mem_of_getElem? (i := 1119) (by decide +kernel), List.mem_of_getElem? (i := 1356) (by decide +kernel), List.mem_of_getElem? (i := 1357) (by decide +kernel)⟩
theorem lw_p52 : lw_okq (⟨"SilenceMatchModel", "isCell", "(I)Z"⟩, 38) := ⟨⟨by decide +kernel, by decide +kernel⟩, List.mem_of_getElem? (i := 1119) (by decide +kernel), List.mem_of_getElem? (i := 1364) (by decide +kernel), List.mem_of_getElem? (i := 1365) (by decide +kernel)⟩
theorem lw_p53 : lw_okq (⟨"SilenceMatchModel", "cellMany", "()I"⟩, 38) := ⟨⟨by decide +kernel, by decide +kernel⟩, List.mem_of_getElem? (i := 1119) (by decide +kernel), List.mem_of_getElem? (i := 1368) (by decide +kernel), List.mem_of_getElem? (i := 1369) (by decide +kernel)⟩
theorem lw_p54 : lw_okq (⟨"SilenceMatchModel", "farOf", "(II)I"⟩, 38) := ⟨⟨by decide +kernel, by decide +kernel⟩, List.mem_of_getElem? (i := 1119) (by decide +kernel), List.mem_of_getElem? (i := 1372) (by decide +kernel), List.mem_of_getElem? (i := 1373) (by decide +kernel)⟩
theorem lw_p55 : lw_okq (⟨"SilenceMatchModel", "isGreen", "()Z"⟩, 38) := ⟨⟨by decide +kernel, by decide +kernel⟩, List.mem_of_getElem? (i := 1119) (by decide +kernel), List.mem_of_getElem? (i := 1383) (by decide +kernel), List.mem_of_getElem? (i := 1384) (by decide +kernel)⟩
theorem lw_p56 : lw_okq (⟨"SilenceMatchModel", "blows", "(I)Z"⟩, 38) := ⟨⟨by decide +kernel, by decide +kernel⟩, List.mem_of_getElem? (i := 1119) (by decide +kernel), List.mem_of_getElem? (i := 1388) (by decide +kernel), List.mem_of_getElem? (i := 1389) (by decide +kernel)⟩
theorem lw_p57 : lw_okq (⟨"SilenceMatchModel", "isLoud", "(II)Z"⟩, 38) := ⟨⟨by decide +kernel, by decide +kernel⟩, List.mem_of_getElem? (i := 1119) (by decide +kernel), List.mem_of_getElem? (i := 1396) (by decide +kernel), List.mem_of_getElem? (i := 1397) (by decide +kernel)⟩
theorem lw_p58 : lw_okq (⟨"SilenceMatchModel", "earsOf", "(II)I"⟩, 38) := ⟨⟨by decide +kernel, by decide +kernel⟩, List.mem_of_getElem? (i := 1119) (by decide +kernel), List.mem_of_getElem? (i := 1401) (by decide +kernel), List.mem_of_getElem? (i := 1402) (by decide +kernel)⟩
theorem lw_p59 : lw_okq (⟨"SilenceMatchModel", "deadOf", "(I)I"⟩, 38) := ⟨⟨by decide +kernel, by decide +kernel⟩, List.mem_of_getElem? (i := 1119) (by decide +kernel), List.mem_of_getElem? (i := 1409) (by decide +kernel), List.mem_of_getElem? (i := 1410) (by decide +kernel)⟩
theorem lw_p60 : lw_okq (⟨"SilenceMatchModel", "asksPlayer", "(I)Z"⟩, 38) := ⟨⟨by decide +kernel, by decide +kernel⟩, List.mem_of_getElem? (i := 1119) (by decide +kernel), List.mem_of_getElem? (i := 1421) (by decide +kernel), List.mem_of_getElem? (i := 1422) (by decide +kernel)⟩
theorem lw_p61 : lw_okq (⟨"SilenceMatchModel", "asksGreen", "()Z"⟩, 38) := ⟨⟨by decide +kernel, by decide +kernel⟩, List.mem_of_getElem? (i := 1119) (by decide +kernel), List.mem_of_getElem? (i := 1425) (by decide +kernel), List.mem_of_getElem? (i := 1426) (by decide +kernel)⟩
theorem lw_p62 : lw_okq (⟨"SilenceMatchModel", "asItIs", "()V"⟩, 38) := ⟨⟨by decide +kernel, by decide +kernel⟩, List.mem_of_getElem? (i := 1119) (by decide +kernel), List.mem_of_getElem? (i := 1429) (by decide +kernel), List.mem_of_getElem? (i := 1430) (by decide +kernel)⟩
theorem lw_p63 : lw_okq (⟨"SilenceMatchModel", "of", "(II)I"⟩, 38) := ⟨⟨by decide +kernel, by decide +kernel⟩, List.mem_of_getElem? (i := 1119) (by decide +kernel), List.mem_of_getElem? (i := 1433) (by decide +kernel), List.mem_of_getElem? (i := 1434) (by decide +kernel)⟩
def lw_privs_4 : List (MethodName × Nat) := [(⟨"SilenceMatchModel", "readPlayer", "()V"⟩, 38), (⟨"SilenceMatchModel", "freshCell", "()I"⟩, 38), (⟨"SilenceMatchModel", "readFriends", "()V"⟩, 38), (⟨"SilenceMatchModel", "isUmpire", "(J)Z"⟩, 38), (⟨"SilenceMatchModel", "isCell", "(I)Z"⟩, 38), (⟨"SilenceMatchModel", "cellMany", "()I"⟩, 38), (⟨"SilenceMatchModel", "farOf", "(II)I"⟩, 38), (⟨"SilenceMatchModel", "isGreen", "()Z"⟩, 38), (⟨"SilenceMatchModel", "blows", "(I)Z"⟩, 38), (⟨"SilenceMatchModel", "isLoud", "(II)Z"⟩, 38), (⟨"SilenceMatchModel", "earsOf", "(II)I"⟩, 38), (⟨"SilenceMatchModel", "deadOf", "(I)I"⟩, 38), (⟨"SilenceMatchModel", "asksPlayer", "(I)Z"⟩, 38), (⟨"SilenceMatchModel", "asksGreen", "()Z"⟩, 38), (⟨"SilenceMatchModel", "asItIs", "()V"⟩, 38), (⟨"SilenceMatchModel", "of", "(II)I"⟩, 38)]
theorem lw_r4 : ∀ q ∈ lw_privs_4, lw_okq q := List.forall_mem_cons.mpr ⟨lw_p48, List.forall_mem_cons.mpr ⟨lw_p49, List.forall_mem_cons.mpr ⟨lw_p50, List.forall_mem_cons.mpr ⟨lw_p51, List.forall_mem_cons.mpr ⟨lw_p52, List.forall_mem_cons.mpr ⟨lw_p53, List.forall_mem_cons.mpr ⟨lw_p54, List.forall_mem_cons.mpr ⟨lw_p55, List.forall_mem_cons.mpr ⟨lw_p56, List.forall_mem_cons.mpr ⟨lw_p57, List.forall_mem_cons.mpr ⟨lw_p58, List.forall_mem_cons.mpr ⟨lw_p59, List.forall_mem_cons.mpr ⟨lw_p60, List.forall_mem_cons.mpr ⟨lw_p61, List.forall_mem_cons.mpr ⟨lw_p62, List.forall_mem_cons.mpr ⟨lw_p63, fun _ h => absurd h List.not_mem_nil⟩⟩⟩⟩⟩⟩⟩⟩⟩⟩⟩⟩⟩⟩⟩⟩
theorem lw_p64 : lw_okq (⟨"SilenceMatchModel", "goMatch", "()V"⟩, 38) := ⟨⟨by decide +kernel, by decide +kernel⟩, List.mem_of_getElem? (i := 1119) (by decide +kernel), List.mem_of_getElem? (i := 1437) (by decide +kernel), List.mem_of_getElem? (i := 1438) (by decide +kernel)⟩
theorem lw_p65 : lw_okq (⟨"SilenceMatchModel", "goMinute", "(I)V"⟩, 38) := ⟨⟨by decide +kernel, by decide +kernel⟩, List.mem_of_getElem? (i := 1119) (by decide +kernel), List.mem_of_getElem? (i := 1441) (by decide +kernel), List.mem_of_getElem? (i := 1442) (by decide +kernel)⟩
theorem lw_p66 : lw_okq (⟨"SilenceMatchModel", "isIn", "(II)Z"⟩, 38) := ⟨⟨by decide +kernel, by decide +kernel⟩, List.mem_of_getElem? (i := 1119) (by decide +kernel), List.mem_of_getElem? (i := 1445) (by decide +kernel), List.mem_of_getElem? (i := 1446) (by decide +kernel)⟩
theorem lw_p67 : lw_okq (⟨"SilenceMatchModel", "doesCough", "(II)Z"⟩, 38) := ⟨⟨by decide +kernel, by decide +kernel⟩, List.mem_of_getElem? (i := 1119) (by decide +kernel), List.mem_of_getElem? (i := 1452) (by decide +kernel), List.mem_of_getElem? (i := 1453) (by decide +kernel)⟩
theorem lw_p68 : lw_okq (⟨"SilenceMatchModel", "isCough", "(II)Z"⟩, 38) := ⟨⟨by decide +kernel, by decide +kernel⟩, List.mem_of_getElem? (i := 1119) (by decide +kernel), List.mem_of_getElem? (i := 1456) (by decide +kernel), List.mem_of_getElem? (i := 1457) (by decide +kernel)⟩
theorem lw_p69 : lw_okq (⟨"SilenceMatchModel", "doesLaugh", "(II)Z"⟩, 38) := ⟨⟨by decide +kernel, by decide +kernel⟩, List.mem_of_getElem? (i := 1119) (by decide +kernel), List.mem_of_getElem? (i := 1465) (by decide +kernel), List.mem_of_getElem? (i := 1466) (by decide +kernel)⟩
theorem lw_p70 : lw_okq (⟨"SilenceMatchModel", "friendOf", "(II)I"⟩, 38) := ⟨⟨by decide +kernel, by decide +kernel⟩, List.mem_of_getElem? (i := 1119) (by decide +kernel), List.mem_of_getElem? (i := 1469) (by decide +kernel), List.mem_of_getElem? (i := 1470) (by decide +kernel)⟩
theorem lw_p71 : lw_okq (⟨"SilenceMatchModel", "isPlayer", "(I)Z"⟩, 38) := ⟨⟨by decide +kernel, by decide +kernel⟩, List.mem_of_getElem? (i := 1119) (by decide +kernel), List.mem_of_getElem? (i := 1473) (by decide +kernel), List.mem_of_getElem? (i := 1474) (by decide +kernel)⟩
theorem lw_p72 : lw_okq (⟨"SilenceMatchModel", "friendsOf", "(I)I"⟩, 38) := ⟨⟨by decide +kernel, by decide +kernel⟩, List.mem_of_getElem? (i := 1119) (by decide +kernel), List.mem_of_getElem? (i := 1478) (by decide +kernel), List.mem_of_getElem? (i := 1479) (by decide +kernel)⟩
theorem lw_p73 : lw_okq (⟨"SilenceMatchModel", "asksMinute", "(II)Z"⟩, 38) := ⟨⟨by decide +kernel, by decide +kernel⟩, List.mem_of_getElem? (i := 1119) (by decide +kernel), List.mem_of_getElem? (i := 1486) (by decide +kernel), List.mem_of_getElem? (i := 1487) (by decide +kernel)⟩
theorem lw_p74 : lw_okq (⟨"SilenceMatchModel", "outsIn", "(I)I"⟩, 38) := ⟨⟨by decide +kernel, by decide +kernel⟩, List.mem_of_getElem? (i := 1119) (by decide +kernel), List.mem_of_getElem? (i := 1502) (by decide +kernel), List.mem_of_getElem? (i := 1503) (by decide +kernel)⟩
theorem lw_p75 : lw_okq (⟨"SilenceMatchModel", "laughsIn", "(I)I"⟩, 38) := ⟨⟨by decide +kernel, by decide +kernel⟩, List.mem_of_getElem? (i := 1119) (by decide +kernel), List.mem_of_getElem? (i := 1510) (by decide +kernel), List.mem_of_getElem? (i := 1511) (by decide +kernel)⟩
theorem lw_p76 : lw_okq (⟨"SilenceMatchModel", "scoreOf", "(II)I"⟩, 38) := ⟨⟨by decide +kernel, by decide +kernel⟩, List.mem_of_getElem? (i := 1119) (by decide +kernel), List.mem_of_getElem? (i := 1529) (by decide +kernel), List.mem_of_getElem? (i := 1530) (by decide +kernel)⟩
theorem lw_p77 : lw_okq (⟨"SilenceMatchModel", "winner", "()I"⟩, 38) := ⟨⟨by decide +kernel, by decide +kernel⟩, List.mem_of_getElem? (i := 1119) (by decide +kernel), List.mem_of_getElem? (i := 1537) (by decide +kernel), List.mem_of_getElem? (i := 1538) (by decide +kernel)⟩
theorem lw_p78 : lw_okq (⟨"SilenceMatchModel", "above", "(I)I"⟩, 38) := ⟨⟨by decide +kernel, by decide +kernel⟩, List.mem_of_getElem? (i := 1119) (by decide +kernel), List.mem_of_getElem? (i := 1541) (by decide +kernel), List.mem_of_getElem? (i := 1542) (by decide +kernel)⟩
theorem lw_p79 : lw_okq (⟨"SilenceMatchModel", "outMany", "()I"⟩, 38) := ⟨⟨by decide +kernel, by decide +kernel⟩, List.mem_of_getElem? (i := 1119) (by decide +kernel), List.mem_of_getElem? (i := 1582) (by decide +kernel), List.mem_of_getElem? (i := 1583) (by decide +kernel)⟩
def lw_privs_5 : List (MethodName × Nat) := [(⟨"SilenceMatchModel", "goMatch", "()V"⟩, 38), (⟨"SilenceMatchModel", "goMinute", "(I)V"⟩, 38), (⟨"SilenceMatchModel", "isIn", "(II)Z"⟩, 38), (⟨"SilenceMatchModel", "doesCough", "(II)Z"⟩, 38), (⟨"SilenceMatchModel", "isCough", "(II)Z"⟩, 38), (⟨"SilenceMatchModel", "doesLaugh", "(II)Z"⟩, 38), (⟨"SilenceMatchModel", "friendOf", "(II)I"⟩, 38), (⟨"SilenceMatchModel", "isPlayer", "(I)Z"⟩, 38), (⟨"SilenceMatchModel", "friendsOf", "(I)I"⟩, 38), (⟨"SilenceMatchModel", "asksMinute", "(II)Z"⟩, 38), (⟨"SilenceMatchModel", "outsIn", "(I)I"⟩, 38), (⟨"SilenceMatchModel", "laughsIn", "(I)I"⟩, 38), (⟨"SilenceMatchModel", "scoreOf", "(II)I"⟩, 38), (⟨"SilenceMatchModel", "winner", "()I"⟩, 38), (⟨"SilenceMatchModel", "above", "(I)I"⟩, 38), (⟨"SilenceMatchModel", "outMany", "()I"⟩, 38)]
theorem lw_r5 : ∀ q ∈ lw_privs_5, lw_okq q := List.forall_mem_cons.mpr ⟨lw_p64, List.forall_mem_cons.mpr ⟨lw_p65, List.forall_mem_cons.mpr ⟨lw_p66, List.forall_mem_cons.mpr ⟨lw_p67, List.forall_mem_cons.mpr ⟨lw_p68, List.forall_mem_cons.mpr ⟨lw_p69, List.forall_mem_cons.mpr ⟨lw_p70, List.forall_mem_cons.mpr ⟨lw_p71, List.forall_mem_cons.mpr ⟨lw_p72, List.forall_mem_cons.mpr ⟨lw_p73, List.forall_mem_cons.mpr ⟨lw_p74, List.forall_mem_cons.mpr ⟨lw_p75, List.forall_mem_cons.mpr ⟨lw_p76, List.forall_mem_cons.mpr ⟨lw_p77, List.forall_mem_cons.mpr ⟨lw_p78, List.forall_mem_cons.mpr ⟨lw_p79, fun _ h => absurd h List.not_mem_nil⟩⟩⟩⟩⟩⟩⟩⟩⟩⟩⟩⟩⟩⟩⟩⟩
theorem lw_p80 : lw_okq (⟨"SilenceMatchModel", "change", "(II)V"⟩, 38) := ⟨⟨by decide +kernel, by decide +kernel⟩, List.mem_of_getElem? (i := 1119) (by decide +kernel), List.mem_of_getElem? (i := 1590) (by decide +kernel), List.mem_of_getElem? (i := 1591) (by decide +kernel)⟩
theorem lw_p81 : lw_okq (⟨"SilenceMatchModel", "spreadOf", "(II)I"⟩, 38) := ⟨⟨by decide +kernel, by decide +kernel⟩, List.mem_of_getElem? (i := 1119) (by decide +kernel), List.mem_of_getElem? (i := 1598) (by decide +kernel), List.mem_of_getElem? (i := 1599) (by decide +kernel)⟩
theorem lw_p82 : lw_okq (⟨"SilenceMatchModel", "outAt", "(II)I"⟩, 38) := ⟨⟨by decide +kernel, by decide +kernel⟩, List.mem_of_getElem? (i := 1119) (by decide +kernel), List.mem_of_getElem? (i := 1606) (by decide +kernel), List.mem_of_getElem? (i := 1607) (by decide +kernel)⟩
theorem lw_p83 : lw_okq (⟨"SilenceMatchModel", "placeOf", "(I)I"⟩, 38) := ⟨⟨by decide +kernel, by decide +kernel⟩, List.mem_of_getElem? (i := 1119) (by decide +kernel), List.mem_of_getElem? (i := 1615) (by decide +kernel), List.mem_of_getElem? (i := 1616) (by decide +kernel)⟩
theorem lw_p84 : lw_okq (⟨"SilenceMatchModel", "bestOf", "(I)I"⟩, 38) := ⟨⟨by decide +kernel, by decide +kernel⟩, List.mem_of_getElem? (i := 1119) (by decide +kernel), List.mem_of_getElem? (i := 1627) (by decide +kernel), List.mem_of_getElem? (i := 1628) (by decide +kernel)⟩
theorem lw_p85 : lw_okq (⟨"SilenceMatchModel", "isEar", "(II)Z"⟩, 38) := ⟨⟨by decide +kernel, by decide +kernel⟩, List.mem_of_getElem? (i := 1119) (by decide +kernel), List.mem_of_getElem? (i := 1643) (by decide +kernel), List.mem_of_getElem? (i := 1644) (by decide +kernel)⟩
theorem lw_p86 : lw_okq (⟨"SilenceMatchModel", "coverOf", "(II)I"⟩, 38) := ⟨⟨by decide +kernel, by decide +kernel⟩, List.mem_of_getElem? (i := 1119) (by decide +kernel), List.mem_of_getElem? (i := 1648) (by decide +kernel), List.mem_of_getElem? (i := 1649) (by decide +kernel)⟩
theorem lw_p87 : lw_okq (⟨"SilenceMatchModel", "layCovered", "(I)I"⟩, 38) := ⟨⟨by decide +kernel, by decide +kernel⟩, List.mem_of_getElem? (i := 1119) (by decide +kernel), List.mem_of_getElem? (i := 1652) (by decide +kernel), List.mem_of_getElem? (i := 1653) (by decide +kernel)⟩
theorem lw_p88 : lw_okq (⟨"SilenceMatchModel", "canCover", "(II)Z"⟩, 38) := ⟨⟨by decide +kernel, by decide +kernel⟩, List.mem_of_getElem? (i := 1119) (by decide +kernel), List.mem_of_getElem? (i := 1659) (by decide +kernel), List.mem_of_getElem? (i := 1660) (by decide +kernel)⟩
theorem lw_p89 : lw_okq (⟨"SilenceMatchModel", "partsOf", "(II)I"⟩, 38) := ⟨⟨by decide +kernel, by decide +kernel⟩, List.mem_of_getElem? (i := 1119) (by decide +kernel), List.mem_of_getElem? (i := 1679) (by decide +kernel), List.mem_of_getElem? (i := 1680) (by decide +kernel)⟩
theorem lw_p90 : lw_okq (⟨"SilenceMatchModel", "laySounds", "(I)I"⟩, 38) := ⟨⟨by decide +kernel, by decide +kernel⟩, List.mem_of_getElem? (i := 1119) (by decide +kernel), List.mem_of_getElem? (i := 1695) (by decide +kernel), List.mem_of_getElem? (i := 1696) (by decide +kernel)⟩
theorem lw_p91 : lw_okq (⟨"SilenceMatchModel", "numberAt", "(II)J"⟩, 38) := ⟨⟨by decide +kernel, by decide +kernel⟩, List.mem_of_getElem? (i := 1119) (by decide +kernel), List.mem_of_getElem? (i := 1703) (by decide +kernel), List.mem_of_getElem? (i := 1704) (by decide +kernel)⟩
theorem lw_p92 : lw_okq (⟨"SilenceMatchModel", "askOf", "()I"⟩, 38) := ⟨⟨by decide +kernel, by decide +kernel⟩, List.mem_of_getElem? (i := 1119) (by decide +kernel), List.mem_of_getElem? (i := 1719) (by decide +kernel), List.mem_of_getElem? (i := 1720) (by decide +kernel)⟩
theorem lw_p93 : lw_okq (⟨"SilenceMatchModel", "evensOf", "()I"⟩, 38) := ⟨⟨by decide +kernel, by decide +kernel⟩, List.mem_of_getElem? (i := 1119) (by decide +kernel), List.mem_of_getElem? (i := 1731) (by decide +kernel), List.mem_of_getElem? (i := 1732) (by decide +kernel)⟩
theorem lw_p94 : lw_okq (⟨"SilenceMatchModel", "heardTo", "(II)I"⟩, 38) := ⟨⟨by decide +kernel, by decide +kernel⟩, List.mem_of_getElem? (i := 1119) (by decide +kernel), List.mem_of_getElem? (i := 1752) (by decide +kernel), List.mem_of_getElem? (i := 1753) (by decide +kernel)⟩
theorem lw_p95 : lw_okq (⟨"SilenceMatchModel", "isSurer", "(II)Z"⟩, 38) := ⟨⟨by decide +kernel, by decide +kernel⟩, List.mem_of_getElem? (i := 1119) (by decide +kernel), List.mem_of_getElem? (i := 1766) (by decide +kernel), List.mem_of_getElem? (i := 1767) (by decide +kernel)⟩
def lw_privs_6 : List (MethodName × Nat) := [(⟨"SilenceMatchModel", "change", "(II)V"⟩, 38), (⟨"SilenceMatchModel", "spreadOf", "(II)I"⟩, 38), (⟨"SilenceMatchModel", "outAt", "(II)I"⟩, 38), (⟨"SilenceMatchModel", "placeOf", "(I)I"⟩, 38), (⟨"SilenceMatchModel", "bestOf", "(I)I"⟩, 38), (⟨"SilenceMatchModel", "isEar", "(II)Z"⟩, 38), (⟨"SilenceMatchModel", "coverOf", "(II)I"⟩, 38), (⟨"SilenceMatchModel", "layCovered", "(I)I"⟩, 38), (⟨"SilenceMatchModel", "canCover", "(II)Z"⟩, 38), (⟨"SilenceMatchModel", "partsOf", "(II)I"⟩, 38), (⟨"SilenceMatchModel", "laySounds", "(I)I"⟩, 38), (⟨"SilenceMatchModel", "numberAt", "(II)J"⟩, 38), (⟨"SilenceMatchModel", "askOf", "()I"⟩, 38), (⟨"SilenceMatchModel", "evensOf", "()I"⟩, 38), (⟨"SilenceMatchModel", "heardTo", "(II)I"⟩, 38), (⟨"SilenceMatchModel", "isSurer", "(II)Z"⟩, 38)]
theorem lw_r6 : ∀ q ∈ lw_privs_6, lw_okq q := List.forall_mem_cons.mpr ⟨lw_p80, List.forall_mem_cons.mpr ⟨lw_p81, List.forall_mem_cons.mpr ⟨lw_p82, List.forall_mem_cons.mpr ⟨lw_p83, List.forall_mem_cons.mpr ⟨lw_p84, List.forall_mem_cons.mpr ⟨lw_p85, List.forall_mem_cons.mpr ⟨lw_p86, List.forall_mem_cons.mpr ⟨lw_p87, List.forall_mem_cons.mpr ⟨lw_p88, List.forall_mem_cons.mpr ⟨lw_p89, List.forall_mem_cons.mpr ⟨lw_p90, List.forall_mem_cons.mpr ⟨lw_p91, List.forall_mem_cons.mpr ⟨lw_p92, List.forall_mem_cons.mpr ⟨lw_p93, List.forall_mem_cons.mpr ⟨lw_p94, List.forall_mem_cons.mpr ⟨lw_p95, fun _ h => absurd h List.not_mem_nil⟩⟩⟩⟩⟩⟩⟩⟩⟩⟩⟩⟩⟩⟩⟩⟩
theorem lw_p96 : lw_okq (⟨"SilenceMatchModel", "keepAct", "(II)I"⟩, 38) := ⟨⟨by decide +kernel, by decide +kernel⟩, List.mem_of_getElem? (i := 1119) (by decide +kernel), List.mem_of_getElem? (i := 1779) (by decide +kernel), List.mem_of_getElem? (i := 1780) (by decide +kernel)⟩
theorem lw_p97 : lw_okq (⟨"SilenceMatchModel", "goDrawn", "(J)V"⟩, 38) := ⟨⟨by decide +kernel, by decide +kernel⟩, List.mem_of_getElem? (i := 1119) (by decide +kernel), List.mem_of_getElem? (i := 1803) (by decide +kernel), List.mem_of_getElem? (i := 1804) (by decide +kernel)⟩
def lw_privs_7 : List (MethodName × Nat) := [(⟨"SilenceMatchModel", "keepAct", "(II)I"⟩, 38), (⟨"SilenceMatchModel", "goDrawn", "(J)V"⟩, 38)]
theorem lw_r7 : ∀ q ∈ lw_privs_7, lw_okq q := List.forall_mem_cons.mpr ⟨lw_p96, List.forall_mem_cons.mpr ⟨lw_p97, fun _ h => absurd h List.not_mem_nil⟩⟩
def lw_privs : List (MethodName × Nat) := lw_privs_1 ++ (lw_privs_2 ++ (lw_privs_3 ++ (lw_privs_4 ++ (lw_privs_5 ++ (lw_privs_6 ++ (lw_privs_7))))))
def lw_tbl : List Cond := k2_sels lw_privs ++ tables_1
theorem lw_privs_ok : ∀ q ∈ lw_privs, lw_okq q := by
  show ∀ q ∈ lw_privs_1 ++ (lw_privs_2 ++ (lw_privs_3 ++ (lw_privs_4 ++ (lw_privs_5 ++ (lw_privs_6 ++ (lw_privs_7)))))), lw_okq q
  exact List.forall_mem_append.mpr ⟨lw_r1, List.forall_mem_append.mpr ⟨lw_r2, List.forall_mem_append.mpr ⟨lw_r3, List.forall_mem_append.mpr ⟨lw_r4, List.forall_mem_append.mpr ⟨lw_r5, List.forall_mem_append.mpr ⟨lw_r6, lw_r7⟩⟩⟩⟩⟩⟩
end
section
/-! LINEAR FORMS over symbols: a list of (symbol, coefficient) and a constant -/
abbrev kL : Type := List (Nat × Int) × Int
abbrev kQ : Type := List (Int × Int)
/-- 0 ≤ a -/
def knn (a : Int) : Bool := match a with
  | .ofNat _ => true
  | .negSucc _ => false
def kz (a : Int) : Bool := match a with
  | .ofNat n => Nat.beq n 0
  | .negSucc _ => false
theorem knn_iff {a : Int} : knn a = true ↔ 0 ≤ a := by
  cases a with
  | ofNat n => simp [knn]
  | negSucc n => simp [knn]
theorem kz_iff {a : Int} : kz a = true ↔ a = 0 := by
  cases a with
  | ofNat n =>
    show Nat.beq n 0 = true ↔ (Int.ofNat n) = 0
    rw [Nat.beq_eq]
    constructor
    · intro h; subst h; rfl
    · intro h
      have : (n : Int) = 0 := h
      omega
  | negSucc n => simp [kz]
def kevT (env : List Int) : List (Nat × Int) → Option Int
  | [] => some 0
  | q :: t => match env[q.1]?, kevT env t with
    | some z, some r => some (q.2 * z + r)
    | _, _ => none
def kev (env : List Int) (f : kL) : Option Int := match kevT env f.1 with
  | some r => some (r + f.2)
  | none => none
theorem kevT_cons {env : List Int} {q : Nat × Int} {t : List (Nat × Int)} {x : Int} (h : kevT env (q :: t) = some x) : ∃ z r, env[q.1]? = some z ∧ kevT env t = some r ∧ x = q.2 * z + r := by
  unfold kevT at h
  cases h1 : env[q.1]? with
  | none => rw [h1] at h; simp at h
  | some z =>
    cases h2 : kevT env t with
    | none => rw [h1, h2] at h; simp at h
    | some r => rw [h1, h2] at h; exact ⟨z, r, rfl, rfl, (Option.some.inj h).symm⟩
theorem kevT_mk {env : List Int} {q : Nat × Int} {t : List (Nat × Int)} {z r : Int} (h1 : env[q.1]? = some z) (h2 : kevT env t = some r) : kevT env (q :: t) = some (q.2 * z + r) := by
  show (match env[q.1]?, kevT env t with
    | some z, some r => some (q.2 * z + r)
    | _, _ => none) = _
  rw [h1, h2]
theorem kev_of {env : List Int} {f : kL} {x : Int} (h : kev env f = some x) : ∃ r, kevT env f.1 = some r ∧ x = r + f.2 := by
  unfold kev at h
  cases h1 : kevT env f.1 with
  | none => rw [h1] at h; simp at h
  | some r => rw [h1] at h; exact ⟨r, rfl, (Option.some.inj h).symm⟩
theorem kev_mk {env : List Int} {f : kL} {r : Int} (h : kevT env f.1 = some r) : kev env f = some (r + f.2) := by
  unfold kev
  rw [h]
theorem kget_ext {α : Type} {l t : List α} {k : Nat} {z : α} (h : l[k]? = some z) : (l ++ t)[k]? = some z := by
  rw [List.getElem?_append_left (List.getElem?_eq_some_iff.mp h).1]; exact h
theorem kevT_ext {env t : List Int} : ∀ {l : List (Nat × Int)} {x : Int}, kevT env l = some x → kevT (env ++ t) l = some x
  | [], x, h => h
  | q :: l, x, h => by
    obtain ⟨z, r, h1, h2, rfl⟩ := kevT_cons h
    exact kevT_mk (kget_ext h1) (kevT_ext h2)
theorem kev_ext {env t : List Int} {f : kL} {x : Int} (h : kev env f = some x) : kev (env ++ t) f = some x := by
  obtain ⟨r, h1, rfl⟩ := kev_of h
  exact kev_mk (kevT_ext h1)
def kins (k : Nat) (c : Int) : List (Nat × Int) → List (Nat × Int)
  | [] => [(k, c)]
  | q :: t => match Nat.beq k q.1 with
    | true => match kz (c + q.2) with
      | true => t
      | false => (k, c + q.2) :: t
    | false => match Nat.ble k q.1 with
      | true => (k, c) :: q :: t
      | false => q :: kins k c t
theorem kins_ev {env : List Int} {k : Nat} {c z : Int} (hk : env[k]? = some z) : ∀ {t : List (Nat × Int)} {r : Int}, kevT env t = some r → kevT env (kins k c t) = some (c * z + r)
  | [], r, h => by
    have e : (0 : Int) = r := Option.some.inj h
    subst e
    exact kevT_mk (q := (k, c)) hk rfl
  | q :: t, r, h => by
    obtain ⟨z', r', h1, h2, rfl⟩ := kevT_cons h
    unfold kins
    cases hb : Nat.beq k q.1 with
    | true =>
      have e : k = q.1 := Nat.beq_eq.mp hb
      rw [e, h1] at hk
      obtain rfl := Option.some.inj hk
      cases hz : kz (c + q.2) with
      | true =>
        have e2 := kz_iff.mp hz
        show kevT env t = _
        rw [h2]
        congr 1
        have : c * z' + (q.2 * z' + r') = (c + q.2) * z' + r' := by rw [Int.add_mul]; omega
        rw [this, e2]
        simp
      | false =>
        show kevT env ((k, c + q.2) :: t) = _
        rw [kevT_mk (q := (k, c + q.2)) (by rw [e]; exact h1) h2]
        congr 1
        show (c + q.2) * z' + r' = _
        rw [Int.add_mul]; omega
    | false =>
      cases hl : Nat.ble k q.1 with
      | true => exact kevT_mk (q := (k, c)) hk h
      | false =>
        show kevT env (q :: kins k c t) = _
        rw [kevT_mk h1 (kins_ev hk h2)]
        congr 1
        omega
def kaddT : List (Nat × Int) → List (Nat × Int) → List (Nat × Int)
  | [], b => b
  | q :: t, b => kins q.1 q.2 (kaddT t b)
theorem kaddT_ev {env : List Int} : ∀ {a b : List (Nat × Int)} {x y : Int}, kevT env a = some x → kevT env b = some y → kevT env (kaddT a b) = some (x + y)
  | [], b, x, y, h, hb => by
    have e : (0 : Int) = x := Option.some.inj h
    subst e
    rw [Int.zero_add]; exact hb
  | q :: t, b, x, y, h, hb => by
    obtain ⟨z, r, h1, h2, rfl⟩ := kevT_cons h
    show kevT env (kins q.1 q.2 (kaddT t b)) = _
    rw [kins_ev h1 (kaddT_ev h2 hb)]
    congr 1
    omega
def kadd (f g : kL) : kL := (kaddT f.1 g.1, f.2 + g.2)
theorem kadd_ev {env : List Int} {f g : kL} {x y : Int} (h : kev env f = some x) (h' : kev env g = some y) : kev env (kadd f g) = some (x + y) := by
  obtain ⟨r, h1, rfl⟩ := kev_of h
  obtain ⟨r', h2, rfl⟩ := kev_of h'
  rw [show kev env (kadd f g) = some ((r + r') + (f.2 + g.2)) from kev_mk (f := kadd f g) (kaddT_ev h1 h2)]
  congr 1
  omega
def kscT (c : Int) : List (Nat × Int) → List (Nat × Int)
  | [] => []
  | q :: t => (q.1, c * q.2) :: kscT c t
theorem kscT_ev {env : List Int} {c : Int} : ∀ {a : List (Nat × Int)} {x : Int}, kevT env a = some x → kevT env (kscT c a) = some (c * x)
  | [], x, h => by
    have e : (0 : Int) = x := Option.some.inj h
    subst e
    rw [Int.mul_zero]; rfl
  | q :: t, x, h => by
    obtain ⟨z, r, h1, h2, rfl⟩ := kevT_cons h
    show kevT env ((q.1, c * q.2) :: kscT c t) = _
    rw [kevT_mk (q := (q.1, c * q.2)) h1 (kscT_ev h2)]
    congr 1
    show c * q.2 * z + c * r = _
    rw [Int.mul_add, Int.mul_assoc]
def ksc (c : Int) (f : kL) : kL := match kz c with
  | true => ([], 0)
  | false => (kscT c f.1, c * f.2)
theorem ksc_ev {env : List Int} {c : Int} {f : kL} {x : Int} (h : kev env f = some x) : kev env (ksc c f) = some (c * x) := by
  obtain ⟨r, h1, rfl⟩ := kev_of h
  unfold ksc
  cases hz : kz c with
  | true =>
    show kev env ([], 0) = _
    rw [kz_iff.mp hz, Int.zero_mul]; rfl
  | false =>
    show kev env (kscT c f.1, c * f.2) = _
    rw [kev_mk (f := (kscT c f.1, c * f.2)) (kscT_ev h1)]
    congr 1
    show c * r + c * f.2 = _
    rw [Int.mul_add]
def kneg (f : kL) : kL := (kscT (-1) f.1, -f.2)
theorem kneg_ev {env : List Int} {f : kL} {x : Int} (h : kev env f = some x) : kev env (kneg f) = some (-x) := by
  obtain ⟨r, h1, rfl⟩ := kev_of h
  rw [show kev env (kneg f) = some (-1 * r + -f.2) from kev_mk (f := kneg f) (kscT_ev h1)]
  congr 1
  omega
def ksub (f g : kL) : kL := kadd f (kneg g)
theorem ksub_ev {env : List Int} {f g : kL} {x y : Int} (h : kev env f = some x) (h' : kev env g = some y) : kev env (ksub f g) = some (x - y) := kadd_ev h (kneg_ev h')
def kofs (f : kL) (n : Int) : kL := (f.1, f.2 + n)
theorem kofs_ev {env : List Int} {f : kL} {x n : Int} (h : kev env f = some x) : kev env (kofs f n) = some (x + n) := by
  obtain ⟨r, h1, rfl⟩ := kev_of h
  rw [show kev env (kofs f n) = some (r + (f.2 + n)) from kev_mk (f := kofs f n) h1]
  congr 1
  omega
def kcst (n : Int) : kL := ([], n)
theorem kcst_ev {env : List Int} {n : Int} : kev env (kcst n) = some n := by
  show some (0 + n) = some n
  rw [Int.zero_add]
def ksym (k : Nat) : kL := ([(k, 1)], 0)
theorem ksym_ev {env : List Int} {k : Nat} {z : Int} (h : env[k]? = some z) : kev env (ksym k) = some z := by
  rw [show kev env (ksym k) = some (1 * z + 0 + 0) from kev_mk (f := ksym k) (kevT_mk (q := (k, 1)) h rfl)]
  congr 1
  omega
/-! intervals of the symbols -/
def kI (env : List Int) (iv : kQ) : Prop := env.length = iv.length ∧ ∀ (k : Nat) (q : Int × Int) (z : Int), iv[k]? = some q → env[k]? = some z → q.1 ≤ z ∧ z ≤ q.2
def klbT (iv : kQ) : List (Nat × Int) → Option Int
  | [] => some 0
  | q :: t => match iv[q.1]?, klbT iv t with
    | some r, some x => some (match q.2 with
      | .ofNat n => Int.ofNat n * r.1 + x
      | .negSucc n => Int.negSucc n * r.2 + x)
    | _, _ => none
theorem klbT_ok {env : List Int} {iv : kQ} (hI : kI env iv) : ∀ {l : List (Nat × Int)} {x b : Int}, kevT env l = some x → klbT iv l = some b → b ≤ x
  | [], x, b, h, hb => by
    have e : (0 : Int) = x := Option.some.inj h
    have e2 : (0 : Int) = b := Option.some.inj hb
    omega
  | q :: t, x, b, h, hb => by
    obtain ⟨z, r, h1, h2, rfl⟩ := kevT_cons h
    unfold klbT at hb
    cases h3 : iv[q.1]? with
    | none => rw [h3] at hb; simp at hb
    | some w =>
      cases h4 : klbT iv t with
      | none => rw [h3, h4] at hb; simp at hb
      | some y =>
        rw [h3, h4] at hb
        have hy := klbT_ok hI h2 h4
        obtain ⟨b1, b2⟩ := hI.2 q.1 w z h3 h1
        have e := Option.some.inj hb
        clear hb
        obtain ⟨q1, q2⟩ := q
        cases q2 with
        | ofNat n =>
          have e : Int.ofNat n * w.1 + y = b := e
          have : Int.ofNat n * w.1 ≤ Int.ofNat n * z := Int.mul_le_mul_of_nonneg_left b1 (Int.natCast_nonneg n)
          show b ≤ Int.ofNat n * z + r
          omega
        | negSucc n =>
          have e : Int.negSucc n * w.2 + y = b := e
          have : Int.negSucc n * w.2 ≤ Int.negSucc n * z := Int.mul_le_mul_of_nonpos_left (Int.le_of_lt (Int.negSucc_lt_zero n)) b2
          show b ≤ Int.negSucc n * z + r
          omega
def klb (iv : kQ) (f : kL) : Option Int := match klbT iv f.1 with
  | some x => some (x + f.2)
  | none => none
theorem klb_ok {env : List Int} {iv : kQ} {f : kL} {x b : Int} (hI : kI env iv) (h : kev env f = some x) (hb : klb iv f = some b) : b ≤ x := by
  obtain ⟨r, h1, rfl⟩ := kev_of h
  unfold klb at hb
  cases h2 : klbT iv f.1 with
  | none => rw [h2] at hb; simp at hb
  | some y =>
    rw [h2] at hb
    have e : y + f.2 = b := Option.some.inj hb
    have := klbT_ok hI h1 h2
    omega
def kub (iv : kQ) (f : kL) : Option Int := match klb iv (kneg f) with
  | some x => some (-x)
  | none => none
theorem kub_ok {env : List Int} {iv : kQ} {f : kL} {x b : Int} (hI : kI env iv) (h : kev env f = some x) (hb : kub iv f = some b) : x ≤ b := by
  unfold kub at hb
  cases h2 : klb iv (kneg f) with
  | none => rw [h2] at hb; simp at hb
  | some y =>
    rw [h2] at hb
    have e : -y = b := Option.some.inj hb
    have := klb_ok hI (kneg_ev h) h2
    omega
/-- f is at least 0, by the intervals -/
def kpos (iv : kQ) (f : kL) : Bool := match klb iv f with
  | some b => knn b
  | none => false
theorem kpos_ok {env : List Int} {iv : kQ} {f : kL} {x : Int} (hI : kI env iv) (h : kev env f = some x) (hp : kpos iv f = true) : 0 ≤ x := by
  unfold kpos at hp
  cases h2 : klb iv f with
  | none => rw [h2] at hp; cases hp
  | some b =>
    rw [h2] at hp
    have := klb_ok hI h h2
    have := knn_iff.mp hp
    omega
/-- the constraints: each at least 0 -/
def kC (env : List Int) (cs : List kL) : Prop := ∀ g ∈ cs, ∃ z, kev env g = some z ∧ 0 ≤ z
/-- f is at least 0, by the intervals and at most two constraints -/
def kge (iv : kQ) (cs : List kL) (f : kL) : Bool := match kpos iv f with
  | true => true
  | false => match cs.any (fun g => kpos iv (ksub f g)) with
    | true => true
    | false => cs.any (fun g => cs.any (fun h => kpos iv (ksub (ksub f g) h)))
theorem kge_ok {env : List Int} {iv : kQ} {cs : List kL} {f : kL} {x : Int} (hI : kI env iv) (hC : kC env cs) (h : kev env f = some x) (hp : kge iv cs f = true) : 0 ≤ x := by
  unfold kge at hp
  cases h1 : kpos iv f with
  | true => exact kpos_ok hI h h1
  | false =>
    rw [h1] at hp
    cases h2 : cs.any (fun g => kpos iv (ksub f g)) with
    | true =>
      obtain ⟨g, hg, hg2⟩ := List.any_eq_true.mp h2
      obtain ⟨z, e1, e2⟩ := hC g hg
      have := kpos_ok hI (ksub_ev h e1) hg2
      omega
    | false =>
      rw [h2] at hp
      obtain ⟨g, hg, hg2⟩ := List.any_eq_true.mp hp
      obtain ⟨g', hg', hg3⟩ := List.any_eq_true.mp hg2
      obtain ⟨z, e1, e2⟩ := hC g hg
      obtain ⟨z', e1', e2'⟩ := hC g' hg'
      have := kpos_ok hI (ksub_ev (ksub_ev h e1) e1') hg3
      omega
theorem kC_ext {env t : List Int} {cs : List kL} (h : kC env cs) : kC (env ++ t) cs := fun g hg => by
  obtain ⟨z, h1, h2⟩ := h g hg
  exact ⟨z, kev_ext h1, h2⟩
/-- a symbol more -/
theorem kI_push {env : List Int} {iv : kQ} {q : Int × Int} {z : Int} (h : kI env iv) (h1 : q.1 ≤ z) (h2 : z ≤ q.2) : kI (env ++ [z]) (iv ++ [q]) := by
  refine ⟨by simp [h.1], fun k r w hk hw => ?_⟩
  by_cases hlt : k < iv.length
  · rw [List.getElem?_append_left hlt] at hk
    rw [List.getElem?_append_left (by rw [h.1]; exact hlt)] at hw
    exact h.2 k r w hk hw
  · have hk' := (List.getElem?_eq_some_iff.mp hk).1
    have e : k = iv.length := by simp at hk'; omega
    subst e
    have e1 : r = q := by simpa using hk.symm
    have e2 : w = z := by rw [← h.1] at hw; simpa using hw.symm
    subst e1; subst e2
    exact ⟨h1, h2⟩
theorem kI_at {env : List Int} {iv : kQ} {z : Int} (h : kI env iv) : (env ++ [z])[iv.length]? = some z := by
  rw [← h.1]; simp
theorem kI_some {env : List Int} {iv : kQ} {k : Nat} {q : Int × Int} (h : kI env iv) (hq : iv[k]? = some q) : ∃ z, env[k]? = some z := by
  have := (List.getElem?_eq_some_iff.mp hq).1
  rw [← h.1] at this
  exact ⟨env[k], List.getElem?_eq_getElem this⟩
/-- a symbol's interval, narrowed by f ≥ 0; none: there is no such value -/
def ktig1 (iv : kQ) (f : kL) (q : Nat × Int) : Option kQ := match iv[q.1]?, kub iv (ksub f ([q], 0)) with
  | some r, some u => match q.2 with
    | .ofNat 0 => some iv
    | .ofNat (n + 1) => match knn (r.1 - (-(u / Int.ofNat (n + 1)))) with
      | true => some iv
      | false => match knn (r.2 - (-(u / Int.ofNat (n + 1)))) with
        | true => some (iv.set q.1 (-(u / Int.ofNat (n + 1)), r.2))
        | false => none
    | .negSucc n => match knn (u / Int.ofNat (n + 1) - r.2) with
      | true => some iv
      | false => match knn (u / Int.ofNat (n + 1) - r.1) with
        | true => some (iv.set q.1 (r.1, u / Int.ofNat (n + 1)))
        | false => none
  | _, _ => some iv
theorem kI_set {env : List Int} {iv : kQ} {k : Nat} {q : Int × Int} (h : kI env iv) (hz : ∀ z, env[k]? = some z → q.1 ≤ z ∧ z ≤ q.2) : kI env (iv.set k q) := by
  refine ⟨by simp [h.1], fun j r w hj hw => ?_⟩
  by_cases e : j = k
  · subst e
    have hl := (List.getElem?_eq_some_iff.mp hj).1
    rw [List.length_set] at hl
    rw [List.getElem?_set_self hl] at hj
    obtain rfl := Option.some.inj hj
    exact hz w hw
  · rw [List.getElem?_set_ne (Ne.symm e)] at hj
    exact h.2 j r w hj hw
theorem ktig1_ok {env : List Int} {iv : kQ} {f : kL} {q : Nat × Int} {x : Int} (hI : kI env iv) (h : kev env f = some x) (hx : 0 ≤ x) : ∃ iv', ktig1 iv f q = some iv' ∧ kI env iv' := by
  unfold ktig1
  cases h1 : iv[q.1]? with
  | none => exact ⟨iv, rfl, hI⟩
  | some r =>
    cases h2 : kub iv (ksub f ([q], 0)) with
    | none => exact ⟨iv, rfl, hI⟩
    | some u =>
      obtain ⟨z, hz⟩ := kI_some hI h1
      have hq : kev env ([q], 0) = some (q.2 * z) := by
        rw [kev_mk (f := ([q], 0)) (kevT_mk hz rfl)]
        congr 1
        show q.2 * z + 0 + 0 = _
        omega
      have hu := kub_ok hI (ksub_ev h hq) h2
      have hrz := hI.2 q.1 r z h1 hz
      obtain ⟨q1, q2⟩ := q
      cases q2 with
      | ofNat n =>
        cases n with
        | zero => exact ⟨iv, rfl, hI⟩
        | succ n =>
          have hd : (0 : Int) < Int.ofNat (n + 1) := Int.natCast_pos.mpr (Nat.succ_pos n)
          have hu : x - Int.ofNat (n + 1) * z ≤ u := hu
          have hk : -z ≤ u / Int.ofNat (n + 1) := by
            rw [Int.le_ediv_iff_mul_le hd, Int.neg_mul, Int.mul_comm]
            omega
          show ∃ iv', (match knn (r.1 - (-(u / Int.ofNat (n + 1)))) with
            | true => some iv
            | false => match knn (r.2 - (-(u / Int.ofNat (n + 1)))) with
              | true => some (iv.set q1 (-(u / Int.ofNat (n + 1)), r.2))
              | false => none) = some iv' ∧ kI env iv'
          cases knn (r.1 - (-(u / Int.ofNat (n + 1)))) with
          | true => exact ⟨iv, rfl, hI⟩
          | false =>
            cases h3 : knn (r.2 - (-(u / Int.ofNat (n + 1)))) with
            | true =>
              refine ⟨_, rfl, kI_set hI fun w hw => ?_⟩
              have hz : env[q1]? = some z := hz
              rw [hz] at hw
              obtain rfl := Option.some.inj hw
              exact ⟨by show -(u / Int.ofNat (n + 1)) ≤ z; omega, hrz.2⟩
            | false =>
              exfalso
              have : ¬ (knn (r.2 - (-(u / Int.ofNat (n + 1)))) = true) := by rw [h3]; decide
              rw [knn_iff] at this
              have := hrz.2
              omega
      | negSucc n =>
        have hd : (0 : Int) < Int.ofNat (n + 1) := Int.natCast_pos.mpr (Nat.succ_pos n)
        have hu : x - Int.negSucc n * z ≤ u := hu
        have hk : z ≤ u / Int.ofNat (n + 1) := by
          rw [Int.le_ediv_iff_mul_le hd, Int.mul_comm]
          have e : Int.negSucc n * z = -(Int.ofNat (n + 1) * z) := by rw [← Int.neg_mul]; rfl
          rw [e] at hu
          omega
        show ∃ iv', (match knn (u / Int.ofNat (n + 1) - r.2) with
          | true => some iv
          | false => match knn (u / Int.ofNat (n + 1) - r.1) with
            | true => some (iv.set q1 (r.1, u / Int.ofNat (n + 1)))
            | false => none) = some iv' ∧ kI env iv'
        cases knn (u / Int.ofNat (n + 1) - r.2) with
        | true => exact ⟨iv, rfl, hI⟩
        | false =>
          cases h3 : knn (u / Int.ofNat (n + 1) - r.1) with
          | true =>
            refine ⟨_, rfl, kI_set hI fun w hw => ?_⟩
            have hz : env[q1]? = some z := hz
            rw [hz] at hw
            obtain rfl := Option.some.inj hw
            exact ⟨hrz.1, hk⟩
          | false =>
            exfalso
            have : ¬ (knn (u / Int.ofNat (n + 1) - r.1) = true) := by rw [h3]; decide
            rw [knn_iff] at this
            have := hrz.1
            omega
def ktig (f : kL) : List (Nat × Int) → kQ → Option kQ
  | [], iv => some iv
  | q :: t, iv => match ktig1 iv f q with
    | some iv' => ktig f t iv'
    | none => none
theorem ktig_ok {env : List Int} {f : kL} {x : Int} (h : kev env f = some x) (hx : 0 ≤ x) : ∀ (l : List (Nat × Int)) {iv : kQ}, kI env iv → ∃ iv', ktig f l iv = some iv' ∧ kI env iv'
  | [], iv, hI => ⟨iv, rfl, hI⟩
  | q :: t, iv, hI => by
    obtain ⟨iv1, h1, h2⟩ := ktig1_ok (q := q) hI h hx
    obtain ⟨iv2, h3, h4⟩ := ktig_ok h hx t h2
    refine ⟨iv2, ?_, h4⟩
    unfold ktig
    rw [h1]
    exact h3
/-- f ≥ 0 taken up: the intervals, the constraints; none: it can't be -/
def kasm (iv : kQ) (cs : List kL) (f : kL) : Option (kQ × List kL) := match f.1 with
  | [] => match knn f.2 with
    | true => some (iv, cs)
    | false => none
  | [_] => match ktig f f.1 iv with
    | some iv' => some (iv', cs)
    | none => none
  | _ => match ktig f f.1 iv with
    | some iv' => some (iv', f :: cs)
    | none => none
theorem kasm_ok {env : List Int} {iv : kQ} {cs : List kL} {f : kL} {x : Int} (hI : kI env iv) (hC : kC env cs) (h : kev env f = some x) (hx : 0 ≤ x) : ∃ r, kasm iv cs f = some r ∧ kI env r.1 ∧ kC env r.2 := by
  obtain ⟨iv', h1, h2⟩ := ktig_ok h hx f.1 hI
  obtain ⟨l, d⟩ := f
  unfold kasm
  cases l with
  | nil =>
    have e : (0 : Int) + d = x := Option.some.inj h
    have : knn d = true := knn_iff.mpr (by omega)
    show ∃ r, (match knn d with
      | true => some (iv, cs)
      | false => none) = some r ∧ _
    rw [this]
    exact ⟨_, rfl, hI, hC⟩
  | cons a t =>
    cases t with
    | nil =>
      show ∃ r, (match ktig ([a], d) [a] iv with
        | some iv' => some (iv', cs)
        | none => none) = some r ∧ _
      rw [show ktig ([a], d) [a] iv = some iv' from h1]
      exact ⟨_, rfl, h2, hC⟩
    | cons b t =>
      show ∃ r, (match ktig (a :: b :: t, d) (a :: b :: t) iv with
        | some iv' => some (iv', (a :: b :: t, d) :: cs)
        | none => none) = some r ∧ _
      rw [show ktig (a :: b :: t, d) (a :: b :: t) iv = some iv' from h1]
      refine ⟨_, rfl, h2, fun g hg => ?_⟩
      rcases List.mem_cons.mp hg with rfl | hg
      · exact ⟨x, h, hx⟩
      · exact hC g hg
end
section
/-! VALUES: int, long, reference, what lcmp gives -/
abbrev kV : Type := kL ⊕ kL ⊕ Nat ⊕ (kL × kL)
def kcmp (a b : Int) : Int := if a < b then -1 else if a = b then 0 else 1
def kvok (env : List Int) (ren : List Nat) (a : kV) (v : Value) : Prop := match a with
  | .inl f => ∃ n : Int32, v = .int n ∧ kev env f = some n.toInt
  | .inr (.inl f) => ∃ n : Int64, v = .long n ∧ kev env f = some n.toInt
  | .inr (.inr (.inl k)) => ∃ q : Nat, v = .ref q ∧ ren[k]? = some q
  | .inr (.inr (.inr w)) => ∃ (n : Int32) (a b : Int), v = .int n ∧ kev env w.1 = some a ∧ kev env w.2 = some b ∧ n.toInt = kcmp a b
theorem kvok_ext {env t : List Int} {ren u : List Nat} {a : kV} {v : Value} (h : kvok env ren a v) : kvok (env ++ t) (ren ++ u) a v := by
  match a, h with
  | .inl x, ⟨n, h1, h2⟩ => exact ⟨n, h1, kev_ext h2⟩
  | .inr (.inl x), ⟨n, h1, h2⟩ => exact ⟨n, h1, kev_ext h2⟩
  | .inr (.inr (.inl k)), ⟨q, h1, h2⟩ => exact ⟨q, h1, kget_ext h2⟩
  | .inr (.inr (.inr w)), ⟨n, a, b, h1, h2, h3, h4⟩ => exact ⟨n, a, b, h1, kev_ext h2, kev_ext h3, h4⟩
/-! equality of forms, as a Bool -/
def kTeq : List (Nat × Int) → List (Nat × Int) → Bool
  | [], [] => true
  | a :: s, b :: t => match Nat.beq a.1 b.1 with
    | true => match kz (a.2 - b.2) with
      | true => kTeq s t
      | false => false
    | false => false
  | _, _ => false
theorem kTeq_eq : ∀ {s t : List (Nat × Int)}, kTeq s t = true → s = t
  | [], [], _ => rfl
  | [], b :: t, h => by simp [kTeq] at h
  | a :: s, [], h => by simp [kTeq] at h
  | a :: s, b :: t, h => by
    unfold kTeq at h
    cases h1 : Nat.beq a.1 b.1 with
    | false => rw [h1] at h; cases h
    | true =>
      rw [h1] at h
      cases h2 : kz (a.2 - b.2) with
      | false => rw [h2] at h; cases h
      | true =>
        rw [h2] at h
        have e1 := Nat.beq_eq.mp h1
        have e2 := kz_iff.mp h2
        rw [kTeq_eq (s := s) (t := t) h]
        congr 1
        exact Prod.ext e1 (by omega)
def kLeq (f g : kL) : Bool := match kz (f.2 - g.2) with
  | true => kTeq f.1 g.1
  | false => false
theorem kLeq_eq {f g : kL} (h : kLeq f g = true) : f = g := by
  unfold kLeq at h
  cases h2 : kz (f.2 - g.2) with
  | false => rw [h2] at h; cases h
  | true =>
    rw [h2] at h
    have e2 := kz_iff.mp h2
    exact Prod.ext (kTeq_eq h) (by omega)
/-- f = c * g -/
def kdvT (c : Int) : List (Nat × Int) → Option (List (Nat × Int))
  | [] => some []
  | q :: t => match kz (q.2 - c * (q.2 / c)), kdvT c t with
    | true, some r => some ((q.1, q.2 / c) :: r)
    | _, _ => none
theorem kdvT_ok {env : List Int} {c : Int} : ∀ {l g : List (Nat × Int)} {z : Int}, kdvT c l = some g → kevT env l = some z → ∃ w, kevT env g = some w ∧ z = c * w
  | [], g, z, h, hz => by
    have e : [] = g := Option.some.inj h
    subst e
    have e : (0 : Int) = z := Option.some.inj hz
    exact ⟨0, rfl, by omega⟩
  | q :: t, g, z, h, hz => by
    obtain ⟨y, r, h1, h2, rfl⟩ := kevT_cons hz
    unfold kdvT at h
    cases h3 : kz (q.2 - c * (q.2 / c)) with
    | false => rw [h3] at h; simp at h
    | true =>
      cases h4 : kdvT c t with
      | none => rw [h3, h4] at h; simp at h
      | some g' =>
        rw [h3, h4] at h
        have e : (q.1, q.2 / c) :: g' = g := Option.some.inj h
        subst e
        obtain ⟨w, h5, rfl⟩ := kdvT_ok h4 h2
        refine ⟨_, kevT_mk (q := (q.1, q.2 / c)) h1 h5, ?_⟩
        have e3 := kz_iff.mp h3
        show q.2 * y + c * w = c * (q.2 / c * y + w)
        rw [Int.mul_add, ← Int.mul_assoc]
        have : q.2 = c * (q.2 / c) := by omega
        rw [← this]
def kdv (c : Int) (f : kL) : Option kL := match kz (f.2 - c * (f.2 / c)), kdvT c f.1 with
  | true, some r => some (r, f.2 / c)
  | _, _ => none
theorem kdv_ok {env : List Int} {c : Int} {f g : kL} {z : Int} (h : kdv c f = some g) (hz : kev env f = some z) : ∃ w, kev env g = some w ∧ z = c * w := by
  obtain ⟨r, h1, rfl⟩ := kev_of hz
  unfold kdv at h
  cases h3 : kz (f.2 - c * (f.2 / c)) with
  | false => rw [h3] at h; simp at h
  | true =>
    cases h4 : kdvT c f.1 with
    | none => rw [h3, h4] at h; simp at h
    | some g' =>
      rw [h3, h4] at h
      have e : (g', f.2 / c) = g := Option.some.inj h
      subst e
      obtain ⟨w, h5, rfl⟩ := kdvT_ok h4 h1
      refine ⟨_, kev_mk (f := (g', f.2 / c)) h5, ?_⟩
      have e3 := kz_iff.mp h3
      show c * w + f.2 = c * (w + f.2 / c)
      rw [Int.mul_add]
      omega
/-! CELLS: a type of cell is (kind, size, runs, runs by a count that stands in the cell itself); kind below 100: an object of that number in the list of names; else an array.
A run is (base, stride, count, specification); by itself: (base, stride, where the count stands, the most, specification) -/
abbrev kP : Type := kQ ⊕ kQ ⊕ Nat
abbrev kRun : Type := Nat × Nat × Nat × kP
abbrev kSelf : Type := Nat × Nat × Nat × Nat × kP
abbrev kT : Type := Nat × Nat × List kRun × List kSelf
def kpok (Ty : Nat → Nat → Prop) (p : kP) (v : Value) : Prop := match p with
  | .inl q => ∃ n : Int32, v = .int n ∧ ∃ r ∈ q, r.1 ≤ n.toInt ∧ n.toInt ≤ r.2
  | .inr (.inl q) => ∃ n : Int64, v = .long n ∧ ∃ r ∈ q, r.1 ≤ n.toInt ∧ n.toInt ≤ r.2
  | .inr (.inr t) => ∃ a : Nat, v = .ref a ∧ Ty a t
def kcell (D : va_G) (cA : Nat → ClassId) (T : kT) (a : Nat) (H : Heap) (V : Nat → Value) : Prop := match Nat.blt T.1 100 with
  | true => t_OB a (D.1 T.1) T.2.1 (D.2 T.1) H V
  | false => H[a]? = some (arrV (cA (T.1 - 100)) T.2.1 V)
theorem kcell_kept {D : va_G} {cA : Nat → ClassId} {T : kT} {a : Nat} {H H1 : Heap} {V : Nat → Value} (h : kcell D cA T a H V) (hq : H1[a]? = H[a]?) : kcell D cA T a H1 V := by
  unfold kcell at h ⊢
  cases hb : Nat.blt T.1 100 with
  | true => rw [hb] at h; exact t_OB.kept h hq
  | false => rw [hb] at h; exact hq.trans h
theorem kcell_uniq {D : va_G} {cA : Nat → ClassId} {T : kT} {a : Nat} {H : Heap} {V V' : Nat → Value} (h : kcell D cA T a H V) (h' : kcell D cA T a H V') {j : Nat} (hj : j < T.2.1) : V j = V' j := by
  unfold kcell at h h'
  cases hb : Nat.blt T.1 100 with
  | true =>
    rw [hb] at h h'
    obtain ⟨c, h1, -, -, h2⟩ := h
    obtain ⟨c', h1', -, -, h2'⟩ := h'
    rw [h1] at h1'
    obtain rfl := Option.some.inj h1'
    have := (h2 j hj).symm.trans (h2' j hj)
    exact Option.some.inj this
  | false =>
    rw [hb] at h h'
    have e := Option.some.inj (h.symm.trans h')
    have := arrV_read (cA (T.1 - 100)) V hj
    rw [e, arrV_read _ _ hj] at this
    exact (Option.some.inj this).symm
/-- what the cell holds is as its type says -/
def kvals (Ty : Nat → Nat → Prop) (T : kT) (V : Nat → Value) : Prop :=
  (∀ r ∈ T.2.2.1, ∀ P, P < r.2.2.1 → kpok Ty r.2.2.2 (V (r.1 + r.2.1 * P))) ∧
  (∀ r ∈ T.2.2.2, ∀ (n : Int32) (P : Nat), V r.2.2.1 = .int n → P < r.2.2.2.1 → (P : Int) < n.toInt → kpok Ty r.2.2.2.2 (V (r.1 + r.2.1 * P)))
/-- what is held between two rows of one object (type 12: its rows 13 and 15): where the first has 1, the second has at most 12 -/
def kY (D : va_G) (cA : Nat → ClassId) (tt : List kT) (Ty : Nat → Nat → Prop) (H : Heap) : Prop := ∀ (a b c : Nat) (T To Tw : kT) (V Vo Vw : Nat → Value) (j : Nat) (n : Int32), Ty a 12 → tt[12]? = some T → kcell D cA T a H V → V 1 = .ref b → V 3 = .ref c → Ty b 13 → tt[13]? = some To → kcell D cA To b H Vo → Ty c 15 → tt[15]? = some Tw → kcell D cA Tw c H Vw → j < 40 → Vo j = .int 1 → Vw j = .int n → n.toInt ≤ 12
def kyf (t : Nat) : Bool := match Nat.beq t 12 with
  | true => false
  | false => match Nat.beq t 13 with
    | true => false
    | false => match Nat.beq t 15 with
      | true => false
      | false => true
def kgood (D : va_G) (cA : Nat → ClassId) (tt : List kT) (Ty : Nat → Nat → Prop) (lo : Nat) (H : Heap) : Prop := (∀ (a t : Nat) (T : kT), Ty a t → tt[t]? = some T → lo ≤ a ∧ ∃ V, kcell D cA T a H V ∧ kvals Ty T V) ∧ kY D cA tt Ty H
/-- one address, one type (of those that are cells) -/
def kTyp (tt : List kT) (Ty : Nat → Nat → Prop) : Prop := (∀ a t t', t < 1000 → t' < 1000 → Ty a t → Ty a t' → t = t') ∧ tt.length ≤ 1000 ∧ (∀ (t : Nat) (T : kT), tt[t]? = some T → T.2.1 < 5000) ∧ (∀ T : kT, tt[36]? = some T → T.2.1 = 38) ∧ ∀ T : kT, tt[40]? = some T → T.2.1 = 900
theorem kTyp_eq {tt : List kT} {Ty : Nat → Nat → Prop} {a t t' : Nat} {T T' : kT} (h : kTyp tt Ty) (h1 : Ty a t) (h2 : Ty a t') (h3 : tt[t]? = some T) (h4 : tt[t']? = some T') : t = t' :=
  h.1 a t t' (Nat.lt_of_lt_of_le (List.getElem?_eq_some_iff.mp h3).1 h.2.1) (Nat.lt_of_lt_of_le (List.getElem?_eq_some_iff.mp h4).1 h.2.1) h1 h2
theorem kyf_ne {t : Nat} (h : kyf t = true) : t ≠ 12 ∧ t ≠ 13 ∧ t ≠ 15 := by
  unfold kyf at h
  refine ⟨fun e => ?_, fun e => ?_, fun e => ?_⟩ <;> subst e <;> simp at h
theorem kY_kept {D : va_G} {cA : Nat → ClassId} {tt : List kT} {Ty : Nat → Nat → Prop} {H H1 : Heap} {a t : Nat} {T : kT} (hTy : kTyp tt Ty) (h : kY D cA tt Ty H) (ha : Ty a t) (hT : tt[t]? = some T) (ht : kyf t = true) (ho : ∀ q, q ≠ a → H1[q]? = H[q]?) : kY D cA tt Ty H1 := by
  obtain ⟨n1, n2, n3⟩ := kyf_ne ht
  intro a' b' c' T' To Tw V Vo Vw j n h1 h2 h3 h4 h5 h6 h7 h8 h9 h10 h11 h12 h13 h14
  have k : ∀ (x t' : Nat) (T' : kT), Ty x t' → tt[t']? = some T' → t ≠ t' → H[x]? = H1[x]? := fun x t' T' g1 g2 g3 => (ho x (fun e => by
    subst e
    exact g3 (kTyp_eq hTy ha g1 hT g2))).symm
  exact h a' b' c' T' To Tw V Vo Vw j n h1 h2 (kcell_kept h3 (k _ _ _ h1 h2 n1)) h4 h5 h6 h7 (kcell_kept h8 (k _ _ _ h6 h7 n2)) h9 h10 (kcell_kept h11 (k _ _ _ h9 h10 n3)) h12 h13 h14
/-! FACTS: (reference, index, value) -/
abbrev kF : Type := Nat × kL × kV
/-- which of four words the object of type 36 stands at (by its numbers 12, 10, 9, 8 and its row 40): 0 none -/
def kmb (Vt : Nat → Value) : Nat → List Int → Bool
  | _, [] => true
  | k, c :: t => (match Vt k with
    | .int b => decide (b.toInt = c)
    | _ => false) && kmb Vt (k + 1) t
def kmt (V Vt : Nat → Value) (w : List Int) : Bool := match V 12, V 10, V 9, V 8 with
  | .int fk, .int tk, .int fr, .int at_ => (decide (fk.toInt = 0 ∧ tk.toInt = 1 ∧ at_.toInt - fr.toInt = (w.length : Int) ∧ 0 ≤ fr.toInt ∧ at_.toInt ≤ 900)) && kmb Vt fr.toInt.toNat w
  | _, _, _, _ => false
def kw1 : List Int := [112, 108, 97, 121, 101, 114]
def kw2 : List Int := [117, 109, 112, 105, 114, 101]
def kw3 : List Int := [119, 105, 110, 100]
def kw4 : List Int := [102, 114, 105, 101, 110, 100, 115]
def kwhich (V Vt : Nat → Value) : Int := if kmt V Vt kw1 = true then 1 else if kmt V Vt kw2 = true then 2 else if kmt V Vt kw3 = true then 3 else if kmt V Vt kw4 = true then 4 else 0
theorem kmb_congr {V V' : Nat → Value} : ∀ {w : List Int} {k : Nat}, (∀ j, j < k + w.length → V' j = V j) → kmb V' k w = kmb V k w
  | [], k, _ => rfl
  | c :: t, k, h => by
    unfold kmb
    rw [h k (by simp), kmb_congr (w := t) (k := k + 1) (fun j hj => h j (by simp; omega))]
theorem kmt_congr {V V' Vt Vt' : Nat → Value} {w : List Int} (h1 : V' 12 = V 12) (h2 : V' 10 = V 10) (h3 : V' 9 = V 9) (h4 : V' 8 = V 8) (h5 : ∀ j, j < 900 → Vt' j = Vt j) : kmt V' Vt' w = kmt V Vt w := by
  unfold kmt
  rw [h1, h2, h3, h4]
  split
  · rename_i fk tk fr at_ _ _ _ _
    by_cases hc : fk.toInt = 0 ∧ tk.toInt = 1 ∧ at_.toInt - fr.toInt = (w.length : Int) ∧ 0 ≤ fr.toInt ∧ at_.toInt ≤ 900
    · rw [kmb_congr (V := Vt) (V' := Vt') (fun j hj => h5 j (by omega))]
    · simp [hc]
  · rfl
theorem kwhich_congr {V V' Vt Vt' : Nat → Value} (h1 : V' 12 = V 12) (h2 : V' 10 = V 10) (h3 : V' 9 = V 9) (h4 : V' 8 = V 8) (h5 : ∀ j, j < 900 → Vt' j = Vt j) : kwhich V' Vt' = kwhich V Vt := by
  unfold kwhich
  rw [kmt_congr h1 h2 h3 h4 h5, kmt_congr h1 h2 h3 h4 h5, kmt_congr h1 h2 h3 h4 h5, kmt_congr h1 h2 h3 h4 h5]
theorem kwhich_in (V Vt : Nat → Value) : 0 ≤ kwhich V Vt ∧ kwhich V Vt ≤ 4 := by
  unfold kwhich
  split
  · omega
  · split
    · omega
    · split
      · omega
      · split <;> omega
/-- the index 5000 stands for that -/
def kghx (x : kL) : Bool := kLeq x (kcst 5000)
theorem kghx_ev {env : List Int} {x : kL} {z : Int} (h : kghx x = true) (hz : kev env x = some z) : z = 5000 := by
  have e := kLeq_eq h
  subst e
  exact (Option.some.inj (kcst_ev.symm.trans hz)).symm
def kfokN (D : va_G) (cA : Nat → ClassId) (tt : List kT) (Ty : Nat → Nat → Prop) (env : List Int) (ren : List Nat) (H : Heap) (q : kF) : Prop :=
  ∃ (a t : Nat) (T : kT) (V : Nat → Value) (z : Nat), ren[q.1]? = some a ∧ Ty a t ∧ tt[t]? = some T ∧ kcell D cA T a H V ∧ kev env q.2.1 = some (z : Int) ∧ z < T.2.1 ∧ kvok env ren q.2.2 (V z)
def kfokG (D : va_G) (cA : Nat → ClassId) (tt : List kT) (Ty : Nat → Nat → Prop) (env : List Int) (ren : List Nat) (H : Heap) (q : kF) : Prop :=
  ∃ (a b : Nat) (T Tt : kT) (V Vt : Nat → Value) (f : kL), ren[q.1]? = some a ∧ Ty a 36 ∧ tt[36]? = some T ∧ kcell D cA T a H V ∧ V 4 = .ref b ∧ Ty b 40 ∧ tt[40]? = some Tt ∧ kcell D cA Tt b H Vt ∧ q.2.2 = .inl f ∧ kev env f = some (kwhich V Vt)
def kfok (D : va_G) (cA : Nat → ClassId) (tt : List kT) (Ty : Nat → Nat → Prop) (env : List Int) (ren : List Nat) (H : Heap) (q : kF) : Prop := match kghx q.2.1 with
  | true => kfokG D cA tt Ty env ren H q
  | false => kfokN D cA tt Ty env ren H q
theorem kfok_ext {D : va_G} {cA : Nat → ClassId} {tt : List kT} {Ty : Nat → Nat → Prop} {env e : List Int} {ren u : List Nat} {H : Heap} {q : kF} (h : kfok D cA tt Ty env ren H q) : kfok D cA tt Ty (env ++ e) (ren ++ u) H q := by
  unfold kfok at h ⊢
  cases hg : kghx q.2.1 with
  | false =>
    rw [hg] at h
    obtain ⟨a, t, T, V, z, h1, h2, h3, h4, h5, h6, h7⟩ := h
    exact ⟨a, t, T, V, z, kget_ext h1, h2, h3, h4, kev_ext h5, h6, kvok_ext h7⟩
  | true =>
    rw [hg] at h
    obtain ⟨a, b, T, Tt, V, Vt, f, h1, h2, h3, h4, h5, h6, h7, h8, h9, h10⟩ := h
    exact ⟨a, b, T, Tt, V, Vt, f, kget_ext h1, h2, h3, h4, h5, h6, h7, h8, h9, kev_ext h10⟩
theorem kfok_N {D : va_G} {cA : Nat → ClassId} {tt : List kT} {Ty : Nat → Nat → Prop} {env : List Int} {ren : List Nat} {H : Heap} {q : kF} (h : kfok D cA tt Ty env ren H q) (hg : kghx q.2.1 = false) : kfokN D cA tt Ty env ren H q := by
  unfold kfok at h
  rw [hg] at h
  exact h
/-- a fact of a place within a cell isn't of the index 5000 -/
theorem kfok_mk {D : va_G} {cA : Nat → ClassId} {tt : List kT} {Ty : Nat → Nat → Prop} {env : List Int} {ren : List Nat} {H : Heap} {q : kF} (hTy : kTyp tt Ty) (h : kfokN D cA tt Ty env ren H q) : kfok D cA tt Ty env ren H q := by
  unfold kfok
  cases hg : kghx q.2.1 with
  | false => exact h
  | true =>
    exfalso
    obtain ⟨a, t, T, V, z, h1, h2, h3, h4, h5, h6, h7⟩ := h
    have := kghx_ev hg h5
    have := hTy.2.2.1 t T h3
    omega
/-- what the index 5000 says stays, if what it rests on does -/
theorem kfokG_kept {D : va_G} {cA : Nat → ClassId} {tt : List kT} {Ty : Nat → Nat → Prop} {env : List Int} {ren : List Nat} {H H1 : Heap} {q : kF} (h : kfokG D cA tt Ty env ren H q) (k1 : ∀ a T V, Ty a 36 → tt[36]? = some T → kcell D cA T a H V → ∃ V', kcell D cA T a H1 V' ∧ V' 4 = V 4 ∧ V' 8 = V 8 ∧ V' 9 = V 9 ∧ V' 10 = V 10 ∧ V' 12 = V 12) (k2 : ∀ b T V, Ty b 40 → tt[40]? = some T → kcell D cA T b H V → ∃ V', kcell D cA T b H1 V' ∧ ∀ j, j < 900 → V' j = V j) : kfokG D cA tt Ty env ren H1 q := by
  obtain ⟨a, b, T, Tt, V, Vt, f, h1, h2, h3, h4, h5, h6, h7, h8, h9, h10⟩ := h
  obtain ⟨V', g1, g4, g8, g9, g10, g12⟩ := k1 a T V h2 h3 h4
  obtain ⟨Vt', w1, w2⟩ := k2 b Tt Vt h6 h7 h8
  exact ⟨a, b, T, Tt, V', Vt', f, h1, h2, h3, g1, g4.trans h5, h6, h7, w1, h9, by rw [kwhich_congr g12 g10 g9 g8 w2]; exact h10⟩
/-! STATES: intervals, types of references, locals, stack, facts, constraints -/
abbrev kS : Type := kQ × List Nat × List (Nat × kV) × List kV × List kF × List kL
def kRt (Ty : Nat → Nat → Prop) (ren : List Nat) (rt : List Nat) : Prop := ren.length = rt.length ∧ ∀ (k t a : Nat), rt[k]? = some t → ren[k]? = some a → Ty a t
def kLoc (env : List Int) (ren : List Nat) : List (Nat × kV) → List (Nat × Value) → Prop
  | [], [] => True
  | a :: l, b :: m => a.1 = b.1 ∧ kvok env ren a.2 b.2 ∧ kLoc env ren l m
  | _, _ => False
def kStk (env : List Int) (ren : List Nat) : List kV → List Value → Prop
  | [], [] => True
  | a :: l, b :: m => kvok env ren a b ∧ kStk env ren l m
  | _, _ => False
theorem kLoc_ext {env e : List Int} {ren u : List Nat} : ∀ {l : List (Nat × kV)} {m : List (Nat × Value)}, kLoc env ren l m → kLoc (env ++ e) (ren ++ u) l m
  | [], [], _ => trivial
  | a :: l, b :: m, h => ⟨h.1, kvok_ext h.2.1, kLoc_ext h.2.2⟩
  | [], _ :: _, h => h.elim
  | _ :: _, [], h => h.elim
theorem kStk_ext {env e : List Int} {ren u : List Nat} : ∀ {l : List kV} {m : List Value}, kStk env ren l m → kStk (env ++ e) (ren ++ u) l m
  | [], [], _ => trivial
  | a :: l, b :: m, h => ⟨kvok_ext h.1, kStk_ext h.2⟩
  | [], _ :: _, h => h.elim
  | _ :: _, [], h => h.elim
def kst (D : va_G) (cA : Nat → ClassId) (tt : List kT) (Ty : Nat → Nat → Prop) (env : List Int) (ren : List Nat) (S : kS) (H : Heap) (lv : List (Nat × Value)) (st : List Value) : Prop :=
  kI env S.1 ∧ kC env S.2.2.2.2.2 ∧ kRt Ty ren S.2.1 ∧ kLoc env ren S.2.2.1 lv ∧ kStk env ren S.2.2.2.1 st ∧ ∀ q ∈ S.2.2.2.2.1, kfok D cA tt Ty env ren H q
theorem kRt_at {Ty : Nat → Nat → Prop} {ren rt : List Nat} {k t : Nat} (h : kRt Ty ren rt) (hk : rt[k]? = some t) : ∃ a, ren[k]? = some a ∧ Ty a t := by
  have := (List.getElem?_eq_some_iff.mp hk).1
  rw [← h.1] at this
  have e := List.getElem?_eq_getElem this
  exact ⟨_, e, h.2 k t _ hk e⟩
theorem kRt_push {Ty : Nat → Nat → Prop} {ren rt : List Nat} {t a : Nat} (h : kRt Ty ren rt) (ha : Ty a t) : kRt Ty (ren ++ [a]) (rt ++ [t]) := by
  refine ⟨by simp [h.1], fun k r w hk hw => ?_⟩
  by_cases hlt : k < rt.length
  · rw [List.getElem?_append_left hlt] at hk
    rw [List.getElem?_append_left (by rw [h.1]; exact hlt)] at hw
    exact h.2 k r w hk hw
  · have hk' := (List.getElem?_eq_some_iff.mp hk).1
    have e : k = rt.length := by simp at hk'; omega
    subst e
    have e1 : r = t := by simpa using hk.symm
    have e2 : w = a := by rw [← h.1] at hw; simpa using hw.symm
    subst e1; subst e2
    exact ha
section KST
variable {D : va_G} {cA : Nat → ClassId} {tt : List kT} {Ty : Nat → Nat → Prop} {env : List Int} {ren : List Nat} {S : kS} {H : Heap} {lv : List (Nat × Value)} {st : List Value}
/-- a symbol more -/
def kpush (S : kS) (q : Int × Int) : kS := (S.1 ++ [q], S.2)
theorem kpush_ok {q : Int × Int} {z : Int} (h : kst D cA tt Ty env ren S H lv st) (h1 : q.1 ≤ z) (h2 : z ≤ q.2) : kst D cA tt Ty (env ++ [z]) (ren ++ []) (kpush S q) H lv st ∧ kev (env ++ [z]) (ksym S.1.length) = some z := by
  obtain ⟨a, b, c, d, e, f⟩ := h
  refine ⟨⟨kI_push a h1 h2, kC_ext b, by rw [List.append_nil]; exact c, kLoc_ext d, kStk_ext e, fun q hq => kfok_ext (f q hq)⟩, ksym_ev (kI_at a)⟩
def kpushR (S : kS) (t : Nat) : kS := (S.1, S.2.1 ++ [t], S.2.2)
theorem kpushR_ok {t a : Nat} (h : kst D cA tt Ty env ren S H lv st) (ha : Ty a t) : kst D cA tt Ty (env ++ []) (ren ++ [a]) (kpushR S t) H lv st ∧ (ren ++ [a])[S.2.1.length]? = some a := by
  obtain ⟨a1, b, c, d, e, f⟩ := h
  refine ⟨⟨by rw [List.append_nil]; exact a1, kC_ext b, kRt_push c ha, kLoc_ext d, kStk_ext e, fun q hq => kfok_ext (f q hq)⟩, ?_⟩
  rw [← c.1]; simp
/-- f ≥ 0 taken up -/
def kasmS (S : kS) (f : kL) : Option kS := match kasm S.1 S.2.2.2.2.2 f with
  | some r => some (r.1, S.2.1, S.2.2.1, S.2.2.2.1, S.2.2.2.2.1, r.2)
  | none => none
theorem kasmS_ok {f : kL} {x : Int} (h : kst D cA tt Ty env ren S H lv st) (hf : kev env f = some x) (hx : 0 ≤ x) : ∃ S', kasmS S f = some S' ∧ kst D cA tt Ty env ren S' H lv st := by
  obtain ⟨a, b, c, d, e, g⟩ := h
  obtain ⟨r, h1, h2, h3⟩ := kasm_ok a b hf hx
  refine ⟨(r.1, S.2.1, S.2.2.1, S.2.2.2.1, S.2.2.2.2.1, r.2), ?_, h2, h3, c, d, e, g⟩
  unfold kasmS
  rw [h1]
def kgeS (S : kS) (f : kL) : Bool := kge S.1 S.2.2.2.2.2 f
theorem kgeS_ok {f : kL} {x : Int} (h : kst D cA tt Ty env ren S H lv st) (hf : kev env f = some x) (hp : kgeS S f = true) : 0 ≤ x := kge_ok h.1 h.2.1 hf hp
/-- lo ≤ f ≤ hi -/
def kbt (S : kS) (f : kL) (lo hi : Int) : Bool := match kgeS S (kofs f (-lo)) with
  | true => kgeS S (ksub (kcst hi) f)
  | false => false
theorem kbt_ok {f : kL} {x lo hi : Int} (h : kst D cA tt Ty env ren S H lv st) (hf : kev env f = some x) (hp : kbt S f lo hi = true) : lo ≤ x ∧ x ≤ hi := by
  unfold kbt at hp
  cases h1 : kgeS S (kofs f (-lo)) with
  | false => rw [h1] at hp; cases hp
  | true =>
    rw [h1] at hp
    have a := kgeS_ok h (kofs_ev hf) h1
    have b := kgeS_ok h (ksub_ev kcst_ev hf) hp
    omega
/-- the value is as the specification says -/
def kfit (S : kS) (v : kV) (p : kP) : Bool := match v, p with
  | .inl f, .inl q => q.any (fun r => kbt S f r.1 r.2)
  | .inr (.inl f), .inr (.inl q) => q.any (fun r => kbt S f r.1 r.2)
  | .inr (.inr (.inl k)), .inr (.inr t) => match S.2.1[k]? with
    | some t' => Nat.beq t' t
    | none => false
  | _, _ => false
theorem kfit_ok {v : kV} {p : kP} {x : Value} (h : kst D cA tt Ty env ren S H lv st) (hv : kvok env ren v x) (hp : kfit S v p = true) : kpok Ty p x := by
  match v, p, hv, hp with
  | .inl f, .inl q, ⟨n, e, hn⟩, hp =>
    obtain ⟨r, hr, hb⟩ := List.any_eq_true.mp hp
    exact ⟨n, e, r, hr, kbt_ok h hn hb⟩
  | .inr (.inl f), .inr (.inl q), ⟨n, e, hn⟩, hp =>
    obtain ⟨r, hr, hb⟩ := List.any_eq_true.mp hp
    exact ⟨n, e, r, hr, kbt_ok h hn hb⟩
  | .inr (.inr (.inl k)), .inr (.inr t), ⟨q, e, hq⟩, hp =>
    have hp : (match S.2.1[k]? with
      | some t' => Nat.beq t' t
      | none => false) = true := hp
    cases h1 : S.2.1[k]? with
    | none => rw [h1] at hp; cases hp
    | some t' =>
      rw [h1] at hp
      have e2 := Nat.beq_eq.mp hp
      subst e2
      exact ⟨q, e, h.2.2.1.2 k t' q h1 hq⟩
  | .inl _, .inr (.inl _), _, hp => cases hp
  | .inl _, .inr (.inr _), _, hp => cases hp
  | .inr (.inl _), .inl _, _, hp => cases hp
  | .inr (.inl _), .inr (.inr _), _, hp => cases hp
  | .inr (.inr (.inl _)), .inl _, _, hp => cases hp
  | .inr (.inr (.inl _)), .inr (.inl _), _, hp => cases hp
  | .inr (.inr (.inr _)), .inl _, _, hp => cases hp
  | .inr (.inr (.inr _)), .inr (.inl _), _, hp => cases hp
  | .inr (.inr (.inr _)), .inr (.inr _), _, hp => cases hp
/-- the fact of a place -/
def kfind0 (fa : List kF) (r : Nat) (x : kL) : Option kV := match fa with
  | [] => none
  | q :: t => match Nat.beq q.1 r with
    | true => match kLeq q.2.1 x with
      | true => some q.2.2
      | false => kfind0 t r x
    | false => kfind0 t r x
def kfind (fa : List kF) (r : Nat) (x : kL) : Option kV := match kghx x with
  | true => none
  | false => kfind0 fa r x
theorem kfind0_mem : ∀ {fa : List kF} {r : Nat} {x : kL} {v : kV}, kfind0 fa r x = some v → (r, x, v) ∈ fa
  | [], r, x, v, h => by cases h
  | q :: t, r, x, v, h => by
    unfold kfind0 at h
    cases h1 : Nat.beq q.1 r with
    | false => rw [h1] at h; exact List.mem_cons_of_mem _ (kfind0_mem h)
    | true =>
      rw [h1] at h
      cases h2 : kLeq q.2.1 x with
      | false => rw [h2] at h; exact List.mem_cons_of_mem _ (kfind0_mem h)
      | true =>
        rw [h2] at h
        have e1 := Nat.beq_eq.mp h1
        have e2 := kLeq_eq h2
        have e3 : q.2.2 = v := Option.some.inj h
        subst e1; subst e2; subst e3
        exact List.mem_cons_self
theorem kfind_ok {r : Nat} {x : kL} {v : kV} (h : kst D cA tt Ty env ren S H lv st) (hf : kfind S.2.2.2.2.1 r x = some v) : kfokN D cA tt Ty env ren H (r, x, v) := by
  unfold kfind at hf
  split at hf
  · cases hf
  · rename_i hg
    exact kfok_N (h.2.2.2.2.2 _ (kfind0_mem hf)) hg
/-- x is base + stride * P with P ≥ 0: P -/
def krunP (S : kS) (b s : Nat) (x : kL) : Option kL := match kdv (Int.ofNat s) (kofs x (-(Int.ofNat b))) with
  | some P => match kgeS S P with
    | true => some P
    | false => none
  | none => none
theorem krunP_ok {b s : Nat} {x P : kL} {z : Nat} (h : kst D cA tt Ty env ren S H lv st) (hx : kev env x = some (z : Int)) (hp : krunP S b s x = some P) : ∃ w : Nat, kev env P = some (w : Int) ∧ z = b + s * w := by
  unfold krunP at hp
  cases h1 : kdv (Int.ofNat s) (kofs x (-(Int.ofNat b))) with
  | none => rw [h1] at hp; (try dsimp only at hp); cases hp
  | some P' =>
    rw [h1] at hp
    try dsimp only at hp
    cases h2 : kgeS S P' with
    | false => rw [h2] at hp; (try dsimp only at hp); cases hp
    | true =>
      rw [h2] at hp
      try dsimp only at hp
      obtain rfl := Option.some.inj hp
      obtain ⟨w, h3, h4⟩ := kdv_ok h1 (kofs_ev hx)
      have h5 := kgeS_ok h h3 h2
      refine ⟨w.toNat, by rw [Int.toNat_of_nonneg h5]; exact h3, ?_⟩
      have h4 : (z : Int) + -(b : Int) = (s : Int) * w := h4
      have h6 : ((w.toNat : Nat) : Int) = w := Int.toNat_of_nonneg h5
      rw [← h6, ← Int.natCast_mul] at h4
      omega
def kspR (S : kS) (x : kL) : List kRun → Option kP
  | [] => none
  | r :: t => match krunP S r.1 r.2.1 x with
    | some P => match kgeS S (ksub (kcst (Int.ofNat r.2.2.1 - 1)) P) with
      | true => some r.2.2.2
      | false => kspR S x t
    | none => kspR S x t
theorem kspR_ok {T : kT} {V : Nat → Value} {x : kL} {z : Nat} (h : kst D cA tt Ty env ren S H lv st) (hx : kev env x = some (z : Int)) : ∀ {l : List kRun} {p : kP}, (∀ r ∈ l, ∀ P, P < r.2.2.1 → kpok Ty r.2.2.2 (V (r.1 + r.2.1 * P))) → kspR S x l = some p → kpok Ty p (V z)
  | [], p, hv, hp => by cases hp
  | r :: l, p, hv, hp => by
    have ih := fun hp => kspR_ok (T := T) (l := l) (p := p) h hx (fun r hr => hv r (List.mem_cons_of_mem _ hr)) hp
    unfold kspR at hp
    cases h1 : krunP S r.1 r.2.1 x with
    | none => rw [h1] at hp; (try dsimp only at hp); exact ih hp
    | some P =>
      rw [h1] at hp
      try dsimp only at hp
      cases h2 : kgeS S (ksub (kcst (Int.ofNat r.2.2.1 - 1)) P) with
      | false => rw [h2] at hp; (try dsimp only at hp); exact ih hp
      | true =>
        rw [h2] at hp
        try dsimp only at hp
        obtain rfl := Option.some.inj hp
        obtain ⟨w, h3, h4⟩ := krunP_ok h hx h1
        have h5 := kgeS_ok h (ksub_ev kcst_ev h3) h2
        have h5 : 0 ≤ ((r.2.2.1 : Int) - 1) - w := h5
        rw [h4]
        exact hv r List.mem_cons_self w (by omega)
def kspS (S : kS) (r0 : Nat) (x : kL) : List kSelf → Option kP
  | [] => none
  | r :: t => match kfind S.2.2.2.2.1 r0 (kcst (Int.ofNat r.2.2.1)) with
    | some (.inl n) => match krunP S r.1 r.2.1 x with
      | some P => match kgeS S (kofs (ksub n P) (-1)) with
        | true => match kgeS S (ksub (kcst (Int.ofNat r.2.2.2.1 - 1)) P) with
          | true => some r.2.2.2.2
          | false => kspS S r0 x t
        | false => kspS S r0 x t
      | none => kspS S r0 x t
    | _ => kspS S r0 x t
theorem kspS_ok {t0 : Nat} {T : kT} {V : Nat → Value} {x : kL} {z r0 a : Nat} (hTy : kTyp tt Ty) (h : kst D cA tt Ty env ren S H lv st) (ha : ren[r0]? = some a) (ht : Ty a t0) (hT : tt[t0]? = some T) (hcl : kcell D cA T a H V) (hx : kev env x = some (z : Int)) :
    ∀ {l : List kSelf} {p : kP}, (∀ r ∈ l, ∀ (n : Int32) (P : Nat), V r.2.2.1 = .int n → P < r.2.2.2.1 → (P : Int) < n.toInt → kpok Ty r.2.2.2.2 (V (r.1 + r.2.1 * P))) → kspS S r0 x l = some p → kpok Ty p (V z)
  | [], p, hv, hp => by cases hp
  | r :: l, p, hv, hp => by
    have ih := fun hp => kspS_ok (l := l) (p := p) hTy h ha ht hT hcl hx (fun r hr => hv r (List.mem_cons_of_mem _ hr)) hp
    unfold kspS at hp
    cases h1 : kfind S.2.2.2.2.1 r0 (kcst (Int.ofNat r.2.2.1)) with
    | none => rw [h1] at hp; (try dsimp only at hp); exact ih hp
    | some v =>
      cases v with
      | inr v => rw [h1] at hp; (try dsimp only at hp); exact ih hp
      | inl n =>
        rw [h1] at hp
        try dsimp only at hp
        cases h2 : krunP S r.1 r.2.1 x with
        | none => rw [h2] at hp; (try dsimp only at hp); exact ih hp
        | some P =>
          rw [h2] at hp
          try dsimp only at hp
          cases h3 : kgeS S (kofs (ksub n P) (-1)) with
          | false => rw [h3] at hp; (try dsimp only at hp); exact ih hp
          | true =>
            rw [h3] at hp
            try dsimp only at hp
            cases h4 : kgeS S (ksub (kcst (Int.ofNat r.2.2.2.1 - 1)) P) with
            | false => rw [h4] at hp; (try dsimp only at hp); exact ih hp
            | true =>
              rw [h4] at hp
              try dsimp only at hp
              obtain rfl := Option.some.inj hp
              obtain ⟨w, e1, e2⟩ := krunP_ok h hx h2
              obtain ⟨a', t', T', V', z', f1, f2, f3, f4, f5, f6, n', f7, f8⟩ := kfind_ok h h1
              have ea : a' = a := Option.some.inj (f1.symm.trans ha)
              subst ea
              have et := kTyp_eq hTy f2 ht f3 hT
              subst et
              have eT : T' = T := Option.some.inj (f3.symm.trans hT)
              subst eT
              have ez : (Int.ofNat r.2.2.1) = (z' : Int) := by
                have := kcst_ev (env := env) (n := Int.ofNat r.2.2.1)
                exact Option.some.inj (this.symm.trans f5)
              have ez : r.2.2.1 = z' := Int.ofNat.inj ez
              subst ez
              have eV := kcell_uniq f4 hcl f6
              have g1 := kgeS_ok h (kofs_ev (ksub_ev f8 e1)) h3
              have g2 := kgeS_ok h (ksub_ev kcst_ev e1) h4
              have g2 : 0 ≤ ((r.2.2.2.1 : Int) - 1) - w := g2
              rw [e2]
              exact hv r List.mem_cons_self n' w (by rw [← eV]; exact f7) (by omega) (by omega)
end KST
end
section
/-! LOADS AND STORES, in the abstract -/
def kfadd (S : kS) (q : kF) : kS := (S.1, S.2.1, S.2.2.1, S.2.2.2.1, q :: S.2.2.2.2.1, S.2.2.2.2.2)
def kldI (S : kS) (r : Nat) (x : kL) : kQ → List (kS × kV)
  | [] => []
  | q :: t => (match kz (q.2 - q.1) with
    | true => (kfadd S (r, x, .inl (kcst q.1)), .inl (kcst q.1))
    | false => (kfadd (kpush S q) (r, x, .inl (ksym S.1.length)), .inl (ksym S.1.length))) :: kldI S r x t
def kldL (S : kS) (r : Nat) (x : kL) : kQ → List (kS × kV)
  | [] => []
  | q :: t => (match kz (q.2 - q.1) with
    | true => (kfadd S (r, x, .inr (.inl (kcst q.1))), .inr (.inl (kcst q.1)))
    | false => (kfadd (kpush S q) (r, x, .inr (.inl (ksym S.1.length))), .inr (.inl (ksym S.1.length)))) :: kldL S r x t
def kldP (S : kS) (r : Nat) (x : kL) (p : kP) : List (kS × kV) := match p with
  | .inl q => kldI S r x q
  | .inr (.inl q) => kldL S r x q
  | .inr (.inr t) => [(kfadd (kpushR S t) (r, x, .inr (.inr (.inl S.2.1.length))), .inr (.inr (.inl S.2.1.length)))]
def kload (tt : List kT) (S : kS) (r : Nat) (x : kL) : Option (List (kS × kV)) := match S.2.1[r]? with
  | none => none
  | some t => match tt[t]? with
    | none => none
    | some T => match kbt S x 0 (Int.ofNat T.2.1 - 1) with
      | false => none
      | true => match kfind S.2.2.2.2.1 r x with
        | some v => some [(S, v)]
        | none => match kspS S r x T.2.2.2 with
          | some p => some (kldP S r x p)
          | none => match kspR S x T.2.2.1 with
            | some p => some (kldP S r x p)
            | none => none
section KLS
variable {D : va_G} {cA : Nat → ClassId} {tt : List kT} {Ty : Nat → Nat → Prop} {env : List Int} {ren : List Nat} {S : kS} {H : Heap} {lv : List (Nat × Value)} {st : List Value}
theorem kfadd_ok {q : kF} (h : kst D cA tt Ty env ren S H lv st) (hq : kfok D cA tt Ty env ren H q) : kst D cA tt Ty env ren (kfadd S q) H lv st := by
  obtain ⟨a, b, c, d, e, f⟩ := h
  refine ⟨a, b, c, d, e, fun p hp => ?_⟩
  rcases List.mem_cons.mp hp with rfl | hp
  · exact hq
  · exact f p hp
theorem kldP_ok {r a t z : Nat} {T : kT} {V : Nat → Value} {x : kL} {p : kP} (hTy : kTyp tt Ty) (h : kst D cA tt Ty env ren S H lv st) (ha : ren[r]? = some a) (ht : Ty a t) (hT : tt[t]? = some T) (hc : kcell D cA T a H V) (hx : kev env x = some (z : Int)) (hz : z < T.2.1) (hp : kpok Ty p (V z)) :
    ∃ alt ∈ kldP S r x p, ∃ e u, kst D cA tt Ty (env ++ e) (ren ++ u) alt.1 H lv st ∧ kvok (env ++ e) (ren ++ u) alt.2 (V z) := by
  have hf : ∀ (e : List Int) (u : List Nat) (v : kV), kvok (env ++ e) (ren ++ u) v (V z) → kfok D cA tt Ty (env ++ e) (ren ++ u) H (r, x, v) := fun e u v hv => kfok_mk hTy ⟨a, t, T, V, z, kget_ext ha, ht, hT, hc, kev_ext hx, hz, hv⟩
  match p, hp with
  | .inl q, ⟨n, hn, r0, hr0, b1, b2⟩ =>
    have key : ∀ q : kQ, r0 ∈ q → ∃ alt ∈ kldI S r x q, ∃ e u, kst D cA tt Ty (env ++ e) (ren ++ u) alt.1 H lv st ∧ kvok (env ++ e) (ren ++ u) alt.2 (V z) := by
      intro q
      induction q with
      | nil => intro h; cases h
      | cons r1 q ih =>
        intro hm
        rcases List.mem_cons.mp hm with e | hm
        · subst e
          refine ⟨_, List.mem_cons_self, ?_⟩
          cases hk : kz (r0.2 - r0.1) with
          | true =>
            have e1 := kz_iff.mp hk
            have hv : kvok (env ++ []) (ren ++ []) (.inl (kcst r0.1)) (V z) := ⟨n, hn, by rw [kcst_ev]; congr 1; omega⟩
            exact ⟨[], [], kfadd_ok (by rw [List.append_nil, List.append_nil]; exact h) (hf [] [] _ hv), hv⟩
          | false =>
            obtain ⟨h1, h2⟩ := kpush_ok (q := r0) h b1 b2
            have hv : kvok (env ++ [n.toInt]) (ren ++ []) (.inl (ksym S.1.length)) (V z) := ⟨n, hn, h2⟩
            exact ⟨[n.toInt], [], kfadd_ok h1 (hf _ _ _ hv), hv⟩
        · obtain ⟨alt, h1, h2⟩ := ih hm
          exact ⟨alt, List.mem_cons_of_mem _ h1, h2⟩
    exact key q hr0
  | .inr (.inl q), ⟨n, hn, r0, hr0, b1, b2⟩ =>
    have key : ∀ q : kQ, r0 ∈ q → ∃ alt ∈ kldL S r x q, ∃ e u, kst D cA tt Ty (env ++ e) (ren ++ u) alt.1 H lv st ∧ kvok (env ++ e) (ren ++ u) alt.2 (V z) := by
      intro q
      induction q with
      | nil => intro h; cases h
      | cons r1 q ih =>
        intro hm
        rcases List.mem_cons.mp hm with e | hm
        · subst e
          refine ⟨_, List.mem_cons_self, ?_⟩
          cases hk : kz (r0.2 - r0.1) with
          | true =>
            have e1 := kz_iff.mp hk
            have hv : kvok (env ++ []) (ren ++ []) (.inr (.inl (kcst r0.1))) (V z) := ⟨n, hn, by rw [kcst_ev]; congr 1; omega⟩
            exact ⟨[], [], kfadd_ok (by rw [List.append_nil, List.append_nil]; exact h) (hf [] [] _ hv), hv⟩
          | false =>
            obtain ⟨h1, h2⟩ := kpush_ok (q := r0) h b1 b2
            have hv : kvok (env ++ [n.toInt]) (ren ++ []) (.inr (.inl (ksym S.1.length))) (V z) := ⟨n, hn, h2⟩
            exact ⟨[n.toInt], [], kfadd_ok h1 (hf _ _ _ hv), hv⟩
        · obtain ⟨alt, h1, h2⟩ := ih hm
          exact ⟨alt, List.mem_cons_of_mem _ h1, h2⟩
    exact key q hr0
  | .inr (.inr t'), ⟨a', hn, ht'⟩ =>
    obtain ⟨h1, h2⟩ := kpushR_ok h ht'
    have hv : kvok (env ++ []) (ren ++ [a']) (.inr (.inr (.inl S.2.1.length))) (V z) := ⟨a', hn, h2⟩
    exact ⟨_, List.mem_cons_self, [], [a'], kfadd_ok h1 (hf _ _ _ hv), hv⟩
theorem kload_ok {lo r : Nat} {x : kL} {w : Int} {alts : List (kS × kV)} (hTy : kTyp tt Ty) (hG : kgood D cA tt Ty lo H) (h : kst D cA tt Ty env ren S H lv st) (hx : kev env x = some w) (hl : kload tt S r x = some alts) :
    ∃ (a t : Nat) (T : kT) (V : Nat → Value) (z : Nat), S.2.1[r]? = some t ∧ ren[r]? = some a ∧ Ty a t ∧ tt[t]? = some T ∧ lo ≤ a ∧ kcell D cA T a H V ∧ kvals Ty T V ∧ w = (z : Int) ∧ z < T.2.1 ∧ ∃ alt ∈ alts, ∃ e u, kst D cA tt Ty (env ++ e) (ren ++ u) alt.1 H lv st ∧ kvok (env ++ e) (ren ++ u) alt.2 (V z) := by
  unfold kload at hl
  cases h1 : S.2.1[r]? with
  | none => rw [h1] at hl; cases hl
  | some t =>
    rw [h1] at hl; dsimp only at hl
    cases h2 : tt[t]? with
    | none => rw [h2] at hl; cases hl
    | some T =>
      rw [h2] at hl; dsimp only at hl
      cases h3 : kbt S x 0 (Int.ofNat T.2.1 - 1) with
      | false => rw [h3] at hl; cases hl
      | true =>
        rw [h3] at hl; dsimp only at hl
        obtain ⟨a, ha, ht⟩ := kRt_at h.2.2.1 h1
        obtain ⟨hlo, V, hc, hv⟩ := hG.1 a t T ht h2
        obtain ⟨b1, b2⟩ := kbt_ok h hx h3
        have b2 : w ≤ (T.2.1 : Int) - 1 := b2
        have hw : w = ((w.toNat : Nat) : Int) := (Int.toNat_of_nonneg b1).symm
        have hx' : kev env x = some ((w.toNat : Nat) : Int) := by rw [← hw]; exact hx
        have hz : w.toNat < T.2.1 := by omega
        refine ⟨a, t, T, V, w.toNat, rfl, ha, ht, h2, hlo, hc, hv, hw, hz, ?_⟩
        cases h4 : kfind S.2.2.2.2.1 r x with
        | some v =>
          rw [h4] at hl; dsimp only at hl
          obtain rfl := Option.some.inj hl
          refine ⟨_, List.mem_cons_self, [], [], by rw [List.append_nil, List.append_nil]; exact h, ?_⟩
          obtain ⟨a', t', T', V', z', f1, f2, f3, f4, f5, f6, f7⟩ := kfind_ok h h4
          have ea : a' = a := Option.some.inj (f1.symm.trans ha)
          subst ea
          have et := kTyp_eq hTy f2 ht f3 h2
          subst et
          have eT : T' = T := Option.some.inj (f3.symm.trans h2)
          subst eT
          have ez : (z' : Int) = ((w.toNat : Nat) : Int) := Option.some.inj (f5.symm.trans hx')
          have ez : z' = w.toNat := by omega
          subst ez
          rw [List.append_nil, List.append_nil, ← kcell_uniq f4 hc hz]
          exact f7
        | none =>
          rw [h4] at hl; dsimp only at hl
          cases h5 : kspS S r x T.2.2.2 with
          | some p =>
            rw [h5] at hl; dsimp only at hl
            obtain rfl := Option.some.inj hl
            exact kldP_ok hTy h ha ht h2 hc hx' hz (kspS_ok hTy h ha ht h2 hc hx' hv.2 h5)
          | none =>
            rw [h5] at hl; dsimp only at hl
            cases h6 : kspR S x T.2.2.1 with
            | none => rw [h6] at hl; cases hl
            | some p =>
              rw [h6] at hl; dsimp only at hl
              obtain rfl := Option.some.inj hl
              exact kldP_ok hTy h ha ht h2 hc hx' hz (kspR_ok (T := T) h hx' hv.1 h6)
end KLS
/-- x and y are not the same -/
def kneS (S : kS) (x y : kL) : Bool := match kgeS S (kofs (ksub x y) (-1)) with
  | true => true
  | false => kgeS S (kofs (ksub y x) (-1))
/-- x isn't one of b, b + s, .. (n of them) -/
def koff (S : kS) (x : kL) (b s n : Nat) : Bool := match n with
  | 0 => true
  | k + 1 => match kgeS S (ksub (kcst (Int.ofNat b - 1)) x) with
    | true => true
    | false => kgeS S (kofs x (-(Int.ofNat (b + s * k + 1))))
/-- what is behind a writing to index x of a cell of type t -/
def kkeepN (S : kS) (t : Nat) (x : kL) (q : kF) : Bool := match S.2.1[q.1]? with
  | some t' => match Nat.beq t' t with
    | false => Nat.blt t' 1000
    | true => kneS S x q.2.1
  | none => false
def kkeepG (S : kS) (t : Nat) (x : kL) : Bool := match Nat.beq t 40 with
  | true => false
  | false => match Nat.beq t 36 with
    | false => true
    | true => kneS S x (kcst 4) && (kneS S x (kcst 8) && (kneS S x (kcst 9) && (kneS S x (kcst 10) && kneS S x (kcst 12))))
def kkeep (S : kS) (t : Nat) (x : kL) (q : kF) : Bool := match kghx q.2.1 with
  | true => kkeepG S t x
  | false => kkeepN S t x q
abbrev kW : Type := List (Nat × Option Nat)
def kwr (w : kW) (t : Nat) (x : kL) : Bool := w.any (fun q => match Nat.beq q.1 t with
  | true => match q.2 with
    | none => true
    | some j => kLeq x (kcst (Int.ofNat j))
  | false => false)
/-- what may be written without touching what kY says -/
def kyS (S : kS) (t N : Nat) (x : kL) : Bool := match kyf t with
  | true => true
  | false => match Nat.beq t 12 with
    | true => match Nat.blt 3 N with
      | true => match kneS S x (kcst 1) with
        | true => kneS S x (kcst 3)
        | false => false
      | false => false
    | false => false
theorem kY_fld {D : va_G} {cA : Nat → ClassId} {tt : List kT} {Ty : Nat → Nat → Prop} {H H1 : Heap} {a z : Nat} {T : kT} {V0 : Nat → Value} {y : Value} (hTy : kTyp tt Ty) (h : kY D cA tt Ty H) (ha : Ty a 12) (hT : tt[12]? = some T) (hN : 3 < T.2.1) (hc : kcell D cA T a H V0) (hc1 : kcell D cA T a H1 (updV V0 z y)) (h1 : z ≠ 1) (h3 : z ≠ 3) (ho : ∀ q, q ≠ a → H1[q]? = H[q]?) : kY D cA tt Ty H1 := by
  intro a' b' c' T' To Tw V Vo Vw j n w1 w2 w3 w4 w5 w6 w7 w8 w9 w10 w11 w12 w13 w14
  have eT : T' = T := Option.some.inj (w2.symm.trans hT)
  subst eT
  have k : ∀ (x t' : Nat) (T2 : kT), Ty x t' → tt[t']? = some T2 → 12 ≠ t' → H[x]? = H1[x]? := fun x t' T2 g1 g2 g3 => (ho x (fun e => by
    subst e
    exact g3 (kTyp_eq hTy ha g1 hT g2))).symm
  by_cases e : a' = a
  · subst e
    have e1 := kcell_uniq w3 hc1 (j := 1) (by omega)
    have e3 := kcell_uniq w3 hc1 (j := 3) (by omega)
    simp only [updV, Ne.symm h1, if_false] at e1
    simp only [updV, Ne.symm h3, if_false] at e3
    exact h a' b' c' T' To Tw V0 Vo Vw j n w1 w2 hc (e1.symm.trans w4) (e3.symm.trans w5) w6 w7 (kcell_kept w8 (k _ _ _ w6 w7 (by decide))) w9 w10 (kcell_kept w11 (k _ _ _ w9 w10 (by decide))) w12 w13 w14
  · exact h a' b' c' T' To Tw V Vo Vw j n w1 w2 (kcell_kept w3 (ho a' e).symm) w4 w5 w6 w7 (kcell_kept w8 (k _ _ _ w6 w7 (by decide))) w9 w10 (kcell_kept w11 (k _ _ _ w9 w10 (by decide))) w12 w13 w14
def kstore (tt : List kT) (wr : kW) (S : kS) (r : Nat) (x : kL) (v : kV) : Option kS := match S.2.1[r]? with
  | none => none
  | some t => match tt[t]? with
    | none => none
    | some T => match kbt S x 0 (Int.ofNat T.2.1 - 1) with
      | false => none
      | true => match T.2.2.1.all (fun q => match koff S x q.1 q.2.1 q.2.2.1 with
          | true => true
          | false => kfit S v q.2.2.2) with
        | false => none
        | true => match T.2.2.2.all (fun q => match koff S x q.1 q.2.1 q.2.2.2.1 with
            | true => kneS S x (kcst (Int.ofNat q.2.2.1))
            | false => false) with
          | false => none
          | true => match (match kwr wr t x with
              | true => kyS S t T.2.1 x
              | false => false) with
            | false => none
            | true => some (S.1, S.2.1, S.2.2.1, S.2.2.2.1, (r, x, v) :: S.2.2.2.2.1.filter (kkeep S t x), S.2.2.2.2.2)
/-- what isn't in wr stays -/
def kkp (D : va_G) (cA : Nat → ClassId) (tt : List kT) (Ty : Nat → Nat → Prop) (wr : kW) (H H1 : Heap) : Prop := ∀ (a t : Nat) (T : kT) (V : Nat → Value) (j : Nat), Ty a t → tt[t]? = some T → kcell D cA T a H V → j < T.2.1 → (∀ w ∈ wr, w.1 = t → w.2 ≠ none ∧ w.2 ≠ some j) → ∃ V', kcell D cA T a H1 V' ∧ V' j = V j
theorem kkp_rfl {D : va_G} {cA : Nat → ClassId} {tt : List kT} {Ty : Nat → Nat → Prop} {wr : kW} {H : Heap} : kkp D cA tt Ty wr H H := fun _ _ _ V _ _ _ h _ _ => ⟨V, h, rfl⟩
theorem kkp_trans {D : va_G} {cA : Nat → ClassId} {tt : List kT} {Ty : Nat → Nat → Prop} {wr : kW} {H H1 H2 : Heap} (h1 : kkp D cA tt Ty wr H H1) (h2 : kkp D cA tt Ty wr H1 H2) : kkp D cA tt Ty wr H H2 := fun a t T V j ht hT hc hj hw => by
  obtain ⟨V', c1, e1⟩ := h1 a t T V j ht hT hc hj hw
  obtain ⟨V2, c2, e2⟩ := h2 a t T V' j ht hT c1 hj hw
  exact ⟨V2, c2, e2.trans e1⟩
section KSS
variable {D : va_G} {cA : Nat → ClassId} {tt : List kT} {Ty : Nat → Nat → Prop} {env : List Int} {ren : List Nat} {S : kS} {H : Heap} {lv : List (Nat × Value)} {st : List Value}
theorem kneS_ok {x y : kL} {a b : Int} (h : kst D cA tt Ty env ren S H lv st) (hx : kev env x = some a) (hy : kev env y = some b) (hn : kneS S x y = true) : a ≠ b := by
  unfold kneS at hn
  cases h1 : kgeS S (kofs (ksub x y) (-1)) with
  | true =>
    have := kgeS_ok h (kofs_ev (ksub_ev hx hy)) h1
    omega
  | false =>
    rw [h1] at hn
    have := kgeS_ok h (kofs_ev (ksub_ev hy hx)) hn
    omega
theorem koff_ok {x : kL} {z b s n : Nat} (h : kst D cA tt Ty env ren S H lv st) (hx : kev env x = some (z : Int)) (hn : koff S x b s n = true) : ∀ P, P < n → z ≠ b + s * P := by
  intro P hP
  cases n with
  | zero => omega
  | succ k =>
    unfold koff at hn
    have hm : s * P ≤ s * k := Nat.mul_le_mul_left s (by omega)
    cases h1 : kgeS S (ksub (kcst (Int.ofNat b - 1)) x) with
    | true =>
      have := kgeS_ok h (ksub_ev kcst_ev hx) h1
      have : 0 ≤ ((b : Int) - 1) - z := this
      omega
    | false =>
      simp only [h1] at hn
      have := kgeS_ok h (kofs_ev hx) hn
      have : 0 ≤ (z : Int) + -((b + s * k + 1 : Nat) : Int) := this
      omega
theorem kstore_ok {lo r : Nat} {x : kL} {w : Int} {v : kV} {y : Value} {wr : kW} {S' : kS} (hTy : kTyp tt Ty) (hG : kgood D cA tt Ty lo H) (h : kst D cA tt Ty env ren S H lv st) (hx : kev env x = some w) (hy : kvok env ren v y) (hl : kstore tt wr S r x v = some S') :
    ∃ (a t : Nat) (T : kT) (V : Nat → Value) (z : Nat), S.2.1[r]? = some t ∧ ren[r]? = some a ∧ Ty a t ∧ tt[t]? = some T ∧ lo ≤ a ∧ kcell D cA T a H V ∧ w = (z : Int) ∧ z < T.2.1 ∧
      ∀ H1 : Heap, kcell D cA T a H1 (updV V z y) → (∀ q, q ≠ a → H1[q]? = H[q]?) → kgood D cA tt Ty lo H1 ∧ kst D cA tt Ty env ren S' H1 lv st ∧ kkp D cA tt Ty wr H H1 := by
  unfold kstore at hl
  cases h1 : S.2.1[r]? with
  | none => rw [h1] at hl; cases hl
  | some t =>
    rw [h1] at hl; dsimp only at hl
    cases h2 : tt[t]? with
    | none => rw [h2] at hl; cases hl
    | some T =>
      rw [h2] at hl; dsimp only at hl
      cases h3 : kbt S x 0 (Int.ofNat T.2.1 - 1) with
      | false => rw [h3] at hl; cases hl
      | true =>
        rw [h3] at hl; dsimp only at hl
        obtain ⟨a, ha, ht⟩ := kRt_at h.2.2.1 h1
        obtain ⟨hlo, V, hc, hv⟩ := hG.1 a t T ht h2
        obtain ⟨b1, b2⟩ := kbt_ok h hx h3
        have b2 : w ≤ (T.2.1 : Int) - 1 := b2
        have hw : w = ((w.toNat : Nat) : Int) := (Int.toNat_of_nonneg b1).symm
        have hx' : kev env x = some ((w.toNat : Nat) : Int) := by rw [← hw]; exact hx
        have hz : w.toNat < T.2.1 := by omega
        refine ⟨a, t, T, V, w.toNat, rfl, ha, ht, h2, hlo, hc, hw, hz, fun H1 hc1 ho => ?_⟩
        split at hl
        · cases hl
        · rename_i h4
          split at hl
          · cases hl
          · rename_i h5
            split at hl
            · cases hl
            · rename_i h60
              obtain rfl := Option.some.inj hl
              have h6 : kwr wr t x = true ∧ kyS S t T.2.1 x = true := by
                cases g1 : kwr wr t x with
                | false => simp [g1] at h60
                | true =>
                  simp only [g1] at h60
                  exact ⟨rfl, h60⟩
              obtain ⟨h6, h6y⟩ := h6
              have hYn : kY D cA tt Ty H1 := by
                unfold kyS at h6y
                cases g1 : kyf t with
                | true => exact kY_kept hTy hG.2 ht h2 g1 ho
                | false =>
                  simp only [g1] at h6y
                  cases g2 : Nat.beq t 12 with
                  | false => simp [g2] at h6y
                  | true =>
                    simp only [g2] at h6y
                    have e12 := Nat.beq_eq.mp g2
                    cases g3 : Nat.blt 3 T.2.1 with
                    | false => simp [g3] at h6y
                    | true =>
                      simp only [g3] at h6y
                      cases g4 : kneS S x (kcst 1) with
                      | false => simp [g4] at h6y
                      | true =>
                        simp only [g4] at h6y
                        have n1 := kneS_ok h hx' kcst_ev g4
                        have n3 := kneS_ok h hx' kcst_ev h6y
                        subst e12
                        exact kY_fld hTy hG.2 ht h2 (Nat.blt_eq.mp g3) hc hc1 (by omega) (by omega) ho
              have hvals : kvals Ty T (updV V w.toNat y) := by
                refine ⟨fun q hq P hP => ?_, fun q hq n P hn hP hPn => ?_⟩
                · have h7 := List.all_eq_true.mp h4 q hq
                  by_cases e : q.1 + q.2.1 * P = w.toNat
                  · simp only [updV, e, if_true]
                    cases h8 : koff S x q.1 q.2.1 q.2.2.1 with
                    | true => exact absurd e.symm (koff_ok h hx' h8 P hP)
                    | false =>
                      simp only [h8] at h7
                      exact kfit_ok h hy h7
                  · simp only [updV, e, if_false]
                    exact hv.1 q hq P hP
                · have h7 := List.all_eq_true.mp h5 q hq
                  cases h8 : koff S x q.1 q.2.1 q.2.2.2.1 with
                  | false => simp [h8] at h7
                  | true =>
                    simp only [h8] at h7
                    have e1 := koff_ok h hx' h8 P hP
                    have e2 := kneS_ok h hx' kcst_ev h7
                    have e2 : ((w.toNat : Nat) : Int) ≠ ((q.2.2.1 : Nat) : Int) := e2
                    have e3 : ¬ q.2.2.1 = w.toNat := by omega
                    simp only [updV, e3, if_false] at hn
                    simp only [updV, Ne.symm e1, if_false]
                    exact hv.2 q hq n P hn hP hPn
              refine ⟨⟨fun a' t' T' ht' hT' => ?_, hYn⟩, ⟨h.1, h.2.1, h.2.2.1, h.2.2.2.1, h.2.2.2.2.1, fun q hq => ?_⟩, fun a' t' T' V' j ht' hT' hc' hj hwr => ?_⟩
              · by_cases e : a' = a
                · subst e
                  have et := kTyp_eq hTy ht' ht hT' h2
                  subst et
                  have eT : T' = T := Option.some.inj (hT'.symm.trans h2)
                  subst eT
                  exact ⟨hlo, _, hc1, hvals⟩
                · obtain ⟨g1, V', g2, g3⟩ := hG.1 a' t' T' ht' hT'
                  exact ⟨g1, V', kcell_kept g2 (ho a' e), g3⟩
              · rcases List.mem_cons.mp hq with rfl | hq
                · exact kfok_mk hTy ⟨a, t, T, _, w.toNat, ha, ht, h2, hc1, hx', hz, by simp only [updV, if_true]; exact hy⟩
                · obtain ⟨hq, hk⟩ := List.mem_filter.mp hq
                  unfold kkeep at hk
                  cases hgx : kghx q.2.1 with
                  | true =>
                    rw [hgx] at hk
                    dsimp only at hk
                    have hfq := h.2.2.2.2.2 q hq
                    unfold kfok at hfq ⊢
                    rw [hgx] at hfq ⊢
                    dsimp only at hfq ⊢
                    unfold kkeepG at hk
                    cases g40 : Nat.beq t 40 with
                    | true => rw [g40] at hk; cases hk
                    | false =>
                      rw [g40] at hk
                      dsimp only at hk
                      have n40 : t ≠ 40 := fun e => by subst e; cases g40
                      refine kfokG_kept hfq (fun a' T' V' ht' hT' hc' => ?_) (fun b' T' V' ht' hT' hc' => ⟨V', kcell_kept hc' (ho b' (fun e => by subst e; exact n40 (kTyp_eq hTy ht ht' h2 hT'))), fun _ _ => rfl⟩)
                      by_cases e : a' = a
                      · subst e
                        have et := kTyp_eq hTy ht' ht hT' h2
                        subst et
                        have eT : T' = T := Option.some.inj (hT'.symm.trans h2)
                        subst eT
                        rw [show Nat.beq 36 36 = true from rfl] at hk
                        dsimp only at hk
                        simp only [Bool.and_eq_true] at hk
                        obtain ⟨k4, k8, k9, k10, k12⟩ := hk
                        have n4 := kneS_ok h hx' kcst_ev k4
                        have n8 := kneS_ok h hx' kcst_ev k8
                        have n9 := kneS_ok h hx' kcst_ev k9
                        have n10 := kneS_ok h hx' kcst_ev k10
                        have n12 := kneS_ok h hx' kcst_ev k12
                        have l38 := hTy.2.2.2.1 T' hT'
                        have u : ∀ j : Nat, j < 38 → j ≠ w.toNat → updV V w.toNat y j = V' j := fun j hj hne => by
                          simp only [updV, hne, if_false]
                          exact kcell_uniq hc hc' (by omega)
                        exact ⟨_, hc1, u 4 (by omega) (by omega), u 8 (by omega) (by omega), u 9 (by omega) (by omega), u 10 (by omega) (by omega), u 12 (by omega) (by omega)⟩
                      · exact ⟨V', kcell_kept hc' (ho a' e), rfl, rfl, rfl, rfl, rfl⟩
                  | false =>
                    rw [hgx] at hk
                    dsimp only at hk
                    obtain ⟨a', t', T', V', z', f1, f2, f3, f4, f5, f6, f7⟩ := kfok_N (h.2.2.2.2.2 q hq) hgx
                    by_cases e : a' = a
                    · subst e
                      have et := kTyp_eq hTy f2 ht f3 h2
                      subst et
                      have eT : T' = T := Option.some.inj (f3.symm.trans h2)
                      subst eT
                      refine kfok_mk hTy ⟨a', t', T', _, z', f1, f2, f3, hc1, f5, f6, ?_⟩
                      have hne : ¬ z' = w.toNat := by
                        unfold kkeepN at hk
                        cases h8 : S.2.1[q.1]? with
                        | none => rw [h8] at hk; cases hk
                        | some t2 =>
                          simp only [h8] at hk
                          have ft := h.2.2.1.2 q.1 t2 a' h8 f1
                          cases h9 : Nat.beq t2 t' with
                          | true =>
                            simp only [h9] at hk
                            have := kneS_ok h hx' f5 hk
                            omega
                          | false =>
                            exfalso
                            simp only [h9] at hk
                            have l1 : t2 < 1000 := Nat.blt_eq.mp hk
                            have l2 : t' < 1000 := Nat.lt_of_lt_of_le (List.getElem?_eq_some_iff.mp h2).1 hTy.2.1
                            have := hTy.1 _ _ _ l1 l2 ft ht
                            subst this
                            rw [Nat.beq_refl] at h9
                            cases h9
                      simp only [updV, hne, if_false]
                      rw [← kcell_uniq f4 hc f6]
                      exact f7
                    · exact kfok_mk hTy ⟨a', t', T', V', z', f1, f2, f3, kcell_kept f4 (ho a' e), f5, f6, f7⟩
              · by_cases e : a' = a
                · subst e
                  have et := kTyp_eq hTy ht' ht hT' h2
                  subst et
                  have eT : T' = T := Option.some.inj (hT'.symm.trans h2)
                  subst eT
                  refine ⟨_, hc1, ?_⟩
                  obtain ⟨q, hq, hq2⟩ := List.any_eq_true.mp h6
                  cases h8 : Nat.beq q.1 t' with
                  | false => simp [h8] at hq2
                  | true =>
                    simp only [h8] at hq2
                    obtain ⟨n1, n2⟩ := hwr q hq (Nat.beq_eq.mp h8)
                    cases h9 : q.2 with
                    | none => exact absurd h9 n1
                    | some i =>
                      rw [h9] at hq2
                      have e3 := kLeq_eq hq2
                      rw [e3] at hx'
                      have e4 : ((i : Nat) : Int) = ((w.toNat : Nat) : Int) := Option.some.inj (kcst_ev.symm.trans hx')
                      have hne : ¬ j = w.toNat := by
                        intro e5
                        apply n2
                        rw [h9]
                        congr 1
                        omega
                      simp only [updV, hne, if_false]
                      exact kcell_uniq hc hc' hj
                · exact ⟨V', kcell_kept hc' (ho a' e), rfl⟩
end KSS
end
section
/-! ARITHMETIC: an answer is a form, or an interval -/
abbrev kRes : Type := kL ⊕ (Int × Int)
def k32 : Int × Int := (-2147483648, 2147483647)
def k64 : Int × Int := (-9223372036854775808, 9223372036854775807)
def kresok (env : List Int) (a : kRes) (x : Int) : Prop := match a with
  | .inl f => kev env f = some x
  | .inr q => q.1 ≤ x ∧ x ≤ q.2
theorem k32_in (x : Int32) : k32.1 ≤ x.toInt ∧ x.toInt ≤ k32.2 := by
  have h1 := Int32.toInt_lt x
  have h2 := Int32.le_toInt x
  show (-2147483648 : Int) ≤ _ ∧ _ ≤ (2147483647 : Int)
  omega
theorem k64_in (x : Int64) : k64.1 ≤ x.toInt ∧ x.toInt ≤ k64.2 := by
  have h1 := Int64.toInt_lt x
  have h2 := Int64.le_toInt x
  show (-9223372036854775808 : Int) ≤ _ ∧ _ ≤ (9223372036854775807 : Int)
  omega
theorem k32_bm {x : Int} (h1 : k32.1 ≤ x) (h2 : x ≤ k32.2) : x.bmod (2 ^ 32) = x := by
  have h1 : (-2147483648 : Int) ≤ x := h1
  have h2 : x ≤ (2147483647 : Int) := h2
  apply Int.bmod_eq_of_le <;> omega
theorem k64_bm {x : Int} (h1 : k64.1 ≤ x) (h2 : x ≤ k64.2) : x.bmod (2 ^ 64) = x := by
  have h1 : (-9223372036854775808 : Int) ≤ x := h1
  have h2 : x ≤ (9223372036854775807 : Int) := h2
  apply Int.bmod_eq_of_le <;> omega
/-- the form f, if it lies within q -/
def kri (S : kS) (f : kL) (q : Int × Int) : kRes := match klb S.1 f, kub S.1 f with
  | some a, some b => match knn (a - q.1) with
    | true => match knn (q.2 - b) with
      | true => .inl f
      | false => .inr q
    | false => .inr q
  | _, _ => .inr q
theorem kri_ok {env : List Int} {S : kS} {f : kL} {q : Int × Int} {x r : Int} (hI : kI env S.1) (hf : kev env f = some x) (hr : q.1 ≤ x → x ≤ q.2 → r = x) (hq : q.1 ≤ r ∧ r ≤ q.2) : kresok env (kri S f q) r := by
  unfold kri
  cases h1 : klb S.1 f with
  | none => exact hq
  | some a =>
    cases h2 : kub S.1 f with
    | none => exact hq
    | some b =>
      dsimp only
      cases h3 : knn (a - q.1) with
      | false => exact hq
      | true =>
        cases h4 : knn (q.2 - b) with
        | false => exact hq
        | true =>
          have a1 := klb_ok hI hf h1
          have a2 := kub_ok hI hf h2
          have a3 := knn_iff.mp h3
          have a4 := knn_iff.mp h4
          show kev env f = some r
          rw [hr (by omega) (by omega)]
          exact hf
def kitv (S : kS) (f : kL) : Option (Int × Int) := match klb S.1 f, kub S.1 f with
  | some a, some b => some (a, b)
  | _, _ => none
theorem kitv_ok {env : List Int} {S : kS} {f : kL} {q : Int × Int} {x : Int} (hI : kI env S.1) (hf : kev env f = some x) (h : kitv S f = some q) : q.1 ≤ x ∧ x ≤ q.2 := by
  unfold kitv at h
  cases h1 : klb S.1 f with
  | none => rw [h1] at h; simp at h
  | some a =>
    cases h2 : kub S.1 f with
    | none => rw [h1, h2] at h; simp at h
    | some b =>
      rw [h1, h2] at h
      have e : (a, b) = q := Option.some.inj h
      subst e
      exact ⟨klb_ok hI hf h1, kub_ok hI hf h2⟩
def kmin (a b : Int) : Int := match knn (b - a) with
  | true => a
  | false => b
def kmax (a b : Int) : Int := match knn (b - a) with
  | true => b
  | false => a
theorem kmin_eq (a b : Int) : kmin a b = min a b := by
  unfold kmin
  cases h : knn (b - a) with
  | true =>
    have := knn_iff.mp h
    show a = _
    omega
  | false =>
    have : ¬ (knn (b - a) = true) := by rw [h]; decide
    rw [knn_iff] at this
    show b = _
    omega
theorem kmax_eq (a b : Int) : kmax a b = max a b := by
  unfold kmax
  cases h : knn (b - a) with
  | true =>
    have := knn_iff.mp h
    show b = _
    omega
  | false =>
    have : ¬ (knn (b - a) = true) := by rw [h]; decide
    rw [knn_iff] at this
    show a = _
    omega
theorem knn_f {a : Int} (h : knn a = false) : a < 0 := by
  have : ¬ (knn a = true) := by rw [h]; decide
  rw [knn_iff] at this
  omega
/-- a product -/
def kmul (S : kS) (x y : kL) (q : Int × Int) : kRes := match x.1 with
  | [] => kri S (ksc x.2 y) q
  | _ => match y.1 with
    | [] => kri S (ksc y.2 x) q
    | _ => match kitv S x, kitv S y with
      | some a, some b => match knn a.1 with
        | true => match knn b.1 with
          | true => match knn (q.2 - a.2 * b.2) with
            | true => .inr (a.1 * b.1, a.2 * b.2)
            | false => .inr q
          | false => .inr q
        | false => .inr q
      | _, _ => .inr q
theorem kcst_of {env : List Int} {f : kL} {x : Int} (h : f.1 = []) (hf : kev env f = some x) : x = f.2 := by
  obtain ⟨l, d⟩ := f
  have h : l = [] := h
  subst h
  have e : (0 : Int) + d = x := Option.some.inj hf
  show x = d
  omega
theorem kmul_ok {env : List Int} {S : kS} {x y : kL} {q : Int × Int} {a b r : Int} (hI : kI env S.1) (hx : kev env x = some a) (hy : kev env y = some b) (hr : q.1 ≤ a * b → a * b ≤ q.2 → r = a * b) (hq : q.1 ≤ r ∧ r ≤ q.2) (h0 : q.1 ≤ 0) : kresok env (kmul S x y q) r := by
  unfold kmul
  cases h1 : x.1 with
  | nil =>
    have e := kcst_of h1 hx
    subst e
    exact kri_ok hI (ksc_ev hy) hr hq
  | cons c t =>
    dsimp only
    cases h2 : y.1 with
    | nil =>
      have e := kcst_of h2 hy
      subst e
      exact kri_ok hI (ksc_ev hx) (by rw [Int.mul_comm y.2 a]; exact hr) hq
    | cons c' t' =>
      dsimp only
      cases h3 : kitv S x with
      | none => exact hq
      | some u =>
        cases h4 : kitv S y with
        | none => exact hq
        | some v =>
          dsimp only
          cases h5 : knn u.1 with
          | false => exact hq
          | true =>
            cases h6 : knn v.1 with
            | false => exact hq
            | true =>
              dsimp only
              cases h7 : knn (q.2 - u.2 * v.2) with
              | false => exact hq
              | true =>
                have a1 := kitv_ok hI hx h3
                have a2 := kitv_ok hI hy h4
                have a3 := knn_iff.mp h5
                have a4 := knn_iff.mp h6
                have a5 := knn_iff.mp h7
                have m1 : u.1 * v.1 ≤ a * b := Int.mul_le_mul a1.1 a2.1 a4 (by omega)
                have m2 : a * b ≤ u.2 * v.2 := Int.mul_le_mul a1.2 a2.2 (by omega) (by omega)
                have m3 : 0 ≤ u.1 * v.1 := Int.mul_nonneg a3 a4
                have e := hr (by omega) (by omega)
                rw [e]
                exact ⟨m1, m2⟩
/-- the divisor isn't 0 -/
def knz (S : kS) (y : kL) : Bool := match kgeS S (kofs y (-1)) with
  | true => true
  | false => kgeS S (kofs (kneg y) (-1))
def kdiv (S : kS) (x y : kL) (q : Int × Int) : kRes := match kitv S x, kitv S y with
  | some a, some b => match knn a.1 with
    | true => match knn (b.1 - 1) with
      | true => .inr (a.1 / b.2, a.2 / b.1)
      | false => .inr q
    | false => .inr q
  | _, _ => .inr q
theorem kdiv_mono {x y c : Int} (hx : 0 ≤ x) (hc : 0 < c) (h : c ≤ y) : x / y ≤ x / c := by
  rw [Int.le_ediv_iff_mul_le hc]
  have h1 : 0 ≤ x / y := Int.ediv_nonneg hx (by omega)
  have h2 : x / y * y ≤ x := (Int.le_ediv_iff_mul_le (show 0 < y by omega)).mp (Int.le_refl _)
  have h3 : x / y * c ≤ x / y * y := Int.mul_le_mul_of_nonneg_left h h1
  omega
theorem kdiv_ok {env : List Int} {S : kS} {x y : kL} {q : Int × Int} {a b r : Int} (hI : kI env S.1) (hx : kev env x = some a) (hy : kev env y = some b) (hr : 0 ≤ a → 0 < b → r = a / b) (hq : q.1 ≤ r ∧ r ≤ q.2) : kresok env (kdiv S x y q) r := by
  unfold kdiv
  cases h3 : kitv S x with
  | none => exact hq
  | some u =>
    cases h4 : kitv S y with
    | none => exact hq
    | some v =>
      dsimp only
      cases h5 : knn u.1 with
      | false => exact hq
      | true =>
        cases h6 : knn (v.1 - 1) with
        | false => exact hq
        | true =>
          have a1 := kitv_ok hI hx h3
          have a2 := kitv_ok hI hy h4
          have a3 := knn_iff.mp h5
          have a4 := knn_iff.mp h6
          rw [hr (by omega) (by omega)]
          refine ⟨?_, ?_⟩
          · exact Int.le_trans (kdiv_mono a3 (show 0 < b by omega) a2.2) (Int.ediv_le_ediv (by omega) a1.1)
          · exact Int.le_trans (Int.ediv_le_ediv (by omega) a1.2) (kdiv_mono (by omega) (by omega) a2.1)
def krem (S : kS) (x y : kL) (q : Int × Int) : kRes := match kitv S x, kitv S y with
  | some a, some b => match knn (b.1 - 1) with
    | true => match knn a.1 with
      | true => .inr (0, kmin a.2 (b.2 - 1))
      | false => .inr (1 - b.2, b.2 - 1)
    | false => .inr q
  | _, _ => .inr q
theorem krem_ok {env : List Int} {S : kS} {x y : kL} {q : Int × Int} {a b r : Int} (hI : kI env S.1) (hx : kev env x = some a) (hy : kev env y = some b) (hr : r = a.tmod b) (hq : q.1 ≤ r ∧ r ≤ q.2) : kresok env (krem S x y q) r := by
  unfold krem
  cases h3 : kitv S x with
  | none => exact hq
  | some u =>
    cases h4 : kitv S y with
    | none => exact hq
    | some v =>
      dsimp only
      cases h6 : knn (v.1 - 1) with
      | false => exact hq
      | true =>
        have a1 := kitv_ok hI hx h3
        have a2 := kitv_ok hI hy h4
        have a4 := knn_iff.mp h6
        have hb : 0 < b := by omega
        have t1 := Int.tmod_lt_of_pos a hb
        have t2 := Int.lt_tmod_of_pos a hb
        dsimp only
        cases h5 : knn u.1 with
        | true =>
          have a3 := knn_iff.mp h5
          have ha : 0 ≤ a := by omega
          rw [Int.tmod_eq_emod_of_nonneg ha] at hr t1 t2
          have t3 := Int.emod_nonneg a (show b ≠ 0 by omega)
          have t4 : a % b ≤ a := by
            have := Int.mul_nonneg (Int.le_of_lt hb) (Int.ediv_nonneg ha (Int.le_of_lt hb))
            rw [Int.emod_def]
            omega
          show (0 : Int) ≤ r ∧ r ≤ kmin u.2 (v.2 - 1)
          rw [kmin_eq]
          omega
        | false =>
          show (1 - v.2 : Int) ≤ r ∧ r ≤ v.2 - 1
          omega
def kand (S : kS) (x y : kL) (q : Int × Int) : kRes := match kitv S x, kitv S y with
  | some a, some b => match knn a.1 with
    | true => match knn b.1 with
      | true => match kz (a.2 - a.1) with
        | true => match kz (b.2 - b.1) with
          | true => .inr (Int.ofNat (Nat.land a.1.toNat b.1.toNat), Int.ofNat (Nat.land a.1.toNat b.1.toNat))
          | false => .inr (0, kmin a.2 b.2)
        | false => .inr (0, kmin a.2 b.2)
      | false => .inr (0, a.2)
    | false => match knn b.1 with
      | true => .inr (0, b.2)
      | false => .inr q
  | _, _ => .inr q
theorem kand_ok {env : List Int} {S : kS} {x y : kL} {q : Int × Int} {a b r : Int} (hI : kI env S.1) (hx : kev env x = some a) (hy : kev env y = some b) (h1 : 0 ≤ a → 0 ≤ r ∧ r ≤ a) (h2 : 0 ≤ b → 0 ≤ r ∧ r ≤ b) (h3 : 0 ≤ a → 0 ≤ b → r = Int.ofNat (Nat.land a.toNat b.toNat)) (hq : q.1 ≤ r ∧ r ≤ q.2) : kresok env (kand S x y q) r := by
  unfold kand
  cases g3 : kitv S x with
  | none => exact hq
  | some u =>
    cases g4 : kitv S y with
    | none => exact hq
    | some v =>
      have a1 := kitv_ok hI hx g3
      have a2 := kitv_ok hI hy g4
      dsimp only
      cases h5 : knn u.1 with
      | true =>
        have a3 := knn_iff.mp h5
        cases h6 : knn v.1 with
        | true =>
          have a4 := knn_iff.mp h6
          have hm : (0 : Int) ≤ r ∧ r ≤ kmin u.2 v.2 := by
            rw [kmin_eq]
            have := h1 (by omega)
            have := h2 (by omega)
            omega
          dsimp only
          cases h7 : kz (u.2 - u.1) with
          | false => exact hm
          | true =>
            cases h8 : kz (v.2 - v.1) with
            | false => exact hm
            | true =>
              have e1 := kz_iff.mp h7
              have e2 := kz_iff.mp h8
              have e3 : u.1 = a := by omega
              have e4 : v.1 = b := by omega
              rw [h3 (by omega) (by omega), ← e3, ← e4]
              exact ⟨Int.le_refl _, Int.le_refl _⟩
        | false =>
          show (0 : Int) ≤ r ∧ r ≤ u.2
          have := h1 (by omega)
          omega
      | false =>
        cases h6 : knn v.1 with
        | true =>
          have a4 := knn_iff.mp h6
          show (0 : Int) ≤ r ∧ r ≤ v.2
          have := h2 (by omega)
          omega
        | false => exact hq
/-- all bits below those of m -/
def kones (m : Int) : Int := match m with
  | .ofNat 0 => 0
  | .ofNat (n + 1) => Int.ofNat (2 ^ (Nat.log2 (n + 1) + 1) - 1)
  | .negSucc _ => 0
def kor (S : kS) (x y : kL) (q : Int × Int) : kRes := match kitv S x, kitv S y with
  | some a, some b => match knn a.1 with
    | true => match knn b.1 with
      | true => .inr (0, kones (kmax a.2 b.2))
      | false => .inr q
    | false => .inr q
  | _, _ => .inr q
theorem kones_ok {m : Int} (h : 0 ≤ m) : ∃ k : Nat, kones m = 2 ^ k - 1 ∧ m < 2 ^ k := by
  match m, h with
  | .ofNat 0, _ => exact ⟨0, by decide, by decide⟩
  | .ofNat (n + 1), _ =>
    refine ⟨Nat.log2 (n + 1) + 1, ?_, ?_⟩
    · show ((2 ^ (Nat.log2 (n + 1) + 1) - 1 : Nat) : Int) = _
      have : 1 ≤ 2 ^ (Nat.log2 (n + 1) + 1) := Nat.one_le_two_pow
      rw [Int.natCast_sub this]
      simp
    · have : n + 1 < 2 ^ (Nat.log2 (n + 1) + 1) := Nat.lt_log2_self
      show ((n + 1 : Nat) : Int) < 2 ^ _
      exact_mod_cast this
theorem kor_ok {env : List Int} {S : kS} {x y : kL} {q : Int × Int} {a b r : Int} (hI : kI env S.1) (hx : kev env x = some a) (hy : kev env y = some b) (h1 : 0 ≤ a → 0 ≤ b → 0 ≤ r ∧ ∀ k : Nat, a < 2 ^ k → b < 2 ^ k → r < 2 ^ k) (hq : q.1 ≤ r ∧ r ≤ q.2) : kresok env (kor S x y q) r := by
  unfold kor
  cases h3 : kitv S x with
  | none => exact hq
  | some u =>
    cases h4 : kitv S y with
    | none => exact hq
    | some v =>
      have a1 := kitv_ok hI hx h3
      have a2 := kitv_ok hI hy h4
      dsimp only
      cases h5 : knn u.1 with
      | false => exact hq
      | true =>
        have a3 := knn_iff.mp h5
        cases h6 : knn v.1 with
        | false => exact hq
        | true =>
          have a4 := knn_iff.mp h6
          obtain ⟨g1, g2⟩ := h1 (by omega) (by omega)
          show (0 : Int) ≤ r ∧ r ≤ kones (kmax u.2 v.2)
          rw [kmax_eq]
          obtain ⟨k, e1, e2⟩ := kones_ok (m := max u.2 v.2) (by omega)
          have := g2 k (by omega) (by omega)
          rw [e1]
          omega
end
section
/-! INT AND LONG INSTRUCTIONS -/
def kxor (S : kS) (x y : kL) : kRes := match kLeq y (kcst (-1)) with
  | true => kri S (kofs (kneg x) (-1)) k32
  | false => .inr k32
/-- 2 to the z, z from 0 to 62 -/
def kp2 (z : Int) : Int := match z with
  | .ofNat n => Int.ofNat (2 ^ n)
  | .negSucc _ => 1
def kshl (S : kS) (x y : kL) : kRes := match kitv S x, kitv S y with
  | some a, some b => match knn a.1 with
    | true => match knn b.1 with
      | true => match knn (30 - b.2) with
        | true => match knn (2147483647 - a.2 * kp2 b.2) with
          | true => .inr (a.1 * kp2 b.1, a.2 * kp2 b.2)
          | false => .inr k32
        | false => .inr k32
      | false => .inr k32
    | false => .inr k32
  | _, _ => .inr k32
def kshr (S : kS) (x y : kL) : kRes := match kitv S x, kitv S y with
  | some a, some b => match knn a.1 with
    | true => match knn b.1 with
      | true => match knn (30 - b.2) with
        | true => .inr (a.1 / kp2 b.2, a.2 / kp2 b.1)
        | false => .inr k32
      | false => .inr k32
    | false => .inr k32
  | _, _ => .inr k32
def kib (S : kS) (x y : kL) (ins : Instr) : Option kRes := match ins with
  | .iadd => some (kri S (kadd x y) k32)
  | .isub => some (kri S (ksub x y) k32)
  | .imul => some (kmul S x y k32)
  | .idiv => match knz S y with
    | true => some (kdiv S x y k32)
    | false => none
  | .irem => match knz S y with
    | true => some (krem S x y k32)
    | false => none
  | .iand => some (kand S x y k32)
  | .ior => some (kor S x y k32)
  | .ixor => some (kxor S x y)
  | .ishl => some (kshl S x y)
  | .ishr => some (kshr S x y)
  | .iushr => some (kshr S x y)
  | _ => none
def cib (a b : Int32) (ins : Instr) : Int32 := match ins with
  | .iadd => a + b
  | .isub => a - b
  | .imul => a * b
  | .idiv => a / b
  | .irem => a - a / b * b
  | .iand => a &&& b
  | .ior => a ||| b
  | .ixor => a ^^^ b
  | .ishl => a <<< (b &&& 31)
  | .ishr => a >>> (b &&& 31)
  | .iushr => (a.toUInt32 >>> (b.toUInt32 &&& Int32.toUInt32 31)).toInt32
  | _ => 0
theorem k_nn (x : Int32) (h : 0 ≤ x.toInt) : (x.toBitVec.toNat : Int) = x.toInt ∧ x.toBitVec.toNat < 2 ^ 31 := by
  have e : x.toInt = x.toBitVec.toInt := rfl
  rw [BitVec.toInt_eq_toNat_cond] at e
  have := x.toBitVec.isLt
  split at e <;> omega
theorem k_ofn (x : Int32) (h : x.toBitVec.toNat < 2 ^ 31) : x.toInt = (x.toBitVec.toNat : Int) := by
  have e : x.toInt = x.toBitVec.toInt := rfl
  rw [BitVec.toInt_eq_toNat_cond] at e
  split at e <;> omega
theorem k_and (a b : Int32) (h : 0 ≤ a.toInt) : 0 ≤ (a &&& b).toInt ∧ (a &&& b).toInt ≤ a.toInt := by
  obtain ⟨h1, h2⟩ := k_nn a h
  have e : (a &&& b).toBitVec.toNat = a.toBitVec.toNat &&& b.toBitVec.toNat := by rw [Int32.toBitVec_and, BitVec.toNat_and]
  have l : a.toBitVec.toNat &&& b.toBitVec.toNat ≤ a.toBitVec.toNat := Nat.and_le_left
  rw [k_ofn (a &&& b) (by omega)]
  omega
theorem k_or (a b : Int32) (ha : 0 ≤ a.toInt) (hb : 0 ≤ b.toInt) : 0 ≤ (a ||| b).toInt ∧ ∀ k : Nat, a.toInt < 2 ^ k → b.toInt < 2 ^ k → (a ||| b).toInt < 2 ^ k := by
  obtain ⟨h1, h2⟩ := k_nn a ha
  obtain ⟨h3, h4⟩ := k_nn b hb
  have e : (a ||| b).toBitVec.toNat = a.toBitVec.toNat ||| b.toBitVec.toNat := by rw [Int32.toBitVec_or, BitVec.toNat_or]
  have l : a.toBitVec.toNat ||| b.toBitVec.toNat < 2 ^ 31 := Nat.or_lt_two_pow h2 h4
  rw [k_ofn (a ||| b) (by omega)]
  refine ⟨by omega, fun k g1 g2 => ?_⟩
  rw [← h1] at g1
  rw [← h3] at g2
  rw [e]
  have := Nat.or_lt_two_pow (x := a.toBitVec.toNat) (y := b.toBitVec.toNat) (n := k) (by exact_mod_cast g1) (by exact_mod_cast g2)
  exact_mod_cast this
theorem k_smod : ∀ n, n < 32 → ((nI n &&& 31).toBitVec.smod 32).toNat = n := by decide +kernel
theorem k_umod : ∀ n, n < 32 → (((nI n).toUInt32 &&& Int32.toUInt32 31).toBitVec % 32).toNat = n := by decide +kernel
theorem k_ofk {y : Int32} (h0 : 0 ≤ y.toInt) (h : y.toInt < 32) : ∃ n : Nat, n < 32 ∧ y = nI n ∧ y.toInt = (n : Int) := by
  refine ⟨y.toInt.toNat, by omega, ?_, by omega⟩
  apply Int32.toInt_inj.mp
  rw [nI_toInt (by omega)]
  omega
theorem kp2_of (n : Nat) : kp2 (n : Int) = 2 ^ n := by
  show ((2 ^ n : Nat) : Int) = 2 ^ n
  simp
theorem kp2_pos (z : Int) : 0 < kp2 z := by
  cases z with
  | ofNat n =>
    show (0 : Int) < ((2 ^ n : Nat) : Int)
    exact_mod_cast Nat.two_pow_pos n
  | negSucc n => show (0 : Int) < 1; omega
theorem kp2_le {a b : Int} (h : 0 ≤ a) (hab : a ≤ b) : kp2 a ≤ kp2 b := by
  obtain ⟨n, rfl⟩ := Int.eq_ofNat_of_zero_le h
  obtain ⟨m, rfl⟩ := Int.eq_ofNat_of_zero_le (Int.le_trans h hab)
  show ((2 ^ n : Nat) : Int) ≤ ((2 ^ m : Nat) : Int)
  exact_mod_cast Nat.pow_le_pow_right (by decide) (by omega)
theorem kshr_ok {env : List Int} {S : kS} {x y : kL} {a b r : Int} (hI : kI env S.1) (hx : kev env x = some a) (hy : kev env y = some b) (hr : 0 ≤ a → 0 ≤ b → b < 32 → r = a / kp2 b) (hq : k32.1 ≤ r ∧ r ≤ k32.2) : kresok env (kshr S x y) r := by
  unfold kshr
  cases h3 : kitv S x with
  | none => exact hq
  | some u =>
    cases h4 : kitv S y with
    | none => exact hq
    | some v =>
      have a1 := kitv_ok hI hx h3
      have a2 := kitv_ok hI hy h4
      dsimp only
      cases h5 : knn u.1 with
      | false => exact hq
      | true =>
        cases h6 : knn v.1 with
        | false => exact hq
        | true =>
          dsimp only
          cases h7 : knn (30 - v.2) with
          | false => exact hq
          | true =>
            have a3 := knn_iff.mp h5
            have a4 := knn_iff.mp h6
            have a5 := knn_iff.mp h7
            rw [hr (by omega) (by omega) (by omega)]
            have p1 := kp2_le (a := b) (b := v.2) (by omega) a2.2
            have p2 := kp2_le a4 a2.1
            have q1 := kp2_pos b
            have q2 := kp2_pos v.1
            exact ⟨Int.le_trans (kdiv_mono a3 q1 p1) (Int.ediv_le_ediv q1 a1.1), Int.le_trans (Int.ediv_le_ediv q1 a1.2) (kdiv_mono (by omega) q2 p2)⟩
theorem kshl_ok {env : List Int} {S : kS} {x y : kL} {a b r : Int} (hI : kI env S.1) (hx : kev env x = some a) (hy : kev env y = some b) (hr : 0 ≤ a → 0 ≤ b → b < 32 → a * kp2 b ≤ 2147483647 → r = a * kp2 b) (hq : k32.1 ≤ r ∧ r ≤ k32.2) : kresok env (kshl S x y) r := by
  unfold kshl
  cases h3 : kitv S x with
  | none => exact hq
  | some u =>
    cases h4 : kitv S y with
    | none => exact hq
    | some v =>
      have a1 := kitv_ok hI hx h3
      have a2 := kitv_ok hI hy h4
      dsimp only
      cases h5 : knn u.1 with
      | false => exact hq
      | true =>
        cases h6 : knn v.1 with
        | false => exact hq
        | true =>
          dsimp only
          cases h7 : knn (30 - v.2) with
          | false => exact hq
          | true =>
            dsimp only
            cases h8 : knn (2147483647 - u.2 * kp2 v.2) with
            | false => exact hq
            | true =>
              have a3 := knn_iff.mp h5
              have a4 := knn_iff.mp h6
              have a5 := knn_iff.mp h7
              have a6 := knn_iff.mp h8
              have p1 := kp2_le (a := b) (b := v.2) (by omega) a2.2
              have p2 := kp2_le a4 a2.1
              have q1 := kp2_pos b
              have q2 := kp2_pos v.1
              have m1 : u.1 * kp2 v.1 ≤ a * kp2 b := Int.mul_le_mul a1.1 p2 (by omega) (by omega)
              have m2 : a * kp2 b ≤ u.2 * kp2 v.2 := Int.mul_le_mul a1.2 p1 (by omega) (by omega)
              rw [hr (by omega) (by omega) (by omega) (by omega)]
              exact ⟨m1, m2⟩
section KIB
variable {D : va_G} {cA : Nat → ClassId} {tt : List kT} {Ty : Nat → Nat → Prop} {env : List Int} {ren : List Nat} {S : kS} {H : Heap} {lv : List (Nat × Value)} {st : List Value}
theorem knz_ok {y : kL} {b : Int} (h : kst D cA tt Ty env ren S H lv st) (hy : kev env y = some b) (hn : knz S y = true) : b ≠ 0 := by
  unfold knz at hn
  cases h1 : kgeS S (kofs y (-1)) with
  | true =>
    have := kgeS_ok h (kofs_ev hy) h1
    omega
  | false =>
    rw [h1] at hn
    have := kgeS_ok h (kofs_ev (kneg_ev hy)) hn
    omega
theorem k_irem (x y : Int32) : (x - x / y * y).toInt = x.toInt.tmod y.toInt := by
  rw [Int32.toInt_sub, Int32.toInt_mul, Int32.toInt_div, Int.tmod_def]
  rw [Int.sub_bmod_bmod, Int.sub_eq_add_neg, Int.mul_comm, ← Int.mul_neg, ← Int.add_bmod_bmod, Int.mul_neg, Int.mul_comm]
  rw [show (-(((x.toInt.tdiv y.toInt).bmod (2 ^ 32)) * y.toInt)).bmod (2 ^ 32) = (-((x.toInt.tdiv y.toInt) * y.toInt)).bmod (2 ^ 32) by
    rw [← Int.mul_neg, ← Int.mul_neg, Int.bmod_mul_bmod]]
  rw [Int.add_bmod_bmod, ← Int.sub_eq_add_neg, Int.mul_comm, ← Int.tmod_def]
  have h1 := k32_in x
  have h2 := k32_in y
  by_cases hy : y.toInt = 0
  · rw [hy, Int.tmod_zero]
    exact k32_bm h1.1 h1.2
  · have := Int.natAbs_tmod x.toInt y.toInt
    have l := Nat.mod_le x.toInt.natAbs y.toInt.natAbs
    have l2 := Nat.mod_lt x.toInt.natAbs (show 0 < y.toInt.natAbs by omega)
    apply k32_bm
    · show (-2147483648 : Int) ≤ _
      have : k32.1 = (-2147483648 : Int) := rfl
      have : k32.2 = (2147483647 : Int) := rfl
      omega
    · show _ ≤ (2147483647 : Int)
      have : k32.1 = (-2147483648 : Int) := rfl
      have : k32.2 = (2147483647 : Int) := rfl
      omega
theorem kib_ok {x y : kL} {ins : Instr} {res : kRes} {a b : Int32} (h : kst D cA tt Ty env ren S H lv st) (hx : kev env x = some a.toInt) (hy : kev env y = some b.toInt) (hr : kib S x y ins = some res) : kresok env res (cib a b ins).toInt ∧ ((ins = .idiv ∨ ins = .irem) → ¬ b = 0) := by
  have hI := h.1
  have ne0 : b.toInt ≠ 0 → ¬ b = 0 := fun g e => g (by rw [e]; rfl)
  unfold kib at hr
  split at hr
  · obtain rfl := Option.some.inj hr
    exact ⟨kri_ok hI (kadd_ev hx hy) (fun g1 g2 => by rw [show cib a b .iadd = a + b from rfl, Int32.toInt_add, k32_bm g1 g2]) (k32_in _), fun e => by rcases e with e | e <;> cases e⟩
  · obtain rfl := Option.some.inj hr
    exact ⟨kri_ok hI (ksub_ev hx hy) (fun g1 g2 => by rw [show cib a b .isub = a - b from rfl, Int32.toInt_sub, k32_bm g1 g2]) (k32_in _), fun e => by rcases e with e | e <;> cases e⟩
  · obtain rfl := Option.some.inj hr
    exact ⟨kmul_ok hI hx hy (fun g1 g2 => by rw [show cib a b .imul = a * b from rfl, Int32.toInt_mul, k32_bm g1 g2]) (k32_in _) (by decide), fun e => by rcases e with e | e <;> cases e⟩
  · split at hr
    · rename_i hz
      obtain rfl := Option.some.inj hr
      refine ⟨kdiv_ok hI hx hy (fun g1 g2 => ?_) (k32_in _), fun _ => ne0 (knz_ok h hy hz)⟩
      rw [show cib a b .idiv = a / b from rfl, Int32.toInt_div, Int.tdiv_eq_ediv_of_nonneg g1]
      have l1 := Int.ediv_le_self b.toInt g1
      have l2 := Int.ediv_nonneg g1 (Int.le_of_lt g2)
      have l3 := k32_in a
      exact k32_bm (Int.le_trans (by decide) l2) (Int.le_trans l1 l3.2)
    · cases hr
  · split at hr
    · rename_i hz
      obtain rfl := Option.some.inj hr
      exact ⟨krem_ok hI hx hy (k_irem a b) (k32_in _), fun _ => ne0 (knz_ok h hy hz)⟩
    · cases hr
  · obtain rfl := Option.some.inj hr
    refine ⟨kand_ok hI hx hy (fun g => k_and a b g) (fun g => ?_) (fun g1 g2 => ?_) (k32_in _), fun e => by rcases e with e | e <;> cases e⟩
    · show 0 ≤ (a &&& b).toInt ∧ (a &&& b).toInt ≤ b.toInt
      rw [Int32.and_comm]
      exact k_and b a g
    · obtain ⟨w1, w2⟩ := k_nn a g1
      obtain ⟨w3, w4⟩ := k_nn b g2
      have e : (a &&& b).toBitVec.toNat = a.toBitVec.toNat &&& b.toBitVec.toNat := by rw [Int32.toBitVec_and, BitVec.toNat_and]
      have l : a.toBitVec.toNat &&& b.toBitVec.toNat ≤ a.toBitVec.toNat := Nat.and_le_left
      show (a &&& b).toInt = _
      rw [k_ofn (a &&& b) (by omega), e, ← w1, ← w3]
      rfl
  · obtain rfl := Option.some.inj hr
    exact ⟨kor_ok hI hx hy (fun g1 g2 => k_or a b g1 g2) (k32_in _), fun e => by rcases e with e | e <;> cases e⟩
  · obtain rfl := Option.some.inj hr
    refine ⟨?_, fun e => by rcases e with e | e <;> cases e⟩
    unfold kxor
    cases hq : kLeq y (kcst (-1)) with
    | false => exact k32_in _
    | true =>
      have e := kLeq_eq hq
      subst e
      have e2 : (-1 : Int) = b.toInt := Option.some.inj (kcst_ev.symm.trans hy)
      have e3 : b = -1 := Int32.toInt_inj.mp (by rw [← e2]; rfl)
      subst e3
      refine kri_ok hI (kofs_ev (kneg_ev hx)) (fun g1 g2 => ?_) (k32_in _)
      show (a ^^^ (-1)).toInt = _
      have e4 : a ^^^ (-1) = -a - 1 := by
        apply Int32.toBitVec_inj.mp
        show a.toBitVec ^^^ (BitVec.allOnes 32) = -a.toBitVec - 1#32
        rw [BitVec.xor_allOnes, BitVec.not_eq_neg_add]
      rw [e4, Int32.toInt_sub, Int32.toInt_neg]
      rw [show ((1 : Int32).toInt) = 1 from rfl, Int.bmod_sub_bmod]
      have := k32_bm g1 g2
      rw [show (-a.toInt - 1 : Int) = -a.toInt + -1 by omega]
      exact this
  · obtain rfl := Option.some.inj hr
    refine ⟨kshl_ok hI hx hy (fun g1 g2 g3 g4 => ?_) (k32_in _), fun e => by rcases e with e | e <;> cases e⟩
    obtain ⟨n, hn, e1, e2⟩ := k_ofk g2 g3
    rw [e2, kp2_of] at g4 ⊢
    subst e1
    have p := Int.mul_nonneg g1 (show (0 : Int) ≤ 2 ^ n from by have := kp2_pos (n : Int); rw [kp2_of] at this; omega)
    obtain ⟨w1, w2⟩ := k_nn a g1
    have e3 := pk_shl a _ n (k_smod n hn)
    rw [← w1] at g4 p ⊢
    have ep : (2 : Int) ^ n = ((2 ^ n : Nat) : Int) := (kp2_of n).symm
    rw [ep, ← Int.natCast_mul] at g4 ⊢
    have g5 : a.toBitVec.toNat * 2 ^ n ≤ 2147483647 := by omega
    rw [Nat.mod_eq_of_lt (by omega)] at e3
    show (a <<< (nI n &&& 31)).toInt = _
    rw [k_ofn _ (by omega), e3]
  · obtain rfl := Option.some.inj hr
    refine ⟨kshr_ok hI hx hy (fun g1 g2 g3 => ?_) (k32_in _), fun e => by rcases e with e | e <;> cases e⟩
    obtain ⟨n, hn, e1, e2⟩ := k_ofk g2 g3
    rw [e2, kp2_of]
    subst e1
    show (a >>> (nI n &&& 31)).toInt = _
    rw [pk_shr a _ n (k_smod n hn), Int.shiftRight_eq_div_pow]
    simp
  · obtain rfl := Option.some.inj hr
    refine ⟨kshr_ok hI hx hy (fun g1 g2 g3 => ?_) (k32_in _), fun e => by rcases e with e | e <;> cases e⟩
    obtain ⟨n, hn, e1, e2⟩ := k_ofk g2 g3
    rw [e2, kp2_of]
    subst e1
    obtain ⟨w1, w2⟩ := k_nn a g1
    have e3 := pk_ushr a (nI n) n (k_umod n hn)
    have l := Nat.div_le_self a.toBitVec.toNat (2 ^ n)
    show ((a.toUInt32 >>> ((nI n).toUInt32 &&& Int32.toUInt32 31)).toInt32).toInt = _
    rw [k_ofn _ (by omega), e3, ← w1]
    simp
  · cases hr
end KIB
end
section
def klo (S : kS) (x y : kL) (ins : Instr) : Option kRes := match ins with
  | .ladd => some (kri S (kadd x y) k64)
  | .lsub => some (kri S (ksub x y) k64)
  | .lmul => some (kmul S x y k64)
  | .ldiv => match knz S y with
    | true => some (kdiv S x y k64)
    | false => none
  | .lrem => match knz S y with
    | true => some (krem S x y k64)
    | false => none
  | .land => some (.inr k64)
  | .lor => some (.inr k64)
  | _ => none
def clo (a b : Int64) (ins : Instr) : Int64 := match ins with
  | .ladd => a + b
  | .lsub => a - b
  | .lmul => a * b
  | .ldiv => a / b
  | .lrem => a - a / b * b
  | .land => a &&& b
  | .lor => a ||| b
  | _ => 0
theorem k_lrem (x y : Int64) : (x - x / y * y).toInt = x.toInt.tmod y.toInt := by
  rw [Int64.toInt_sub, Int64.toInt_mul, Int64.toInt_div, Int.tmod_def]
  rw [Int.sub_bmod_bmod, Int.sub_eq_add_neg, Int.mul_comm, ← Int.mul_neg, ← Int.add_bmod_bmod, Int.mul_neg, Int.mul_comm]
  rw [show (-(((x.toInt.tdiv y.toInt).bmod (2 ^ 64)) * y.toInt)).bmod (2 ^ 64) = (-((x.toInt.tdiv y.toInt) * y.toInt)).bmod (2 ^ 64) by
    rw [← Int.mul_neg, ← Int.mul_neg, Int.bmod_mul_bmod]]
  rw [Int.add_bmod_bmod, ← Int.sub_eq_add_neg, Int.mul_comm, ← Int.tmod_def]
  have h1 := k64_in x
  have h2 := k64_in y
  have e1 : k64.1 = (-9223372036854775808 : Int) := rfl
  have e2 : k64.2 = (9223372036854775807 : Int) := rfl
  by_cases hy : y.toInt = 0
  · rw [hy, Int.tmod_zero]
    exact k64_bm h1.1 h1.2
  · have := Int.natAbs_tmod x.toInt y.toInt
    have l := Nat.mod_le x.toInt.natAbs y.toInt.natAbs
    have l2 := Nat.mod_lt x.toInt.natAbs (show 0 < y.toInt.natAbs by omega)
    apply k64_bm
    · rw [e1]; omega
    · rw [e2]; omega
section KLO
variable {D : va_G} {cA : Nat → ClassId} {tt : List kT} {Ty : Nat → Nat → Prop} {env : List Int} {ren : List Nat} {S : kS} {H : Heap} {lv : List (Nat × Value)} {st : List Value}
theorem klo_ok {x y : kL} {ins : Instr} {res : kRes} {a b : Int64} (h : kst D cA tt Ty env ren S H lv st) (hx : kev env x = some a.toInt) (hy : kev env y = some b.toInt) (hr : klo S x y ins = some res) : kresok env res (clo a b ins).toInt ∧ ((ins = .ldiv ∨ ins = .lrem) → ¬ b = 0) := by
  have hI := h.1
  have ne0 : b.toInt ≠ 0 → ¬ b = 0 := fun g e => g (by rw [e]; rfl)
  unfold klo at hr
  split at hr
  · obtain rfl := Option.some.inj hr
    exact ⟨kri_ok hI (kadd_ev hx hy) (fun g1 g2 => by rw [show clo a b .ladd = a + b from rfl, Int64.toInt_add, k64_bm g1 g2]) (k64_in _), fun e => by rcases e with e | e <;> cases e⟩
  · obtain rfl := Option.some.inj hr
    exact ⟨kri_ok hI (ksub_ev hx hy) (fun g1 g2 => by rw [show clo a b .lsub = a - b from rfl, Int64.toInt_sub, k64_bm g1 g2]) (k64_in _), fun e => by rcases e with e | e <;> cases e⟩
  · obtain rfl := Option.some.inj hr
    exact ⟨kmul_ok hI hx hy (fun g1 g2 => by rw [show clo a b .lmul = a * b from rfl, Int64.toInt_mul, k64_bm g1 g2]) (k64_in _) (by decide), fun e => by rcases e with e | e <;> cases e⟩
  · split at hr
    · rename_i hz
      obtain rfl := Option.some.inj hr
      refine ⟨kdiv_ok hI hx hy (fun g1 g2 => ?_) (k64_in _), fun _ => ne0 (knz_ok h hy hz)⟩
      rw [show clo a b .ldiv = a / b from rfl, Int64.toInt_div, Int.tdiv_eq_ediv_of_nonneg g1]
      have l1 := Int.ediv_le_self b.toInt g1
      have l2 := Int.ediv_nonneg g1 (Int.le_of_lt g2)
      have l3 := k64_in a
      exact k64_bm (Int.le_trans (by decide) l2) (Int.le_trans l1 l3.2)
    · cases hr
  · split at hr
    · rename_i hz
      obtain rfl := Option.some.inj hr
      exact ⟨krem_ok hI hx hy (k_lrem a b) (k64_in _), fun _ => ne0 (knz_ok h hy hz)⟩
    · cases hr
  · obtain rfl := Option.some.inj hr
    exact ⟨k64_in _, fun e => by rcases e with e | e <;> cases e⟩
  · obtain rfl := Option.some.inj hr
    exact ⟨k64_in _, fun e => by rcases e with e | e <;> cases e⟩
  · cases hr
end KLO
/-- within q as it is, else somewhere in q -/
theorem kri_id {env : List Int} {S : kS} {x : kL} {q : Int × Int} {a r : Int} (hI : kI env S.1) (hx : kev env x = some a) (hr : q.1 ≤ a → a ≤ q.2 → r = a) (hq : q.1 ≤ r ∧ r ≤ q.2) : kresok env (kri S x q) r := kri_ok hI hx hr hq
theorem k_i2l (a : Int32) : a.toInt64.toInt = a.toInt := Int32.toInt_toInt64 a
theorem k_l2i {a : Int64} (h1 : k32.1 ≤ a.toInt) (h2 : a.toInt ≤ k32.2) : a.toInt32.toInt = a.toInt := by
  rw [Int64.toInt_toInt32, k32_bm h1 h2]
theorem k_i2b_in (a : Int32) : (-128 : Int) ≤ a.toInt8.toInt32.toInt ∧ a.toInt8.toInt32.toInt ≤ 127 := by
  rw [Int8.toInt_toInt32]
  have h1 := Int8.toInt_lt a.toInt8
  have h2 := Int8.le_toInt a.toInt8
  omega
theorem k_i2b {a : Int32} (h1 : (-128 : Int) ≤ a.toInt) (h2 : a.toInt ≤ 127) : a.toInt8.toInt32.toInt = a.toInt := by
  rw [Int8.toInt_toInt32, Int32.toInt_toInt8]
  apply Int.bmod_eq_of_le <;> omega
theorem k_i2s_in (a : Int32) : (-32768 : Int) ≤ a.toInt16.toInt32.toInt ∧ a.toInt16.toInt32.toInt ≤ 32767 := by
  rw [Int16.toInt_toInt32]
  have h1 := Int16.toInt_lt a.toInt16
  have h2 := Int16.le_toInt a.toInt16
  omega
theorem k_i2s {a : Int32} (h1 : (-32768 : Int) ≤ a.toInt) (h2 : a.toInt ≤ 32767) : a.toInt16.toInt32.toInt = a.toInt := by
  rw [Int16.toInt_toInt32, Int32.toInt_toInt16]
  apply Int.bmod_eq_of_le <;> omega
end
section
/-! WHAT IS KNOWN OF THE TABLES: names and slots, array types, links between nest mates, String constants -/
abbrev kSk : Type := List (String × Nat × String)
def kK (cl : List vw_C) (aty : List FieldType) (nw : List Cond) (sk : kSk) (D : va_G) (cA aS : Nat → Nat) (U : State) : Prop :=
  (∀ (ci : Nat) (q : vw_C), cl[ci]? = some q → u_Kn U q.1 q.2.1 q.2.2 (D.1 ci) (D.2 ci)) ∧ (∀ (k : Nat) (ty : FieldType), aty[k]? = some ty → ArrOfT U (cA k) ty) ∧ (∀ w ∈ nw, va_Nw w U) ∧ ∀ (i : Nat) (q : String × Nat × String), sk[i]? = some q → vk_R q.1 q.2.1 q.2.2 (aS i) U
def kNest (nw : List Cond) : Prop := ∀ w ∈ nw, ∃ a i x h, w = .methodLinkNest a i x h
theorem kK_warm {cl : List vw_C} {aty : List FieldType} {nw : List Cond} {sk : kSk} {D : va_G} {cA aS : Nat → Nat} {s U : State} (hn : kNest nw) (hW : s.WarmedH U.vm) (h : kK cl aty nw sk D cA aS s) : kK cl aty nw sk D cA aS U := by
  refine ⟨fun ci q hq => u_Kn_moved hW.alike (h.1 ci q hq), fun k ty hk => arrOfT_moved hW.alike (h.2.1 k ty hk), fun w hw => ?_, fun i q hq => vk_R.warm hW (h.2.2.2 i q hq)⟩
  obtain ⟨a, i, x, y, rfl⟩ := hn w hw
  exact va_Nw.warmM hW (h.2.2.1 _ hw)
theorem kK_call {cl : List vw_C} {aty : List FieldType} {nw : List Cond} {sk : kSk} {D : va_G} {cA aS : Nat → Nat} {U : State} {g : JFrame} {mk : MethodId} {a : Array Value} (hn : kNest nw) (h : kK cl aty nw sk D cA aS U) : kK cl aty nw sk D cA aS (U.calling g mk a) := by
  refine ⟨fun ci q hq => u_Kn_moved (Vm.Alike.refl U.vm) (h.1 ci q hq), fun k ty hk => arrOfT_moved (Vm.Alike.refl U.vm) (h.2.1 k ty hk), fun w hw => ?_, fun i q hq => vk_R.same (u := U) rfl (h.2.2.2 i q hq)⟩
  obtain ⟨a', i, x, y, rfl⟩ := hn w hw
  exact va_Nw.same rfl (u := U) rfl (h.2.2.1 _ hw)
/-- the list of names, as the tables have them -/
def kclok (cl : List vw_C) (lw : List Cond) : Prop := ∀ (ci : Nat) (C : String) (Tf : u_T) (N : Nat), cl[ci]? = some (C, Tf, N) → (∃ ty0 : Nat → FieldType, (∀ k, k < N → parseFieldDescriptor (Tf k).2.2.1 = some (ty0 k)) ∧ ∀ a, a < N → ∀ b, b < N → a ≠ b → (Tf a).2.1 ≠ (Tf b).2.1) ∧ ∀ w ∈ u_ws C Tf N, w ∈ lw
section KROW
variable {p : Program} {l : Launch} {e : Env} {R : Room} {s : State} {m : MethodId} {args : Array Value} {below : List Frame} {meth : Method} {c : Code} {H : Heap} {locs : List Loc} {cells slots : Nat} {Q : State → Prop}
variable {cc : ByteArray} {pc : Nat} {ls : Array Slot} {rest : List Value} {cl : List vw_C} {aty : List FieldType} {nw lw : List Cond} {sk : kSk} {D : va_G} {cA aS : Nat → Nat} {T : kT} {a : Nat} {V : Nat → Value}
theorem r_get (hexec : p.tables.exec = Jvm.exec) (hb : c.code = cc) {own C : String} {Tf : u_T} {N index j : Nat} (hts : ∀ w ∈ lw, w.before args s = true) (hcl : kclok cl lw) (hown : s.vm.findClass own = some m.cls) (hK : kK cl aty nw sk D cA aS s) (hc : cl[T.1]? = some (C, Tf, N)) (hk : Nat.blt T.1 100 = true) (hj : j < N) (hjT : j < T.2.1) (hlink : (Cond.fieldLink own index (Tf j).1 (Tf j).2.1 (Tf j).2.2.1).before args s = true) (hcell : kcell D cA T a H V) (hdg : decode cc pc = .ok (.getfield index, 3))
    (kk : W p l e R s m args below meth c H locs cells slots Q (F0 m (pc + 3) ls (V j :: rest))) : W p l e R s m args below meth c H locs cells slots Q (F0 m pc ls (.ref a :: rest)) := by
  unfold kcell at hcell
  rw [hk] at hcell
  obtain ⟨cell, q1, q2, q3, q4⟩ := hcell
  obtain ⟨hS, hfc, kC, hkC, hkind⟩ := hK.1 T.1 _ hc
  obtain ⟨cf, kf, fi, f, hi, hsl⟩ := hS j hj
  refine W.getf hexec hb hown hlink hi (u_facts hfc hkC (u_lays hts (hcl _ _ _ _ hc).2 hj) hi).1 q1 (by rw [q3]; exact fun h => by cases h) (v := V j) ?_ rfl rfl hdg kk
  rw [hsl]
  exact q4 j hjT
theorem r_put (hexec : p.tables.exec = Jvm.exec) (hb : c.code = cc) {own C : String} {Tf : u_T} {N index j : Nat} {ty : FieldType} {v : Value} (hts : ∀ w ∈ lw, w.before args s = true) (hcl : kclok cl lw) (hown : s.vm.findClass own = some m.cls) (hK : kK cl aty nw sk D cA aS s) (hc : cl[T.1]? = some (C, Tf, N)) (hk : Nat.blt T.1 100 = true) (hj : j < N) (hN : T.2.1 = N) (hlink : (Cond.fieldLink own index (Tf j).1 (Tf j).2.1 (Tf j).2.2.1).before args s = true) (hfin : (Tf j).2.2.2 = false) (hd : parseFieldDescriptor (Tf j).2.2.1 = some ty) (hn : narrow ty v = v) (hfit : fits ty v = true) (hcell : kcell D cA T a H V) (hdg : decode cc pc = .ok (.putfield index, 3))
    (kk : ∀ (H1 : Heap) (i : Nat), kcell D cA T a H1 (updV V j v) → H1.size = H.size → (∀ q, q ≠ a → H1[q]? = H[q]?) → W p l e R s m args below meth c H1 (locs ++ [⟨a, i⟩]) cells slots Q (F0 m (pc + 3) ls rest)) : W p l e R s m args below meth c H locs cells slots Q (F0 m pc ls (v :: .ref a :: rest)) := by
  unfold kcell at hcell kk
  rw [hk] at hcell kk
  obtain ⟨cell, q1, q2, q3, q4⟩ := hcell
  obtain ⟨hS, hfc, kC, hkC, hkind⟩ := hK.1 T.1 _ hc
  obtain ⟨⟨ty0, hty, hnm⟩, hin⟩ := hcl _ _ _ _ hc
  have hap := va_apart (own := own) (D := D) (cl := cl) (tys := []) hts hin ty0 hty hnm ⟨hK.1, fun k q h => by simp at h⟩ hc
  obtain ⟨cf, kf, fi, f, hi, hsl⟩ := hS j hj
  have hlay := hts _ (hin _ (u_in_lay hj))
  unfold u_lay at hlay
  rw [if_neg (by rw [hfin]; decide)] at hlay
  have hst := (u_facts hfc hkC (u_lays hts hin hj) hi).1
  have h6 := u_store hfc hkC hkind hlay hi hd hn hfit
  refine W.putK hexec hb (f := f) ⟨hown, hlink, ⟨_, _, _, hi⟩, hst⟩ (by rw [q2]; exact h6) q1 q3 (by rw [hsl]; exact k2_hasslot (q4 j (by rw [hN]; exact hj))) rfl rfl hdg fun H' e1 e2 e3 => ?_
  rw [hsl] at e1
  rw [hsl]
  exact kk H' _ ⟨_, e1, q2, q3, t_set q4 (by rw [hN]; exact hap) (by rw [hN]; exact hj) v⟩ e2 e3
/-- which loads fit which arrays -/
def klt (ins : Instr) (ty : FieldType) : Bool := match ins, ty with
  | .iaload, .int => true
  | .baload, .boolean => true
  | .baload, .byte => true
  | .laload, .long => true
  | .aaload, .object _ => true
  | _, _ => false
theorem r_ald (hexec : p.tables.exec = Jvm.exec) (hb : c.code = cc) (hK : kK cl aty nw sk D cA aS s) {ins : Instr} {ty : FieldType} (ht : aty[T.1 - 100]? = some ty) (hk : Nat.blt T.1 100 = false) (hl : klt ins ty = true) {i : Int32} {z : Nat} (hi : i.toInt = (z : Int)) (hz : z < T.2.1) (hcell : kcell D cA T a H V) (hdg : decode cc pc = .ok (ins, 1))
    (kk : W p l e R s m args below meth c H locs cells slots Q (F0 m (pc + 1) ls (V z :: rest))) : W p l e R s m args below meth c H locs cells slots Q (F0 m pc ls (.int i :: .ref a :: rest)) := by
  unfold kcell at hcell
  rw [hk] at hcell
  have hn : i.toNatClampNeg = z := by
    show i.toInt.toNat = z
    rw [hi]; rfl
  have h0 : ¬ (i < 0 ∨ (arrV (cA (T.1 - 100)) T.2.1 V).slots.size ≤ i.toNatClampNeg) := by
    rw [arrV_size, hn, Int32.lt_iff_toInt_lt, hi]
    show ¬ ((z : Int) < 0 ∨ T.2.1 ≤ z)
    omega
  have hr : (arrV (cA (T.1 - 100)) T.2.1 V).slots[i.toNatClampNeg]? = some (V z) := by rw [hn]; exact arrV_read _ _ hz
  have hA := hK.2.1 _ _ ht T.2.1 V
  unfold klt at hl
  split at hl
  · exact W.iald hexec hb hcell hA (fun q => by cases q) h0 hr rfl rfl hdg kk
  · exact W.zald hexec hb hcell hA (fun q => by cases q) h0 hr rfl rfl hdg kk
  · exact W.bald hexec hb hcell hA (fun q => by cases q) h0 hr rfl rfl hdg kk
  · exact W.lald hexec hb hcell hA (fun q => by cases q) h0 hr rfl rfl hdg kk
  · exact W.aald hexec hb hcell hA rfl (fun q => by cases q) h0 hr rfl rfl hdg kk
  · cases hl
/-- which stores fit which arrays -/
def kstt (ins : Instr) (ty : FieldType) : Bool := match ins, ty with
  | .iastore, .int => true
  | .bastore, .boolean => true
  | .bastore, .byte => true
  | .lastore, .long => true
  | _, _ => false
/-- a value that stays as it is when it is stored as of a type -/
def kfix (ty : FieldType) (v : Value) : Prop := match ty, v with
  | .int, .int _ => True
  | .long, .long _ => True
  | .boolean, .int n => 0 ≤ n.toInt ∧ n.toInt ≤ 1
  | .byte, .int n => -128 ≤ n.toInt ∧ n.toInt ≤ 127
  | _, _ => False
theorem kfix_narrow {ty : FieldType} {v : Value} (h : kfix ty v) : narrow ty v = v ∧ fits ty v = true := by
  unfold kfix at h
  split at h
  · exact ⟨rfl, rfl⟩
  · exact ⟨rfl, rfl⟩
  · rename_i n
    have e : n = 0 ∨ n = 1 := by
      have h1 : n.toInt = 0 ∨ n.toInt = 1 := by omega
      rcases h1 with h1 | h1
      · exact Or.inl (Int32.toInt_inj.mp (by rw [h1]; rfl))
      · exact Or.inr (Int32.toInt_inj.mp (by rw [h1]; rfl))
    rcases e with rfl | rfl
    · exact ⟨by decide +kernel, by decide +kernel⟩
    · exact ⟨by decide +kernel, by decide +kernel⟩
  · rename_i n
    have e : n = n.toInt8.toInt32 := by
      apply Int32.toInt_inj.mp
      exact (k_i2b h.1 h.2).symm
    rw [e]
    exact ⟨pk_nb n, pk_fb n⟩
  · exact h.elim
theorem r_ast (hexec : p.tables.exec = Jvm.exec) (hb : c.code = cc) (hK : kK cl aty nw sk D cA aS s) {ins : Instr} {ty : FieldType} {v : Value} (ht : aty[T.1 - 100]? = some ty) (hk : Nat.blt T.1 100 = false) (hl : kstt ins ty = true) (hv : kfix ty v) {i : Int32} {z : Nat} (hi : i.toInt = (z : Int)) (hz : z < T.2.1) (hcell : kcell D cA T a H V) (hdg : decode cc pc = .ok (ins, 1))
    (kk : ∀ (H1 : Heap) (q0 : Nat), kcell D cA T a H1 (updV V z v) → H1.size = H.size → (∀ q, q ≠ a → H1[q]? = H[q]?) → W p l e R s m args below meth c H1 (locs ++ [⟨a, q0⟩]) cells slots Q (F0 m (pc + 1) ls rest)) : W p l e R s m args below meth c H locs cells slots Q (F0 m pc ls (v :: .int i :: .ref a :: rest)) := by
  unfold kcell at hcell kk
  rw [hk] at hcell kk
  have hn : i.toNatClampNeg = z := by
    show i.toInt.toNat = z
    rw [hi]; rfl
  have h0 : ¬ (i < 0 ∨ (arrV (cA (T.1 - 100)) T.2.1 V).slots.size ≤ i.toNatClampNeg) := by
    rw [arrV_size, hn, Int32.lt_iff_toInt_lt, hi]
    show ¬ ((z : Int) < 0 ∨ T.2.1 ≤ z)
    omega
  have hA := hK.2.1 _ _ ht T.2.1 V
  obtain ⟨hn1, -⟩ := kfix_narrow hv
  have hs : ∀ x : Value, (arrV (cA (T.1 - 100)) T.2.1 V).setSlot i.toNatClampNeg x = arrV (cA (T.1 - 100)) T.2.1 (updV V z x) := fun x => by rw [hn]; exact arrV_store _ _ _ _ _
  unfold kstt at hl
  split at hl
  · match v, hv with
    | .int n, _ => exact W.iast hexec hb hcell hA (fun q => by cases q) h0 rfl rfl hdg fun H' e1 e2 e3 => kk H' _ (by rw [← hs]; exact e1) e2 e3
  · match v, hv, hn1 with
    | .int n, _, hn1 => exact W.zast hexec hb hcell hA (fun q => by cases q) h0 rfl rfl hdg fun H' e1 e2 e3 => kk H' _ (by rw [hn1, hs] at e1; exact e1) e2 e3
  · match v, hv, hn1 with
    | .int n, _, hn1 => exact W.bast hexec hb hcell hA (fun q => by cases q) h0 rfl rfl hdg fun H' e1 e2 e3 => kk H' _ (by rw [hn1, hs] at e1; exact e1) e2 e3
  · match v, hv with
    | .long n, _ => exact W.last hexec hb hcell hA (fun q => by cases q) h0 rfl rfl hdg fun H' e1 e2 e3 => kk H' _ (by rw [← hs]; exact e1) e2 e3
  · cases hl
end KROW
end
section
/-! TEMPLATES: a state over symbols of its own, and where each symbol is found -/
abbrev kB : Type := Nat × Nat × kL × Int × Int
abbrev kTm : Type := kS × List kB
def ksubT (sg : List kL) : List (Nat × Int) → Option kL
  | [] => some ([], 0)
  | q :: t => match sg[q.1]?, ksubT sg t with
    | some g, some r => some (kadd (ksc q.2 g) r)
    | _, _ => none
def ksubst (sg : List kL) (f : kL) : Option kL := match ksubT sg f.1 with
  | some r => some (kofs r f.2)
  | none => none
/-- the forms sg have the values zs -/
def kSg (env : List Int) : List kL → List Int → Prop
  | [], [] => True
  | g :: l, z :: m => kev env g = some z ∧ kSg env l m
  | _, _ => False
theorem kSg_at {env : List Int} : ∀ {l : List kL} {m : List Int} {k : Nat} {g : kL}, kSg env l m → l[k]? = some g → ∃ z, m[k]? = some z ∧ kev env g = some z
  | [], _, k, g, _, h => by simp at h
  | a :: l, [], k, g, h, _ => h.elim
  | a :: l, z :: m, 0, g, h, hk => by
    have e : a = g := by simpa using hk
    subst e
    exact ⟨z, rfl, h.1⟩
  | a :: l, z :: m, k + 1, g, h, hk => by
    obtain ⟨w, h1, h2⟩ := kSg_at (k := k) (g := g) h.2 (by simpa using hk)
    exact ⟨w, by simpa using h1, h2⟩
theorem kSg_ext {env e : List Int} : ∀ {l : List kL} {m : List Int}, kSg env l m → kSg (env ++ e) l m
  | [], [], _ => trivial
  | a :: l, [], h => h.elim
  | [], _ :: _, h => h.elim
  | a :: l, z :: m, h => ⟨kev_ext h.1, kSg_ext h.2⟩
theorem kSg_push {env : List Int} {g : kL} {z : Int} (hg : kev env g = some z) : ∀ {l : List kL} {m : List Int}, kSg env l m → kSg env (l ++ [g]) (m ++ [z])
  | [], [], _ => ⟨hg, trivial⟩
  | a :: l, [], h => h.elim
  | [], _ :: _, h => h.elim
  | a :: l, w :: m, h => ⟨h.1, kSg_push hg h.2⟩
theorem kSg_len {env : List Int} : ∀ {l : List kL} {m : List Int}, kSg env l m → l.length = m.length
  | [], [], _ => rfl
  | a :: l, [], h => h.elim
  | [], _ :: _, h => h.elim
  | a :: l, z :: m, h => by simp [kSg_len h.2]
theorem ksubT_ok {env zs : List Int} {sg : List kL} (hs : kSg env sg zs) : ∀ {l : List (Nat × Int)} {r : kL}, ksubT sg l = some r → ∃ z, kevT zs l = some z ∧ kev env r = some z
  | [], r, h => by
    obtain rfl := Option.some.inj h
    exact ⟨0, rfl, rfl⟩
  | q :: t, r, h => by
    unfold ksubT at h
    cases h1 : sg[q.1]? with
    | none => rw [h1] at h; simp at h
    | some g =>
      cases h2 : ksubT sg t with
      | none => rw [h1, h2] at h; simp at h
      | some r' =>
        rw [h1, h2] at h
        obtain rfl := Option.some.inj h
        obtain ⟨w, e1, e2⟩ := kSg_at hs h1
        obtain ⟨y, e3, e4⟩ := ksubT_ok hs h2
        exact ⟨_, kevT_mk e1 e3, kadd_ev (ksc_ev e2) e4⟩
theorem ksubst_ok {env zs : List Int} {sg : List kL} {f r : kL} (hs : kSg env sg zs) (h : ksubst sg f = some r) : ∃ z, kev zs f = some z ∧ kev env r = some z := by
  unfold ksubst at h
  cases h1 : ksubT sg f.1 with
  | none => rw [h1] at h; cases h
  | some r' =>
    rw [h1] at h
    obtain rfl := Option.some.inj h
    obtain ⟨z, e1, e2⟩ := ksubT_ok hs h1
    exact ⟨_, kev_mk e1, kofs_ev e2⟩
theorem ksubst_gh {sg : List kL} {f r : kL} (h : ksubst sg f = some r) (hg : kghx f = true) : r = kcst 5000 := by
  have e := kLeq_eq hg
  subst e
  exact (Option.some.inj h).symm
/-- references: sr picks out of ren -/
def kSr (ren : List Nat) : List Nat → List Nat → Prop
  | [], [] => True
  | k :: l, a :: m => ren[k]? = some a ∧ kSr ren l m
  | _, _ => False
theorem kSr_at {ren : List Nat} : ∀ {l m : List Nat} {k g : Nat}, kSr ren l m → l[k]? = some g → ∃ z, m[k]? = some z ∧ ren[g]? = some z
  | [], _, k, g, _, h => by simp at h
  | a :: l, [], k, g, h, _ => h.elim
  | a :: l, z :: m, 0, g, h, hk => by
    have e : a = g := by simpa using hk
    subst e
    exact ⟨z, rfl, h.1⟩
  | a :: l, z :: m, k + 1, g, h, hk => by
    obtain ⟨w, h1, h2⟩ := kSr_at (k := k) (g := g) h.2 (by simpa using hk)
    exact ⟨w, by simpa using h1, h2⟩
theorem kSr_ext {ren u : List Nat} : ∀ {l m : List Nat}, kSr ren l m → kSr (ren ++ u) l m
  | [], [], _ => trivial
  | a :: l, [], h => h.elim
  | [], _ :: _, h => h.elim
  | a :: l, z :: m, h => ⟨kget_ext h.1, kSr_ext h.2⟩
theorem kSr_push {ren : List Nat} {k a : Nat} (hg : ren[k]? = some a) : ∀ {l m : List Nat}, kSr ren l m → kSr ren (l ++ [k]) (m ++ [a])
  | [], [], _ => ⟨hg, trivial⟩
  | a :: l, [], h => h.elim
  | [], _ :: _, h => h.elim
  | a :: l, w :: m, h => ⟨h.1, kSr_push hg h.2⟩
def ksubV (sg : List kL) (sr : List Nat) (v : kV) : Option kV := match v with
  | .inl f => match ksubst sg f with
    | some g => some (.inl g)
    | none => none
  | .inr (.inl f) => match ksubst sg f with
    | some g => some (.inr (.inl g))
    | none => none
  | .inr (.inr (.inl k)) => match sr[k]? with
    | some j => some (.inr (.inr (.inl j)))
    | none => none
  | .inr (.inr (.inr _)) => none
/-- over the template's symbols and over the state's: the same values -/
theorem ksubV_ok {env zs : List Int} {ren as : List Nat} {sg : List kL} {sr : List Nat} {v w : kV} {x : Value} (hs : kSg env sg zs) (hr : kSr ren sr as) (h : ksubV sg sr v = some w) : kvok zs as v x ↔ kvok env ren w x := by
  match v, h with
  | .inl f, h =>
    unfold ksubV at h
    cases h1 : ksubst sg f with
    | none => simp [h1] at h
    | some g =>
      simp only [h1] at h
      obtain rfl := Option.some.inj h
      obtain ⟨z, e1, e2⟩ := ksubst_ok hs h1
      constructor
      · rintro ⟨n, h2, h3⟩
        exact ⟨n, h2, by rw [e2, ← e1]; exact h3⟩
      · rintro ⟨n, h2, h3⟩
        exact ⟨n, h2, by rw [e1, ← e2]; exact h3⟩
  | .inr (.inl f), h =>
    unfold ksubV at h
    cases h1 : ksubst sg f with
    | none => simp [h1] at h
    | some g =>
      simp only [h1] at h
      obtain rfl := Option.some.inj h
      obtain ⟨z, e1, e2⟩ := ksubst_ok hs h1
      constructor
      · rintro ⟨n, h2, h3⟩
        exact ⟨n, h2, by rw [e2, ← e1]; exact h3⟩
      · rintro ⟨n, h2, h3⟩
        exact ⟨n, h2, by rw [e1, ← e2]; exact h3⟩
  | .inr (.inr (.inl k)), h =>
    unfold ksubV at h
    cases h1 : sr[k]? with
    | none => simp [h1] at h
    | some j =>
      simp only [h1] at h
      obtain rfl := Option.some.inj h
      obtain ⟨z, e1, e2⟩ := kSr_at hr h1
      constructor
      · rintro ⟨n, h2, h3⟩
        exact ⟨n, h2, by rw [e2, ← e1]; exact h3⟩
      · rintro ⟨n, h2, h3⟩
        exact ⟨n, h2, by rw [e1, ← e2]; exact h3⟩
  | .inr (.inr (.inr _)), h => cases h
/-- equal values -/
def kfeq (S : kS) (f g : kL) : Bool := match kLeq f g with
  | true => true
  | false => match kgeS S (ksub f g) with
    | true => kgeS S (ksub g f)
    | false => false
def kveq (S : kS) (v w : kV) : Bool := match v, w with
  | .inl f, .inl g => kfeq S f g
  | .inr (.inl f), .inr (.inl g) => kfeq S f g
  | .inr (.inr (.inl k)), .inr (.inr (.inl j)) => Nat.beq k j
  | _, _ => false
/-- the value of a place; a fact that isn't there is loaded -/
def klocv (l : List (Nat × kV)) (i : Nat) : Option kV := match l with
  | [] => none
  | q :: t => match Nat.beq q.1 i with
    | true => some q.2
    | false => klocv t i
/-- what the index 5000 stands for -/
def kplaceG (tt : List kT) (S : kS) (r : Nat) : Option (kS × kV) := match kfind0 S.2.2.2.2.1 r (kcst 5000) with
  | some v => some (S, v)
  | none => match S.2.1[r]? with
    | none => none
    | some t => match Nat.beq t 36 with
      | false => none
      | true => match tt[36]?, tt[40]? with
        | some T, some _ => match kspR S (kcst 4) T.2.2.1 with
          | some (.inr (.inr t')) => match Nat.beq t' 40 with
            | true => some (kfadd (kpush S (0, 4)) (r, kcst 5000, .inl (ksym S.1.length)), .inl (ksym S.1.length))
            | false => none
          | _ => none
        | _, _ => none
def kplace (tt : List kT) (S : kS) (sg : List kL) (sr : List Nat) (b : kB) : Option (kS × kV) := match b.1 with
  | 0 => match klocv S.2.2.1 b.2.1 with
    | some v => some (S, v)
    | none => none
  | 1 => match S.2.2.2.1[b.2.1]? with
    | some v => some (S, v)
    | none => none
  | _ => match Nat.beq b.1 3 with
    | true => match sr[b.2.1]? with
      | some r => kplaceG tt S r
      | none => none
    | false => match sr[b.2.1]?, ksubst sg b.2.2.1 with
      | some r, some x => match kload tt S r x with
        | some [q] => some q
        | _ => none
      | _, _ => none
def kbind1 (tt : List kT) (S : kS) (sg : List kL) (sr : List Nat) (b : kB) : Option (kS × List kL × List Nat) := match kplace tt S sg sr b with
  | some (S', .inl f) => match kdv b.2.2.2.1 (kofs f (-b.2.2.2.2)) with
    | some g => some (S', sg ++ [g], sr)
    | none => none
  | some (S', .inr (.inl f)) => match kdv b.2.2.2.1 (kofs f (-b.2.2.2.2)) with
    | some g => some (S', sg ++ [g], sr)
    | none => none
  | some (S', .inr (.inr (.inl r))) => some (S', sg, sr ++ [r])
  | _ => none
def kbind (tt : List kT) : List kB → kS → List kL → List Nat → Option (kS × List kL × List Nat)
  | [], S, sg, sr => some (S, sg, sr)
  | b :: t, S, sg, sr => match kbind1 tt S sg sr b with
    | some q => kbind tt t q.1 q.2.1 q.2.2
    | none => none
def kchI (S : kS) : kQ → List kL → Bool
  | [], [] => true
  | q :: t, g :: u => match kbt S g q.1 q.2 with
    | true => kchI S t u
    | false => false
  | _, _ => false
def kchR (S : kS) : List Nat → List Nat → Bool
  | [], [] => true
  | t :: l, k :: u => match S.2.1[k]? with
    | some t' => match Nat.beq t' t with
      | true => kchR S l u
      | false => false
    | none => false
  | _, _ => false
def kchV (S : kS) (sg : List kL) (sr : List Nat) (v w : kV) : Bool := match ksubV sg sr v with
  | some v' => kveq S v' w
  | none => false
def kchL (S : kS) (sg : List kL) (sr : List Nat) : List (Nat × kV) → Bool
  | [] => true
  | q :: t => match klocv S.2.2.1 q.1 with
    | some w => match kchV S sg sr q.2 w with
      | true => kchL S sg sr t
      | false => false
    | none => false
def kchS (S : kS) (sg : List kL) (sr : List Nat) : List kV → List kV → Bool
  | [], [] => true
  | v :: t, w :: u => match kchV S sg sr v w with
    | true => kchS S sg sr t u
    | false => false
  | _, _ => false
def kfindT (fa : List kF) (g : kL) (r : Nat) (x : kL) : Option kV := match kghx g with
  | true => kfind0 fa r x
  | false => kfind fa r x
def kchF (S : kS) (sg : List kL) (sr : List Nat) : List kF → Bool
  | [] => true
  | q :: t => match sr[q.1]?, ksubst sg q.2.1 with
    | some r, some x => match kfindT S.2.2.2.2.1 q.2.1 r x with
      | some w => match kchV S sg sr q.2.2 w with
        | true => kchF S sg sr t
        | false => false
      | none => false
    | _, _ => false
def kchC (S : kS) (sg : List kL) : List kL → Bool
  | [] => true
  | f :: t => match ksubst sg f with
    | some g => match kgeS S g with
      | true => kchC S sg t
      | false => false
    | none => false
/-- the state is as the template says, its symbols being sg, sr -/
def kch (S : kS) (sg : List kL) (sr : List Nat) (T : kS) : Bool := match kchI S T.1 sg with
  | true => match kchR S T.2.1 sr with
    | true => match kchL S sg sr T.2.2.1 with
      | true => match kchS S sg sr T.2.2.2.1 S.2.2.2.1 with
        | true => match kchF S sg sr T.2.2.2.2.1 with
          | true => kchC S sg T.2.2.2.2.2
          | false => false
        | false => false
      | false => false
    | false => false
  | false => false
section KENT
variable {D : va_G} {cA : Nat → ClassId} {tt : List kT} {Ty : Nat → Nat → Prop} {env : List Int} {ren : List Nat} {S : kS} {H : Heap} {lv : List (Nat × Value)} {st : List Value}
theorem kfeq_ok {f g : kL} {x y : Int} (h : kst D cA tt Ty env ren S H lv st) (hf : kev env f = some x) (hg : kev env g = some y) (he : kfeq S f g = true) : x = y := by
  unfold kfeq at he
  cases h1 : kLeq f g with
  | true =>
    have e := kLeq_eq h1
    subst e
    exact Option.some.inj (hf.symm.trans hg)
  | false =>
    simp only [h1] at he
    cases h2 : kgeS S (ksub f g) with
    | false => simp [h2] at he
    | true =>
      simp only [h2] at he
      have a := kgeS_ok h (ksub_ev hf hg) h2
      have b := kgeS_ok h (ksub_ev hg hf) he
      omega
theorem kveq_ok {v w : kV} {x : Value} (h : kst D cA tt Ty env ren S H lv st) (hv : ∃ y, kvok env ren v y) (hw : kvok env ren w x) (he : kveq S v w = true) : kvok env ren v x := by
  obtain ⟨y, hv⟩ := hv
  match v, w, hv, hw, he with
  | .inl f, .inl g, ⟨n, e1, e2⟩, ⟨n', e3, e4⟩, he => exact ⟨n', e3, by rw [e2, kfeq_ok h e2 e4 he]⟩
  | .inr (.inl f), .inr (.inl g), ⟨n, e1, e2⟩, ⟨n', e3, e4⟩, he => exact ⟨n', e3, by rw [e2, kfeq_ok h e2 e4 he]⟩
  | .inr (.inr (.inl k)), .inr (.inr (.inl j)), ⟨n, e1, e2⟩, ⟨n', e3, e4⟩, he =>
    have e : k = j := Nat.beq_eq.mp he
    subst e
    exact ⟨n', e3, e4⟩
  | .inl _, .inr (.inl _), _, _, he => cases he
  | .inl _, .inr (.inr (.inl _)), _, _, he => cases he
  | .inl _, .inr (.inr (.inr _)), _, _, he => cases he
  | .inr (.inl _), .inl _, _, _, he => cases he
  | .inr (.inl _), .inr (.inr (.inl _)), _, _, he => cases he
  | .inr (.inl _), .inr (.inr (.inr _)), _, _, he => cases he
  | .inr (.inr (.inl _)), .inl _, _, _, he => cases he
  | .inr (.inr (.inl _)), .inr (.inl _), _, _, he => cases he
  | .inr (.inr (.inl _)), .inr (.inr (.inr _)), _, _, he => cases he
  | .inr (.inr (.inr _)), .inl _, _, _, he => cases he
  | .inr (.inr (.inr _)), .inr (.inl _), _, _, he => cases he
  | .inr (.inr (.inr _)), .inr (.inr (.inl _)), _, _, he => cases he
  | .inr (.inr (.inr _)), .inr (.inr (.inr _)), _, _, he => cases he
end KENT
end
section
section KEOK
variable {D : va_G} {cA : Nat → ClassId} {tt : List kT} {Ty : Nat → Nat → Prop} {env zs : List Int} {ren as : List Nat} {S : kS} {H : Heap} {lv : List (Nat × Value)} {st : List Value} {sg : List kL} {sr : List Nat}
theorem kchV_ok {v w : kV} {x : Value} (h : kst D cA tt Ty env ren S H lv st) (hs : kSg env sg zs) (hr : kSr ren sr as) (hw : kvok env ren w x) (he : kchV S sg sr v w = true) : kvok zs as v x := by
  unfold kchV at he
  cases h1 : ksubV sg sr v with
  | none => rw [h1] at he; cases he
  | some v' =>
    rw [h1] at he
    refine (ksubV_ok hs hr h1).mpr ?_
    match v, h1 with
    | .inl f, h1 =>
      unfold ksubV at h1
      cases h2 : ksubst sg f with
      | none => simp [h2] at h1
      | some g =>
        simp only [h2] at h1
        obtain rfl := Option.some.inj h1
        obtain ⟨z, -, e2⟩ := ksubst_ok hs h2
        match w, hw, he with
        | .inl g', ⟨n, e3, e4⟩, he => exact ⟨n, e3, by rw [e2, kfeq_ok h e2 e4 he]⟩
        | .inr (.inl _), _, he => cases he
        | .inr (.inr (.inl _)), _, he => cases he
        | .inr (.inr (.inr _)), _, he => cases he
    | .inr (.inl f), h1 =>
      unfold ksubV at h1
      cases h2 : ksubst sg f with
      | none => simp [h2] at h1
      | some g =>
        simp only [h2] at h1
        obtain rfl := Option.some.inj h1
        obtain ⟨z, -, e2⟩ := ksubst_ok hs h2
        match w, hw, he with
        | .inr (.inl g'), ⟨n, e3, e4⟩, he => exact ⟨n, e3, by rw [e2, kfeq_ok h e2 e4 he]⟩
        | .inl _, _, he => cases he
        | .inr (.inr (.inl _)), _, he => cases he
        | .inr (.inr (.inr _)), _, he => cases he
    | .inr (.inr (.inl k)), h1 =>
      unfold ksubV at h1
      cases h2 : sr[k]? with
      | none => simp [h2] at h1
      | some g =>
        simp only [h2] at h1
        obtain rfl := Option.some.inj h1
        match w, hw, he with
        | .inr (.inr (.inl j)), hw, he =>
          have e : g = j := Nat.beq_eq.mp he
          subst e
          exact hw
        | .inl _, _, he => cases he
        | .inr (.inl _), _, he => cases he
        | .inr (.inr (.inr _)), _, he => cases he
    | .inr (.inr (.inr _)), h1 => cases h1
theorem klocv_mem : ∀ {l : List (Nat × kV)} {i : Nat} {v : kV}, klocv l i = some v → (i, v) ∈ l
  | [], i, v, h => by cases h
  | q :: t, i, v, h => by
    unfold klocv at h
    cases h1 : Nat.beq q.1 i with
    | false => rw [h1] at h; exact List.mem_cons_of_mem _ (klocv_mem h)
    | true =>
      rw [h1] at h
      have e1 := Nat.beq_eq.mp h1
      have e3 : q.2 = v := Option.some.inj h
      subst e1; subst e3
      exact List.mem_cons_self
theorem kLoc_mem : ∀ {l : List (Nat × kV)} {m : List (Nat × Value)} {i : Nat} {v : kV}, kLoc env ren l m → (i, v) ∈ l → ∃ x, (i, x) ∈ m ∧ kvok env ren v x
  | [], _, i, v, _, hm => by cases hm
  | a :: l, [], i, v, h, _ => h.elim
  | a :: l, b :: m, i, v, h, hm => by
    rcases List.mem_cons.mp hm with e | hm
    · subst e
      refine ⟨b.2, ?_, h.2.1⟩
      have e : i = b.1 := h.1
      rw [e]
      exact List.mem_cons_self
    · obtain ⟨x, h1, h2⟩ := kLoc_mem h.2.2 hm
      exact ⟨x, List.mem_cons_of_mem _ h1, h2⟩
theorem kStk_at : ∀ {l : List kV} {m : List Value} {i : Nat} {v : kV}, kStk env ren l m → l[i]? = some v → ∃ x, m[i]? = some x ∧ kvok env ren v x
  | [], _, i, v, _, hm => by simp at hm
  | a :: l, [], i, v, h, _ => h.elim
  | a :: l, b :: m, 0, v, h, hm => by
    have e : a = v := by simpa using hm
    subst e
    exact ⟨b, rfl, h.1⟩
  | a :: l, b :: m, i + 1, v, h, hm => by
    obtain ⟨x, h1, h2⟩ := kStk_at (i := i) (v := v) h.2 (by simpa using hm)
    exact ⟨x, by simpa using h1, h2⟩
theorem kchI_ok (h : kst D cA tt Ty env ren S H lv st) : ∀ {iv : kQ} {l : List kL} {zs : List Int}, kSg env l zs → kchI S iv l = true → kI zs iv
  | [], [], [], _, _ => ⟨rfl, fun k q z hk => by simp at hk⟩
  | [], [], _ :: _, hs, _ => hs.elim
  | [], _ :: _, _, _, hc => by simp [kchI] at hc
  | _ :: _, [], _, _, hc => by simp [kchI] at hc
  | _ :: _, _ :: _, [], hs, _ => hs.elim
  | q :: iv, g :: l, z :: zs, hs, hc => by
    unfold kchI at hc
    cases h1 : kbt S g q.1 q.2 with
    | false => rw [h1] at hc; cases hc
    | true =>
      rw [h1] at hc
      have h2 := kchI_ok h hs.2 hc
      refine ⟨by simp [h2.1], fun k r w hk hw => ?_⟩
      cases k with
      | zero =>
        have e1 : q = r := by simpa using hk
        have e2 : z = w := by simpa using hw
        subst e1; subst e2
        exact kbt_ok h hs.1 h1
      | succ k => exact h2.2 k r w (by simpa using hk) (by simpa using hw)
theorem kchR_ok (h : kst D cA tt Ty env ren S H lv st) : ∀ {rt l as : List Nat}, kSr ren l as → kchR S rt l = true → kRt Ty as rt
  | [], [], [], _, _ => ⟨rfl, fun k t a hk => by simp at hk⟩
  | [], [], _ :: _, hs, _ => hs.elim
  | [], _ :: _, _, _, hc => by simp [kchR] at hc
  | _ :: _, [], _, _, hc => by simp [kchR] at hc
  | _ :: _, _ :: _, [], hs, _ => hs.elim
  | t :: rt, g :: l, a :: as, hs, hc => by
    unfold kchR at hc
    cases h1 : S.2.1[g]? with
    | none => rw [h1] at hc; cases hc
    | some t' =>
      simp only [h1] at hc
      cases h3 : Nat.beq t' t with
      | false => rw [h3] at hc; cases hc
      | true =>
        rw [h3] at hc
        have e := Nat.beq_eq.mp h3
        subst e
        have h2 := kchR_ok h hs.2 hc
        refine ⟨by simp [h2.1], fun k r w hk hw => ?_⟩
        cases k with
        | zero =>
          have e1 : t' = r := by simpa using hk
          have e2 : a = w := by simpa using hw
          subst e1; subst e2
          exact h.2.2.1.2 g t' a h1 hs.1
        | succ k => exact h2.2 k r w (by simpa using hk) (by simpa using hw)
theorem kchL_ok (h : kst D cA tt Ty env ren S H lv st) (hs : kSg env sg zs) (hr : kSr ren sr as) : ∀ {l : List (Nat × kV)}, kchL S sg sr l = true → ∃ lv', kLoc zs as l lv' ∧ ∀ q ∈ lv', q ∈ lv
  | [], _ => ⟨[], trivial, fun _ hq => by cases hq⟩
  | q :: t, hc => by
    unfold kchL at hc
    cases h1 : klocv S.2.2.1 q.1 with
    | none => rw [h1] at hc; cases hc
    | some w =>
      simp only [h1] at hc
      cases h2 : kchV S sg sr q.2 w with
      | false => rw [h2] at hc; cases hc
      | true =>
        rw [h2] at hc
        obtain ⟨lv', h3, h4⟩ := kchL_ok h hs hr hc
        obtain ⟨x, h5, h6⟩ := kLoc_mem h.2.2.2.1 (klocv_mem h1)
        refine ⟨(q.1, x) :: lv', ⟨rfl, kchV_ok h hs hr h6 h2, h3⟩, fun p hp => ?_⟩
        rcases List.mem_cons.mp hp with rfl | hp
        · exact h5
        · exact h4 p hp
theorem kchS_ok (h : kst D cA tt Ty env ren S H lv st) (hs : kSg env sg zs) (hr : kSr ren sr as) : ∀ {l u : List kV} {st' : List Value}, kStk env ren u st' → kchS S sg sr l u = true → kStk zs as l st'
  | [], [], [], _, _ => trivial
  | [], [], _ :: _, hk, _ => hk.elim
  | [], _ :: _, _, _, hc => by simp [kchS] at hc
  | _ :: _, [], _, _, hc => by simp [kchS] at hc
  | _ :: _, _ :: _, [], hk, _ => hk.elim
  | v :: l, w :: u, x :: st', hk, hc => by
    unfold kchS at hc
    cases h2 : kchV S sg sr v w with
    | false => rw [h2] at hc; cases hc
    | true =>
      rw [h2] at hc
      exact ⟨kchV_ok h hs hr hk.1 h2, kchS_ok h hs hr hk.2 hc⟩
theorem kchF_G {q : kF} {r : Nat} {w : kV} (h : kst D cA tt Ty env ren S H lv st) (hs : kSg env sg zs) (hr : kSr ren sr as) (h1 : sr[q.1]? = some r) (hw : kfokG D cA tt Ty env ren H (r, kcst 5000, w)) (hv : kchV S sg sr q.2.2 w = true) : kfokG D cA tt Ty zs as H q := by
  obtain ⟨a, b, T, Tt, V, Vt, f, f1, f2, f3, f4, f5, f6, f7, f8, f9, f10⟩ := hw
  obtain ⟨a', g1, g2⟩ := kSr_at hr h1
  have ea : a' = a := Option.some.inj (g2.symm.trans f1)
  subst ea
  have f9 : w = .inl f := f9
  subst f9
  unfold kchV at hv
  match hq : q.2.2 with
  | .inl g =>
    rw [hq] at hv
    cases h3 : ksubst sg g with
    | none => simp [ksubV, h3] at hv
    | some g' =>
      simp only [ksubV, h3] at hv
      obtain ⟨z, e1, e2⟩ := ksubst_ok hs h3
      have hv : kfeq S g' f = true := hv
      have e3 := kfeq_ok h e2 f10 hv
      exact ⟨a', b, T, Tt, V, Vt, g, g1, f2, f3, f4, f5, f6, f7, f8, hq, by rw [e1, e3]⟩
  | .inr (.inl g) =>
    rw [hq] at hv
    cases h3 : ksubst sg g with
    | none => simp [ksubV, h3] at hv
    | some g' => simp only [ksubV, h3] at hv; cases hv
  | .inr (.inr (.inl g)) =>
    rw [hq] at hv
    cases h3 : sr[g]? with
    | none => simp [ksubV, h3] at hv
    | some g' => simp only [ksubV, h3] at hv; cases hv
  | .inr (.inr (.inr g)) =>
    rw [hq] at hv
    simp [ksubV] at hv
theorem kchF_ok (hTy : kTyp tt Ty) (h : kst D cA tt Ty env ren S H lv st) (hs : kSg env sg zs) (hr : kSr ren sr as) : ∀ {l : List kF}, kchF S sg sr l = true → ∀ q ∈ l, kfok D cA tt Ty zs as H q
  | [], _, q, hq => by cases hq
  | q :: t, hc, p, hp => by
    unfold kchF at hc
    cases h1 : sr[q.1]? with
    | none => rw [h1] at hc; simp at hc
    | some r =>
      cases h2 : ksubst sg q.2.1 with
      | none => rw [h1, h2] at hc; simp at hc
      | some x =>
        simp only [h1, h2] at hc
        cases h3 : kfindT S.2.2.2.2.1 q.2.1 r x with
        | none => rw [h3] at hc; cases hc
        | some w =>
          simp only [h3] at hc
          cases h4 : kchV S sg sr q.2.2 w with
          | false => rw [h4] at hc; cases hc
          | true =>
            rw [h4] at hc
            rcases List.mem_cons.mp hp with rfl | hp
            · cases hgx : kghx p.2.1 with
              | true =>
                simp only [kfindT, hgx] at h3
                have ex := ksubst_gh h2 hgx
                subst ex
                have hf := h.2.2.2.2.2 _ (kfind0_mem h3)
                unfold kfok at hf ⊢
                rw [hgx]
                exact kchF_G h hs hr h1 hf h4
              | false =>
              simp only [kfindT, hgx] at h3
              obtain ⟨a, t', T, V, z, f1, f2, f3, f4, f5, f6, f7⟩ := kfind_ok h h3
              obtain ⟨a', g1, g2⟩ := kSr_at hr h1
              have ea : a' = a := Option.some.inj (g2.symm.trans f1)
              subst ea
              obtain ⟨z', g3, g4⟩ := ksubst_ok hs h2
              have ez : z' = (z : Int) := Option.some.inj (g4.symm.trans f5)
              subst ez
              exact kfok_mk hTy ⟨a', t', T, V, z, g1, f2, f3, f4, g3, f6, kchV_ok h hs hr f7 h4⟩
            · exact kchF_ok hTy h hs hr hc p hp
theorem kchC_ok (h : kst D cA tt Ty env ren S H lv st) (hs : kSg env sg zs) : ∀ {l : List kL}, kchC S sg l = true → kC zs l
  | [], _, q, hq => by cases hq
  | f :: t, hc, p, hp => by
    unfold kchC at hc
    cases h1 : ksubst sg f with
    | none => rw [h1] at hc; cases hc
    | some g =>
      simp only [h1] at hc
      cases h2 : kgeS S g with
      | false => rw [h2] at hc; cases hc
      | true =>
        rw [h2] at hc
        rcases List.mem_cons.mp hp with rfl | hp
        · obtain ⟨z, e1, e2⟩ := ksubst_ok hs h1
          exact ⟨z, e1, kgeS_ok h e2 h2⟩
        · exact kchC_ok h hs hc p hp
theorem kch_ok {T : kS} (hTy : kTyp tt Ty) (h : kst D cA tt Ty env ren S H lv st) (hs : kSg env sg zs) (hr : kSr ren sr as) (hc : kch S sg sr T = true) : ∃ lv', kst D cA tt Ty zs as T H lv' st ∧ ∀ q ∈ lv', q ∈ lv := by
  unfold kch at hc
  cases h1 : kchI S T.1 sg with
  | false => rw [h1] at hc; cases hc
  | true =>
    simp only [h1] at hc
    cases h2 : kchR S T.2.1 sr with
    | false => rw [h2] at hc; cases hc
    | true =>
      simp only [h2] at hc
      cases h3 : kchL S sg sr T.2.2.1 with
      | false => rw [h3] at hc; cases hc
      | true =>
        simp only [h3] at hc
        cases h4 : kchS S sg sr T.2.2.2.1 S.2.2.2.1 with
        | false => rw [h4] at hc; cases hc
        | true =>
          simp only [h4] at hc
          cases h5 : kchF S sg sr T.2.2.2.2.1 with
          | false => rw [h5] at hc; cases hc
          | true =>
            simp only [h5] at hc
            obtain ⟨lv', g1, g2⟩ := kchL_ok h hs hr h3
            exact ⟨lv', ⟨kchI_ok h hs h1, kchC_ok h hs hc, kchR_ok h hr h2, g1, kchS_ok h hs hr h.2.2.2.2.1 h4, kchF_ok hTy h hs hr h5⟩, g2⟩
theorem kplaceG_ok {lo r : Nat} {S' : kS} {v : kV} (hTy : kTyp tt Ty) (hG : kgood D cA tt Ty lo H) (h : kst D cA tt Ty env ren S H lv st) (hp : kplaceG tt S r = some (S', v)) : ∃ e u x, kst D cA tt Ty (env ++ e) (ren ++ u) S' H lv st ∧ kvok (env ++ e) (ren ++ u) v x := by
  have k : ∀ (V Vt : Nat → Value), (Int32.ofInt (kwhich V Vt)).toInt = kwhich V Vt := fun V Vt => by
    obtain ⟨b1, b2⟩ := kwhich_in V Vt
    exact Int32.toInt_ofInt_of_le (by omega) (by omega)
  unfold kplaceG at hp
  cases h1 : kfind0 S.2.2.2.2.1 r (kcst 5000) with
  | some w =>
    simp only [h1] at hp
    cases hp
    have hf := h.2.2.2.2.2 _ (kfind0_mem h1)
    unfold kfok at hf
    rw [show kghx (kcst 5000) = true from rfl] at hf
    obtain ⟨a, b, T, Tt, V, Vt, f, f1, f2, f3, f4, f5, f6, f7, f8, f9, f10⟩ := hf
    have f9 : v = .inl f := f9
    subst f9
    exact ⟨[], [], .int (Int32.ofInt (kwhich V Vt)), by rw [List.append_nil, List.append_nil]; exact h, kvok_ext ⟨_, rfl, by rw [k]; exact f10⟩⟩
  | none =>
    simp only [h1] at hp
    cases h2 : S.2.1[r]? with
    | none => simp [h2] at hp
    | some t =>
      simp only [h2] at hp
      cases h3 : Nat.beq t 36 with
      | false => simp [h3] at hp
      | true =>
        simp only [h3] at hp
        have et := Nat.beq_eq.mp h3
        subst et
        cases h4 : tt[36]? with
        | none => simp [h4] at hp
        | some T =>
          cases h5 : tt[40]? with
          | none => simp [h4, h5] at hp
          | some Tt =>
            simp only [h4, h5] at hp
            split at hp
            · rename_i t' h6
              cases h7 : Nat.beq t' 40 with
              | false => simp [h7] at hp
              | true =>
                simp only [h7] at hp
                cases hp
                have et := Nat.beq_eq.mp h7
                subst et
                obtain ⟨a, ha, ht⟩ := kRt_at h.2.2.1 h2
                obtain ⟨hlo, V, hc, hv⟩ := hG.1 a 36 T ht h4
                obtain ⟨b, hb, htb⟩ : kpok Ty (.inr (.inr 40)) (V 4) := kspR_ok (T := T) h (z := 4) kcst_ev hv.1 h6
                obtain ⟨-, Vt, hct, -⟩ := hG.1 b 40 Tt htb h5
                obtain ⟨b1, b2⟩ := kwhich_in V Vt
                obtain ⟨g1, g2⟩ := kpush_ok (q := (0, 4)) h b1 b2
                refine ⟨[kwhich V Vt], [], .int (Int32.ofInt (kwhich V Vt)), kfadd_ok g1 ?_, ⟨_, rfl, by rw [k]; exact g2⟩⟩
                unfold kfok
                rw [show kghx (kcst 5000) = true from rfl]
                exact ⟨a, b, T, Tt, V, Vt, _, kget_ext ha, ht, h4, hc, hb, htb, h5, hct, rfl, g2⟩
            · cases hp
theorem kplace_ok {lo : Nat} {b : kB} {S' : kS} {v : kV} (hTy : kTyp tt Ty) (hG : kgood D cA tt Ty lo H) (h : kst D cA tt Ty env ren S H lv st) (hs : kSg env sg zs) (hr : kSr ren sr as) (hp : kplace tt S sg sr b = some (S', v)) : ∃ e u x, kst D cA tt Ty (env ++ e) (ren ++ u) S' H lv st ∧ kvok (env ++ e) (ren ++ u) v x := by
  unfold kplace at hp
  split at hp
  · cases h1 : klocv S.2.2.1 b.2.1 with
    | none => rw [h1] at hp; cases hp
    | some w =>
      simp only [h1] at hp
      cases hp
      obtain ⟨x, -, h2⟩ := kLoc_mem h.2.2.2.1 (klocv_mem h1)
      exact ⟨[], [], x, by rw [List.append_nil, List.append_nil]; exact h, kvok_ext h2⟩
  · cases h1 : S.2.2.2.1[b.2.1]? with
    | none => rw [h1] at hp; cases hp
    | some w =>
      simp only [h1] at hp
      cases hp
      obtain ⟨x, -, h2⟩ := kStk_at h.2.2.2.2.1 h1
      exact ⟨[], [], x, by rw [List.append_nil, List.append_nil]; exact h, kvok_ext h2⟩
  · split at hp
    · split at hp
      · exact kplaceG_ok hTy hG h hp
      · cases hp
    cases h1 : sr[b.2.1]? with
    | none => rw [h1] at hp; simp at hp
    | some r =>
      cases h2 : ksubst sg b.2.2.1 with
      | none => rw [h1, h2] at hp; simp at hp
      | some x =>
        simp only [h1, h2] at hp
        split at hp
        · rename_i q hq
          cases hp
          obtain ⟨z, -, g2⟩ := ksubst_ok hs h2
          obtain ⟨a, t, T, V, z', -, -, -, -, -, -, -, -, -, alt, ha, e, u, g3, g4⟩ := kload_ok hTy hG h g2 hq
          have e1 : alt = (S', v) := by simpa using ha
          subst e1
          exact ⟨e, u, _, g3, g4⟩
        · cases hp
theorem kbind1_ok {lo : Nat} {b : kB} {q : kS × List kL × List Nat} (hTy : kTyp tt Ty) (hG : kgood D cA tt Ty lo H) (h : kst D cA tt Ty env ren S H lv st) (hs : kSg env sg zs) (hr : kSr ren sr as) (hp : kbind1 tt S sg sr b = some q) : ∃ e u zs' as', kst D cA tt Ty (env ++ e) (ren ++ u) q.1 H lv st ∧ kSg (env ++ e) q.2.1 (zs ++ zs') ∧ kSr (ren ++ u) q.2.2 (as ++ as') := by
  unfold kbind1 at hp
  split at hp
  · rename_i S' f hq
    obtain ⟨e, u, x, g1, n, -, g2⟩ := kplace_ok hTy hG h hs hr hq
    split at hp
    · rename_i g hg
      cases hp
      obtain ⟨w, g3, -⟩ := kdv_ok hg (kofs_ev g2)
      exact ⟨e, u, [w], [], g1, kSg_push g3 (kSg_ext hs), by rw [List.append_nil]; exact kSr_ext hr⟩
    · cases hp
  · rename_i S' f hq
    obtain ⟨e, u, x, g1, n, -, g2⟩ := kplace_ok hTy hG h hs hr hq
    split at hp
    · rename_i g hg
      cases hp
      obtain ⟨w, g3, -⟩ := kdv_ok hg (kofs_ev g2)
      exact ⟨e, u, [w], [], g1, kSg_push g3 (kSg_ext hs), by rw [List.append_nil]; exact kSr_ext hr⟩
    · cases hp
  · rename_i S' r hq
    obtain ⟨e, u, x, g1, a, -, g2⟩ := kplace_ok hTy hG h hs hr hq
    cases hp
    exact ⟨e, u, [], [a], g1, by rw [List.append_nil]; exact kSg_ext hs, kSr_push g2 (kSr_ext hr)⟩
  · cases hp
end KEOK
theorem kbind_ok {D : va_G} {cA : Nat → ClassId} {tt : List kT} {Ty : Nat → Nat → Prop} {lo : Nat} {H : Heap} {lv : List (Nat × Value)} {st : List Value} (hTy : kTyp tt Ty) (hG : kgood D cA tt Ty lo H) : ∀ {bs : List kB} {env zs : List Int} {ren as : List Nat} {S : kS} {sg : List kL} {sr : List Nat} {q : kS × List kL × List Nat}, kst D cA tt Ty env ren S H lv st → kSg env sg zs → kSr ren sr as → kbind tt bs S sg sr = some q → ∃ e u zs' as', kst D cA tt Ty (env ++ e) (ren ++ u) q.1 H lv st ∧ kSg (env ++ e) q.2.1 (zs ++ zs') ∧ kSr (ren ++ u) q.2.2 (as ++ as')
  | [], env, zs, ren, as, S, sg, sr, q, h, hs, hr, hp => by
    cases hp
    exact ⟨[], [], [], [], by rw [List.append_nil, List.append_nil]; exact h, by rw [List.append_nil, List.append_nil]; exact hs, by rw [List.append_nil, List.append_nil]; exact hr⟩
  | b :: bs, env, zs, ren, as, S, sg, sr, q, h, hs, hr, hp => by
    unfold kbind at hp
    cases h1 : kbind1 tt S sg sr b with
    | none => rw [h1] at hp; cases hp
    | some q1 =>
      simp only [h1] at hp
      obtain ⟨e, u, zs', as', g1, g2, g3⟩ := kbind1_ok hTy hG h hs hr h1
      obtain ⟨e2, u2, zs2, as2, g4, g5, g6⟩ := kbind_ok hTy hG g1 g2 g3 hp
      exact ⟨e ++ e2, u ++ u2, zs' ++ zs2, as' ++ as2, by rw [← List.append_assoc, ← List.append_assoc]; exact g4, by rw [← List.append_assoc, ← List.append_assoc]; exact g5, by rw [← List.append_assoc, ← List.append_assoc]; exact g6⟩
end
section
/-! CONTRACTS. A case: symbols more (their intervals), references more (their types), the answer, facts, constraints, where the symbols are found.
A contract: the method's number, what it wants, where the symbols are found, its cases, what it writes, its depth -/
abbrev kCs : Type := kQ × List Nat × Option kV × List kF × List kL × List kB
abbrev kCt : Type := Nat × kS × List kB × List kCs × kW × Nat
def kcsT (P : kS) (q : kCs) : kS := (P.1 ++ q.1, P.2.1 ++ q.2.1, (match q.2.2.1 with
  | some v => [(0, v)]
  | none => []), [], q.2.2.2.1, q.2.2.2.2.1)
def kans (v : Option Value) : List (Nat × Value) := match v with
  | some x => [(0, x)]
  | none => []
/-- the locals of a call -/
def kcat (v : kV) (i : Nat) : Nat := match v with
  | .inr (.inl _) => i + 2
  | _ => i + 1
theorem kcat_ok {env : List Int} {ren : List Nat} {v : kV} {x : Value} {i : Nat} (h : kvok env ren v x) : kcat v i = (if x.category = 2 then i + 2 else i + 1) := by
  match v, h with
  | .inl f, ⟨n, e, _⟩ => subst e; rfl
  | .inr (.inl f), ⟨n, e, _⟩ => subst e; rfl
  | .inr (.inr (.inl f)), ⟨n, e, _⟩ => subst e; rfl
  | .inr (.inr (.inr f)), ⟨n, _, _, e, _⟩ => subst e; rfl
def klocs : Nat → List kV → List (Nat × kV)
  | _, [] => []
  | i, v :: vs => (i, v) :: klocs (kcat v i) vs
theorem klocs_ok {env : List Int} {ren : List Nat} : ∀ {avs : List kV} {vs : List Value} {i : Nat}, kStk env ren avs vs → kLoc env ren (klocs i avs) (lv_args i vs)
  | [], [], i, _ => trivial
  | [], _ :: _, i, h => h.elim
  | _ :: _, [], i, h => h.elim
  | v :: avs, x :: vs, i, h => by
    refine ⟨rfl, h.1, ?_⟩
    rw [kcat_ok h.1]
    exact klocs_ok h.2
/-- what stays behind a call that writes w -/
def kkeepX (w : kW) : Bool := w.all (fun p => match Nat.beq p.1 40 with
  | true => false
  | false => match Nat.beq p.1 36 with
    | false => true
    | true => match p.2 with
      | none => false
      | some j => !(Nat.beq j 4 || Nat.beq j 8 || Nat.beq j 9 || Nat.beq j 10 || Nat.beq j 12))
def kkeepM (S : kS) (w : kW) (q : kF) : Bool := match S.2.1[q.1]? with
  | some t => match Nat.blt t 1000 with
    | true => w.all (fun p => match Nat.beq p.1 t with
      | true => match p.2 with
        | none => false
        | some j => kneS S q.2.1 (kcst (Int.ofNat j))
      | false => true)
    | false => false
  | none => false
def kkeepW (S : kS) (w : kW) (q : kF) : Bool := match kghx q.2.1 with
  | true => kkeepX w
  | false => kkeepM S w q
def ksyms : Nat → kQ → List kL
  | _, [] => []
  | n, _ :: t => ksym n :: ksyms (n + 1) t
def krefs : Nat → List Nat → List Nat
  | _, [] => []
  | n, _ :: t => n :: krefs (n + 1) t
def kaddF (sg : List kL) (sr : List Nat) : List kF → List kF → List kF
  | [], fa => fa
  | q :: t, fa => match sr[q.1]?, ksubst sg q.2.1, ksubV sg sr q.2.2 with
    | some r, some x, some v => (r, x, v) :: kaddF sg sr t fa
    | _, _, _ => kaddF sg sr t fa
def kaddC (sg : List kL) : List kL → kS → Option kS
  | [], S => some S
  | f :: t, S => match ksubst sg f with
    | some g => match kasmS S g with
      | some S' => kaddC sg t S'
      | none => none
    | none => kaddC sg t S
/-- the state behind a call, by one case: none: it falls; some []: the case can't be -/
def kcase (lo : List (Nat × kV)) (rest : List kV) (S2 : kS) (sg : List kL) (sr : List Nat) (w : kW) (q : kCs) : Option (List kS) :=
  match q.2.2.1 with
  | none => match kaddC (sg ++ ksyms S2.1.length q.1) q.2.2.2.2.1 (S2.1 ++ q.1, S2.2.1 ++ q.2.1, lo, rest, kaddF (sg ++ ksyms S2.1.length q.1) (sr ++ krefs S2.2.1.length q.2.1) q.2.2.2.1 (S2.2.2.2.2.1.filter (kkeepW S2 w)), S2.2.2.2.2.2) with
    | some S' => some [S']
    | none => some []
  | some v => match ksubV (sg ++ ksyms S2.1.length q.1) (sr ++ krefs S2.2.1.length q.2.1) v with
    | none => none
    | some v' => match kaddC (sg ++ ksyms S2.1.length q.1) q.2.2.2.2.1 (S2.1 ++ q.1, S2.2.1 ++ q.2.1, lo, v' :: rest, kaddF (sg ++ ksyms S2.1.length q.1) (sr ++ krefs S2.2.1.length q.2.1) q.2.2.2.1 (S2.2.2.2.2.1.filter (kkeepW S2 w)), S2.2.2.2.2.2) with
      | some S' => some [S']
      | none => some []
def kcases (lo : List (Nat × kV)) (rest : List kV) (S2 : kS) (sg : List kL) (sr : List Nat) (w : kW) : List kCs → Option (List kS)
  | [] => some []
  | q :: t => match kcase lo rest S2 sg sr w q, kcases lo rest S2 sg sr w t with
    | some a, some b => some (a ++ b)
    | _, _ => none
/-- a call of a method by a contract -/
def kcall (tt : List kT) (S : kS) (avs rest : List kV) (C : kCt) : Option (List kS) := match kbind tt C.2.2.1 (S.1, S.2.1, klocs 0 avs, [], S.2.2.2.2) [] [] with
  | some q => match kch q.1 q.2.1 q.2.2 C.2.1 with
    | true => kcases S.2.2.1 rest q.1 q.2.1 q.2.2 C.2.2.2.2.1 C.2.2.2.1
    | false => none
  | none => none
section KCALL
variable {D : va_G} {cA : Nat → ClassId} {tt : List kT} {Ty : Nat → Nat → Prop} {env zs : List Int} {ren as : List Nat} {S : kS} {H H1 : Heap} {lv : List (Nat × Value)} {st : List Value} {sg : List kL} {sr : List Nat}
theorem ksyms_ok : ∀ {q : kQ} {e pre : List Int} {l : List kL} {m : List Int}, q.length = e.length → kSg (pre ++ e) l m → kSg (pre ++ e) (l ++ ksyms pre.length q) (m ++ e)
  | [], [], pre, l, m, _, h => by simpa [ksyms] using h
  | [], _ :: _, pre, l, m, hl, h => by simp at hl
  | _ :: _, [], pre, l, m, hl, h => by simp at hl
  | a :: q, z :: e, pre, l, m, hl, h => by
    have h1 : kSg (pre ++ z :: e) (l ++ [ksym pre.length]) (m ++ [z]) := kSg_push (ksym_ev (by simp)) h
    have e1 : pre ++ z :: e = (pre ++ [z]) ++ e := by simp
    have h2 := ksyms_ok (q := q) (e := e) (pre := pre ++ [z]) (l := l ++ [ksym pre.length]) (m := m ++ [z]) (by simpa using hl) (by rw [← e1]; exact h1)
    rw [← e1] at h2
    simpa [ksyms] using h2
theorem krefs_ok : ∀ {q : List Nat} {e pre : List Nat} {l m : List Nat}, q.length = e.length → kSr (pre ++ e) l m → kSr (pre ++ e) (l ++ krefs pre.length q) (m ++ e)
  | [], [], pre, l, m, _, h => by simpa [krefs] using h
  | [], _ :: _, pre, l, m, hl, h => by simp at hl
  | _ :: _, [], pre, l, m, hl, h => by simp at hl
  | a :: q, z :: e, pre, l, m, hl, h => by
    have h1 : kSr (pre ++ z :: e) (l ++ [pre.length]) (m ++ [z]) := kSr_push (by simp) h
    have e1 : pre ++ z :: e = (pre ++ [z]) ++ e := by simp
    have h2 := krefs_ok (q := q) (e := e) (pre := pre ++ [z]) (l := l ++ [pre.length]) (m := m ++ [z]) (by simpa using hl) (by rw [← e1]; exact h1)
    rw [← e1] at h2
    simpa [krefs] using h2
theorem kaddC_ok (hs : kSg env sg zs) : ∀ {l : List kL} {S : kS}, kst D cA tt Ty env ren S H lv st → kC zs l → ∃ S', kaddC sg l S = some S' ∧ kst D cA tt Ty env ren S' H lv st
  | [], S, h, _ => ⟨S, rfl, h⟩
  | f :: t, S, h, hc => by
    have hc' : kC zs t := fun g hg => hc g (List.mem_cons_of_mem _ hg)
    unfold kaddC
    cases h1 : ksubst sg f with
    | none => exact kaddC_ok hs h hc'
    | some g =>
      obtain ⟨z, e1, e2⟩ := ksubst_ok hs h1
      obtain ⟨z', e3, e4⟩ := hc f List.mem_cons_self
      have e : z' = z := Option.some.inj (e3.symm.trans e1)
      subst e
      obtain ⟨S', g1, g2⟩ := kasmS_ok h e2 e4
      simp only [g1]
      exact kaddC_ok hs g2 hc'
theorem kaddF_ok (hTy : kTyp tt Ty) (hs : kSg env sg zs) (hr : kSr ren sr as) : ∀ {l fa : List kF}, (∀ q ∈ l, kfok D cA tt Ty zs as H q) → (∀ q ∈ fa, kfok D cA tt Ty env ren H q) → ∀ q ∈ kaddF sg sr l fa, kfok D cA tt Ty env ren H q
  | [], fa, _, h => h
  | p :: t, fa, hl, h => by
    have ih := kaddF_ok hTy hs hr (l := t) (fa := fa) (fun q hq => hl q (List.mem_cons_of_mem _ hq)) h
    intro q hq
    unfold kaddF at hq
    split at hq
    · rename_i r x v h1 h2 h3
      rcases List.mem_cons.mp hq with rfl | hq
      · have hf := hl p List.mem_cons_self
        cases hgx : kghx p.2.1 with
        | true =>
          have ex := ksubst_gh h2 hgx
          subst ex
          unfold kfok at hf ⊢
          rw [hgx] at hf
          rw [show kghx (kcst 5000) = true from rfl]
          obtain ⟨a, b, T, Tt, V, Vt, f, f1, f2, f3, f4, f5, f6, f7, f8, f9, f10⟩ := hf
          obtain ⟨a', g1, g2⟩ := kSr_at hr h1
          have ea : a' = a := Option.some.inj (g1.symm.trans f1)
          subst ea
          rw [f9] at h3
          unfold ksubV at h3
          cases h4 : ksubst sg f with
          | none => simp [h4] at h3
          | some g =>
            simp only [h4] at h3
            obtain rfl := Option.some.inj h3
            obtain ⟨z, e1, e2⟩ := ksubst_ok hs h4
            exact ⟨a', b, T, Tt, V, Vt, g, g2, f2, f3, f4, f5, f6, f7, f8, rfl, by rw [e2, ← e1]; exact f10⟩
        | false =>
        obtain ⟨a, t', T, V, z, f1, f2, f3, f4, f5, f6, f7⟩ := kfok_N hf hgx
        obtain ⟨a', g1, g2⟩ := kSr_at hr h1
        have ea : a' = a := Option.some.inj (g1.symm.trans f1)
        subst ea
        obtain ⟨z', g3, g4⟩ := ksubst_ok hs h2
        have ez : z' = (z : Int) := Option.some.inj (g3.symm.trans f5)
        subst ez
        exact kfok_mk hTy ⟨a', t', T, V, z, g2, f2, f3, f4, g4, f6, (ksubV_ok hs hr h3).mp f7⟩
      · exact ih q hq
    · exact ih q hq
theorem kkeepW_ok {lo : Nat} {w : kW} {q : kF} (hTy : kTyp tt Ty) (h : kst D cA tt Ty env ren S H lv st) (hk : kkp D cA tt Ty w H H1) (hq : kfok D cA tt Ty env ren H q) (hw : kkeepW S w q = true) : kfok D cA tt Ty env ren H1 q := by
  unfold kkeepW at hw
  cases hgx : kghx q.2.1 with
  | true =>
    rw [hgx] at hw
    dsimp only at hw
    unfold kfok at hq ⊢
    rw [hgx] at hq ⊢
    dsimp only at hq ⊢
    have kx : ∀ p ∈ w, p.1 ≠ 40 ∧ (p.1 = 36 → p.2 ≠ none ∧ p.2 ≠ some 4 ∧ p.2 ≠ some 8 ∧ p.2 ≠ some 9 ∧ p.2 ≠ some 10 ∧ p.2 ≠ some 12) := by
      intro p hp
      have h3 := List.all_eq_true.mp hw p hp
      cases g1 : Nat.beq p.1 40 with
      | true => simp [g1] at h3
      | false =>
        simp only [g1] at h3
        refine ⟨fun e => (by rw [e] at g1; cases g1), fun e => ?_⟩
        rw [e] at h3
        rw [show Nat.beq 36 36 = true from rfl] at h3
        dsimp only at h3
        cases g2 : p.2 with
        | none => simp [g2] at h3
        | some j =>
          simp only [g2] at h3
          refine ⟨by simp, ?_, ?_, ?_, ?_, ?_⟩ <;> intro e2 <;> cases e2 <;> cases h3
    refine kfokG_kept hq (fun a T V ht hT hc => ?_) (fun b T V ht hT hc => ?_)
    · have l38 := hTy.2.2.2.1 T hT
      obtain ⟨V', c1, e4⟩ := hk a 36 T V 4 ht hT hc (by omega) (fun p hp e => ⟨((kx p hp).2 e).1, ((kx p hp).2 e).2.1⟩)
      obtain ⟨V8, c8, e8⟩ := hk a 36 T V 8 ht hT hc (by omega) (fun p hp e => ⟨((kx p hp).2 e).1, ((kx p hp).2 e).2.2.1⟩)
      obtain ⟨V9, c9, e9⟩ := hk a 36 T V 9 ht hT hc (by omega) (fun p hp e => ⟨((kx p hp).2 e).1, ((kx p hp).2 e).2.2.2.1⟩)
      obtain ⟨V10, c10, e10⟩ := hk a 36 T V 10 ht hT hc (by omega) (fun p hp e => ⟨((kx p hp).2 e).1, ((kx p hp).2 e).2.2.2.2.1⟩)
      obtain ⟨V12, c12, e12⟩ := hk a 36 T V 12 ht hT hc (by omega) (fun p hp e => ⟨((kx p hp).2 e).1, ((kx p hp).2 e).2.2.2.2.2⟩)
      exact ⟨V', c1, e4, (kcell_uniq c1 c8 (by omega)).trans e8, (kcell_uniq c1 c9 (by omega)).trans e9, (kcell_uniq c1 c10 (by omega)).trans e10, (kcell_uniq c1 c12 (by omega)).trans e12⟩
    · have l900 := hTy.2.2.2.2 T hT
      obtain ⟨V', c1, -⟩ := hk b 40 T V 0 ht hT hc (by omega) (fun p hp e => absurd e (kx p hp).1)
      refine ⟨V', c1, fun j hj => ?_⟩
      obtain ⟨V2, c2, e2⟩ := hk b 40 T V j ht hT hc (by omega) (fun p hp e => absurd e (kx p hp).1)
      exact (kcell_uniq c1 c2 (by omega)).trans e2
  | false =>
  rw [hgx] at hw
  dsimp only at hw
  obtain ⟨a, t, T, V, z, f1, f2, f3, f4, f5, f6, f7⟩ := kfok_N hq hgx
  unfold kkeepM at hw
  cases h1 : S.2.1[q.1]? with
  | none => rw [h1] at hw; cases hw
  | some t' =>
    simp only [h1] at hw
    cases h2 : Nat.blt t' 1000 with
    | false => rw [h2] at hw; cases hw
    | true =>
      simp only [h2] at hw
      have ft := h.2.2.1.2 q.1 t' a h1 f1
      have l1 : t' < 1000 := Nat.blt_eq.mp h2
      have l2 : t < 1000 := Nat.lt_of_lt_of_le (List.getElem?_eq_some_iff.mp f3).1 hTy.2.1
      have e := hTy.1 _ _ _ l1 l2 ft f2
      subst e
      obtain ⟨V', c1, c2⟩ := hk a t' T V z f2 f3 f4 f6 (fun p hp e => by
        have h3 := List.all_eq_true.mp hw p hp
        have e2 : Nat.beq p.1 t' = true := Nat.beq_eq.mpr e
        simp only [e2] at h3
        cases h4 : p.2 with
        | none => simp [h4] at h3
        | some j =>
          simp only [h4] at h3
          have := kneS_ok h f5 kcst_ev h3
          refine ⟨by simp, fun e3 => this ?_⟩
          have e4 := Option.some.inj e3
          subst e4
          rfl)
      exact kfok_mk hTy ⟨a, t', T, V', z, f1, f2, f3, c1, f5, f6, by rw [c2]; exact f7⟩
/-- behind a call -/
theorem kcase_ok {lo : Nat} {locs : List (Nat × kV)} {rest : List kV} {P : kS} {w : kW} {q : kCs} {v : Option Value} {e : List Int} {u : List Nat} {L : List kS} {lv0 : List (Nat × Value)} {st0 : List Value} (hTy : kTyp tt Ty) (h : kst D cA tt Ty env ren S H lv0 st0) (hs : kSg env sg zs) (hr : kSr ren sr as) (hP : kI zs P.1) (hPr : kRt Ty as P.2.1) (hk : kkp D cA tt Ty w H H1)
    (hl : kLoc env ren locs lv) (hst : kStk env ren rest st) (hq : kst D cA tt Ty (zs ++ e) (as ++ u) (kcsT P q) H1 (kans v) []) (hc : kcase locs rest S sg sr w q = some L) : ∃ S' ∈ L, kst D cA tt Ty (env ++ e) (ren ++ u) S' H1 lv (v.toList ++ st) := by
  obtain ⟨a1, a2, a3, a4, a5, a6⟩ := hq
  have le : q.1.length = e.length := by
    have := a1.1
    have := hP.1
    simp [kcsT] at *
    omega
  have lu : q.2.1.length = u.length := by
    have := a3.1
    have := hPr.1
    simp [kcsT] at *
    omega
  have hs' : kSg (env ++ e) (sg ++ ksyms S.1.length q.1) (zs ++ e) := by
    rw [← h.1.1]
    exact ksyms_ok le (kSg_ext hs)
  have hr' : kSr (ren ++ u) (sr ++ krefs S.2.1.length q.2.1) (as ++ u) := by
    rw [← h.2.2.1.1]
    exact krefs_ok lu (kSr_ext hr)
  have hI : kI (env ++ e) (S.1 ++ q.1) := by
    refine ⟨by simp [h.1.1, le], fun k r z hk hz => ?_⟩
    by_cases hlt : k < S.1.length
    · rw [List.getElem?_append_left hlt] at hk
      rw [List.getElem?_append_left (by rw [h.1.1]; exact hlt)] at hz
      exact h.1.2 k r z hk hz
    · rw [List.getElem?_append_right (by omega)] at hk
      rw [List.getElem?_append_right (by rw [h.1.1]; omega), h.1.1] at hz
      have b1 : (P.1 ++ q.1)[P.1.length + (k - S.1.length)]? = some r := by
        rw [List.getElem?_append_right (by omega)]
        simpa using hk
      have b2 : (zs ++ e)[P.1.length + (k - S.1.length)]? = some z := by
        rw [← hP.1, List.getElem?_append_right (by omega)]
        simpa using hz
      exact a1.2 _ r z b1 b2
  have hR : kRt Ty (ren ++ u) (S.2.1 ++ q.2.1) := by
    refine ⟨by simp [h.2.2.1.1, lu], fun k r z hk hz => ?_⟩
    by_cases hlt : k < S.2.1.length
    · rw [List.getElem?_append_left hlt] at hk
      rw [List.getElem?_append_left (by rw [h.2.2.1.1]; exact hlt)] at hz
      exact h.2.2.1.2 k r z hk hz
    · rw [List.getElem?_append_right (by omega)] at hk
      rw [List.getElem?_append_right (by rw [h.2.2.1.1]; omega), h.2.2.1.1] at hz
      have b1 : (P.2.1 ++ q.2.1)[P.2.1.length + (k - S.2.1.length)]? = some r := by
        rw [List.getElem?_append_right (by omega)]
        simpa using hk
      have b2 : (as ++ u)[P.2.1.length + (k - S.2.1.length)]? = some z := by
        rw [← hPr.1, List.getElem?_append_right (by omega)]
        simpa using hz
      exact a3.2 _ r z b1 b2
  have hF : ∀ p ∈ kaddF (sg ++ ksyms S.1.length q.1) (sr ++ krefs S.2.1.length q.2.1) q.2.2.2.1 (S.2.2.2.2.1.filter (kkeepW S w)), kfok D cA tt Ty (env ++ e) (ren ++ u) H1 p := by
    refine kaddF_ok hTy hs' hr' a6 (fun p hp => ?_)
    obtain ⟨p1, p2⟩ := List.mem_filter.mp hp
    exact kfok_ext (kkeepW_ok (lo := lo) hTy h hk (h.2.2.2.2.2 p p1) p2)
  unfold kcase at hc
  cases h1 : q.2.2.1 with
  | none =>
    simp only [h1] at hc
    have hv : v = none := by
      have a4 : kLoc (zs ++ e) (as ++ u) (match q.2.2.1 with
        | some v => [(0, v)]
        | none => []) (kans v) := a4
      rw [h1] at a4
      cases v with
      | none => rfl
      | some x => exact a4.elim
    subst hv
    obtain ⟨S', g1, g2⟩ := kaddC_ok (D := D) (cA := cA) (tt := tt) (Ty := Ty) (ren := ren ++ u) (H := H1) (lv := lv) (st := st) hs' (S := (S.1 ++ q.1, S.2.1 ++ q.2.1, locs, rest, kaddF (sg ++ ksyms S.1.length q.1) (sr ++ krefs S.2.1.length q.2.1) q.2.2.2.1 (S.2.2.2.2.1.filter (kkeepW S w)), S.2.2.2.2.2)) ⟨hI, kC_ext h.2.1, hR, kLoc_ext hl, kStk_ext hst, hF⟩ a2
    rw [show kaddC (sg ++ ksyms S.1.length q.1) q.2.2.2.2.1 _ = some S' from g1] at hc
    obtain rfl := Option.some.inj hc
    exact ⟨S', List.mem_cons_self, g2⟩
  | some b =>
    simp only [h1] at hc
    have a4 : kLoc (zs ++ e) (as ++ u) (match q.2.2.1 with
      | some v => [(0, v)]
      | none => []) (kans v) := a4
    rw [h1] at a4
    cases v with
    | none => exact a4.elim
    | some x =>
      have hx : kvok (zs ++ e) (as ++ u) b x := a4.2.1
      cases h2 : ksubV (sg ++ ksyms S.1.length q.1) (sr ++ krefs S.2.1.length q.2.1) b with
      | none => simp [h2] at hc
      | some b' =>
        simp only [h2] at hc
        have hx' := (ksubV_ok hs' hr' h2).mp hx
        obtain ⟨S', g1, g2⟩ := kaddC_ok (D := D) (cA := cA) (tt := tt) (Ty := Ty) (ren := ren ++ u) (H := H1) (lv := lv) (st := x :: st) hs' (S := (S.1 ++ q.1, S.2.1 ++ q.2.1, locs, b' :: rest, kaddF (sg ++ ksyms S.1.length q.1) (sr ++ krefs S.2.1.length q.2.1) q.2.2.2.1 (S.2.2.2.2.1.filter (kkeepW S w)), S.2.2.2.2.2)) ⟨hI, kC_ext h.2.1, hR, kLoc_ext hl, ⟨hx', kStk_ext hst⟩, hF⟩ a2
        rw [show kaddC (sg ++ ksyms S.1.length q.1) q.2.2.2.2.1 _ = some S' from g1] at hc
        obtain rfl := Option.some.inj hc
        exact ⟨S', List.mem_cons_self, g2⟩
theorem kcases_mem {locs : List (Nat × kV)} {rest : List kV} {w : kW} {q : kCs} : ∀ {l : List kCs} {L : List kS}, kcases locs rest S sg sr w l = some L → q ∈ l → ∃ L', kcase locs rest S sg sr w q = some L' ∧ ∀ S' ∈ L', S' ∈ L
  | [], L, _, hq => by cases hq
  | p :: t, L, h, hq => by
    unfold kcases at h
    split at h
    · rename_i a b h1 h2
      obtain rfl := Option.some.inj h
      rcases List.mem_cons.mp hq with rfl | hq
      · exact ⟨a, h1, fun S' hS => List.mem_append_left _ hS⟩
      · obtain ⟨L', g1, g2⟩ := kcases_mem h2 hq
        exact ⟨L', g1, fun S' hS => List.mem_append_right _ (g2 S' hS)⟩
    · cases h
end KCALL
end
section
/-! ONE INSTRUCTION, without the heap: one state behind it -/
abbrev kOw : Type := List (Nat × Nat × Nat × Nat) × List (Nat × Int) × List (Nat × Int) × List (Nat × Nat) × List (Nat × Nat × Nat × Nat × Nat)
def kfnd {α : Type} (l : List (Nat × α)) (i : Nat) : Option α := match l with
  | [] => none
  | q :: t => match Nat.beq q.1 i with
    | true => some q.2
    | false => kfnd t i
theorem kfnd_mem {α : Type} : ∀ {l : List (Nat × α)} {i : Nat} {v : α}, kfnd l i = some v → (i, v) ∈ l
  | [], i, v, h => by cases h
  | q :: t, i, v, h => by
    unfold kfnd at h
    cases h1 : Nat.beq q.1 i with
    | false => rw [h1] at h; exact List.mem_cons_of_mem _ (kfnd_mem h)
    | true =>
      rw [h1] at h
      have e1 := Nat.beq_eq.mp h1
      have e3 : q.2 = v := Option.some.inj h
      subst e1; subst e3
      exact List.mem_cons_self
def kpsh (S : kS) (v : kV) (st : List kV) : kS := (S.1, S.2.1, S.2.2.1, v :: st, S.2.2.2.2)
/-- an answer of arithmetic onto the stack -/
def kpres (S : kS) (mk : kL → kV) (r : kRes) (st : List kV) : kS := match r with
  | .inl f => kpsh S (mk f) st
  | .inr q => match kz (q.2 - q.1) with
    | true => kpsh S (mk (kcst q.1)) st
    | false => kpsh (kpush S q) (mk (ksym S.1.length)) st
def klong (v : kV) : Bool := match v with
  | .inr (.inl _) => true
  | _ => false
def kput1 (l : List (Nat × kV)) (i : Nat) (v : kV) : List (Nat × kV) := (i, v) :: l.filter (fun q => !(q.1 == i) && !(q.1 + 1 == i && klong q.2))
def kput2 (l : List (Nat × kV)) (i : Nat) (v : kV) : List (Nat × kV) := (i, v) :: l.filter (fun q => !(q.1 == i) && (!(q.1 == i + 1) && !(q.1 + 1 == i && klong q.2)))
def ksloc (S : kS) (l : List (Nat × kV)) (st : List kV) : kS := (S.1, S.2.1, l, st, S.2.2.2.2)
def kin (n lo hi : Int) : Bool := match knn (n - lo) with
  | true => knn (hi - n)
  | false => false
def kload1 (S : kS) (i : Nat) (c : Nat) : Option kS := match klocv S.2.2.1 i with
  | some (.inl f) => match c with
    | 0 => some (kpsh S (.inl f) S.2.2.2.1)
    | _ => none
  | some (.inr (.inl f)) => match c with
    | 1 => some (kpsh S (.inr (.inl f)) S.2.2.2.1)
    | _ => none
  | some (.inr (.inr (.inl r))) => match c with
    | 2 => some (kpsh S (.inr (.inr (.inl r))) S.2.2.2.1)
    | _ => none
  | _ => none
def kstor1 (S : kS) (nL i : Nat) (c : Nat) : Option kS := match S.2.2.2.1 with
  | .inl f :: st => match c with
    | 0 => match Nat.blt i nL with
      | true => some (ksloc S (kput1 S.2.2.1 i (.inl f)) st)
      | false => none
    | _ => none
  | .inr (.inl f) :: st => match c with
    | 1 => match Nat.blt (i + 1) nL with
      | true => some (ksloc S (kput2 S.2.2.1 i (.inr (.inl f))) st)
      | false => none
    | _ => none
  | .inr (.inr (.inl r)) :: st => match c with
    | 2 => match Nat.blt i nL with
      | true => some (ksloc S (kput1 S.2.2.1 i (.inr (.inr (.inl r)))) st)
      | false => none
    | _ => none
  | _ => none
section KS1
variable {D : va_G} {cA : Nat → ClassId} {tt : List kT} {Ty : Nat → Nat → Prop} {env : List Int} {ren : List Nat} {S : kS} {H : Heap} {lv : List (Nat × Value)} {st : List Value}
theorem kpsh_ok {v : kV} {x : Value} {sa : List kV} {sc : List Value} (h : kst D cA tt Ty env ren S H lv st) (hv : kvok env ren v x) (hs : kStk env ren sa sc) : kst D cA tt Ty env ren (kpsh S v sa) H lv (x :: sc) := ⟨h.1, h.2.1, h.2.2.1, h.2.2.2.1, ⟨hv, hs⟩, h.2.2.2.2.2⟩
theorem kpres_i {r : kRes} {n : Int32} {sa : List kV} {sc : List Value} (h : kst D cA tt Ty env ren S H lv st) (hs : kStk env ren sa sc) (hr : kresok env r n.toInt) : ∃ x u, kst D cA tt Ty (env ++ x) (ren ++ u) (kpres S (fun f => .inl f) r sa) H lv (.int n :: sc) := by
  unfold kpres
  match r, hr with
  | .inl f, hr => exact ⟨[], [], by rw [List.append_nil, List.append_nil]; exact kpsh_ok h ⟨n, rfl, hr⟩ hs⟩
  | .inr q, hr =>
    dsimp only
    cases hz : kz (q.2 - q.1) with
    | true =>
      have e := kz_iff.mp hz
      have e2 : kev env (kcst q.1) = some n.toInt := by
        rw [kcst_ev]
        congr 1
        have := hr.1
        have := hr.2
        omega
      exact ⟨[], [], by rw [List.append_nil, List.append_nil]; exact kpsh_ok h ⟨n, rfl, e2⟩ hs⟩
    | false =>
      obtain ⟨g1, g2⟩ := kpush_ok (q := q) h hr.1 hr.2
      exact ⟨[n.toInt], [], kpsh_ok g1 ⟨n, rfl, g2⟩ (kStk_ext hs)⟩
theorem kpres_l {r : kRes} {n : Int64} {sa : List kV} {sc : List Value} (h : kst D cA tt Ty env ren S H lv st) (hs : kStk env ren sa sc) (hr : kresok env r n.toInt) : ∃ x u, kst D cA tt Ty (env ++ x) (ren ++ u) (kpres S (fun f => .inr (.inl f)) r sa) H lv (.long n :: sc) := by
  unfold kpres
  match r, hr with
  | .inl f, hr => exact ⟨[], [], by rw [List.append_nil, List.append_nil]; exact kpsh_ok h ⟨n, rfl, hr⟩ hs⟩
  | .inr q, hr =>
    dsimp only
    cases hz : kz (q.2 - q.1) with
    | true =>
      have e := kz_iff.mp hz
      have e2 : kev env (kcst q.1) = some n.toInt := by
        rw [kcst_ev]
        congr 1
        have := hr.1
        have := hr.2
        omega
      exact ⟨[], [], by rw [List.append_nil, List.append_nil]; exact kpsh_ok h ⟨n, rfl, e2⟩ hs⟩
    | false =>
      obtain ⟨g1, g2⟩ := kpush_ok (q := q) h hr.1 hr.2
      exact ⟨[n.toInt], [], kpsh_ok g1 ⟨n, rfl, g2⟩ (kStk_ext hs)⟩
theorem klong_ok {v : kV} {x : Value} (h : kvok env ren v x) : klong v = (x.category == 2) := by
  match v, h with
  | .inl f, ⟨n, e, _⟩ => subst e; rfl
  | .inr (.inl f), ⟨n, e, _⟩ => subst e; rfl
  | .inr (.inr (.inl f)), ⟨n, e, _⟩ => subst e; rfl
  | .inr (.inr (.inr f)), ⟨n, _, _, e, _⟩ => subst e; rfl
theorem kLoc_filter {pa : Nat × kV → Bool} {pb : Nat × Value → Bool} (hp : ∀ i v x, kvok env ren v x → pa (i, v) = pb (i, x)) : ∀ {l : List (Nat × kV)} {m : List (Nat × Value)}, kLoc env ren l m → kLoc env ren (l.filter pa) (m.filter pb)
  | [], [], _ => trivial
  | a :: l, [], h => h.elim
  | [], _ :: _, h => h.elim
  | a :: l, b :: m, h => by
    obtain ⟨a1, a2⟩ := a
    obtain ⟨b1, b2⟩ := b
    have e1 : a1 = b1 := h.1
    subst e1
    have e := hp a1 a2 b2 h.2.1
    have ih := kLoc_filter hp h.2.2
    cases hb : pb (a1, b2) with
    | true =>
      rw [List.filter_cons_of_pos (by rw [e]; exact hb), List.filter_cons_of_pos hb]
      exact ⟨rfl, h.2.1, ih⟩
    | false =>
      rw [List.filter_cons_of_neg (by rw [e, hb]; decide), List.filter_cons_of_neg (by rw [hb]; decide)]
      exact ih
theorem kput1_ok {l : List (Nat × kV)} {m : List (Nat × Value)} {i : Nat} {v : kV} {x : Value} (h : kLoc env ren l m) (hv : kvok env ren v x) : kLoc env ren (kput1 l i v) ((i, x) :: m.filter (fun q => !(q.1 == i) && !(q.1 + 1 == i && q.2.category == 2))) :=
  ⟨rfl, hv, kLoc_filter (fun j w y hw => by rw [klong_ok hw]) h⟩
theorem kput2_ok {l : List (Nat × kV)} {m : List (Nat × Value)} {i : Nat} {v : kV} {x : Value} (h : kLoc env ren l m) (hv : kvok env ren v x) : kLoc env ren (kput2 l i v) ((i, x) :: m.filter (fun q => !(q.1 == i) && (!(q.1 == i + 1) && !(q.1 + 1 == i && q.2.category == 2)))) :=
  ⟨rfl, hv, kLoc_filter (fun j w y hw => by rw [klong_ok hw]) h⟩
end KS1
/-- one instruction, one state behind it, how long it is -/
def kstep1 (ow : kOw) (nL : Nat) (ins : Instr) (S : kS) : Option kS := match ins with
  | .iconst n => match kin n (-2147483648) 2147483647 with
    | true => some (kpsh S (.inl (kcst n)) S.2.2.2.1)
    | false => none
  | .bipush n => match kin n (-128) 127 with
    | true => some (kpsh S (.inl (kcst n)) S.2.2.2.1)
    | false => none
  | .sipush n => match kin n (-32768) 32767 with
    | true => some (kpsh S (.inl (kcst n)) S.2.2.2.1)
    | false => none
  | .lconst n => some (kpsh S (.inr (.inl (kcst (Int.ofNat n.val)))) S.2.2.2.1)
  | .ldc i => match kfnd ow.2.1 i with
    | some n => some (kpsh S (.inl (kcst n)) S.2.2.2.1)
    | none => match kfnd ow.2.2.2.1 i with
      | some t => some (kpsh (kpushR S t) (.inr (.inr (.inl S.2.1.length))) S.2.2.2.1)
      | none => none
  | .ldc_w i => match kfnd ow.2.1 i with
    | some n => some (kpsh S (.inl (kcst n)) S.2.2.2.1)
    | none => none
  | .ldc2_w i => match kfnd ow.2.2.1 i with
    | some n => some (kpsh S (.inr (.inl (kcst n))) S.2.2.2.1)
    | none => none
  | .iload_n k => kload1 S k.val 0
  | .iload i => kload1 S i 0
  | .lload_n k => kload1 S k.val 1
  | .lload i => kload1 S i 1
  | .aload_n k => kload1 S k.val 2
  | .aload i => kload1 S i 2
  | .istore_n k => kstor1 S nL k.val 0
  | .istore i => kstor1 S nL i 0
  | .lstore_n k => kstor1 S nL k.val 1
  | .lstore i => kstor1 S nL i 1
  | .astore_n k => kstor1 S nL k.val 2
  | .astore i => kstor1 S nL i 2
  | .iinc i n => match klocv S.2.2.1 i with
    | some (.inl f) => match Nat.blt i nL with
      | true => match kin n (-2147483648) 2147483647 with
        | true => match kri S (kofs f n) k32 with
          | .inl g => some (ksloc S (kput1 S.2.2.1 i (.inl g)) S.2.2.2.1)
          | .inr q => some (ksloc (kpush S q) (kput1 S.2.2.1 i (.inl (ksym S.1.length))) S.2.2.2.1)
        | false => none
      | false => none
    | _ => none
  | .dup => match S.2.2.2.1 with
    | v :: st => match klong v with
      | false => some (kpsh S v (v :: st))
      | true => none
    | _ => none
  | .dup2 => match S.2.2.2.1 with
    | v :: w :: st => match klong v with
      | true => some (kpsh S v (v :: w :: st))
      | false => match klong w with
        | false => some (ksloc S S.2.2.1 (v :: w :: v :: w :: st))
        | true => none
    | [v] => match klong v with
      | true => some (kpsh S v [v])
      | false => none
    | _ => none
  | .pop => match S.2.2.2.1 with
    | v :: st => match klong v with
      | false => some (ksloc S S.2.2.1 st)
      | true => none
    | _ => none
  | .pop2 => match S.2.2.2.1 with
    | v :: st => match klong v with
      | true => some (ksloc S S.2.2.1 st)
      | false => none
    | _ => none
  | .ineg => match S.2.2.2.1 with
    | .inl f :: st => some (kpres S (fun g => .inl g) (kri S (kneg f) k32) st)
    | _ => none
  | .i2l => match S.2.2.2.1 with
    | .inl f :: st => some (kpsh S (.inr (.inl f)) st)
    | _ => none
  | .l2i => match S.2.2.2.1 with
    | .inr (.inl f) :: st => some (kpres S (fun g => .inl g) (kri S f k32) st)
    | _ => none
  | .i2b => match S.2.2.2.1 with
    | .inl f :: st => some (kpres S (fun g => .inl g) (kri S f (-128, 127)) st)
    | _ => none
  | .i2s => match S.2.2.2.1 with
    | .inl f :: st => some (kpres S (fun g => .inl g) (kri S f (-32768, 32767)) st)
    | _ => none
  | .lcmp => match S.2.2.2.1 with
    | .inr (.inl g) :: .inr (.inl f) :: st => some (kpsh S (.inr (.inr (.inr (f, g)))) st)
    | _ => none
  | .lshl => match S.2.2.2.1 with
    | .inl _ :: .inr (.inl _) :: st => some (kpres S (fun g => .inr (.inl g)) (.inr k64) st)
    | _ => none
  | .lshr => match S.2.2.2.1 with
    | .inl _ :: .inr (.inl _) :: st => some (kpres S (fun g => .inr (.inl g)) (.inr k64) st)
    | _ => none
  | _ => match S.2.2.2.1 with
    | .inl g :: .inl f :: st => match kib S f g ins with
      | some r => some (kpres S (fun g => .inl g) r st)
      | none => none
    | .inr (.inl g) :: .inr (.inl f) :: st => match klo S f g ins with
      | some r => some (kpres S (fun g => .inr (.inl g)) r st)
      | none => none
    | _ => none
def kln (ins : Instr) : Nat := match ins with
  | .bipush _ => 2
  | .sipush _ => 3
  | .ldc _ => 2
  | .ldc_w _ => 3
  | .ldc2_w _ => 3
  | .iload _ => 2
  | .lload _ => 2
  | .aload _ => 2
  | .istore _ => 2
  | .lstore _ => 2
  | .astore _ => 2
  | .iinc _ _ => 3
  | .ifCond _ _ => 3
  | .if_icmp _ _ => 3
  | .goto _ => 3
  | .getfield _ => 3
  | .putfield _ => 3
  | .invokevirtual _ => 3
  | .invokestatic _ => 3
  | .invokespecial _ => 3
  | _ => 1
end
section
/-- the type of a String constant by its place: those of the first 17 are alike -/
def ksn (j : Nat) : Nat := match Nat.blt j 17 with
  | true => 1000
  | false => 1000 + j
/-- what the pool of a type's file says -/
def kOwC (own : String) (ow : kOw) (lw : List Cond) (sk : kSk) : Prop :=
  (∀ q ∈ ow.2.1, ∃ v : Int32, v.toInt = q.2 ∧ Cond.constant own q.1 v ∈ lw) ∧ (∀ q ∈ ow.2.2.1, ∃ v : Int64, v.toInt = q.2 ∧ Cond.constantLong own q.1 v ∈ lw) ∧ ∀ q ∈ ow.2.2.2.1, ∃ (j : Nat) (tx : String), sk[j]? = some (own, q.1, tx) ∧ q.2 = ksn j
section KS1OK
variable {p : Program} {l : Launch} {e : Env} {R : Room} {s : State} {m : MethodId} {args : Array Value} {below : List Frame} {meth : Method} {c : Code} {H : Heap} {locs : List Loc} {cells slots : Nat} {Q : State → Prop}
variable {cc : ByteArray} {pc : Nat} {ls : Array Slot} {rest : List Value} {cl : List vw_C} {aty : List FieldType} {nw lw : List Cond} {sk : kSk} {cA aS : Nat → Nat}
variable {D : va_G} {tt : List kT} {Ty : Nat → Nat → Prop} {env : List Int} {ren : List Nat} {S : kS} {lv : List (Nat × Value)} {st : List Value}
theorem r_ib (hexec : p.tables.exec = Jvm.exec) (hb : c.code = cc) {ins : Instr} {f g : kL} {r : kRes} {x y : Int32} (hk : kib S f g ins = some r) (hne : (ins = .idiv ∨ ins = .irem) → ¬ y = 0) (hdg : decode cc pc = .ok (ins, kln ins))
    (kk : W p l e R s m args below meth c H locs cells slots Q (F0 m (pc + kln ins) ls (.int (cib x y ins) :: rest))) : W p l e R s m args below meth c H locs cells slots Q (F0 m pc ls (.int y :: .int x :: rest)) := by
  unfold kib at hk
  split at hk
  · exact lv_iadd hexec hb hdg kk
  · exact lv_isub hexec hb hdg kk
  · exact lv_imul hexec hb hdg kk
  · exact lv_idiv hexec hb hdg (hne (Or.inl rfl)) kk
  · exact lv_irem hexec hb hdg (hne (Or.inr rfl)) kk
  · exact lv_iand hexec hb hdg kk
  · exact lv_ior hexec hb hdg kk
  · exact lv_ixor hexec hb hdg kk
  · exact lv_ishl hexec hb hdg kk
  · exact lv_ishr hexec hb hdg kk
  · exact lv_iushr hexec hb hdg rfl kk
  · cases hk
theorem r_lo (hexec : p.tables.exec = Jvm.exec) (hb : c.code = cc) {ins : Instr} {f g : kL} {r : kRes} {x y : Int64} (hk : klo S f g ins = some r) (hne : (ins = .ldiv ∨ ins = .lrem) → ¬ y = 0) (hdg : decode cc pc = .ok (ins, kln ins))
    (kk : W p l e R s m args below meth c H locs cells slots Q (F0 m (pc + kln ins) ls (.long (clo x y ins) :: rest))) : W p l e R s m args below meth c H locs cells slots Q (F0 m pc ls (.long y :: .long x :: rest)) := by
  unfold klo at hk
  split at hk
  · exact lv_ladd hexec hb hdg kk
  · exact lv_lsub hexec hb hdg kk
  · exact lv_lmul hexec hb hdg kk
  · exact lv_ldiv hexec hb hdg (hne (Or.inl rfl)) kk
  · exact lv_lrem hexec hb hdg (hne (Or.inr rfl)) kk
  · exact lv_land hexec hb hdg kk
  · exact lv_lor hexec hb hdg kk
  · cases hk
theorem kload1_ok {S' : kS} {i k : Nat} (h : kst D cA tt Ty env ren S H lv st) {nL : Nat} (hlv : lv_has ls nL lv) (hs : kload1 S i k = some S') : ∃ x, ls[i]? = some (.val x) ∧ kst D cA tt Ty env ren S' H lv (x :: st) ∧ (k = 0 → ∃ n, x = .int n) ∧ (k = 1 → ∃ n, x = .long n) ∧ (k = 2 → ∃ n, x = .ref n) := by
  unfold kload1 at hs
  split at hs
  · rename_i f h1
    obtain ⟨x, g1, g2⟩ := kLoc_mem h.2.2.2.1 (klocv_mem h1)
    split at hs
    · obtain rfl := Option.some.inj hs
      obtain ⟨n, e1, -⟩ := id g2
      exact ⟨x, hlv.2.2 _ g1, kpsh_ok h g2 h.2.2.2.2.1, fun _ => ⟨n, e1⟩, fun e => by omega, fun e => by omega⟩
    · cases hs
  · rename_i f h1
    obtain ⟨x, g1, g2⟩ := kLoc_mem h.2.2.2.1 (klocv_mem h1)
    split at hs
    · obtain rfl := Option.some.inj hs
      obtain ⟨n, e1, -⟩ := id g2
      exact ⟨x, hlv.2.2 _ g1, kpsh_ok h g2 h.2.2.2.2.1, fun e => by omega, fun _ => ⟨n, e1⟩, fun e => by omega⟩
    · cases hs
  · rename_i f h1
    obtain ⟨x, g1, g2⟩ := kLoc_mem h.2.2.2.1 (klocv_mem h1)
    split at hs
    · obtain rfl := Option.some.inj hs
      obtain ⟨n, e1, -⟩ := id g2
      exact ⟨x, hlv.2.2 _ g1, kpsh_ok h g2 h.2.2.2.2.1, fun e => by omega, fun e => by omega, fun _ => ⟨n, e1⟩⟩
    · cases hs
  · cases hs
theorem kstor1_i {S' : kS} {i nL : Nat} (h : kst D cA tt Ty env ren S H lv st) (hs : kstor1 S nL i 0 = some S') : ∃ n st', st = .int n :: st' ∧ i < nL ∧ kst D cA tt Ty env ren S' H ((i, .int n) :: lv.filter (fun q => !(q.1 == i) && !(q.1 + 1 == i && q.2.category == 2))) st' := by
  unfold kstor1 at hs
  have hk := h.2.2.2.2.1
  split at hs
  · rename_i f sa h1
    rw [h1] at hk
    cases st with
    | nil => exact hk.elim
    | cons x st' =>
      cases h2 : Nat.blt i nL with
      | false => simp [h2] at hs
      | true =>
        simp only [h2] at hs
        obtain rfl := Option.some.inj hs
        obtain ⟨n, e1, e2⟩ := hk.1
        subst e1
        exact ⟨n, st', rfl, Nat.blt_eq.mp h2, h.1, h.2.1, h.2.2.1, kput1_ok h.2.2.2.1 ⟨n, rfl, e2⟩, hk.2, h.2.2.2.2.2⟩
  · simp at hs
  · simp at hs
  · cases hs
theorem kstor1_l {S' : kS} {i nL : Nat} (h : kst D cA tt Ty env ren S H lv st) (hs : kstor1 S nL i 1 = some S') : ∃ n st', st = .long n :: st' ∧ i + 1 < nL ∧ kst D cA tt Ty env ren S' H ((i, .long n) :: lv.filter (fun q => !(q.1 == i) && (!(q.1 == i + 1) && !(q.1 + 1 == i && q.2.category == 2)))) st' := by
  unfold kstor1 at hs
  have hk := h.2.2.2.2.1
  split at hs
  · simp at hs
  · rename_i f sa h1
    rw [h1] at hk
    cases st with
    | nil => exact hk.elim
    | cons x st' =>
      cases h2 : Nat.blt (i + 1) nL with
      | false => simp [h2] at hs
      | true =>
        simp only [h2] at hs
        obtain rfl := Option.some.inj hs
        obtain ⟨n, e1, e2⟩ := hk.1
        subst e1
        exact ⟨n, st', rfl, Nat.blt_eq.mp h2, h.1, h.2.1, h.2.2.1, kput2_ok h.2.2.2.1 ⟨n, rfl, e2⟩, hk.2, h.2.2.2.2.2⟩
  · simp at hs
  · cases hs
theorem kstor1_r {S' : kS} {i nL : Nat} (h : kst D cA tt Ty env ren S H lv st) (hs : kstor1 S nL i 2 = some S') : ∃ n st', st = .ref n :: st' ∧ i < nL ∧ kst D cA tt Ty env ren S' H ((i, .ref n) :: lv.filter (fun q => !(q.1 == i) && !(q.1 + 1 == i && q.2.category == 2))) st' := by
  unfold kstor1 at hs
  have hk := h.2.2.2.2.1
  split at hs
  · simp at hs
  · simp at hs
  · rename_i f sa h1
    rw [h1] at hk
    cases st with
    | nil => exact hk.elim
    | cons x st' =>
      cases h2 : Nat.blt i nL with
      | false => simp [h2] at hs
      | true =>
        simp only [h2] at hs
        obtain rfl := Option.some.inj hs
        obtain ⟨n, e1, e2⟩ := hk.1
        subst e1
        exact ⟨n, st', rfl, Nat.blt_eq.mp h2, h.1, h.2.1, h.2.2.1, kput1_ok h.2.2.2.1 ⟨n, rfl, e2⟩, hk.2, h.2.2.2.2.2⟩
  · cases hs
theorem kin_ok {n lo hi : Int} (h : kin n lo hi = true) : lo ≤ n ∧ n ≤ hi := by
  unfold kin at h
  cases h1 : knn (n - lo) with
  | false => rw [h1] at h; cases h
  | true =>
    rw [h1] at h
    have := knn_iff.mp h1
    have := knn_iff.mp h
    omega
theorem k_cat {v : kV} {x : Value} (h : kvok env ren v x) {b : Bool} (hb : klong v = b) : x.category = (if b then 2 else 1) := by
  match v, h with
  | .inl f, ⟨n, e, _⟩ => subst e; subst hb; rfl
  | .inr (.inl f), ⟨n, e, _⟩ => subst e; subst hb; rfl
  | .inr (.inr (.inl f)), ⟨n, e, _⟩ => subst e; subst hb; rfl
  | .inr (.inr (.inr f)), ⟨n, _, _, e, _⟩ => subst e; subst hb; rfl
theorem k_ofInt {n : Int} (h1 : (-2147483648 : Int) ≤ n) (h2 : n ≤ 2147483647) : (Int32.ofInt n).toInt = n := by
  rw [Int32.toInt_ofInt]
  exact k32_bm h1 h2
end KS1OK
end
section
theorem k_lcmp (x y : Int64) : (lg_cmp x y).toInt = kcmp x.toInt y.toInt := by
  unfold kcmp lg_cmp
  by_cases h1 : y < x
  · have g1 := Int64.lt_iff_toInt_lt.mp h1
    have g2 : ¬ x.toInt < y.toInt := by omega
    have g3 : ¬ x.toInt = y.toInt := by omega
    simp [h1, g2, g3]
  · have g1 : ¬ y.toInt < x.toInt := fun g => h1 (Int64.lt_iff_toInt_lt.mpr g)
    by_cases h2 : x < y
    · have g2 := Int64.lt_iff_toInt_lt.mp h2
      have g4 : ¬ x = y := fun e => by rw [e] at g2; omega
      simp [h1, g2, g4]
    · have g2 : ¬ x.toInt < y.toInt := fun g => h2 (Int64.lt_iff_toInt_lt.mpr g)
      have g3 : x.toInt = y.toInt := by omega
      have e : x = y := Int64.toInt_inj.mp g3
      simp [g2, g3, h1, h2, e]
section KS1F
variable {p : Program} {l : Launch} {e : Env} {R : Room} {s : State} {m : MethodId} {args : Array Value} {below : List Frame} {meth : Method} {c : Code} {H : Heap} {locs : List Loc} {cells slots : Nat} {Q : State → Prop}
variable {cc : ByteArray} {pc : Nat} {ls : Array Slot} {cl : List vw_C} {aty : List FieldType} {nw lw : List Cond} {sk : kSk} {cA aS : Nat → Nat}
variable {D : va_G} {tt : List kT} {Ty : Nat → Nat → Prop} {env : List Int} {ren : List Nat} {S : kS} {lv : List (Nat × Value)} {st : List Value}
set_option maxHeartbeats 4000000 in
theorem kstep1_ok (hexec : p.tables.exec = Jvm.exec) (hb : c.code = cc) {own : String} {ow : kOw} {nL : Nat} {ins : Instr} {S' : kS} (hown : s.vm.findClass own = some m.cls) (hts : ∀ w ∈ lw, w.before args s = true) (how : kOwC own ow lw sk) (hK : kK cl aty nw sk D cA aS s) (hTyS : ∀ (j : Nat) (q : String × Nat × String), sk[j]? = some q → Ty (aS j) (ksn j))
    (h : kst D cA tt Ty env ren S H lv st) (hlv : lv_has ls nL lv) (hd : decode cc pc = .ok (ins, kln ins)) (hs : kstep1 ow nL ins S = some S')
    (kk : ∀ x u lv' st' ls', kst D cA tt Ty (env ++ x) (ren ++ u) S' H lv' st' → lv_has ls' nL lv' → W p l e R s m args below meth c H locs cells slots Q (F0 m (pc + kln ins) ls' st')) : W p l e R s m args below meth c H locs cells slots Q (F0 m pc ls st) := by
  have k0 : ∀ {lv' : List (Nat × Value)} {st' : List Value} {ls' : Array Slot}, kst D cA tt Ty env ren S' H lv' st' → lv_has ls' nL lv' → W p l e R s m args below meth c H locs cells slots Q (F0 m (pc + kln ins) ls' st') := fun g1 g2 => kk [] [] _ _ _ (by rw [List.append_nil, List.append_nil]; exact g1) g2
  have hk := h.2.2.2.2.1
  unfold kstep1 at hs
  split at hs
  -- iconst
  · rename_i n
    split at hs
    · rename_i hi
      obtain rfl := Option.some.inj hs
      obtain ⟨i1, i2⟩ := kin_ok hi
      exact lv_iconst hexec hb hd rfl (k0 (kpsh_ok h ⟨_, rfl, by rw [k_ofInt i1 i2]; exact kcst_ev⟩ hk) hlv)
    · cases hs
  -- bipush
  · rename_i n
    split at hs
    · rename_i hi
      obtain rfl := Option.some.inj hs
      obtain ⟨i1, i2⟩ := kin_ok hi
      exact lv_bipush hexec hb hd rfl (k0 (kpsh_ok h ⟨_, rfl, by
        rw [Int8.toInt_toInt32, Int8.toInt_ofInt, show Int8.size = 256 from rfl, Int.bmod_eq_of_le (by omega) (by omega)]
        exact kcst_ev⟩ hk) hlv)
    · cases hs
  -- sipush
  · rename_i n
    split at hs
    · rename_i hi
      obtain rfl := Option.some.inj hs
      obtain ⟨i1, i2⟩ := kin_ok hi
      exact lv_sipush hexec hb hd rfl (k0 (kpsh_ok h ⟨_, rfl, by
        rw [Int16.toInt_toInt32, Int16.toInt_ofInt, show Int16.size = 65536 from rfl, Int.bmod_eq_of_le (by omega) (by omega)]
        exact kcst_ev⟩ hk) hlv)
    · cases hs
  -- lconst
  · rename_i n
    obtain rfl := Option.some.inj hs
    exact lv_lconst hexec hb hd rfl (k0 (kpsh_ok h ⟨_, rfl, by
      have e2 : (Int64.ofNat (n : Nat)).toInt = Int.ofNat n.val := by
        match n with
        | ⟨0, _⟩ => rfl
        | ⟨1, _⟩ => rfl
      rw [e2]
      exact kcst_ev⟩ hk) hlv)
  -- ldc
  · rename_i i
    split at hs
    · rename_i n h1
      obtain rfl := Option.some.inj hs
      obtain ⟨v, e1, e2⟩ := how.1 _ (kfnd_mem h1)
      exact lv_ldc hexec hb hown (hts _ e2) hd (k0 (kpsh_ok h ⟨v, rfl, by rw [e1]; exact kcst_ev⟩ hk) hlv)
    · split at hs
      · rename_i t h1
        obtain rfl := Option.some.inj hs
        obtain ⟨j, tx, e1, e2⟩ := how.2.2 _ (kfnd_mem h1)
        have e2 : t = ksn j := e2
        subst e2
        obtain ⟨g1, g2⟩ := kpushR_ok h (hTyS j _ e1)
        exact va_ldcS hexec hb hown (hK.2.2.2 j _ e1) hd (kk [] [aS j] _ _ _ (kpsh_ok g1 ⟨aS j, rfl, g2⟩ (kStk_ext hk)) hlv)
      · cases hs
  -- ldc_w
  · rename_i i
    split at hs
    · rename_i n h1
      obtain rfl := Option.some.inj hs
      obtain ⟨v, e1, e2⟩ := how.1 _ (kfnd_mem h1)
      exact lv_ldcw hexec hb hown (hts _ e2) hd (k0 (kpsh_ok h ⟨v, rfl, by rw [e1]; exact kcst_ev⟩ hk) hlv)
    · cases hs
  -- ldc2_w
  · rename_i i
    split at hs
    · rename_i n h1
      obtain rfl := Option.some.inj hs
      obtain ⟨v, e1, e2⟩ := how.2.1 _ (kfnd_mem h1)
      exact lv_ldc2 hexec hb hown (hts _ e2) hd (k0 (kpsh_ok h ⟨v, rfl, by rw [e1]; exact kcst_ev⟩ hk) hlv)
    · cases hs
  -- loads
  · obtain ⟨x, g1, g2, g3, -, -⟩ := kload1_ok h hlv hs
    obtain ⟨n, rfl⟩ := g3 rfl
    exact lv_iload_n hexec hb hd rfl g1 (k0 g2 hlv)
  · obtain ⟨x, g1, g2, g3, -, -⟩ := kload1_ok h hlv hs
    obtain ⟨n, rfl⟩ := g3 rfl
    exact lv_iload hexec hb hd g1 (k0 g2 hlv)
  · obtain ⟨x, g1, g2, -, g3, -⟩ := kload1_ok h hlv hs
    obtain ⟨n, rfl⟩ := g3 rfl
    exact lv_lload_n hexec hb hd rfl g1 (k0 g2 hlv)
  · obtain ⟨x, g1, g2, -, g3, -⟩ := kload1_ok h hlv hs
    obtain ⟨n, rfl⟩ := g3 rfl
    exact lv_lload hexec hb hd g1 (k0 g2 hlv)
  · obtain ⟨x, g1, g2, -, -, g3⟩ := kload1_ok h hlv hs
    obtain ⟨n, rfl⟩ := g3 rfl
    exact lv_aload_n hexec hb hd rfl g1 (k0 g2 hlv)
  · obtain ⟨x, g1, g2, -, -, g3⟩ := kload1_ok h hlv hs
    obtain ⟨n, rfl⟩ := g3 rfl
    exact lv_aload hexec hb hd g1 (k0 g2 hlv)
  -- stores
  · obtain ⟨n, st', rfl, g1, g2⟩ := kstor1_i h hs
    exact lv_istore_n hexec hb hd rfl hlv g1 rfl (fun ls' hl' => k0 g2 hl')
  · obtain ⟨n, st', rfl, g1, g2⟩ := kstor1_i h hs
    exact lv_istore hexec hb hd hlv g1 rfl (fun ls' hl' => k0 g2 hl')
  · obtain ⟨n, st', rfl, g1, g2⟩ := kstor1_l h hs
    exact lv_lstore_n hexec hb hd rfl hlv g1 rfl (fun ls' hl' => k0 g2 hl')
  · obtain ⟨n, st', rfl, g1, g2⟩ := kstor1_l h hs
    exact lv_lstore hexec hb hd hlv g1 rfl (fun ls' hl' => k0 g2 hl')
  · obtain ⟨n, st', rfl, g1, g2⟩ := kstor1_r h hs
    exact lv_astore_n hexec hb hd rfl hlv g1 rfl (fun ls' hl' => k0 g2 hl')
  · obtain ⟨n, st', rfl, g1, g2⟩ := kstor1_r h hs
    exact lv_astore hexec hb hd hlv g1 rfl (fun ls' hl' => k0 g2 hl')
  -- iinc
  · rename_i i n
    split at hs
    · rename_i f h1
      split at hs
      · rename_i h2
        split at hs
        · rename_i h3
          obtain ⟨i1, i2⟩ := kin_ok h3
          obtain ⟨x, g1, g2⟩ := kLoc_mem h.2.2.2.1 (klocv_mem h1)
          obtain ⟨a, rfl, g3⟩ := g2
          obtain ⟨k, hk2⟩ := List.getElem?_of_mem g1
          have hr : kresok env (kri S (kofs f n) k32) (a + Int32.ofInt n).toInt := kri_ok h.1 (kofs_ev g3) (fun q1 q2 => by rw [Int32.toInt_add, k_ofInt i1 i2, k32_bm q1 q2]) (k32_in _)
          split at hs
          · rename_i g hg
            obtain rfl := Option.some.inj hs
            rw [hg] at hr
            exact lv_iinc hexec hb hd hlv hk2 rfl (Nat.blt_eq.mp h2) rfl (fun ls' hl' => k0 ⟨h.1, h.2.1, h.2.2.1, kput1_ok h.2.2.2.1 ⟨_, rfl, hr⟩, hk, h.2.2.2.2.2⟩ hl')
          · rename_i q hq
            obtain rfl := Option.some.inj hs
            rw [hq] at hr
            obtain ⟨w1, w2⟩ := kpush_ok (q := q) h hr.1 hr.2
            exact lv_iinc hexec hb hd hlv hk2 rfl (Nat.blt_eq.mp h2) rfl (fun ls' hl' => kk [(a + Int32.ofInt n).toInt] [] _ _ _ ⟨w1.1, w1.2.1, w1.2.2.1, kput1_ok w1.2.2.2.1 ⟨_, rfl, w2⟩, w1.2.2.2.2.1, w1.2.2.2.2.2⟩ hl')
        · cases hs
      · cases hs
    · cases hs
  -- dup
  · split at hs
    · rename_i v sa h1
      rw [h1] at hk
      cases st with
      | nil => exact hk.elim
      | cons x sc =>
        split at hs
        · rename_i h2
          obtain rfl := Option.some.inj hs
          exact lv_dup hexec hb hd (k_cat hk.1 h2) (k0 (kpsh_ok h hk.1 hk) hlv)
        · cases hs
    · cases hs
  -- dup2
  · split at hs
    · rename_i v w sa h1
      rw [h1] at hk
      cases st with
      | nil => exact hk.elim
      | cons x sc =>
        cases sc with
        | nil => exact hk.2.elim
        | cons y sd =>
          split at hs
          · rename_i h2
            obtain rfl := Option.some.inj hs
            exact lv_dup2_2 hexec hb hd (k_cat hk.1 h2) (k0 (kpsh_ok h hk.1 hk) hlv)
          · rename_i h2
            split at hs
            · rename_i h3
              obtain rfl := Option.some.inj hs
              exact lv_dup2_11 hexec hb hd (k_cat hk.1 h2) (k_cat hk.2.1 h3) (k0 ⟨h.1, h.2.1, h.2.2.1, h.2.2.2.1, ⟨hk.1, hk.2.1, hk⟩, h.2.2.2.2.2⟩ hlv)
            · cases hs
    · rename_i v h1
      rw [h1] at hk
      cases st with
      | nil => exact hk.elim
      | cons x sc =>
        split at hs
        · rename_i h2
          obtain rfl := Option.some.inj hs
          exact lv_dup2_2 hexec hb hd (k_cat hk.1 h2) (k0 (kpsh_ok h hk.1 hk) hlv)
        · cases hs
    · cases hs
  -- pop
  · split at hs
    · rename_i v sa h1
      rw [h1] at hk
      cases st with
      | nil => exact hk.elim
      | cons x sc =>
        split at hs
        · rename_i h2
          obtain rfl := Option.some.inj hs
          exact lv_pop hexec hb hd (k_cat hk.1 h2) (k0 ⟨h.1, h.2.1, h.2.2.1, h.2.2.2.1, hk.2, h.2.2.2.2.2⟩ hlv)
        · cases hs
    · cases hs
  -- pop2
  · split at hs
    · rename_i v sa h1
      rw [h1] at hk
      cases st with
      | nil => exact hk.elim
      | cons x sc =>
        split at hs
        · rename_i h2
          obtain rfl := Option.some.inj hs
          exact lv_pop2_2 hexec hb hd (k_cat hk.1 h2) (k0 ⟨h.1, h.2.1, h.2.2.1, h.2.2.2.1, hk.2, h.2.2.2.2.2⟩ hlv)
        · cases hs
    · cases hs
  -- ineg
  · split at hs
    · rename_i f sa h1
      rw [h1] at hk
      cases st with
      | nil => exact hk.elim
      | cons x sc =>
        obtain rfl := Option.some.inj hs
        obtain ⟨⟨n, rfl, e2⟩, hk2⟩ := hk
        obtain ⟨x, u, g⟩ := kpres_i (n := -n) h hk2 (kri_ok h.1 (kneg_ev e2) (fun q1 q2 => by rw [Int32.toInt_neg, k32_bm q1 q2]) (k32_in _))
        exact lv_ineg hexec hb hd (kk x u _ _ _ g hlv)
    · cases hs
  -- i2l
  · split at hs
    · rename_i f sa h1
      rw [h1] at hk
      cases st with
      | nil => exact hk.elim
      | cons x sc =>
        obtain rfl := Option.some.inj hs
        obtain ⟨⟨n, rfl, e2⟩, hk2⟩ := hk
        exact lv_i2l hexec hb hd rfl (k0 (kpsh_ok h ⟨_, rfl, by rw [k_i2l]; exact e2⟩ hk2) hlv)
    · cases hs
  -- l2i
  · split at hs
    · rename_i f sa h1
      rw [h1] at hk
      cases st with
      | nil => exact hk.elim
      | cons x sc =>
        obtain rfl := Option.some.inj hs
        obtain ⟨⟨n, rfl, e2⟩, hk2⟩ := hk
        obtain ⟨x, u, g⟩ := kpres_i (n := n.toInt32) h hk2 (kri_ok h.1 e2 (fun q1 q2 => k_l2i q1 q2) (k32_in _))
        exact lv_l2i hexec hb hd rfl (kk x u _ _ _ g hlv)
    · cases hs
  -- i2b
  · split at hs
    · rename_i f sa h1
      rw [h1] at hk
      cases st with
      | nil => exact hk.elim
      | cons x sc =>
        obtain rfl := Option.some.inj hs
        obtain ⟨⟨n, rfl, e2⟩, hk2⟩ := hk
        obtain ⟨x, u, g⟩ := kpres_i (n := n.toInt8.toInt32) h hk2 (kri_ok (q := (-128, 127)) h.1 e2 (fun q1 q2 => k_i2b q1 q2) (k_i2b_in n))
        exact lv_i2b hexec hb hd rfl (kk x u _ _ _ g hlv)
    · cases hs
  -- i2s
  · split at hs
    · rename_i f sa h1
      rw [h1] at hk
      cases st with
      | nil => exact hk.elim
      | cons x sc =>
        obtain rfl := Option.some.inj hs
        obtain ⟨⟨n, rfl, e2⟩, hk2⟩ := hk
        obtain ⟨x, u, g⟩ := kpres_i (n := n.toInt16.toInt32) h hk2 (kri_ok (q := (-32768, 32767)) h.1 e2 (fun q1 q2 => k_i2s q1 q2) (k_i2s_in n))
        exact lv_i2s hexec hb hd rfl (kk x u _ _ _ g hlv)
    · cases hs
  -- lcmp
  · split at hs
    · rename_i g f sa h1
      rw [h1] at hk
      cases st with
      | nil => exact hk.elim
      | cons x sc =>
        cases sc with
        | nil => exact hk.2.elim
        | cons y sd =>
          obtain rfl := Option.some.inj hs
          obtain ⟨⟨n, rfl, e2⟩, ⟨n', rfl, e3⟩, hk2⟩ := hk
          exact W.lcmp hexec hb hd (k0 (kpsh_ok h ⟨_, _, _, rfl, e3, e2, k_lcmp n' n⟩ hk2) hlv)
    · cases hs
  -- lshl
  · split at hs
    · rename_i g f sa h1
      rw [h1] at hk
      cases st with
      | nil => exact hk.elim
      | cons x sc =>
        cases sc with
        | nil => exact hk.2.elim
        | cons y sd =>
          obtain rfl := Option.some.inj hs
          obtain ⟨⟨n, rfl, e2⟩, ⟨n', rfl, e3⟩, hk2⟩ := hk
          obtain ⟨x, u, g⟩ := kpres_l (n := n' <<< (n.toInt64 &&& 63)) h hk2 (r := .inr k64) (k64_in _)
          exact lv_lshl hexec hb hd rfl (kk x u _ _ _ g hlv)
    · cases hs
  -- lshr
  · split at hs
    · rename_i g f sa h1
      rw [h1] at hk
      cases st with
      | nil => exact hk.elim
      | cons x sc =>
        cases sc with
        | nil => exact hk.2.elim
        | cons y sd =>
          obtain rfl := Option.some.inj hs
          obtain ⟨⟨n, rfl, e2⟩, ⟨n', rfl, e3⟩, hk2⟩ := hk
          obtain ⟨x, u, g⟩ := kpres_l (n := n' >>> (n.toInt64 &&& 63)) h hk2 (r := .inr k64) (k64_in _)
          exact lv_lshr hexec hb hd rfl (kk x u _ _ _ g hlv)
    · cases hs
  -- arithmetic
  · split at hs
    · rename_i g f sa h1
      rw [h1] at hk
      cases st with
      | nil => exact hk.elim
      | cons x sc =>
        cases sc with
        | nil => exact hk.2.elim
        | cons y sd =>
          obtain ⟨⟨n, rfl, e2⟩, ⟨n', rfl, e3⟩, hk2⟩ := hk
          split at hs
          · rename_i r hr
            obtain rfl := Option.some.inj hs
            obtain ⟨g1, g2⟩ := kib_ok h e3 e2 hr
            obtain ⟨x, u, g3⟩ := kpres_i h hk2 g1
            exact r_ib hexec hb hr g2 hd (kk x u _ _ _ g3 hlv)
          · cases hs
    · rename_i g f sa h1
      rw [h1] at hk
      cases st with
      | nil => exact hk.elim
      | cons x sc =>
        cases sc with
        | nil => exact hk.2.elim
        | cons y sd =>
          obtain ⟨⟨n, rfl, e2⟩, ⟨n', rfl, e3⟩, hk2⟩ := hk
          split at hs
          · rename_i r hr
            obtain rfl := Option.some.inj hs
            obtain ⟨g1, g2⟩ := klo_ok h e3 e2 hr
            obtain ⟨x, u, g3⟩ := kpres_l h hk2 g1
            exact r_lo hexec hb hr g2 hd (kk x u _ _ _ g3 hlv)
          · cases hs
    · cases hs
end KS1F
end
section
/-! BRANCHES -/
def ktgt (pc : Nat) (off : Int) : Option Nat := match Int.ofNat pc + off with
  | .ofNat n => some n
  | .negSucc _ => none
theorem ktgt_ok {pc n : Nat} {off : Int} (h : ktgt pc off = some n) : (pc : Int) + off = (n : Int) := by
  unfold ktgt at h
  split at h
  · rename_i k hk
    obtain rfl := Option.some.inj h
    exact hk
  · cases h
def knot (cd : Jvm.ClassFile.Cond) : Jvm.ClassFile.Cond := match cd with
  | .eq => .ne
  | .ne => .eq
  | .lt => .ge
  | .ge => .lt
  | .gt => .le
  | .le => .gt
def kholds (cd : Jvm.ClassFile.Cond) (z : Int) : Prop := match cd with
  | .eq => z = 0
  | .ne => z ≠ 0
  | .lt => z < 0
  | .ge => 0 ≤ z
  | .gt => 0 < z
  | .le => z ≤ 0
theorem kholds_not {cd : Jvm.ClassFile.Cond} {z : Int} (h : ¬ kholds cd z) : kholds (knot cd) z := by
  cases cd <;> simp only [kholds, knot] at h ⊢ <;> omega
def ktk (S : kS) (cd : Jvm.ClassFile.Cond) (f : kL) : Option kS := match cd with
  | .eq => match kasmS S f with
    | some S' => kasmS S' (kneg f)
    | none => none
  | .ne => match kgeS S f with
    | true => kasmS S (kofs f (-1))
    | false => match kgeS S (kneg f) with
      | true => kasmS S (kofs (kneg f) (-1))
      | false => some S
  | .lt => kasmS S (kofs (kneg f) (-1))
  | .ge => kasmS S f
  | .gt => kasmS S (kofs f (-1))
  | .le => kasmS S (kneg f)
def kopt (t : Nat) (o : Option kS) (r : List (Nat × kS)) : List (Nat × kS) := match o with
  | some S => (t, S) :: r
  | none => r
theorem kopt_in {t : Nat} {o : Option kS} {r : List (Nat × kS)} {S : kS} (h : o = some S) : (t, S) ∈ kopt t o r := by
  subst h
  exact List.mem_cons_self
theorem kopt_tl {t : Nat} {o : Option kS} {r : List (Nat × kS)} {q : Nat × kS} (h : q ∈ r) : q ∈ kopt t o r := by
  unfold kopt
  split
  · exact List.mem_cons_of_mem _ h
  · exact h
def ktsw (pc : Nat) (S : kS) (f : kL) : Int → List Int → Option (List (Nat × kS))
  | _, [] => some []
  | v, o :: t => match ktgt pc o, ktsw pc S f (v + 1) t with
    | some tg, some r => match kasmS S (kofs f (-v)) with
      | some S1 => some (kopt tg (kasmS S1 (kofs (kneg f) v)) r)
      | none => some r
    | _, _ => none
/-- branches: the states behind -/
def kbr (pc : Nat) (ins : Instr) (S : kS) : Option (List (Nat × kS)) := match ins with
  | .goto off => match ktgt pc off with
    | some t => some [(t, S)]
    | none => none
  | .ifCond cd off => match S.2.2.2.1, ktgt pc off with
    | .inl f :: st, some t => some (kopt t (ktk (ksloc S S.2.2.1 st) cd f) (kopt (pc + 3) (ktk (ksloc S S.2.2.1 st) (knot cd) f) []))
    | .inr (.inr (.inr w)) :: st, some t => some (kopt t (ktk (ksloc S S.2.2.1 st) cd (ksub w.1 w.2)) (kopt (pc + 3) (ktk (ksloc S S.2.2.1 st) (knot cd) (ksub w.1 w.2)) []))
    | _, _ => none
  | .if_icmp cd off => match S.2.2.2.1, ktgt pc off with
    | .inl g :: .inl f :: st, some t => some (kopt t (ktk (ksloc S S.2.2.1 st) cd (ksub f g)) (kopt (pc + 3) (ktk (ksloc S S.2.2.1 st) (knot cd) (ksub f g)) []))
    | _, _ => none
  | .tableswitch dflt lo hi offs => match S.2.2.2.1, ktgt pc dflt with
    | .inl f :: st, some t => match kz (Int.ofNat offs.toList.length - (hi - lo + 1)) with
      | true => match ktsw pc (ksloc S S.2.2.1 st) f lo offs.toList with
        | some r => some (kopt t (kasmS (ksloc S S.2.2.1 st) (ksub (kcst (lo - 1)) f)) (kopt t (kasmS (ksloc S S.2.2.1 st) (kofs f (-hi - 1))) r))
        | none => none
      | false => none
    | _, _ => none
  | _ => none
section KBR
variable {p : Program} {l : Launch} {e : Env} {R : Room} {s : State} {m : MethodId} {args : Array Value} {below : List Frame} {meth : Method} {c : Code} {H : Heap} {locs : List Loc} {cells slots : Nat} {Q : State → Prop}
variable {cc : ByteArray} {pc : Nat} {ls : Array Slot} {cA : Nat → Nat} {rest : List Value}
variable {D : va_G} {tt : List kT} {Ty : Nat → Nat → Prop} {env : List Int} {ren : List Nat} {S : kS} {lv : List (Nat × Value)} {st : List Value}
theorem ktk_ok {cd : Jvm.ClassFile.Cond} {f : kL} {z : Int} (h : kst D cA tt Ty env ren S H lv st) (hf : kev env f = some z) (hz : kholds cd z) : ∃ S', ktk S cd f = some S' ∧ kst D cA tt Ty env ren S' H lv st := by
  cases cd with
  | eq =>
    have hz : z = 0 := hz
    obtain ⟨S1, g1, g2⟩ := kasmS_ok h hf (by omega)
    obtain ⟨S2, g3, g4⟩ := kasmS_ok g2 (kneg_ev hf) (by omega)
    exact ⟨S2, by simp only [ktk, g1]; exact g3, g4⟩
  | ne =>
    have hz : z ≠ 0 := hz
    unfold ktk
    dsimp only
    cases h1 : kgeS S f with
    | true =>
      have := kgeS_ok h hf h1
      exact kasmS_ok h (kofs_ev hf) (by omega)
    | false =>
      cases h2 : kgeS S (kneg f) with
      | true =>
        have := kgeS_ok h (kneg_ev hf) h2
        exact kasmS_ok h (kofs_ev (kneg_ev hf)) (by omega)
      | false => exact ⟨S, rfl, h⟩
  | lt =>
    have hz : z < 0 := hz
    exact kasmS_ok h (kofs_ev (kneg_ev hf)) (by omega)
  | ge => exact kasmS_ok h hf hz
  | gt =>
    have hz : 0 < z := hz
    exact kasmS_ok h (kofs_ev hf) (by omega)
  | le =>
    have hz : z ≤ 0 := hz
    exact kasmS_ok h (kneg_ev hf) (by omega)
theorem r_if (hexec : p.tables.exec = Jvm.exec) (hb : c.code = cc) {cd : Jvm.ClassFile.Cond} {x : Int32} {off : Int} {tgt : Nat} (hdg : decode cc pc = .ok (.ifCond cd off, 3)) (ht : (pc : Int) + off = (tgt : Int))
    (kt : kholds cd x.toInt → W p l e R s m args below meth c H locs cells slots Q (F0 m tgt ls rest)) (kf : kholds (knot cd) x.toInt → W p l e R s m args below meth c H locs cells slots Q (F0 m (pc + 3) ls rest)) : W p l e R s m args below meth c H locs cells slots Q (F0 m pc ls (.int x :: rest)) := by
  have z0 : (0 : Int32).toInt = 0 := rfl
  have ez : x = 0 ↔ x.toInt = 0 := ⟨fun h => by rw [h]; rfl, fun h => Int32.toInt_inj.mp (by rw [h]; rfl)⟩
  cases cd with
  | eq => exact lv_if_eq hexec hb hdg ht (fun h => kt (ez.mp h)) (fun h => kf (fun g => h (ez.mpr g)))
  | ne => exact lv_if_ne hexec hb hdg ht (fun h => kt (fun g => h (ez.mpr g))) (fun h => kf (ez.mp h))
  | lt => exact lv_if_lt hexec hb hdg ht (fun h => kt (Int32.lt_iff_toInt_lt.mp h)) (fun h => kf (Int.not_lt.mp (fun g => h (Int32.lt_iff_toInt_lt.mpr g))))
  | ge => exact lv_if_ge hexec hb hdg ht (fun h => kt (Int32.le_iff_toInt_le.mp h)) (fun h => kf (Int.not_le.mp (fun g => h (Int32.le_iff_toInt_le.mpr g))))
  | gt => exact lv_if_gt hexec hb hdg ht (fun h => kt (Int32.lt_iff_toInt_lt.mp h)) (fun h => kf (Int.not_lt.mp (fun g => h (Int32.lt_iff_toInt_lt.mpr g))))
  | le => exact lv_if_le hexec hb hdg ht (fun h => kt (Int32.le_iff_toInt_le.mp h)) (fun h => kf (Int.not_le.mp (fun g => h (Int32.le_iff_toInt_le.mpr g))))
theorem r_icmp (hexec : p.tables.exec = Jvm.exec) (hb : c.code = cc) {cd : Jvm.ClassFile.Cond} {x y : Int32} {off : Int} {tgt : Nat} (hdg : decode cc pc = .ok (.if_icmp cd off, 3)) (ht : (pc : Int) + off = (tgt : Int))
    (kt : kholds cd (x.toInt - y.toInt) → W p l e R s m args below meth c H locs cells slots Q (F0 m tgt ls rest)) (kf : kholds (knot cd) (x.toInt - y.toInt) → W p l e R s m args below meth c H locs cells slots Q (F0 m (pc + 3) ls rest)) : W p l e R s m args below meth c H locs cells slots Q (F0 m pc ls (.int y :: .int x :: rest)) := by
  have ez : x = y ↔ x.toInt = y.toInt := Int32.toInt_inj.symm
  have lt : ∀ {a b : Int32}, a < b ↔ a.toInt < b.toInt := Int32.lt_iff_toInt_lt
  have le : ∀ {a b : Int32}, a ≤ b ↔ a.toInt ≤ b.toInt := Int32.le_iff_toInt_le
  cases cd with
  | eq => exact lv_icmp_eq hexec hb hdg ht (fun h => kt (by have := ez.mp h; show _ - _ = (0 : Int); omega)) (fun h => kf (fun g => h (ez.mpr (by have g : _ - _ = (0 : Int) := g; omega))))
  | ne => exact lv_icmp_ne hexec hb hdg ht (fun h => kt (fun g => h (ez.mpr (by have g : _ - _ = (0 : Int) := g; omega)))) (fun h => kf (by have := ez.mp h; show _ - _ = (0 : Int); omega))
  | lt => exact lv_icmp_lt hexec hb hdg ht (fun h => kt (by have := lt.mp h; show _ - _ < (0 : Int); omega)) (fun h => kf (by have := Int.not_lt.mp (fun g => h (lt.mpr g)); show (0 : Int) ≤ _ - _; omega))
  | ge => exact lv_icmp_ge hexec hb hdg ht (fun h => kt (by have := le.mp h; show (0 : Int) ≤ _ - _; omega)) (fun h => kf (by have := Int.not_le.mp (fun g => h (le.mpr g)); show _ - _ < (0 : Int); omega))
  | gt => exact lv_icmp_gt hexec hb hdg ht (fun h => kt (by have := lt.mp h; show (0 : Int) < _ - _; omega)) (fun h => kf (by have := Int.not_lt.mp (fun g => h (lt.mpr g)); show _ - _ ≤ (0 : Int); omega))
  | le => exact lv_icmp_le hexec hb hdg ht (fun h => kt (by have := le.mp h; show _ - _ ≤ (0 : Int); omega)) (fun h => kf (by have := Int.not_le.mp (fun g => h (le.mpr g)); show (0 : Int) < _ - _; omega))
theorem kcmp_holds {cd : Jvm.ClassFile.Cond} {a b : Int} (h : kholds cd (kcmp a b)) : kholds cd (a - b) := by
  unfold kcmp at h
  cases cd <;> simp only [kholds] at h ⊢ <;> (split at h) <;> (try split at h) <;> omega
theorem ktsw_ok {f : kL} {z : Int} (h : kst D cA tt Ty env ren S H lv st) (hf : kev env f = some z) : ∀ {l : List Int} {v : Int} {L : List (Nat × kS)}, ktsw pc S f v l = some L → v ≤ z → z < v + Int.ofNat l.length → ∃ (off : Int) (t : Nat) (S' : kS), l[(z - v).toNat]? = some off ∧ (pc : Int) + off = (t : Int) ∧ (t, S') ∈ L ∧ kst D cA tt Ty env ren S' H lv st
  | [], v, L, _, h1, h2 => by
    have h2 : z < v + ((0 : Nat) : Int) := h2
    omega
  | o :: t, v, L, hL, h1, h2 => by
    have h2 : z < v + (((t.length + 1 : Nat)) : Int) := h2
    unfold ktsw at hL
    cases g1 : ktgt pc o with
    | none => simp [g1] at hL
    | some tg =>
      cases g2 : ktsw pc S f (v + 1) t with
      | none => simp [g1, g2] at hL
      | some r =>
        simp only [g1, g2] at hL
        by_cases e : z = v
        · subst e
          obtain ⟨S1, a1, a2⟩ := kasmS_ok h (kofs_ev (n := -z) hf) (by omega)
          obtain ⟨S2, a3, a4⟩ := kasmS_ok a2 (kofs_ev (n := z) (kneg_ev hf)) (by omega)
          simp only [a1] at hL
          obtain rfl := Option.some.inj hL
          exact ⟨o, tg, S2, by simp, ktgt_ok g1, kopt_in a3, a4⟩
        · obtain ⟨off, t', S', b1, b2, b3, b4⟩ := ktsw_ok h hf g2 (by omega) (by
            show z < v + 1 + ((t.length : Nat) : Int)
            omega)
          refine ⟨off, t', S', ?_, b2, ?_, b4⟩
          · rw [show (z - v).toNat = (z - (v + 1)).toNat + 1 by omega]
            simpa using b1
          · split at hL
            · obtain rfl := Option.some.inj hL
              exact kopt_tl b3
            · obtain rfl := Option.some.inj hL
              exact b3
theorem kbr_ok (hexec : p.tables.exec = Jvm.exec) (hb : c.code = cc) {ins : Instr} {nL len : Nat} {L : List (Nat × kS)} (h : kst D cA tt Ty env ren S H lv st) (hlv : lv_has ls nL lv) (hd : decode cc pc = .ok (ins, len)) (hlen : (∀ a b x y, ins ≠ .tableswitch a b x y) → len = 3) (hs : kbr pc ins S = some L)
    (kk : ∀ q ∈ L, ∀ lv' st' ls', kst D cA tt Ty env ren q.2 H lv' st' → lv_has ls' nL lv' → W p l e R s m args below meth c H locs cells slots Q (F0 m q.1 ls' st')) : W p l e R s m args below meth c H locs cells slots Q (F0 m pc ls st) := by
  have hk := h.2.2.2.2.1
  unfold kbr at hs
  split at hs
  · rename_i off
    have hl := hlen (fun _ _ _ _ h => by cases h)
    subst hl
    split at hs
    · rename_i t ht
      obtain rfl := Option.some.inj hs
      exact lv_goto hexec hb hd (ktgt_ok ht) (kk _ List.mem_cons_self _ _ _ h hlv)
    · cases hs
  · rename_i cd off
    have hl := hlen (fun _ _ _ _ h => by cases h)
    subst hl
    split at hs
    · rename_i f sa t h1 ht
      obtain rfl := Option.some.inj hs
      rw [h1] at hk
      cases st with
      | nil => exact hk.elim
      | cons x sc =>
        obtain ⟨⟨n, rfl, e2⟩, hk2⟩ := hk
        have h' : kst D cA tt Ty env ren (ksloc S S.2.2.1 sa) H lv sc := ⟨h.1, h.2.1, h.2.2.1, h.2.2.2.1, hk2, h.2.2.2.2.2⟩
        refine r_if hexec hb hd (ktgt_ok ht) (fun hz => ?_) (fun hz => ?_)
        · obtain ⟨S', g1, g2⟩ := ktk_ok h' e2 hz
          exact kk _ (kopt_in g1) _ _ _ g2 hlv
        · obtain ⟨S', g1, g2⟩ := ktk_ok h' e2 hz
          exact kk _ (kopt_tl (kopt_in g1)) _ _ _ g2 hlv
    · rename_i w sa t h1 ht
      obtain rfl := Option.some.inj hs
      rw [h1] at hk
      cases st with
      | nil => exact hk.elim
      | cons x sc =>
        obtain ⟨⟨n, a, b, rfl, e2, e3, e4⟩, hk2⟩ := hk
        have h' : kst D cA tt Ty env ren (ksloc S S.2.2.1 sa) H lv sc := ⟨h.1, h.2.1, h.2.2.1, h.2.2.2.1, hk2, h.2.2.2.2.2⟩
        refine r_if hexec hb hd (ktgt_ok ht) (fun hz => ?_) (fun hz => ?_)
        · rw [e4] at hz
          obtain ⟨S', g1, g2⟩ := ktk_ok h' (ksub_ev e2 e3) (kcmp_holds hz)
          exact kk _ (kopt_in g1) _ _ _ g2 hlv
        · rw [e4] at hz
          obtain ⟨S', g1, g2⟩ := ktk_ok h' (ksub_ev e2 e3) (kcmp_holds hz)
          exact kk _ (kopt_tl (kopt_in g1)) _ _ _ g2 hlv
    · cases hs
  · rename_i cd off
    have hl := hlen (fun _ _ _ _ h => by cases h)
    subst hl
    split at hs
    · rename_i g f sa t h1 ht
      obtain rfl := Option.some.inj hs
      rw [h1] at hk
      cases st with
      | nil => exact hk.elim
      | cons x sc =>
        cases sc with
        | nil => exact hk.2.elim
        | cons y sd =>
          obtain ⟨⟨n, rfl, e2⟩, ⟨n', rfl, e3⟩, hk2⟩ := hk
          have h' : kst D cA tt Ty env ren (ksloc S S.2.2.1 sa) H lv sd := ⟨h.1, h.2.1, h.2.2.1, h.2.2.2.1, hk2, h.2.2.2.2.2⟩
          refine r_icmp hexec hb hd (ktgt_ok ht) (fun hz => ?_) (fun hz => ?_)
          · obtain ⟨S', g1, g2⟩ := ktk_ok h' (ksub_ev e3 e2) hz
            exact kk _ (kopt_in g1) _ _ _ g2 hlv
          · obtain ⟨S', g1, g2⟩ := ktk_ok h' (ksub_ev e3 e2) hz
            exact kk _ (kopt_tl (kopt_in g1)) _ _ _ g2 hlv
    · cases hs
  · rename_i dflt lo hi offs
    split at hs
    · rename_i f sa t h1 ht
      split at hs
      · rename_i h2
        split at hs
        · rename_i r hr
          obtain rfl := Option.some.inj hs
          rw [h1] at hk
          cases st with
          | nil => exact hk.elim
          | cons x sc =>
            obtain ⟨⟨n, rfl, e2⟩, hk2⟩ := hk
            have h' : kst D cA tt Ty env ren (ksloc S S.2.2.1 sa) H lv sc := ⟨h.1, h.2.1, h.2.2.1, h.2.2.2.1, hk2, h.2.2.2.2.2⟩
            by_cases c1 : n.toInt < lo
            · obtain ⟨S', g1, g2⟩ := kasmS_ok h' (ksub_ev (kcst_ev (n := lo - 1)) e2) (by omega)
              exact lv_tableOut hexec hb hd (Or.inl c1) (ktgt_ok ht) (kk _ (kopt_in g1) _ _ _ g2 hlv)
            · by_cases c2 : hi < n.toInt
              · obtain ⟨S', g1, g2⟩ := kasmS_ok h' (kofs_ev (n := -hi - 1) e2) (by omega)
                exact lv_tableOut hexec hb hd (Or.inr c2) (ktgt_ok ht) (kk _ (kopt_tl (kopt_in g1)) _ _ _ g2 hlv)
              · have h3 := kz_iff.mp h2
                obtain ⟨off, t', S', b1, b2, b3, b4⟩ := ktsw_ok (pc := pc) h' e2 hr (by omega) (by omega)
                exact lv_tableIn hexec hb hd c1 c2 (by rw [← Array.getElem?_toList]; exact b1) b2 (kk (t', S') (kopt_tl (kopt_tl b3)) _ _ _ b4 hlv)
        · cases hs
      · cases hs
    · cases hs
  · cases hs
end KBR
end
section
/-! INSTRUCTIONS ON THE HEAP -/
def kfixA (S : kS) (ty : FieldType) (v : kV) : Bool := match ty, v with
  | .int, .inl _ => true
  | .long, .inr (.inl _) => true
  | .boolean, .inl f => kbt S f 0 1
  | .byte, .inl f => kbt S f (-128) 127
  | _, _ => false
def kfty (n : Nat) : FieldType := match n with
  | 0 => .int
  | 1 => .boolean
  | _ => .long
def kmapP (st : List kV) : List (kS × kV) → List kS
  | [] => []
  | q :: t => kpsh q.1 q.2 st :: kmapP st t
/-- the states behind; the next instruction is the one that stands behind -/
def kmemi (tt : List kT) (aty : List FieldType) (ow : kOw) (wr : kW) (ins : Instr) (S : kS) : Option (List kS) := match ins with
  | .getfield idx => match S.2.2.2.1, kfnd ow.1 idx with
    | .inr (.inr (.inl r)) :: st, some q => match S.2.1[r]? with
      | some t => match tt[t]? with
        | some T => match Nat.beq T.1 q.1 with
          | true => match Nat.blt T.1 100 with
            | true => match kload tt (ksloc S S.2.2.1 st) r (kcst (Int.ofNat q.2.1)) with
              | some L => some (kmapP st L)
              | none => none
            | false => none
          | false => none
        | none => none
      | none => none
    | _, _ => none
  | .putfield idx => match S.2.2.2.1, kfnd ow.1 idx with
    | v :: .inr (.inr (.inl r)) :: st, some q => match S.2.1[r]? with
      | some t => match tt[t]? with
        | some T => match Nat.beq T.1 q.1 with
          | true => match Nat.blt T.1 100 with
            | true => match Nat.blt q.2.2 3 with
              | true => match kfixA S (kfty q.2.2) v with
                | true => match kstore tt wr (ksloc S S.2.2.1 st) r (kcst (Int.ofNat q.2.1)) v with
                  | some S' => some [S']
                  | none => none
                | false => none
              | false => none
            | false => none
          | false => none
        | none => none
      | none => none
    | _, _ => none
  | _ => match S.2.2.2.1 with
    | .inl x :: .inr (.inr (.inl r)) :: st => match S.2.1[r]? with
      | some t => match tt[t]? with
        | some T => match Nat.blt T.1 100 with
          | false => match aty[T.1 - 100]? with
            | some ty => match klt ins ty with
              | true => match kload tt (ksloc S S.2.2.1 st) r x with
                | some L => some (kmapP st L)
                | none => none
              | false => none
            | none => none
          | true => none
        | none => none
      | none => none
    | v :: .inl x :: .inr (.inr (.inl r)) :: st => match S.2.1[r]? with
      | some t => match tt[t]? with
        | some T => match Nat.blt T.1 100 with
          | false => match aty[T.1 - 100]? with
            | some ty => match kstt ins ty with
              | true => match kfixA S ty v with
                | true => match kstore tt wr (ksloc S S.2.2.1 st) r x v with
                  | some S' => some [S']
                  | none => none
                | false => none
              | false => none
            | none => none
          | true => none
        | none => none
      | none => none
    | _ => none
/-- the links to fields, as the tables have them -/
def kOwF (own : String) (ow : kOw) (cl : List vw_C) (lw : List Cond) : Prop := ∀ q ∈ ow.1, ∃ (C : String) (Tf : u_T) (N : Nat), cl[q.2.1]? = some (C, Tf, N) ∧ q.2.2.1 < N ∧ Cond.fieldLink own q.1 (Tf q.2.2.1).1 (Tf q.2.2.1).2.1 (Tf q.2.2.1).2.2.1 ∈ lw ∧ (q.2.2.2 < 3 → (Tf q.2.2.1).2.2.2 = false ∧ parseFieldDescriptor (Tf q.2.2.1).2.2.1 = some (kfty q.2.2.2))
/-- the sizes of the objects are those of the tables -/
def ktok (tt : List kT) (cl : List vw_C) : Prop := ∀ (t : Nat) (T : kT), tt[t]? = some T → Nat.blt T.1 100 = true → ∃ (C : String) (Tf : u_T), cl[T.1]? = some (C, Tf, T.2.1)
/-- nothing new, nothing below lo written -/
def kfr (lo : Nat) (H H1 : Heap) : Prop := H1.size = H.size ∧ ∀ q, q < lo → H1[q]? = H[q]?
theorem kfr_rfl {lo : Nat} {H : Heap} : kfr lo H H := ⟨rfl, fun _ _ => rfl⟩
theorem kfr_trans {lo : Nat} {H H1 H2 : Heap} (h1 : kfr lo H H1) (h2 : kfr lo H1 H2) : kfr lo H H2 := ⟨h2.1.trans h1.1, fun q hq => (h2.2 q hq).trans (h1.2 q hq)⟩
section KMI
variable {p : Program} {l : Launch} {e : Env} {R : Room} {s : State} {m : MethodId} {args : Array Value} {below : List Frame} {meth : Method} {c : Code} {H : Heap} {locs : List Loc} {cells slots : Nat} {Q : State → Prop}
variable {cc : ByteArray} {pc : Nat} {ls : Array Slot} {cl : List vw_C} {aty : List FieldType} {nw lw : List Cond} {sk : kSk} {cA aS : Nat → Nat}
variable {D : va_G} {tt : List kT} {Ty : Nat → Nat → Prop} {env : List Int} {ren : List Nat} {S : kS} {lv : List (Nat × Value)} {st : List Value}
theorem kfixA_ok {ty : FieldType} {v : kV} {x : Value} (h : kst D cA tt Ty env ren S H lv st) (hv : kvok env ren v x) (hf : kfixA S ty v = true) : kfix ty x := by
  unfold kfixA at hf
  split at hf
  · obtain ⟨n, rfl, -⟩ := hv
    exact trivial
  · obtain ⟨n, rfl, -⟩ := hv
    exact trivial
  · obtain ⟨n, rfl, e2⟩ := hv
    exact kbt_ok h e2 hf
  · obtain ⟨n, rfl, e2⟩ := hv
    exact kbt_ok h e2 hf
  · cases hf
theorem kmapP_in {sa : List kV} : ∀ {L : List (kS × kV)} {q : kS × kV}, q ∈ L → kpsh q.1 q.2 sa ∈ kmapP sa L
  | [], q, h => by cases h
  | a :: L, q, h => by
    rcases List.mem_cons.mp h with rfl | h
    · exact List.mem_cons_self
    · exact List.mem_cons_of_mem _ (kmapP_in h)
set_option maxHeartbeats 4000000 in
theorem kmemi_ok (hexec : p.tables.exec = Jvm.exec) (hb : c.code = cc) {own : String} {ow : kOw} {wr : kW} {lo nL : Nat} {ins : Instr} {L : List kS} (hown : s.vm.findClass own = some m.cls) (hts : ∀ w ∈ lw, w.before args s = true) (hcl : kclok cl lw) (htok : ktok tt cl) (how : kOwF own ow cl lw) (hK : kK cl aty nw sk D cA aS s) (hTy : kTyp tt Ty) (hG : kgood D cA tt Ty lo H)
    (h : kst D cA tt Ty env ren S H lv st) (hlv : lv_has ls nL lv) (hd : decode cc pc = .ok (ins, kln ins)) (hs : kmemi tt aty ow wr ins S = some L)
    (kk : ∀ S' ∈ L, ∀ x u st' H' L', kgood D cA tt Ty lo H' → kfr lo H H' → kkp D cA tt Ty wr H H' → (∀ q ∈ L', lo ≤ q.base) → kst D cA tt Ty (env ++ x) (ren ++ u) S' H' lv st' → W p l e R s m args below meth c H' (locs ++ L') cells slots Q (F0 m (pc + kln ins) ls st')) : W p l e R s m args below meth c H locs cells slots Q (F0 m pc ls st) := by
  have hk := h.2.2.2.2.1
  have k0 : ∀ S' ∈ L, ∀ x u st', kst D cA tt Ty (env ++ x) (ren ++ u) S' H lv st' → W p l e R s m args below meth c H locs cells slots Q (F0 m (pc + kln ins) ls st') := fun S' hS x u st' g => by
    have := kk S' hS x u st' H [] hG kfr_rfl kkp_rfl (fun _ hq => by cases hq) g
    rwa [List.append_nil] at this
  unfold kmemi at hs
  split at hs
  -- getfield
  · rename_i idx
    split at hs
    · rename_i r sa q h1 h2
      rw [h1] at hk
      cases st with
      | nil => exact hk.elim
      | cons y sc =>
        obtain ⟨⟨a, rfl, ea⟩, hk2⟩ := hk
        have h' : kst D cA tt Ty env ren (ksloc S S.2.2.1 sa) H lv sc := ⟨h.1, h.2.1, h.2.2.1, h.2.2.2.1, hk2, h.2.2.2.2.2⟩
        split at hs
        · rename_i t h3
          split at hs
          · rename_i T h4
            split at hs
            · rename_i h5
              split at hs
              · rename_i h6
                split at hs
                · rename_i L' h7
                  obtain rfl := Option.some.inj hs
                  obtain ⟨a', t', T', V, z, g1, g2, g3, g4, g5, g6, g7, g8, g9, alt, g10, x, u, g11, g12⟩ := kload_ok hTy hG h' kcst_ev h7
                  have e1 : a' = a := Option.some.inj (g2.symm.trans ea)
                  subst e1
                  have e2 : t' = t := Option.some.inj (g1.symm.trans h3)
                  subst e2
                  have e3 : T' = T := Option.some.inj (g4.symm.trans h4)
                  subst e3
                  have e4 : q.2.1 = z := Int.ofNat.inj g8
                  subst e4
                  obtain ⟨C, Tf, N, c1, c2, c3, -⟩ := how _ (kfnd_mem h2)
                  have e5 : T'.1 = q.1 := Nat.beq_eq.mp h5
                  exact r_get hexec hb hts hcl hown hK (by rw [e5]; exact c1) h6 c2 g9 (hts _ c3) g6 hd (k0 _ (kmapP_in g10) x u _ (kpsh_ok g11 g12 (kStk_ext hk2)))
                · cases hs
              · cases hs
            · cases hs
          · cases hs
        · cases hs
    · cases hs
  -- putfield
  · rename_i idx
    split at hs
    · rename_i v r sa q h1 h2
      rw [h1] at hk
      cases st with
      | nil => exact hk.elim
      | cons y sc =>
        cases sc with
        | nil => exact hk.2.elim
        | cons y2 sd =>
          obtain ⟨hv, ⟨a, rfl, ea⟩, hk2⟩ := hk
          have h' : kst D cA tt Ty env ren (ksloc S S.2.2.1 sa) H lv sd := ⟨h.1, h.2.1, h.2.2.1, h.2.2.2.1, hk2, h.2.2.2.2.2⟩
          split at hs
          · rename_i t h3
            split at hs
            · rename_i T h4
              split at hs
              · rename_i h5
                split at hs
                · rename_i h6
                  split at hs
                  · rename_i h8
                    split at hs
                    · rename_i h9
                      split at hs
                      · rename_i S' h7
                        obtain rfl := Option.some.inj hs
                        obtain ⟨a', t', T', V, z, g1, g2, g3, g4, g5, g6, g8, g9, g10⟩ := kstore_ok hTy hG h' kcst_ev hv h7
                        have e1 : a' = a := Option.some.inj (g2.symm.trans ea)
                        subst e1
                        have e2 : t' = t := Option.some.inj (g1.symm.trans h3)
                        subst e2
                        have e3 : T' = T := Option.some.inj (g4.symm.trans h4)
                        subst e3
                        have e4 : q.2.1 = z := Int.ofNat.inj g8
                        subst e4
                        obtain ⟨C, Tf, N, c1, c2, c3, c4⟩ := how _ (kfnd_mem h2)
                        have e5 : T'.1 = q.1 := Nat.beq_eq.mp h5
                        obtain ⟨c5, c6⟩ := c4 (Nat.blt_eq.mp h8)
                        obtain ⟨C', Tf', c7⟩ := htok _ _ h4 h6
                        have e6 : (C', Tf', T'.2.1) = (C, Tf, N) := Option.some.inj (c7.symm.trans (by rw [e5]; exact c1))
                        have e7 : T'.2.1 = N := congrArg (fun w => w.2.2) e6
                        obtain ⟨n1, n2⟩ := kfix_narrow (kfixA_ok h hv h9)
                        refine r_put hexec hb hts hcl hown hK (by rw [e5]; exact c1) h6 c2 e7 (hts _ c3) c5 c6 n1 n2 g6 hd (fun H1 i w1 w2 w3 => ?_)
                        obtain ⟨b1, b2, b3⟩ := g10 H1 w1 w3
                        exact kk S' List.mem_cons_self [] [] _ H1 _ b1 ⟨w2, fun p hp => w3 p (fun e => by subst e; omega)⟩ b3 (fun p hp => by
                          have : p = ⟨a', i⟩ := by simpa using hp
                          subst this
                          exact g5) (by rw [List.append_nil, List.append_nil]; exact b2)
                      · cases hs
                    · cases hs
                  · cases hs
                · cases hs
              · cases hs
            · cases hs
          · cases hs
    · cases hs
  -- arrays
  · rename_i hn1 hn2
    split at hs
    · rename_i x0 r sa h1
      rw [h1] at hk
      cases st with
      | nil => exact hk.elim
      | cons y sc =>
        cases sc with
        | nil => exact hk.2.elim
        | cons y2 sd =>
          obtain ⟨⟨n, rfl, en⟩, ⟨a, rfl, ea⟩, hk2⟩ := hk
          have h' : kst D cA tt Ty env ren (ksloc S S.2.2.1 sa) H lv sd := ⟨h.1, h.2.1, h.2.2.1, h.2.2.2.1, hk2, h.2.2.2.2.2⟩
          split at hs
          · rename_i t h3
            split at hs
            · rename_i T h4
              split at hs
              · rename_i h6
                split at hs
                · rename_i ty h5
                  split at hs
                  · rename_i h8
                    split at hs
                    · rename_i L' h7
                      obtain rfl := Option.some.inj hs
                      obtain ⟨a', t', T', V, z, g1, g2, g3, g4, g5, g6, g7, g8, g9, alt, g10, x, u, g11, g12⟩ := kload_ok hTy hG h' en h7
                      have e1 : a' = a := Option.some.inj (g2.symm.trans ea)
                      subst e1
                      have e2 : t' = t := Option.some.inj (g1.symm.trans h3)
                      subst e2
                      have e3 : T' = T := Option.some.inj (g4.symm.trans h4)
                      subst e3
                      have hln : kln ins = 1 := by
                        unfold klt at h8
                        split at h8 <;> first | rfl | cases h8
                      rw [hln] at hd
                      have k1 := k0 _ (kmapP_in g10) x u _ (kpsh_ok g11 g12 (kStk_ext hk2))
                      rw [hln] at k1
                      exact r_ald hexec hb hK h5 h6 h8 g8 g9 g6 hd k1
                    · cases hs
                  · cases hs
                · cases hs
              · cases hs
            · cases hs
          · cases hs
    · rename_i v x0 r sa h1
      rw [h1] at hk
      cases st with
      | nil => exact hk.elim
      | cons y sc =>
        cases sc with
        | nil => exact hk.2.elim
        | cons y2 sd =>
          cases sd with
          | nil => exact hk.2.2.elim
          | cons y3 se =>
            obtain ⟨hv, ⟨n, rfl, en⟩, ⟨a, rfl, ea⟩, hk2⟩ := hk
            have h' : kst D cA tt Ty env ren (ksloc S S.2.2.1 sa) H lv se := ⟨h.1, h.2.1, h.2.2.1, h.2.2.2.1, hk2, h.2.2.2.2.2⟩
            split at hs
            · rename_i t h3
              split at hs
              · rename_i T h4
                split at hs
                · rename_i h6
                  split at hs
                  · rename_i ty h5
                    split at hs
                    · rename_i h8
                      split at hs
                      · rename_i h9
                        split at hs
                        · rename_i S' h7
                          obtain rfl := Option.some.inj hs
                          obtain ⟨a', t', T', V, z, g1, g2, g3, g4, g5, g6, g8, g9, g10⟩ := kstore_ok hTy hG h' en hv h7
                          have e1 : a' = a := Option.some.inj (g2.symm.trans ea)
                          subst e1
                          have e2 : t' = t := Option.some.inj (g1.symm.trans h3)
                          subst e2
                          have e3 : T' = T := Option.some.inj (g4.symm.trans h4)
                          subst e3
                          have hln : kln ins = 1 := by
                            unfold kstt at h8
                            split at h8 <;> first | rfl | cases h8
                          rw [hln] at hd
                          refine r_ast hexec hb hK h5 h6 h8 (kfixA_ok h hv h9) g8 g9 g6 hd (fun H1 i w1 w2 w3 => ?_)
                          obtain ⟨b1, b2, b3⟩ := g10 H1 w1 w3
                          have k1 := kk S' List.mem_cons_self [] [] _ H1 [⟨a', i⟩] b1 ⟨w2, fun p hp => w3 p (fun e => by subst e; omega)⟩ b3 (fun p hp => by
                            have : p = ⟨a', i⟩ := by simpa using hp
                            subst this
                            exact g5) (by rw [List.append_nil, List.append_nil]; exact b2)
                          rw [hln] at k1
                          exact k1
                        · cases hs
                      · cases hs
                    · cases hs
                  · cases hs
                · cases hs
              · cases hs
            · cases hs
    · cases hs
end KMI
end
section
/-! CALLS -/
abbrev kMd : Type := MethodName × ByteArray × Nat × Option FieldType
def krm (d : Nat) : Room := { frames := d, cells := 0, slots := 0, locals := 40 * d }
def ktake : Nat → List kV → List kV → Option (List kV × List kV)
  | 0, l, acc => some (acc, l)
  | _ + 1, [], _ => none
  | n + 1, v :: l, acc => ktake n l (v :: acc)
def kcsum : List kV → Nat
  | [] => 0
  | v :: l => (match klong v with
    | true => 2
    | false => 1) + kcsum l
def kwsub (a b : kW) : Bool := a.all (fun w => b.any (fun w' => match Nat.beq w.1 w'.1 with
  | true => match w'.2 with
    | none => true
    | some j => match w.2 with
      | some i => Nat.beq i j
      | none => false
  | false => false))
/-- the first contract that fits -/
def ktry (tt : List kT) (ct : List kCt) (wr : kW) (d mno : Nat) (S : kS) (avs rest : List kV) : List Nat → Option (List kS)
  | [] => none
  | i :: t => match ct[i]? with
    | some C => match Nat.beq C.1 mno with
      | true => match Nat.blt C.2.2.2.2.2 d with
        | true => match kwsub C.2.2.2.2.1 wr with
          | true => match kcall tt S avs rest C with
            | some L => some L
            | none => ktry tt ct wr d mno S avs rest t
          | false => ktry tt ct wr d mno S avs rest t
        | false => ktry tt ct wr d mno S avs rest t
      | false => ktry tt ct wr d mno S avs rest t
    | none => ktry tt ct wr d mno S avs rest t
/-- a row copied into one of the same type, all of whose numbers are of one kind -/
def kcpT (aty : List FieldType) (T : kT) : Bool := match T.2.2.1, T.2.2.2, aty[T.1 - 100]? with
  | [(0, 1, k, .inl _)], [], some .int => Nat.beq k T.2.1
  | [(0, 1, k, .inr (.inl _))], [], some .long => Nat.beq k T.2.1
  | [(0, 1, k, .inl q)], [], some .boolean => match Nat.beq k T.2.1 with
    | true => q.all (fun r => Nat.ble (r.2 - r.1).toNat 1 && (match r.1 with
      | .ofNat 0 => match r.2 with
        | .ofNat 0 => true
        | .ofNat 1 => true
        | _ => false
      | .ofNat 1 => match r.2 with
        | .ofNat 1 => true
        | _ => false
      | _ => false))
    | false => false
  | _, _, _ => false
def kcopy (tt : List kT) (aty : List FieldType) (wr : kW) (d : Nat) (S : kS) : Option (List kS) := match S.2.2.2.1 with
  | .inl n :: .inl dp :: .inr (.inr (.inl b)) :: .inl sp :: .inr (.inr (.inl a)) :: st => match S.2.1[a]?, S.2.1[b]? with
    | some t, some t' => match Nat.beq t t' with
      | true => match tt[t]? with
        | some T => match Nat.blt T.1 100 with
          | false => match (match kcpT aty T with
              | true => kyf t
              | false => false) with
            | true => match kgeS S n with
              | true => match kgeS S sp with
                | true => match kgeS S dp with
                  | true => match kgeS S (ksub (ksub (kcst (Int.ofNat T.2.1)) sp) n) with
                    | true => match kgeS S (ksub (ksub (kcst (Int.ofNat T.2.1)) dp) n) with
                      | true => match wr.any (fun w => match Nat.beq w.1 t with
                          | true => match w.2 with
                            | none => true
                            | some _ => false
                          | false => false) with
                        | true => match Nat.blt 0 d with
                          | true => match Nat.ble (kcsum st) 8 with
                            | true => some [(S.1, S.2.1, S.2.2.1, st, S.2.2.2.2.1.filter (kkeepW S [(t, none)]), S.2.2.2.2.2)]
                            | false => none
                          | false => none
                        | false => none
                      | false => none
                    | false => none
                  | false => none
                | false => none
              | false => none
            | false => none
          | true => none
        | none => none
      | false => none
    | _, _ => none
  | _ => none
/-- an instruction that calls: the states behind -/
def kinv (tt : List kT) (aty : List FieldType) (ct : List kCt) (ow : kOw) (cal : List (Nat × List Nat)) (wr : kW) (d pc : Nat) (ins : Instr) (S : kS) : Option (List kS) := match ins with
  | .invokevirtual idx => match kfnd ow.2.2.2.2 idx, kfnd cal pc with
    | some q, some ids => match ktake (q.2.1 + 1) S.2.2.2.1 [] with
      | some (.inr (.inr (.inl r)) :: avs, rest) => match S.2.1[r]? with
        | some t => match tt[t]? with
          | some T => match Nat.beq T.1 q.2.2.1 with
            | true => match Nat.blt T.1 100 with
              | true => match Nat.ble (kcsum rest) 8 with
                | true => match Nat.ble (1 + kcsum avs) q.2.2.2 with
                  | true => ktry tt ct wr d q.1 S (.inr (.inr (.inl r)) :: avs) rest ids
                  | false => none
                | false => none
              | false => none
            | false => none
          | none => none
        | none => none
      | _ => none
    | _, _ => none
  | .invokestatic idx => match kfnd ow.2.2.2.2 idx with
    | some q => match Nat.beq q.2.2.1 102 with
      | true => kcopy tt aty wr d S
      | false => match kfnd cal pc with
        | some ids => match Nat.ble 100 q.2.2.1 with
          | true => match ktake q.2.1 S.2.2.2.1 [] with
            | some (avs, rest) => match Nat.ble (kcsum rest) 8 with
              | true => match Nat.ble (kcsum avs) q.2.2.2 with
                | true => ktry tt ct wr d q.1 S avs rest ids
                | false => none
              | false => none
            | none => none
          | false => none
        | none => none
    | none => none
  | _ => none
/-- the links to methods, as the tables have them -/
def kOwM (own : String) (ow : kOw) (cl : List vw_C) (mt : List kMd) (lg nw : List Cond) : Prop := ∀ q ∈ ow.2.2.2.2, match Nat.beq q.2.2.2.1 102 with
  | true => Cond.methodLink own q.1 arraycopyName ∈ lg ∧ Cond.native arraycopyName ∈ lg ∧ Cond.static arraycopyName ∈ lg ∧ Cond.initialized "java/lang/System" ∈ lg
  | false => ∃ (y : MethodName) (b : ByteArray) (mL : Nat) (r : Option FieldType), mt[q.2.1]? = some (y, b, mL, r) ∧ Cond.code y b mL r ∈ lg ∧ Cond.initialized y.cls ∈ lg ∧ (parseMethodDescriptor y.desc).map (fun d => d.parameters.length) = some q.2.2.1 ∧ (y.cls ≠ "java/lang/invoke/MethodHandle" ∧ y.cls ≠ "java/lang/invoke/VarHandle") ∧ mL ≤ 21 ∧ q.2.2.2.2 ≤ mL ∧
    (q.2.2.2.1 < 100 → Cond.methodLink own q.1 y ∈ lg ∧ Cond.instanceMethod y ∈ lg ∧ Cond.selects y.cls y y ∈ lg ∧ ∃ (Tf : u_T) (N : Nat), cl[q.2.2.2.1]? = some (y.cls, Tf, N)) ∧
    (100 ≤ q.2.2.2.1 → Cond.static y ∈ lg ∧ (Cond.methodLink own q.1 y ∈ lg ∨ ∃ host, Cond.methodLinkNest own q.1 y host ∈ nw))
/-- what a contract says of the machine -/
def kPc (cl : List vw_C) (aty : List FieldType) (nw : List Cond) (sk : kSk) (D : va_G) (cA aS : Nat → Nat) (tt : List kT) (Ty : Nat → Nat → Prop) (lo : Nat) (X : State → Heap → Prop) (mL : Nat) (P : kS) (env : List Int) (ren : List Nat) (vs : List Value) (a : Array Value) (U : State) : Prop :=
  (a = vs.toArray ∧ (lg_sl vs).length ≤ mL) ∧ kK cl aty nw sk D cA aS U ∧ X U U.heap ∧ kgood D cA tt Ty lo U.heap ∧ ∃ lv', kst D cA tt Ty env ren P U.heap lv' [] ∧ ∀ q ∈ lv', q ∈ lv_args 0 vs
def kQc (D : va_G) (cA : Nat → Nat) (tt : List kT) (Ty : Nat → Nat → Prop) (lo : Nat) (C : kCt) (env : List Int) (ren : List Nat) (_ : Array Value) (st : State) (oc : Outcome) (t : State) : Prop :=
  ∃ (v : Option Value) (q : kCs) (x : List Int) (u : List Nat), oc = .returned v ∧ q ∈ C.2.2.2.1 ∧ kst D cA tt Ty (env ++ x) (ren ++ u) (kcsT C.2.1 q) t.heap (kans v) [] ∧ kgood D cA tt Ty lo t.heap ∧ kkp D cA tt Ty C.2.2.2.2.1 st.heap t.heap ∧ kfr lo st.heap t.heap
def kMet (l : Launch) (cl : List vw_C) (aty : List FieldType) (lg nw : List Cond) (sk : kSk) (mt : List kMd) (D : va_G) (cA aS : Nat → Nat) (tt : List kT) (Ty : Nat → Nat → Prop) (lo : Nat) (X : State → Heap → Prop) (C : kCt) : Prop :=
  ∀ (y : MethodName) (b : ByteArray) (mL : Nat) (r : Option FieldType), mt[C.1]? = some (y, b, mL, r) → ∀ (env : List Int) (ren : List Nat) (vs : List Value), Met l y (Cond.code y b mL r :: lg) (krm C.2.2.2.2.2) (kPc cl aty nw sk D cA aS tt Ty lo X mL C.2.1 env ren vs) (kQc D cA tt Ty lo C env ren) 0 0 (fun q => lo ≤ q)
/-- what else is known of the heap below lo stays -/
def kXok (X : State → Heap → Prop) (lo : Nat) : Prop := (∀ (s U : State) (H H' : Heap), s.WarmedH U.vm → X s H → (∀ q, q < lo → H'[q]? = H[q]?) → X U H') ∧ ∀ (U : State) (H : Heap) (g : JFrame) (mk : MethodId) (a : Array Value), X U H → X (U.calling g mk a) H
section KINV
variable {p : Program} {l : Launch} {e : Env} {R : Room} {s : State} {m : MethodId} {args : Array Value} {below : List Frame} {meth : Method} {c : Code} {H : Heap} {locs : List Loc} {cells slots : Nat} {Q : State → Prop}
variable {cc : ByteArray} {pc : Nat} {ls : Array Slot} {rest : List Value} {cl : List vw_C} {aty : List FieldType} {nw lg : List Cond} {sk : kSk} {cA aS : Nat → Nat} {mt : List kMd} {X : State → Heap → Prop} {lo : Nat}
variable {D : va_G} {tt : List kT} {Ty : Nat → Nat → Prop} {env : List Int} {ren : List Nat} {S : kS} {lv : List (Nat × Value)} {st : List Value}
theorem ktake_ok : ∀ {n : Nat} {l acc avs ra : List kV} {st va : List Value}, ktake n l acc = some (avs, ra) → kStk env ren l st → kStk env ren acc va → ∃ front rs, st = front ++ rs ∧ kStk env ren ra rs ∧ kStk env ren avs (front.reverse ++ va) ∧ front.length = n
  | 0, l, acc, avs, ra, st, va, h, h1, h2 => by
    cases h
    exact ⟨[], st, rfl, h1, h2, rfl⟩
  | n + 1, [], acc, avs, ra, st, va, h, h1, h2 => by cases h
  | n + 1, v :: l, acc, avs, ra, [], va, h, h1, h2 => h1.elim
  | n + 1, v :: l, acc, avs, ra, x :: st, va, h, h1, h2 => by
    obtain ⟨front, rs, e1, e2, e3, e4⟩ := ktake_ok (n := n) (l := l) (acc := v :: acc) (va := x :: va) h h1.2 ⟨h1.1, h2⟩
    exact ⟨x :: front, rs, by rw [e1]; rfl, e2, by simpa using e3, by simp [e4]⟩
theorem kcsum_ok : ∀ {l : List kV} {st : List Value}, kStk env ren l st → (st.map fun v => v.category).sum = kcsum l
  | [], [], _ => rfl
  | [], _ :: _, h => h.elim
  | _ :: _, [], h => h.elim
  | v :: l, x :: st, h => by
    have h1 := kcsum_ok h.2
    simp only [List.map_cons, List.sum_cons, kcsum, h1]
    cases hb : klong v with
    | true => rw [k_cat h.1 hb]; rfl
    | false => rw [k_cat h.1 hb]; rfl
theorem k_slen : ∀ {l : List kV} {st : List Value}, kStk env ren l st → (lg_sl st).length = kcsum l
  | [], [], _ => rfl
  | [], _ :: _, h => h.elim
  | _ :: _, [], h => h.elim
  | v :: l, x :: st, h => by
    have h1 := k_slen h.2
    have e : lg_sl (x :: st) = (if x.category = 2 then [.val x, .second] else [.val x]) ++ lg_sl st := by simp [lg_sl]
    rw [e, List.length_append, h1]
    simp only [kcsum]
    cases hb : klong v with
    | true =>
      have e2 : x.category = 2 := k_cat h.1 hb
      rw [if_pos e2]
      rfl
    | false =>
      have e2 := k_cat h.1 hb
      rw [if_neg (by rw [e2]; decide)]
      rfl
theorem kwsub_ok {a b : kW} {H1 : Heap} (h : kwsub a b = true) (hk : kkp D cA tt Ty a H H1) : kkp D cA tt Ty b H H1 := by
  intro ad t T V j h1 h2 h3 h4 h5
  refine hk ad t T V j h1 h2 h3 h4 (fun w hw e => ?_)
  obtain ⟨w', g1, g2⟩ := List.any_eq_true.mp (List.all_eq_true.mp h w hw)
  cases hb : Nat.beq w.1 w'.1 with
  | false => simp [hb] at g2
  | true =>
    simp only [hb] at g2
    have e1 := Nat.beq_eq.mp hb
    obtain ⟨n1, n2⟩ := h5 w' g1 (by rw [← e1]; exact e)
    cases h6 : w'.2 with
    | none => exact absurd h6 n1
    | some i =>
      simp only [h6] at g2
      cases h7 : w.2 with
      | none => simp [h7] at g2
      | some k =>
        simp only [h7] at g2
        have e2 := Nat.beq_eq.mp g2
        subst e2
        exact ⟨by simp, fun e3 => n2 (by rw [h6]; exact e3)⟩
theorem ktry_ok {ct : List kCt} {wr : kW} {d mno : Nat} {avs ra : List kV} : ∀ {ids : List Nat} {L : List kS}, ktry tt ct wr d mno S avs ra ids = some L → ∃ (i : Nat) (C : kCt), ct[i]? = some C ∧ C.1 = mno ∧ C.2.2.2.2.2 < d ∧ kwsub C.2.2.2.2.1 wr = true ∧ kcall tt S avs ra C = some L
  | [], L, h => by cases h
  | i :: t, L, h => by
    unfold ktry at h
    split at h
    · rename_i C h1
      split at h
      · rename_i h2
        split at h
        · rename_i h3
          split at h
          · rename_i h4
            split at h
            · rename_i L' h5
              obtain rfl := Option.some.inj h
              exact ⟨i, C, h1, Nat.beq_eq.mp h2, Nat.blt_eq.mp h3, h4, h5⟩
            · exact ktry_ok h
          · exact ktry_ok h
        · exact ktry_ok h
      · exact ktry_ok h
    · exact ktry_ok h
/-- behind a call -/
theorem k_then {st0 : List Value} {Qa : State → Outcome → State → Prop} {free : Addr → Prop} (hr : va_Run p l e R s m args below meth c H locs cells slots 0 0 (F0 m pc ls st0) rest Qa free)
    (kk : ∀ (v : Option Value) (s0 t : State) (L : List Loc), s0.heap = H → Qa s0 (.returned v) t → (∀ q ∈ L, free q.base) → W p l e R s m args below meth c t.heap (locs ++ L) cells slots Q (F0 m (pc + 3) ls (v.toList ++ rest))) : W p l e R s m args below meth c H locs cells slots Q (F0 m pc ls st0) := by
  intro T hT X
  obtain ⟨v, s0, t, T', L, h0, X', hL, e1, e2, hq, st⟩ := hr T hT X
  obtain ⟨t2, a1, b1⟩ := kk v s0 t L h0 hq hL T' e1 X'
  exact ⟨t2, st t2 a1, b1⟩
/-- the words of a callee, out of the caller's -/
theorem k_callB {own : String} {index n d d' : Nat} {y : MethodName} {b : ByteArray} {mL : Nat} {r : Option FieldType} (hts : ∀ w ∈ lg, w.before args s = true) (hlg : ∀ w ∈ lg, goodWord w = true) (hR : R = krm d) (hd : d' < d) (hmL : mL ≤ 21) (h1 : Cond.code y b mL r ∈ lg) : (krm d').cells = 0 ∧ (krm d').slots = 0 ∧ (krm d').frames + 1 ≤ R.frames ∧ 8 + (mL + 11) + (krm d').locals ≤ R.locals ∧ (∀ w ∈ (Cond.code y b mL r :: lg), ∀ (a' : Array Value) (U : State), s.WarmedH U.vm → w.before a' U = true) ∧ Cond.code y b mL r ∈ (Cond.code y b mL r :: lg) := by
  subst hR
  refine ⟨rfl, rfl, ?_, ?_, pay_in hts (fun w hw => ?_), List.mem_cons_self⟩
  · show d' + 1 ≤ d
    omega
  · show 8 + (mL + 11) + 40 * d' ≤ 40 * d
    omega
  · rcases List.mem_cons.mp hw with rfl | hw
    · exact ⟨h1, good_of_word (hlg _ h1)⟩
    · exact ⟨hw, good_of_word (hlg _ hw)⟩
theorem kPc_blind {P : kS} {mL : Nat} {vs : List Value} (hn : kNest nw) (hX : kXok X lo) : FrameBlind (kPc cl aty nw sk D cA aS tt Ty lo X mL P env ren vs) := fun a U g mk h => ⟨h.1, kK_call hn h.2.1, hX.2 _ _ g mk a h.2.2.1, h.2.2.2.1, h.2.2.2.2⟩
/-- behind a call by a contract: its cases -/
theorem kcall_ok {C : kCt} {avs ra : List kV} {vs sr : List Value} {L : List kS} (hTy : kTyp tt Ty) (hG : kgood D cA tt Ty lo H) (h : kst D cA tt Ty env ren S H lv st) (ha : kStk env ren avs vs) (hr : kStk env ren ra sr) (hc : kcall tt S avs ra C = some L) :
    ∃ zs as lv', kst D cA tt Ty zs as C.2.1 H lv' [] ∧ (∀ q ∈ lv', q ∈ lv_args 0 vs) ∧ ∀ (v : Option Value) (q : kCs) (x : List Int) (u : List Nat) (H1 : Heap), q ∈ C.2.2.2.1 → kst D cA tt Ty (zs ++ x) (as ++ u) (kcsT C.2.1 q) H1 (kans v) [] → kkp D cA tt Ty C.2.2.2.2.1 H H1 → ∃ S' ∈ L, ∃ x' u', kst D cA tt Ty (env ++ x') (ren ++ u') S' H1 lv (v.toList ++ sr) := by
  unfold kcall at hc
  split at hc
  · rename_i q hq
    split at hc
    · rename_i hch
      have h1 : kst D cA tt Ty env ren (S.1, S.2.1, klocs 0 avs, [], S.2.2.2.2) H (lv_args 0 vs) [] := ⟨h.1, h.2.1, h.2.2.1, klocs_ok ha, trivial, h.2.2.2.2.2⟩
      obtain ⟨x, u, zs, as, g1, g2, g3⟩ := kbind_ok (zs := []) (as := []) (sg := []) (sr := []) hTy hG h1 trivial trivial hq
      rw [List.nil_append] at g2 g3
      obtain ⟨lv', g4, g5⟩ := kch_ok hTy g1 g2 g3 hch
      refine ⟨zs, as, lv', g4, g5, fun v p x2 u2 H1 hp hk hkk => ?_⟩
      obtain ⟨L', w1, w2⟩ := kcases_mem hc hp
      obtain ⟨S', w3, w4⟩ := kcase_ok (lo := lo) hTy g1 g2 g3 g4.1 g4.2.2.1 hkk (kLoc_ext h.2.2.2.1) (kStk_ext hr) hk w1
      exact ⟨S', w2 S' w3, x ++ x2, u ++ u2, by rw [← List.append_assoc, ← List.append_assoc]; exact w4⟩
    · cases hc
  · cases hc
end KINV
end
section
section KINV2
variable {p : Program} {l : Launch} {e : Env} {R : Room} {s : State} {m : MethodId} {args : Array Value} {below : List Frame} {meth : Method} {c : Code} {H : Heap} {locs : List Loc} {cells slots : Nat} {Q : State → Prop}
variable {cc : ByteArray} {pc : Nat} {ls : Array Slot} {rest : List Value} {cl : List vw_C} {aty : List FieldType} {nw lg : List Cond} {sk : kSk} {cA aS : Nat → Nat} {mt : List kMd} {X : State → Heap → Prop} {lo : Nat}
variable {D : va_G} {tt : List kT} {Ty : Nat → Nat → Prop} {env : List Int} {ren : List Nat} {S : kS} {lv : List (Nat × Value)} {st : List Value}
/-- a row copied -/
theorem r_copy {own : String} {index a b na nb : Nat} {ca cb : ClassId} {V V' : Nat → Value} {ty : FieldType} {sp dp n : Int32} (hexec : p.tables.exec = Jvm.exec) (hb : c.code = cc) (hml : c.maxLocals = ls.size) (hown : s.vm.findClass own = some m.cls) (hlink : (Cond.methodLink own index arraycopyName).before args s = true) (hnat : (Cond.native arraycopyName).before args s = true) (hstat : (Cond.static arraycopyName).before args s = true) (hini : (Cond.initialized "java/lang/System").before args s = true)
    (hA : ArrOfT s ca ty) (hB : ArrOfT s cb ty) (hprim : refKind ty = false) (hc0 : H[a]? = some (arrV ca na V)) (hc1 : H[b]? = some (arrV cb nb V'))
    (h1 : 0 ≤ sp.toInt) (h2 : 0 ≤ dp.toInt) (h3 : 0 ≤ n.toInt) (h4 : sp.toInt + n.toInt ≤ na) (h5 : dp.toInt + n.toInt ≤ nb) (hfit : ∀ i, i < na → fits ty (V i) = true ∧ ((∃ w, V i = .int w) ∨ ∃ w, V i = .long w))
    (hframes : 1 ≤ R.frames) (hlocals : (rest.map fun v => v.category).sum + (nativeFrameWords "java/lang/System" "arraycopy" 5 + 11) ≤ R.locals) (hdg : decode cc pc = .ok (.invokestatic index, 3))
    (kk : ∀ (H1 : Heap) (L : List Loc), H1[b]? = some (arrV cb nb (va_cpy V V' sp.toInt.toNat dp.toInt.toNat n.toInt.toNat)) → H1.size = H.size → (∀ q, q ≠ b → H1[q]? = H[q]?) → (∀ q ∈ L, q.base = b) → W p l e R s m args below meth c H1 (locs ++ L) cells slots Q (F0 m (pc + 3) ls rest)) : W p l e R s m args below meth c H locs cells slots Q (F0 m pc ls (.int n :: .int dp :: .ref b :: .int sp :: .ref a :: rest)) := by
  intro T hT X
  have c1 : ∀ z : Int32, z.toNatClampNeg = z.toInt.toNat := fun z => rfl
  have nl : ∀ z : Int32, 0 ≤ z.toInt → ¬ z < 0 := fun z hz hlt => by
    have := Int32.lt_iff_toInt_lt.mp hlt
    have e0 : (0 : Int32).toInt = 0 := rfl
    omega
  obtain ⟨-, k0, hk0, cm0, hkk0⟩ := hA na V
  obtain ⟨-, k1, hk1, cm1, hkk1⟩ := hB nb V'
  obtain ⟨vm', X', step⟩ := X.arraycopy hexec hown hlink hnat hstat hini (src := a) (dst := b) (cs := arrV ca na V) (cd := arrV cb nb V') (srcPos := sp) (destPos := dp) (n := n) (by rw [hT]; exact hc0) (by rw [hT]; exact hc1)
    (fun _ h => by cases h) (fun _ h => by cases h) (fun h => by cases h) (fun h => by cases h) hk0 hk1 hkk0 hkk1 (by simp [hprim]) (nl sp h1) (nl dp h2) (nl n h3)
    (by rw [arrV_size]; omega)
    (by rw [arrV_size]; omega)
    (fun vm₁ _ i hi => by
      rw [c1] at hi
      have hi2 : sp.toNatClampNeg + i < na := by rw [c1]; omega
      have e : (arrV ca na V).slots.getD (sp.toNatClampNeg + i) .null = V (sp.toNatClampNeg + i) := by
        rw [Array.getD_eq_getD_getElem?, arrV_read _ _ hi2]
        rfl
      obtain ⟨f1, f2⟩ := hfit _ hi2
      refine ⟨?_, ?_⟩
      · rw [e]
        exact f1
      · rw [e]
        rcases f2 with ⟨w, f2⟩ | ⟨w, f2⟩ <;> rw [f2] <;> exact trivial)
    (g := F0 m pc ls (.int n :: .int dp :: .ref b :: .int sp :: .ref a :: rest)) rfl (by rw [hml]) (rest := rest) rfl (by rw [hb]; exact hdg) hframes (by show 2 * 0 + _ + _ ≤ _; omega)
  have e1 : copied (arrV ca na V) (arrV cb nb V') sp dp n = arrV cb nb (va_cpy V V' sp.toInt.toNat dp.toInt.toNat n.toInt.toNat) := va_copied (fun z => z) ca cb V V' (sp := sp.toInt.toNat) (dp := dp.toInt.toNat) (n := n.toInt.toNat) (by omega)
  rw [e1] at X' step
  have hl : b < H.size := (Array.getElem?_eq_some_iff.mp hc1).1
  obtain ⟨t, a1, b1⟩ := kk (H.setIfInBounds b (arrV cb nb (va_cpy V V' sp.toInt.toNat dp.toInt.toNat n.toInt.toNat))) _ (by simp [Array.getElem?_setIfInBounds, hl]) (by simp) (fun q hq => by simp [Array.getElem?_setIfInBounds, Ne.symm hq]) (fun q hq => by
    obtain ⟨z, -, hz⟩ := List.mem_map.mp hq
    rw [← hz]) _ (by rw [← hT]; rfl) X'
  exact ⟨t, step t a1, b1⟩
/-- a copied row is as its type says, and only rows of that type change -/
theorem kcopy_core {a b t k : Nat} {T : kT} {V V' : Nat → Value} {sp dp n : Nat} {P : kP} {H1 : Heap} {wr : kW} (hTy : kTyp tt Ty) (hG : kgood D cA tt Ty lo H) (h : kst D cA tt Ty env ren S H lv st) (htb : Ty b t) (hT : tt[t]? = some T) (hyt : kyf t = true) (hk : Nat.blt T.1 100 = false) (hr : T.2.2.1 = [(0, 1, k, P)]) (hse : T.2.2.2 = []) (hkN : k = T.2.1) (hv : kvals Ty T V) (hv' : kvals Ty T V') (hc' : kcell D cA T b H V') (hs : sp + n ≤ T.2.1)
    (hw : ∃ w ∈ wr, w.1 = t ∧ w.2 = none) (hH : H1[b]? = some (arrV (cA (T.1 - 100)) T.2.1 (va_cpy V V' sp dp n))) (ho : ∀ q, q ≠ b → H1[q]? = H[q]?) :
    kgood D cA tt Ty lo H1 ∧ kkp D cA tt Ty wr H H1 ∧ ∀ q ∈ S.2.2.2.2.1.filter (kkeepW S [(t, none)]), kfok D cA tt Ty env ren H1 q := by
  have hcell : kcell D cA T b H1 (va_cpy V V' sp dp n) := by
    unfold kcell
    rw [hk]
    exact hH
  have hvals : kvals Ty T (va_cpy V V' sp dp n) := by
    refine ⟨fun q hq j hj => ?_, fun q hq => by rw [hse] at hq; cases hq⟩
    have hq2 := hq
    rw [hr] at hq2
    have e : q = (0, 1, k, P) := by simpa using hq2
    subst e
    have hj : j < k := hj
    show kpok Ty P (va_cpy V V' sp dp n (0 + 1 * j))
    rw [Nat.zero_add, Nat.one_mul]
    unfold va_cpy
    split
    · have := hv.1 _ hq (sp + (j - dp)) (show sp + (j - dp) < k by omega)
      have this : kpok Ty P (V (0 + 1 * (sp + (j - dp)))) := this
      rwa [Nat.zero_add, Nat.one_mul] at this
    · have := hv'.1 _ hq j hj
      have this : kpok Ty P (V' (0 + 1 * j)) := this
      rwa [Nat.zero_add, Nat.one_mul] at this
  have hkp : ∀ w0 : kW, (∃ w ∈ w0, w.1 = t ∧ w.2 = none) → kkp D cA tt Ty w0 H H1 := by
    intro w0 hw0 a' t' T' W' j ht' hT' hc2 hj hno
    by_cases e : a' = b
    · subst e
      have et := kTyp_eq hTy ht' htb hT' hT
      subst et
      obtain ⟨w, g1, g2, g3⟩ := hw0
      exact absurd g3 (hno w g1 g2).1
    · exact ⟨W', kcell_kept hc2 (ho a' e), rfl⟩
  refine ⟨⟨fun a' t' T' ht' hT' => ?_, kY_kept hTy hG.2 htb hT hyt ho⟩, hkp wr hw, fun q hq => ?_⟩
  · by_cases e : a' = b
    · subst e
      have et := kTyp_eq hTy ht' htb hT' hT
      subst et
      have eT : T' = T := Option.some.inj (hT'.symm.trans hT)
      subst eT
      exact ⟨(hG.1 a' t' T' ht' hT').1, _, hcell, hvals⟩
    · obtain ⟨g1, W', g2, g3⟩ := hG.1 a' t' T' ht' hT'
      exact ⟨g1, W', kcell_kept g2 (ho a' e), g3⟩
  · obtain ⟨q1, q2⟩ := List.mem_filter.mp hq
    exact kkeepW_ok (lo := lo) hTy h (hkp [(t, none)] ⟨(t, none), List.mem_cons_self, rfl, rfl⟩) (h.2.2.2.2.2 q q1) q2
theorem k_nat : nativeFrameWords "java/lang/System" "arraycopy" 5 + 11 ≤ 32 := by decide +kernel
end KINV2
end
section
section KINV3
variable {p : Program} {l : Launch} {e : Env} {R : Room} {s : State} {m : MethodId} {args : Array Value} {below : List Frame} {meth : Method} {c : Code} {H : Heap} {locs : List Loc} {cells slots : Nat} {Q : State → Prop}
variable {cc : ByteArray} {pc : Nat} {ls : Array Slot} {rest : List Value} {cl : List vw_C} {aty : List FieldType} {nw lg : List Cond} {sk : kSk} {cA aS : Nat → Nat} {mt : List kMd} {X : State → Heap → Prop} {lo : Nat}
variable {D : va_G} {tt : List kT} {Ty : Nat → Nat → Prop} {env : List Int} {ren : List Nat} {S : kS} {lv : List (Nat × Value)} {st : List Value}
theorem kcpT_ok {T : kT} (h : kcpT aty T = true) : ∃ ty k P, aty[T.1 - 100]? = some ty ∧ T.2.2.1 = [(0, 1, k, P)] ∧ T.2.2.2 = [] ∧ k = T.2.1 ∧ refKind ty = false ∧ ∀ v, kpok Ty P v → fits ty v = true ∧ ((∃ w, v = .int w) ∨ ∃ w, v = .long w) := by
  unfold kcpT at h
  split at h
  · rename_i k q h1 h2 h3
    exact ⟨.int, k, .inl q, h3, h1, h2, Nat.beq_eq.mp h, rfl, fun v hv => by
      obtain ⟨n, rfl, -⟩ := hv
      exact ⟨rfl, Or.inl ⟨n, rfl⟩⟩⟩
  · rename_i k q h1 h2 h3
    exact ⟨.long, k, .inr (.inl q), h3, h1, h2, Nat.beq_eq.mp h, rfl, fun v hv => by
      obtain ⟨n, rfl, -⟩ := hv
      exact ⟨rfl, Or.inr ⟨n, rfl⟩⟩⟩
  · rename_i k q h1 h2 h3
    split at h
    · rename_i hk
      refine ⟨.boolean, k, .inl q, h3, h1, h2, Nat.beq_eq.mp hk, rfl, fun v hv => ?_⟩
      obtain ⟨n, rfl, r, hr, b1, b2⟩ := hv
      refine ⟨?_, Or.inl ⟨n, rfl⟩⟩
      have hr2 := List.all_eq_true.mp h r hr
      simp only [Bool.and_eq_true] at hr2
      have hb : 0 ≤ r.1 ∧ r.2 ≤ 1 := by
        have h5 := hr2.2
        split at h5
        · rename_i e1
          split at h5
          · rename_i e2; rw [e1, e2]; exact ⟨by decide, by decide⟩
          · rename_i e2; rw [e1, e2]; exact ⟨by decide, by decide⟩
          · cases h5
        · rename_i e1
          split at h5
          · rename_i e2; rw [e1, e2]; exact ⟨by decide, by decide⟩
          · cases h5
        · cases h5
      have hn : n.toInt = 0 ∨ n.toInt = 1 := by omega
      have : n = 0 ∨ n = 1 := by
        rcases hn with e | e
        · exact Or.inl (Int32.toInt_inj.mp e)
        · exact Or.inr (Int32.toInt_inj.mp e)
      show (n == 0 || n == 1) = true
      rcases this with rfl | rfl <;> rfl
    · cases h
  · cases h
set_option maxHeartbeats 4000000 in
theorem kcopy_ok {own : String} {index d nL : Nat} {wr : kW} {L : List kS} (hexec : p.tables.exec = Jvm.exec) (hb : c.code = cc) (hml : c.maxLocals = nL) (hR : R = krm d) (hown : s.vm.findClass own = some m.cls) (hts : ∀ w ∈ lg, w.before args s = true) (how : Cond.methodLink own index arraycopyName ∈ lg ∧ Cond.native arraycopyName ∈ lg ∧ Cond.static arraycopyName ∈ lg ∧ Cond.initialized "java/lang/System" ∈ lg) (hK : kK cl aty nw sk D cA aS s) (hTy : kTyp tt Ty) (hG : kgood D cA tt Ty lo H)
    (h : kst D cA tt Ty env ren S H lv st) (hlv : lv_has ls nL lv) (hd : decode cc pc = .ok (.invokestatic index, 3)) (hs : kcopy tt aty wr d S = some L)
    (kk : ∀ S' ∈ L, ∀ x u st' H' L', kgood D cA tt Ty lo H' → kfr lo H H' → kkp D cA tt Ty wr H H' → (∀ q ∈ L', lo ≤ q.base) → kst D cA tt Ty (env ++ x) (ren ++ u) S' H' lv st' → W p l e R s m args below meth c H' (locs ++ L') cells slots Q (F0 m (pc + 3) ls st')) : W p l e R s m args below meth c H locs cells slots Q (F0 m pc ls st) := by
  have hk := h.2.2.2.2.1
  unfold kcopy at hs
  split at hs
  · rename_i n dp b sp a sa h1
    rw [h1] at hk
    match st, hk with
    | x1 :: x2 :: x3 :: x4 :: x5 :: sc, hk =>
      obtain ⟨⟨n', rfl, en⟩, ⟨dp', rfl, ed⟩, ⟨b', rfl, eb⟩, ⟨sp', rfl, es⟩, ⟨a', rfl, ea⟩, hk2⟩ := hk
      split at hs
      · rename_i t t2 h2 h3
        split at hs
        · rename_i h4
          have e4 := Nat.beq_eq.mp h4
          subst e4
          split at hs
          · rename_i T h5
            split at hs
            · rename_i h6
              split at hs
              · rename_i h70
                have h71 : kcpT aty T = true ∧ kyf t = true := by
                  cases g1 : kcpT aty T with
                  | false => simp [g1] at h70
                  | true =>
                    simp only [g1] at h70
                    exact ⟨rfl, h70⟩
                obtain ⟨h7, h7y⟩ := h71
                split at hs
                · rename_i h8
                  split at hs
                  · rename_i h9
                    split at hs
                    · rename_i h10
                      split at hs
                      · rename_i h11
                        split at hs
                        · rename_i h12
                          split at hs
                          · rename_i h13
                            split at hs
                            · rename_i h14
                              split at hs
                              · rename_i h15
                                obtain rfl := Option.some.inj hs
                                have hta := h.2.2.1.2 a t a' h2 ea
                                have htb := h.2.2.1.2 b t b' h3 eb
                                obtain ⟨la, V, hca, hva⟩ := hG.1 a' t T hta h5
                                obtain ⟨lb, V', hcb, hvb⟩ := hG.1 b' t T htb h5
                                obtain ⟨ty, k, P, c1, c2, c3, c4, c5, c6⟩ := kcpT_ok (Ty := Ty) h7
                                have z1 := kgeS_ok h en h8
                                have z2 := kgeS_ok h es h9
                                have z3 := kgeS_ok h ed h10
                                have z4 := kgeS_ok h (ksub_ev (ksub_ev (kcst_ev (n := Int.ofNat T.2.1)) es) en) h11
                                have z5 := kgeS_ok h (ksub_ev (ksub_ev (kcst_ev (n := Int.ofNat T.2.1)) ed) en) h12
                                have z4 : 0 ≤ (T.2.1 : Int) - sp'.toInt - n'.toInt := z4
                                have z5 : 0 ≤ (T.2.1 : Int) - dp'.toInt - n'.toInt := z5
                                have hca2 := hca
                                have hcb2 := hcb
                                unfold kcell at hca2 hcb2
                                rw [h6] at hca2 hcb2
                                have hA := hK.2.1 _ _ c1
                                subst hR
                                have d0 : 0 < d := Nat.blt_eq.mp h14
                                refine r_copy (a := a') (b := b') hexec hb (by rw [hml]; exact hlv.1.symm) hown (hts _ how.1) (hts _ how.2.1) (hts _ how.2.2.1) (hts _ how.2.2.2) hA hA c5 hca2 hcb2 z2 z3 z1 (by omega) (by omega) (fun i hi => c6 _ (by
                                  have hq := hva.1 (0, 1, k, P) (by rw [c2]; exact List.mem_cons_self) i (show i < k by omega)
                                  have hq : kpok Ty P (V (0 + 1 * i)) := hq
                                  rwa [Nat.zero_add, Nat.one_mul] at hq)) (show 1 ≤ d by omega) (by
                                  rw [kcsum_ok hk2]
                                  have := Nat.le_of_ble_eq_true h15
                                  have := k_nat
                                  show _ ≤ 40 * d
                                  omega) hd (fun H1 L w1 w2 w3 w4 => ?_)
                                have hw : ∃ w ∈ wr, w.1 = t ∧ w.2 = none := by
                                  obtain ⟨w, g1, g2⟩ := List.any_eq_true.mp h13
                                  cases hb2 : Nat.beq w.1 t with
                                  | false => simp [hb2] at g2
                                  | true =>
                                    cases hb3 : w.2 with
                                    | some j => simp [hb2, hb3] at g2
                                    | none => exact ⟨w, g1, Nat.beq_eq.mp hb2, hb3⟩
                                obtain ⟨g1, g2, g3⟩ := kcopy_core (a := a') hTy hG h htb h5 h7y h6 c2 c3 c4 hva hvb hcb (by omega) hw w1 w3
                                exact kk _ List.mem_cons_self [] [] _ H1 L g1 ⟨w2, fun q hq => w3 q (fun e => by subst e; omega)⟩ g2 (fun q hq => by rw [w4 q hq]; exact lb) (by
                                  rw [List.append_nil, List.append_nil]
                                  exact ⟨h.1, h.2.1, h.2.2.1, h.2.2.2.1, hk2, g3⟩)
                              · cases hs
                            · cases hs
                          · cases hs
                        · cases hs
                      · cases hs
                    · cases hs
                  · cases hs
                · cases hs
              · cases hs
            · cases hs
          · cases hs
        · cases hs
      · cases hs
    | [], hk => exact hk.elim
    | [_], hk => exact hk.2.elim
    | [_, _], hk => exact hk.2.2.elim
    | [_, _, _], hk => exact hk.2.2.2.elim
    | [_, _, _, _], hk => exact hk.2.2.2.2.elim
  · cases hs
set_option maxHeartbeats 4000000 in
theorem kinv_ok {own : String} {ow : kOw} {cal : List (Nat × List Nat)} {ct : List kCt} {d nL : Nat} {wr : kW} {ins : Instr} {L : List kS} (hexec : p.tables.exec = Jvm.exec) (hb : c.code = cc) (hml : c.maxLocals = nL) (hR : R = krm d) (hc0 : cells = 0 ∧ slots = 0) (hown : s.vm.findClass own = some m.cls) (hts : ∀ w ∈ lg, w.before args s = true) (hlg : ∀ w ∈ lg, goodWord w = true) (how : kOwM own ow cl mt lg nw) (hK : kK cl aty nw sk D cA aS s) (hn : kNest nw) (hX : kXok X lo) (hXs : X s s.heap) (hTy : kTyp tt Ty) (hG : kgood D cA tt Ty lo H) (hfr : kfr lo s.heap H)
    (hM : ∀ (i : Nat) (C : kCt), ct[i]? = some C → C.2.2.2.2.2 < d → kMet l cl aty lg nw sk mt D cA aS tt Ty lo X C)
    (h : kst D cA tt Ty env ren S H lv st) (hlv : lv_has ls nL lv) (hd : decode cc pc = .ok (ins, kln ins)) (hs : kinv tt aty ct ow cal wr d pc ins S = some L)
    (kk : ∀ S' ∈ L, ∀ x u st' H' L', kgood D cA tt Ty lo H' → kfr lo H H' → kkp D cA tt Ty wr H H' → (∀ q ∈ L', lo ≤ q.base) → kst D cA tt Ty (env ++ x) (ren ++ u) S' H' lv st' → W p l e R s m args below meth c H' (locs ++ L') cells slots Q (F0 m (pc + kln ins) ls st')) : W p l e R s m args below meth c H locs cells slots Q (F0 m pc ls st) := by
  have hk := h.2.2.2.2.1
  obtain ⟨rfl, rfl⟩ := hc0
  unfold kinv at hs
  split at hs
  -- virtual
  · rename_i idx
    split at hs
    · rename_i q ids h1 h2
      split at hs
      · rename_i r avs ra h3
        split at hs
        · rename_i t h4
          split at hs
          · rename_i T h5
            split at hs
            · rename_i h6
              split at hs
              · rename_i h7
                split at hs
                · rename_i h8
                  split at hs
                  case h_2 => cases hs
                  rename_i h9
                  obtain ⟨i, C, g1, g2, g3, g4, g5⟩ := ktry_ok hs
                  have hq := how _ (kfnd_mem h1)
                  have e6 := Nat.beq_eq.mp h6
                  have l7 : T.1 < 100 := Nat.blt_eq.mp h7
                  have hne : Nat.beq q.2.2.1 102 = false := by
                    cases hb2 : Nat.beq q.2.2.1 102 with
                    | false => rfl
                    | true =>
                      have := Nat.beq_eq.mp hb2
                      omega
                  simp only [hne] at hq
                  obtain ⟨y, b, mL, rt, m1, m2, m3, m4, m5, m6, m8, m7, -⟩ := hq
                  obtain ⟨w1, w2, w3, Tf, N, w4⟩ := m7 (by rw [← e6]; exact l7)
                  obtain ⟨front, rs, f1, f2, f3, f4⟩ := ktake_ok (va := []) h3 hk trivial
                  rw [List.append_nil] at f3
                  cases hfv : front.reverse with
                  | nil => rw [hfv] at f3; exact f3.elim
                  | cons x0 As =>
                    rw [hfv] at f3
                    obtain ⟨⟨a, ea1, ea2⟩, f5⟩ := id f3
                    subst ea1
                    have hfr2 : front = As.reverse ++ [.ref a] := by
                      rw [← List.reverse_reverse front, hfv]
                      simp
                    have hlen : As.length = q.2.1 := by
                      have := congrArg List.length hfv
                      simp at this
                      omega
                    obtain ⟨zs, as, lv', c1, c2, c3⟩ := kcall_ok hTy hG h f3 f2 g5
                    have hta := h.2.2.1.2 r t a h4 ea2
                    obtain ⟨la, V, hca, hva⟩ := hG.1 a t T hta h5
                    unfold kcell at hca
                    rw [h7] at hca
                    obtain ⟨cell, p1, p2, p3, -⟩ := hca
                    have hMC := hM i C g1 g3 y b mL rt (by rw [g2]; exact m1) zs as (Value.ref a :: As)
                    obtain ⟨b1, b2, b3, b4, b5, b6⟩ := k_callB (R := R) (own := own) (index := idx) (n := q.2.1) (d' := C.2.2.2.2.2) hts hlg hR g3 m6 m2
                    have hcls : s.vm.findClass y.cls = some cell.cls := by
                      obtain ⟨-, hfc, -⟩ := hK.1 q.2.2.1 _ w4
                      rw [p2, e6]
                      exact hfc
                    have hsl : (lg_sl (Value.ref a :: As)).length ≤ mL := by
                      rw [k_slen f3]
                      have g9 : 1 + kcsum avs ≤ q.2.2.2 := Nat.le_of_ble_eq_true h9
                      show 1 + kcsum avs ≤ mL
                      omega
                    have hrun := va_runV (cells := 0) (slots := 0) (locs := locs) (below := below) (e := e) (meth := meth) (H := H) (b := a) (As := As) (rest := rs) (C := y.cls) (g := F0 m pc ls st) ⟨hexec, hb, hml, hown, hts⟩ hMC ⟨⟨b1, b2, b3, b4, b5, b6, hts _ m2, hts _ m3, m5, fun sig hsig => by rw [hsig] at m4; exact (Option.some.inj m4).symm, hts _ w1⟩, hts _ w2, hts _ w3⟩
                      ⟨kPc_blind hn hX, ⟨cell, p1, by rw [p3]; rfl, hcls⟩, fun U hU hW => ⟨⟨rfl, hsl⟩, kK_warm hn hW hK, by rw [hU]; exact hX.1 s U s.heap H hW hXs hfr.2, by rw [hU]; exact hG, lv', by rw [hU]; exact c1, c2⟩⟩
                      rfl hlen hlv.1 (by show st = _; rw [f1, hfr2]; simp) (by
                        show 2 * 0 + _ ≤ 8
                        rw [kcsum_ok f2]
                        have := Nat.le_of_ble_eq_true h8
                        omega) hd ⟨by omega, by omega⟩
                    refine k_then hrun (fun v s0 t2 L2 hs0 hQ hL2 => ?_)
                    obtain ⟨v', q', x, u, ov, q1, q2, q3, q4, q5⟩ := hQ
                    cases ov
                    rw [hs0] at q4 q5
                    obtain ⟨S', r1, x', u', r2⟩ := c3 v q' x u t2.heap q1 q2 q4
                    exact kk S' r1 x' u' _ t2.heap L2 q3 q5 (kwsub_ok g4 q4) hL2 r2
                · cases hs
              · cases hs
            · cases hs
          · cases hs
        · cases hs
      · cases hs
    · cases hs
  -- static
  · rename_i idx
    split at hs
    · rename_i q h1
      have hq := how _ (kfnd_mem h1)
      split at hs
      · rename_i h2
        simp only [h2] at hq
        exact kcopy_ok hexec hb hml hR hown hts hq hK hTy hG h hlv hd hs kk
      · rename_i h2
        simp only [h2] at hq
        split at hs
        · rename_i ids h3
          split at hs
          · rename_i h4
            split at hs
            · rename_i avs ra h5
              split at hs
              · rename_i h8
                split at hs
                case h_2 => cases hs
                rename_i h9
                obtain ⟨i, C, g1, g2, g3, g4, g5⟩ := ktry_ok hs
                obtain ⟨y, b, mL, rt, m1, m2, m3, m4, m5, m6, m8, -, m7⟩ := hq
                obtain ⟨w1, w2⟩ := m7 (Nat.le_of_ble_eq_true h4)
                obtain ⟨front, rs, f1, f2, f3, f4⟩ := ktake_ok (va := []) h5 hk trivial
                rw [List.append_nil] at f3
                obtain ⟨zs, as, lv', c1, c2, c3⟩ := kcall_ok hTy hG h f3 f2 g5
                have hMC := hM i C g1 g3 y b mL rt (by rw [g2]; exact m1) zs as front.reverse
                obtain ⟨b1, b2, b3, b4, b5, b6⟩ := k_callB (R := R) (own := own) (index := idx) (n := q.2.1) (d' := C.2.2.2.2.2) hts hlg hR g3 m6 m2
                have hsl : (lg_sl front.reverse).length ≤ mL := by
                  rw [k_slen f3]
                  have g9 : kcsum avs ≤ q.2.2.2 := Nat.le_of_ble_eq_true h9
                  omega
                have hpre : PreS s H (kPc cl aty nw sk D cA aS tt Ty lo X mL C.2.1 zs as front.reverse) front.reverse := ⟨kPc_blind hn hX, fun U hU hW => ⟨⟨rfl, hsl⟩, kK_warm hn hW hK, by rw [hU]; exact hX.1 s U s.heap H hW hXs hfr.2, by rw [hU]; exact hG, lv', by rw [hU]; exact c1, c2⟩⟩
                have hstk : (F0 m pc ls st).stack = front.reverse.reverse ++ rs := by show st = _; rw [f1]; simp
                have hsum : 2 * (F0 m pc ls st).monitorRoom + (rs.map fun v => v.category).sum ≤ 8 := by
                  show 2 * 0 + _ ≤ 8
                  rw [kcsum_ok f2]
                  have := Nat.le_of_ble_eq_true h8
                  omega
                have hpar : ∀ sig, parseMethodDescriptor y.desc = some sig → q.2.1 = sig.parameters.length := fun sig hsig => by rw [hsig] at m4; exact (Option.some.inj m4).symm
                have hrun : va_Run p l e R s m args below meth c H locs 0 0 0 0 (F0 m pc ls st) rs (kQc D cA tt Ty lo C zs as front.reverse.toArray) (fun q => lo ≤ q) := by
                  rcases w2 with w2 | ⟨host, w2⟩
                  · exact va_runS (nL := nL) (n := q.2.1) ⟨hexec, hb, hml, hown, hts⟩ hMC ⟨⟨b1, b2, b3, b4, b5, b6, hts _ m2, hts _ m3, m5, hpar, hts _ w2⟩, hts _ w1⟩ hpre rfl (by simp [f4]) hlv.1 hstk hsum hd ⟨by omega, by omega⟩
                  · exact va_runSN (nL := nL) (n := q.2.1) (host := host) ⟨hexec, hb, hml, hown, hts⟩ hMC ⟨⟨⟨b1, b2, b3, b4, b5, b6⟩, hts _ m2, hts _ m3, m5, hpar, va_Nw.use rfl (hK.2.2.1 _ w2)⟩, hts _ w1, trivial⟩ hpre rfl (by simp [f4]) hlv.1 hstk hsum hd ⟨by omega, by omega⟩
                refine k_then hrun (fun v s0 t2 L2 hs0 hQ hL2 => ?_)
                obtain ⟨v', q', x, u, ov, q1, q2, q3, q4, q5⟩ := hQ
                cases ov
                rw [hs0] at q4 q5
                obtain ⟨S', r1, x', u', r2⟩ := c3 v q' x u t2.heap q1 q2 q4
                exact kk S' r1 x' u' _ t2.heap L2 q3 q5 (kwsub_ok g4 q4) hL2 r2
              · cases hs
            · cases hs
          · cases hs
        · cases hs
    · cases hs
  · cases hs
end KINV3
end
section
/-! THE WALK OF A BODY -/
abbrev kCd : Type := List (Nat × Instr × Nat)
abbrev kCut : Type := Nat × kTm × kL
def kdrop (pc : Nat) : kCd → Option kCd
  | [] => none
  | q :: t => match Nat.beq q.1 pc with
    | true => some (q :: t)
    | false => kdrop pc t
def knext (code tl : kCd) (pc : Nat) : Option kCd := match tl with
  | q :: t => match Nat.beq q.1 pc with
    | true => some (q :: t)
    | false => kdrop pc code
  | [] => kdrop pc code
theorem kdrop_ok {pc : Nat} : ∀ {l r : kCd}, kdrop pc l = some r → (∀ q ∈ r, q ∈ l) ∧ ∃ ins len t, r = (pc, ins, len) :: t
  | [], r, h => by cases h
  | q :: t, r, h => by
    unfold kdrop at h
    cases hb : Nat.beq q.1 pc with
    | true =>
      simp only [hb] at h
      obtain rfl := Option.some.inj h
      have e := Nat.beq_eq.mp hb
      subst e
      exact ⟨fun _ h => h, q.2.1, q.2.2, t, rfl⟩
    | false =>
      simp only [hb] at h
      obtain ⟨h1, h2⟩ := kdrop_ok h
      exact ⟨fun p hp => List.mem_cons_of_mem _ (h1 p hp), h2⟩
theorem knext_ok {code tl r : kCd} {pc : Nat} (h : knext code tl pc = some r) (ht : ∀ q ∈ tl, q ∈ code) : (∀ q ∈ r, q ∈ code) ∧ ∃ ins len t, r = (pc, ins, len) :: t := by
  unfold knext at h
  split at h
  · rename_i q t
    split at h
    · rename_i hb
      obtain rfl := Option.some.inj h
      have e := Nat.beq_eq.mp hb
      subst e
      exact ⟨ht, q.2.1, q.2.2, t, rfl⟩
    · exact kdrop_ok h
  · exact kdrop_ok h
/-- at a cut: the state is as the template says, and the rank has fallen -/
def kcut (tt : List kT) (P : kS) (S : kS) (rb : Option kL) (T : kTm) (rk : kL) : Bool := match kbind tt T.2 S (ksyms 0 P.1) (krefs 0 P.2.1) with
  | some q => match kch q.1 q.2.1 q.2.2 T.1 with
    | true => match ksubst q.2.1 rk with
      | some g => match kgeS q.1 g with
        | true => match rb with
          | none => true
          | some f => kgeS q.1 (kofs (ksub f g) (-1))
        | false => false
      | none => false
    | false => false
  | none => false
/-- at a return: one of the cases holds -/
def kret1 (tt : List kT) (P : kS) (S : kS) (v : List (Nat × kV)) (q : kCs) : Bool := match kbind tt q.2.2.2.2.2 (S.1, S.2.1, v, [], S.2.2.2.2) (ksyms 0 P.1) (krefs 0 P.2.1) with
  | some r => kch r.1 r.2.1 r.2.2 (kcsT P q)
  | none => false
def kret (tt : List kT) (P : kS) (cs : List kCs) (rt : Option FieldType) (ins : Instr) (S : kS) : Bool := match ins, rt, S.2.2.2.1 with
  | .ireturn, some ty, [.inl f] => match kfixA S ty (.inl f) with
    | true => cs.any (fun q => match q.2.2.1 with
      | some _ => kret1 tt P S [(0, .inl f)] q
      | none => false)
    | false => false
  | .lreturn, some .long, [v] => match klong v with
    | true => cs.any (fun q => match q.2.2.1 with
      | some _ => kret1 tt P S [(0, v)] q
      | none => false)
    | false => false
  | .return_, none, [] => cs.any (kret1 tt P S [])
  | _, _, _ => false
def kgrp (ins : Instr) : Nat := match ins with
  | .goto _ => 1
  | .ifCond _ _ => 1
  | .if_icmp _ _ => 1
  | .tableswitch _ _ _ _ => 1
  | .getfield _ => 2
  | .putfield _ => 2
  | .iaload => 2
  | .baload => 2
  | .laload => 2
  | .aaload => 2
  | .iastore => 2
  | .bastore => 2
  | .lastore => 2
  | .invokevirtual _ => 3
  | .invokestatic _ => 3
  | .ireturn => 4
  | .lreturn => 4
  | .return_ => 4
  | _ => 0
def kistab (ins : Instr) : Bool := match ins with
  | .tableswitch _ _ _ _ => true
  | _ => false
def kgo (k : kCd → kS → Bool) (code tl : kCd) (pc : Nat) (S : kS) : Bool := match knext code tl pc with
  | some c => k c S
  | none => false
/-- what a body's walk needs: types of cells, of arrays, contracts, the pool, how many locals, what is wanted, the cases, the answer's type, what may be written, the depth -/
abbrev kEn : Type := List kT × List FieldType × List kCt × kOw × Nat × kS × List kCs × Option FieldType × kW × Nat
/-- the code, which contracts are called where, where is split, the cuts -/
abbrev kBd : Type := kCd × List (Nat × List Nat) × List (Nat × Nat × List Int) × List kCut
def kdo (E : kEn) (B : kBd) (k : kCd → kS → Bool) (q : Nat × Instr × Nat) (tl : kCd) (S : kS) : Bool := match kgrp q.2.1 with
  | 0 => match Nat.beq q.2.2 (kln q.2.1) with
    | true => match kstep1 E.2.2.2.1 E.2.2.2.2.1 q.2.1 S with
      | some S' => kgo k B.1 tl (q.1 + q.2.2) S'
      | none => false
    | false => false
  | 1 => match (match kistab q.2.1 with
      | true => true
      | false => Nat.beq q.2.2 3) with
    | true => match kbr q.1 q.2.1 S with
      | some L => L.all (fun w => kgo k B.1 tl w.1 w.2)
      | none => false
    | false => false
  | 2 => match Nat.beq q.2.2 (kln q.2.1) with
    | true => match kmemi E.1 E.2.1 E.2.2.2.1 E.2.2.2.2.2.2.2.2.1 q.2.1 S with
      | some L => L.all (fun S' => kgo k B.1 tl (q.1 + q.2.2) S')
      | none => false
    | false => false
  | 3 => match Nat.beq q.2.2 (kln q.2.1) with
    | true => match kinv E.1 E.2.1 E.2.2.1 E.2.2.2.1 B.2.1 E.2.2.2.2.2.2.2.2.1 E.2.2.2.2.2.2.2.2.2 q.1 q.2.1 S with
      | some L => L.all (fun S' => kgo k B.1 tl (q.1 + q.2.2) S')
      | none => false
    | false => false
  | _ => match Nat.beq q.2.2 1 with
    | true => kret E.1 E.2.2.2.2.2.1 E.2.2.2.2.2.2.1 E.2.2.2.2.2.2.2.1 q.2.1 S
    | false => false
def ksplit (f : kL) : List Int → kS → List kS
  | [], S => [S]
  | t :: ts, S => (match kasmS S (ksub (kcst t) f) with
    | some S1 => [S1]
    | none => []) ++ (match kasmS S (kofs f (-(t + 1))) with
    | some S2 => ksplit f ts S2
    | none => [])
def kexec (E : kEn) (B : kBd) (rb : Option kL) : Nat → Bool → kCd → kS → Bool
  | 0, _, _, _ => false
  | n + 1, b, cur, S => match cur with
    | [] => false
    | q :: tl => match (match b with
        | true => B.2.2.2.any (fun c => Nat.beq c.1 q.1)
        | false => false) with
      | true => B.2.2.2.any (fun c => match Nat.beq c.1 q.1 with
        | true => kcut E.1 E.2.2.2.2.2.1 S rb c.2.1 c.2.2
        | false => false)
      | false => match kfnd B.2.2.1 q.1 with
        | some w => match klocv S.2.2.1 w.1 with
          | some (.inl f) => (ksplit f w.2 S).all (fun S' => kdo E B (kexec E B rb n true) q tl S')
          | _ => false
        | none => kdo E B (kexec E B rb n true) q tl S
/-- a body is as its contract says: from its start, and from every cut -/
def kbody (E : kEn) (B : kBd) (n : Nat) : Bool := match kexec E B none n false B.1 E.2.2.2.2.2.1 with
  | true => B.2.2.2.all (fun c => match kdrop c.1 B.1 with
    | some cur => kexec E B (some c.2.2) n false cur c.2.1.1
    | none => false)
  | false => false
section KEX
variable {D : va_G} {cA : Nat → Nat} {tt : List kT} {Ty : Nat → Nat → Prop} {env : List Int} {ren : List Nat} {S : kS} {H : Heap} {lv : List (Nat × Value)} {st : List Value}
theorem ksplit_ok {f : kL} {z : Int} : ∀ {ts : List Int} {S : kS}, kst D cA tt Ty env ren S H lv st → kev env f = some z → ∃ S' ∈ ksplit f ts S, kst D cA tt Ty env ren S' H lv st
  | [], S, h, _ => ⟨S, List.mem_cons_self, h⟩
  | t :: ts, S, h, hf => by
    unfold ksplit
    by_cases hz : z ≤ t
    · obtain ⟨S1, g1, g2⟩ := kasmS_ok h (ksub_ev (kcst_ev (n := t)) hf) (by omega)
      rw [g1]
      exact ⟨S1, List.mem_append_left _ List.mem_cons_self, g2⟩
    · obtain ⟨S1, g1, g2⟩ := kasmS_ok h (kofs_ev (n := -(t + 1)) hf) (by omega)
      obtain ⟨S', g3, g4⟩ := ksplit_ok (ts := ts) g2 hf
      rw [g1]
      exact ⟨S', List.mem_append_right _ g3, g4⟩
/-- the contract's own symbols stand first -/
theorem ksyms_pre {q : kQ} {zs x : List Int} (h : q.length = zs.length) : kSg (zs ++ x) (ksyms 0 q) zs := by
  have := ksyms_ok (q := q) (e := zs) (pre := []) (l := []) (m := []) h trivial
  simp only [List.nil_append, List.length_nil] at this
  exact kSg_ext this
theorem krefs_pre {q : List Nat} {zs x : List Nat} (h : q.length = zs.length) : kSr (zs ++ x) (krefs 0 q) zs := by
  have := krefs_ok (q := q) (e := zs) (pre := []) (l := []) (m := []) h trivial
  simp only [List.nil_append, List.length_nil] at this
  exact kSr_ext this
end KEX
end
section
def kEof (tt : List kT) (aty : List FieldType) (ct : List kCt) (ow : kOw) (nL : Nat) (rt : Option FieldType) (C : kCt) : kEn := (tt, aty, ct, ow, nL, C.2.1, C.2.2.2.1, rt, C.2.2.2.2.1, C.2.2.2.2.2)
/-- all that a body's walk rests on -/
def kRest (l : Launch) (cl : List vw_C) (aty : List FieldType) (lg nw : List Cond) (sk : kSk) (mt : List kMd) (D : va_G) (cA aS : Nat → Nat) (tt : List kT) (Ty : Nat → Nat → Prop) (lo : Nat) (X : State → Heap → Prop) (ct : List kCt) (own : String) (ow : kOw) (d : Nat) : Prop :=
  (∀ w ∈ lg, goodWord w = true) ∧ kOwC own ow lg sk ∧ kOwF own ow cl lg ∧ kOwM own ow cl mt lg nw ∧ kclok cl lg ∧ ktok tt cl ∧ kNest nw ∧ kXok X lo ∧ kTyp tt Ty ∧ (∀ (j : Nat) (q : String × Nat × String), sk[j]? = some q → Ty (aS j) (ksn j)) ∧ ∀ (i : Nat) (C : kCt), ct[i]? = some C → C.2.2.2.2.2 < d → kMet l cl aty lg nw sk mt D cA aS tt Ty lo X C
section KXO
variable {p : Program} {l : Launch} {e : Env} {s : State} {m : MethodId} {args : Array Value} {below : List Frame} {meth : Method} {c : Code} {H : Heap} {locs : List Loc}
variable {cc : ByteArray} {ls : Array Slot} {cl : List vw_C} {aty : List FieldType} {nw lg : List Cond} {sk : kSk} {cA aS : Nat → Nat} {mt : List kMd} {X : State → Heap → Prop} {lo : Nat}
variable {D : va_G} {tt : List kT} {Ty : Nat → Nat → Prop} {zs : List Int} {as : List Nat} {S : kS} {lv : List (Nat × Value)} {st : List Value} {ct : List kCt} {own : String} {ow : kOw} {nL : Nat} {rt : Option FieldType} {C : kCt} {B : kBd}
/-- how far the heap may have moved since the method began -/
def kmov (D : va_G) (cA : Nat → Nat) (tt : List kT) (Ty : Nat → Nat → Prop) (lo : Nat) (wr : kW) (H0 H : Heap) (locs : List Loc) : Prop := kgood D cA tt Ty lo H ∧ kfr lo H0 H ∧ kkp D cA tt Ty wr H0 H ∧ ∀ q ∈ locs, lo ≤ q.base
theorem kmov_step {wr : kW} {H0 H1 : Heap} {L : List Loc} (h : kmov D cA tt Ty lo wr H0 H locs) (h1 : kgood D cA tt Ty lo H1) (h2 : kfr lo H H1) (h3 : kkp D cA tt Ty wr H H1) (h4 : ∀ q ∈ L, lo ≤ q.base) : kmov D cA tt Ty lo wr H0 H1 (locs ++ L) :=
  ⟨h1, kfr_trans h.2.1 h2, kkp_trans h.2.2.1 h3, fun q hq => by
    rcases List.mem_append.mp hq with g | g
    · exact h.2.2.2 q g
    · exact h4 q g⟩
theorem kret1_ok {x : List Int} {u : List Nat} {P : kS} {q : kCs} {va : List (Nat × kV)} {vc : List (Nat × Value)} (hTy : kTyp tt Ty) (hG : kgood D cA tt Ty lo H) (hP : P.1.length = zs.length) (hP2 : P.2.1.length = as.length) (h : kst D cA tt Ty (zs ++ x) (as ++ u) S H lv st) (hv : kLoc (zs ++ x) (as ++ u) va vc) (hr : kret1 tt P S va q = true) : ∃ x' u' vc', kst D cA tt Ty (zs ++ x') (as ++ u') (kcsT P q) H vc' [] ∧ ∀ w ∈ vc', w ∈ vc := by
  unfold kret1 at hr
  split at hr
  · rename_i r hb
    have h1 : kst D cA tt Ty (zs ++ x) (as ++ u) (S.1, S.2.1, va, [], S.2.2.2.2) H vc [] := ⟨h.1, h.2.1, h.2.2.1, hv, trivial, h.2.2.2.2.2⟩
    obtain ⟨e1, u1, zs', as', g1, g2, g3⟩ := kbind_ok hTy hG h1 (ksyms_pre hP) (krefs_pre hP2) hb
    obtain ⟨lv', g4, g5⟩ := kch_ok hTy g1 g2 g3 hr
    exact ⟨zs', as', lv', g4, g5⟩
  · cases hr
/-- a list of at most one answer is the answer -/
theorem kans_of {P : kS} {q : kCs} {env : List Int} {ren : List Nat} {v : Option Value} {vc' : List (Nat × Value)} {sa : List kV} (h : kst D cA tt Ty env ren (kcsT P q) H vc' []) (hs : ∀ w ∈ vc', w ∈ kans v) (hne : v ≠ none → q.2.2.1 ≠ none) : kst D cA tt Ty env ren (kcsT P q) H (kans v) [] := by
  obtain ⟨a1, a2, a3, a4, a5, a6⟩ := h
  refine ⟨a1, a2, a3, ?_, a5, a6⟩
  have a4 : kLoc env ren (match q.2.2.1 with
    | some v => [(0, v)]
    | none => []) vc' := a4
  show kLoc env ren (match q.2.2.1 with
    | some v => [(0, v)]
    | none => []) (kans v)
  cases h1 : q.2.2.1 with
  | none =>
    cases v with
    | none => exact trivial
    | some y => exact absurd h1 (hne (by simp))
  | some b =>
    rw [h1] at a4
    match vc', a4, hs with
    | [w], a4, hs =>
      have hw := hs w List.mem_cons_self
      cases v with
      | none => cases hw
      | some y =>
        have e : w = (0, y) := by simpa [kans] using hw
        subst e
        exact a4
    | [], a4, _ => exact a4.elim
    | _ :: _ :: _, a4, _ => exact a4.2.2.elim
end KXO
end
section
section KDO
variable {p : Program} {l : Launch} {e : Env} {s : State} {m : MethodId} {args : Array Value} {below : List Frame} {meth : Method} {c : Code} {H : Heap} {locs : List Loc}
variable {cc : ByteArray} {ls : Array Slot} {cl : List vw_C} {aty : List FieldType} {nw lg : List Cond} {sk : kSk} {cA aS : Nat → Nat} {mt : List kMd} {X : State → Heap → Prop} {lo : Nat}
variable {D : va_G} {tt : List kT} {Ty : Nat → Nat → Prop} {zs : List Int} {as : List Nat} {S : kS} {lv : List (Nat × Value)} {st : List Value} {ct : List kCt} {own : String} {ow : kOw} {nL : Nat} {rt : Option FieldType} {C : kCt} {B : kBd}
theorem kret_ok {x : List Int} {u : List Nat} {pc : Nat} {ins : Instr} (hexec : p.tables.exec = Jvm.exec) (hb : c.code = cc) (hrt : meth.sig.returnType = rt) (hlk : meth.locks = false) (hTy : kTyp tt Ty) (hP : C.2.1.1.length = zs.length) (hP2 : C.2.1.2.1.length = as.length) (hm : kmov D cA tt Ty lo C.2.2.2.2.1 s.heap H locs)
    (h : kst D cA tt Ty (zs ++ x) (as ++ u) S H lv st) (hd : decode cc pc = .ok (ins, 1)) (hs : kret tt C.2.1 C.2.2.2.1 rt ins S = true) : W p l e (krm C.2.2.2.2.2) s m args below meth c H locs 0 0 (MQ below (kQc D cA tt Ty lo C zs as) args s 0 0 (fun q => lo ≤ q)) (F0 m pc ls st) := by
  have hk := h.2.2.2.2.1
  have fin : ∀ (v : Option Value) (va : List (Nat × kV)) (q : kCs), q ∈ C.2.2.2.1 → kret1 tt C.2.1 S va q = true → kLoc (zs ++ x) (as ++ u) va (kans v) → (v ≠ none → q.2.2.1 ≠ none) → ∀ t : State, t.heap = H → s.WarmedH t.vm → kQc D cA tt Ty lo C zs as args s (.returned v) t := by
    intro v va q hq hr hv hne t ht _
    obtain ⟨x', u', vc', g1, g2⟩ := kret1_ok hTy hm.1 hP hP2 h hv hr
    refine ⟨v, q, x', u', rfl, hq, ?_, by rw [ht]; exact hm.1, by rw [ht]; exact hm.2.2.1, by rw [ht]; exact hm.2.1⟩
    rw [ht]
    exact kans_of (sa := []) g1 g2 hne
  unfold kret at hs
  split at hs
  · rename_i ty f h1
    rw [h1] at hk
    split at hs
    · rename_i hf
      obtain ⟨q, q1, q2⟩ := List.any_eq_true.mp hs
      match st, hk with
      | [y], hk =>
        cases h2 : q.2.2.1 with
        | none => simp [h2] at q2
        | some b =>
          simp only [h2] at q2
          obtain ⟨n1, -⟩ := kfix_narrow (kfixA_ok h hk.1 hf)
          have fq := fin (some y) [(0, .inl f)] q q1 q2 ⟨rfl, hk.1, trivial⟩ (fun _ => by rw [h2]; simp)
          obtain ⟨n, e1, -⟩ := id hk.1
          subst e1
          exact W.zret hexec hb hrt n1 fq hm.2.2.2 hd hlk
      | [], hk => exact hk.elim
      | _ :: _ :: _, hk => exact hk.2.elim
    · cases hs
  · rename_i v h1
    rw [h1] at hk
    split at hs
    · rename_i hf
      obtain ⟨q, q1, q2⟩ := List.any_eq_true.mp hs
      match st, hk with
      | [y], hk =>
        cases h2 : q.2.2.1 with
        | none => simp [h2] at q2
        | some b =>
          simp only [h2] at q2
          have fq := fin (some y) [(0, v)] q q1 q2 ⟨rfl, hk.1, trivial⟩ (fun _ => by rw [h2]; simp)
          match v, hk.1, hf with
          | .inr (.inl f), ⟨n, e1, _⟩, _ =>
            subst e1
            exact W.lret hexec hb hrt fq hm.2.2.2 hd hlk
          | .inl f, _, hf => cases hf
          | .inr (.inr (.inl f)), _, hf => cases hf
          | .inr (.inr (.inr f)), _, hf => cases hf
      | [], hk => exact hk.elim
      | _ :: _ :: _, hk => exact hk.2.elim
    · cases hs
  · rename_i h1
    rw [h1] at hk
    obtain ⟨q, q1, q2⟩ := List.any_eq_true.mp hs
    match st, hk with
    | [], hk =>
      exact W.vret hexec hb hrt (fin none [] q q1 q2 trivial (fun hne => absurd rfl hne)) hm.2.2.2 hd hlk
    | _ :: _, hk => exact hk.elim
  · cases hs
end KDO
end
section
section KWALK
variable {p : Program} {l : Launch} {e : Env} {s : State} {m : MethodId} {args : Array Value} {below : List Frame} {meth : Method} {c : Code}
variable {cc : ByteArray} {cl : List vw_C} {aty : List FieldType} {nw lg : List Cond} {sk : kSk} {cA aS : Nat → Nat} {mt : List kMd} {X : State → Heap → Prop} {lo : Nat}
variable {D : va_G} {tt : List kT} {Ty : Nat → Nat → Prop} {zs : List Int} {as : List Nat} {ct : List kCt} {own : String} {ow : kOw} {nL : Nat} {rt : Option FieldType} {C : kCt} {B : kBd}
theorem kdo_ok {k : kCd → kS → Bool} {x : List Int} (hexec : p.tables.exec = Jvm.exec) (hb : c.code = cc) (hml : c.maxLocals = nL) (hown : s.vm.findClass own = some m.cls) (hts : ∀ w ∈ lg, w.before args s = true) (hrt : meth.sig.returnType = rt) (hlk : meth.locks = false) (hK : kK cl aty nw sk D cA aS s) (hXs : X s s.heap) (hR : kRest l cl aty lg nw sk mt D cA aS tt Ty lo X ct own ow C.2.2.2.2.2) (hP : C.2.1.1.length = zs.length) (hP2 : C.2.1.2.1.length = as.length) (hcode : ∀ q ∈ B.1, decode cc q.1 = .ok (q.2.1, q.2.2))
    (kk : ∀ (cur : kCd) (S : kS) (x1 : List Int) (u : List Nat) (H : Heap) (locs : List Loc) (lv : List (Nat × Value)) (st : List Value) (ls : Array Slot) (pc : Nat) (w : Instr × Nat) (t : kCd), k cur S = true → cur = (pc, w) :: t → (∀ q ∈ cur, q ∈ B.1) → (∃ y, x1 = x ++ y) → kst D cA tt Ty (zs ++ x1) (as ++ u) S H lv st → lv_has ls nL lv → kmov D cA tt Ty lo C.2.2.2.2.1 s.heap H locs → W p l e (krm C.2.2.2.2.2) s m args below meth c H locs 0 0 (MQ below (kQc D cA tt Ty lo C zs as) args s 0 0 (fun q => lo ≤ q)) (F0 m pc ls st))
    {q : Nat × Instr × Nat} {tl : kCd} {S : kS} {u : List Nat} {H : Heap} {locs : List Loc} {lv : List (Nat × Value)} {st : List Value} {ls : Array Slot} (hq : q ∈ B.1) (htl : ∀ w ∈ tl, w ∈ B.1) (h : kst D cA tt Ty (zs ++ x) (as ++ u) S H lv st) (hlv : lv_has ls nL lv) (hm : kmov D cA tt Ty lo C.2.2.2.2.1 s.heap H locs) (hs : kdo (kEof tt aty ct ow nL rt C) B k q tl S = true) :
    W p l e (krm C.2.2.2.2.2) s m args below meth c H locs 0 0 (MQ below (kQc D cA tt Ty lo C zs as) args s 0 0 (fun q => lo ≤ q)) (F0 m q.1 ls st) := by
  obtain ⟨r1, r2, r3, r4, r5, r6, r7, r8, r9, r10, r11⟩ := hR
  have go : ∀ (S' : kS) (x' : List Int) (u' : List Nat) (H' : Heap) (locs' : List Loc) (lv' : List (Nat × Value)) (st' : List Value) (ls' : Array Slot) (pc' : Nat), kgo k B.1 tl pc' S' = true → (∃ y, x' = x ++ y) → kst D cA tt Ty (zs ++ x') (as ++ u') S' H' lv' st' → lv_has ls' nL lv' → kmov D cA tt Ty lo C.2.2.2.2.1 s.heap H' locs' → W p l e (krm C.2.2.2.2.2) s m args below meth c H' locs' 0 0 (MQ below (kQc D cA tt Ty lo C zs as) args s 0 0 (fun q => lo ≤ q)) (F0 m pc' ls' st') := by
    intro S' x' u' H' locs' lv' st' ls' pc' hg g0 g1 g2 g3
    unfold kgo at hg
    split at hg
    · rename_i cur hc
      obtain ⟨w1, ins, len, t, w2⟩ := knext_ok hc htl
      exact kk cur S' x' u' H' locs' lv' st' ls' pc' (ins, len) t hg w2 w1 g0 g1 g2 g3
    · cases hg
  have hd := hcode q hq
  unfold kdo at hs
  split at hs
  · split at hs
    · rename_i hl
      have el := Nat.beq_eq.mp hl
      rw [el] at hd
      split at hs
      · rename_i S' h1
        refine kstep1_ok (S' := S') hexec hb hown hts r2 hK r10 h hlv hd h1 (fun x' u' lv' st' ls' g1 g2 => ?_)
        rw [← el]
        exact go S' (x ++ x') (u ++ u') H locs lv' st' ls' _ hs ⟨x', rfl⟩ (by rw [← List.append_assoc, ← List.append_assoc]; exact g1) g2 hm
      · cases hs
    · cases hs
  · split at hs
    · rename_i hl
      split at hs
      · rename_i L h1
        refine kbr_ok hexec hb h hlv hd (fun hno => ?_) h1 (fun w hw lv' st' ls' g1 g2 => go w.2 x u H locs lv' st' ls' w.1 (List.all_eq_true.mp hs w hw) ⟨[], by simp⟩ g1 g2 hm)
        cases ht : kistab q.2.1 with
        | true =>
          exfalso
          unfold kistab at ht
          split at ht
          · rename_i a b y z hx
            exact hno _ _ _ _ hx
          · cases ht
        | false =>
          simp only [ht] at hl
          exact Nat.beq_eq.mp hl
      · cases hs
    · cases hs
  · split at hs
    · rename_i hl
      have el := Nat.beq_eq.mp hl
      rw [el] at hd
      split at hs
      · rename_i L h1
        refine kmemi_ok hexec hb hown hts r5 r6 r3 hK r9 hm.1 h hlv hd h1 (fun S' hS x' u' st' H' L' g1 g2 g3 g4 g5 => ?_)
        rw [← el]
        exact go S' (x ++ x') (u ++ u') H' (locs ++ L') lv st' ls _ (List.all_eq_true.mp hs S' hS) ⟨x', rfl⟩ (by rw [← List.append_assoc, ← List.append_assoc]; exact g5) hlv (kmov_step hm g1 g2 g3 g4)
      · cases hs
    · cases hs
  · split at hs
    · rename_i hl
      have el := Nat.beq_eq.mp hl
      rw [el] at hd
      split at hs
      · rename_i L h1
        refine kinv_ok hexec hb hml rfl ⟨rfl, rfl⟩ hown hts r1 r4 hK r7 r8 hXs r9 hm.1 hm.2.1 r11 h hlv hd h1 (fun S' hS x' u' st' H' L' g1 g2 g3 g4 g5 => ?_)
        rw [← el]
        exact go S' (x ++ x') (u ++ u') H' (locs ++ L') lv st' ls _ (List.all_eq_true.mp hs S' hS) ⟨x', rfl⟩ (by rw [← List.append_assoc, ← List.append_assoc]; exact g5) hlv (kmov_step hm g1 g2 g3 g4)
      · cases hs
    · cases hs
  · split at hs
    · rename_i hl
      have el := Nat.beq_eq.mp hl
      rw [el] at hd
      exact kret_ok hexec hb hrt hlk r9 hP hP2 hm h hd hs
    · cases hs
theorem kcut_ok {x : List Int} {u : List Nat} {S : kS} {H : Heap} {lv : List (Nat × Value)} {st : List Value} {rb : Option kL} {T : kTm} {rk : kL} (hTy : kTyp tt Ty) (hG : kgood D cA tt Ty lo H) (hP : C.2.1.1.length = zs.length) (hP2 : C.2.1.2.1.length = as.length) (h : kst D cA tt Ty (zs ++ x) (as ++ u) S H lv st) (hc : kcut tt C.2.1 S rb T rk = true) :
    ∃ x' u' lv' z, kst D cA tt Ty (zs ++ x') (as ++ u') T.1 H lv' st ∧ (∀ w ∈ lv', w ∈ lv) ∧ kev (zs ++ x') rk = some z ∧ 0 ≤ z ∧ ∀ f r, rb = some f → kev (zs ++ x) f = some r → z < r := by
  unfold kcut at hc
  split at hc
  · rename_i q hb
    obtain ⟨e1, u1, zs', as', g1, g2, g3⟩ := kbind_ok hTy hG h (ksyms_pre hP) (krefs_pre hP2) hb
    split at hc
    · rename_i hch
      obtain ⟨lv', g4, g5⟩ := kch_ok hTy g1 g2 g3 hch
      split at hc
      · rename_i g hg
        obtain ⟨z, w1, w2⟩ := ksubst_ok g2 hg
        split at hc
        · rename_i h0
          refine ⟨zs', as', lv', z, g4, g5, w1, kgeS_ok g1 w2 h0, fun f r hf hr => ?_⟩
          subst hf
          dsimp only at hc
          have := kgeS_ok g1 (kofs_ev (ksub_ev (kev_ext hr) w2)) hc
          omega
        · cases hc
      · cases hc
    · cases hc
  · cases hc
theorem kexec_ok {rb : Option kL} (hexec : p.tables.exec = Jvm.exec) (hb : c.code = cc) (hml : c.maxLocals = nL) (hown : s.vm.findClass own = some m.cls) (hts : ∀ w ∈ lg, w.before args s = true) (hrt : meth.sig.returnType = rt) (hlk : meth.locks = false) (hK : kK cl aty nw sk D cA aS s) (hXs : X s s.heap) (hR : kRest l cl aty lg nw sk mt D cA aS tt Ty lo X ct own ow C.2.2.2.2.2) (hP : C.2.1.1.length = zs.length) (hP2 : C.2.1.2.1.length = as.length) (hcode : ∀ q ∈ B.1, decode cc q.1 = .ok (q.2.1, q.2.2)) {x0 : List Int}
    (hcut : ∀ (cu : kCut) (x : List Int) (u : List Nat) (H : Heap) (locs : List Loc) (lv : List (Nat × Value)) (st : List Value) (ls : Array Slot) (z : Int), cu ∈ B.2.2.2 → kst D cA tt Ty (zs ++ x) (as ++ u) cu.2.1.1 H lv st → lv_has ls nL lv → kmov D cA tt Ty lo C.2.2.2.2.1 s.heap H locs → kev (zs ++ x) cu.2.2 = some z → 0 ≤ z → (∀ f r, rb = some f → kev (zs ++ x0) f = some r → z < r) → W p l e (krm C.2.2.2.2.2) s m args below meth c H locs 0 0 (MQ below (kQc D cA tt Ty lo C zs as) args s 0 0 (fun q => lo ≤ q)) (F0 m cu.1 ls st)) :
    ∀ (n : Nat) (b : Bool) (cur : kCd) (S : kS) (x : List Int) (u : List Nat) (H : Heap) (locs : List Loc) (lv : List (Nat × Value)) (st : List Value) (ls : Array Slot) (pc : Nat) (w : Instr × Nat) (t : kCd), kexec (kEof tt aty ct ow nL rt C) B rb n b cur S = true → cur = (pc, w) :: t → (∀ q ∈ cur, q ∈ B.1) → (∃ y, x = x0 ++ y) → kst D cA tt Ty (zs ++ x) (as ++ u) S H lv st → lv_has ls nL lv → kmov D cA tt Ty lo C.2.2.2.2.1 s.heap H locs → W p l e (krm C.2.2.2.2.2) s m args below meth c H locs 0 0 (MQ below (kQc D cA tt Ty lo C zs as) args s 0 0 (fun q => lo ≤ q)) (F0 m pc ls st) := by
  intro n
  induction n with
  | zero => intro b cur S x u H locs lv st ls pc w t hs; cases hs
  | succ n ih =>
    intro b cur S x u H locs lv st ls pc w t hs hcur hsub hx h hlv hm
    subst hcur
    obtain ⟨y0, hx⟩ := hx
    have hq : (pc, w) ∈ B.1 := hsub _ List.mem_cons_self
    have htl : ∀ q ∈ t, q ∈ B.1 := fun q hq => hsub q (List.mem_cons_of_mem _ hq)
    have run : ∀ S' : kS, kst D cA tt Ty (zs ++ x) (as ++ u) S' H lv st → kdo (kEof tt aty ct ow nL rt C) B (kexec (kEof tt aty ct ow nL rt C) B rb n true) (pc, w) t S' = true → W p l e (krm C.2.2.2.2.2) s m args below meth c H locs 0 0 (MQ below (kQc D cA tt Ty lo C zs as) args s 0 0 (fun q => lo ≤ q)) (F0 m pc ls st) := by
      intro S' h' hs'
      refine kdo_ok (x := x) hexec hb hml hown hts hrt hlk hK hXs hR hP hP2 hcode (fun cur2 S2 x2 u2 H2 locs2 lv2 st2 ls2 pc2 w2 t2 g1 g2 g3 g4 g5 g6 g7 => ?_) hq htl h' hlv hm hs'
      obtain ⟨y, g4⟩ := g4
      exact ih true cur2 S2 x2 u2 H2 locs2 lv2 st2 ls2 pc2 w2 t2 g1 g2 g3 ⟨y0 ++ y, by rw [g4, hx, List.append_assoc]⟩ g5 g6 g7
    unfold kexec at hs
    dsimp only at hs
    split at hs
    · obtain ⟨cu, g1, g2⟩ := List.any_eq_true.mp hs
      cases hbq : Nat.beq cu.1 pc with
      | false => simp [hbq] at g2
      | true =>
        simp only [hbq] at g2
        have e := Nat.beq_eq.mp hbq
        obtain ⟨x', u', lv', z, w1, w2, w3, w4, w5⟩ := kcut_ok hR.2.2.2.2.2.2.2.2.1 hm.1 hP hP2 h g2
        rw [← e]
        exact hcut cu x' u' H locs lv' st ls z g1 w1 ⟨hlv.1, hlv.2.1, fun q hq => hlv.2.2 q (w2 q hq)⟩ hm w3 w4 (fun f r hf hr => w5 f r hf (by rw [hx, ← List.append_assoc]; exact kev_ext hr))
    · split at hs
      · rename_i w1 hw1
        split at hs
        · rename_i f hf
          obtain ⟨v, -, k, -, k2⟩ := kLoc_mem h.2.2.2.1 (klocv_mem hf)
          obtain ⟨S', k3, k4⟩ := ksplit_ok (ts := w1.2) h k2
          exact run S' k4 (List.all_eq_true.mp hs S' k3)
        · cases hs
      · exact run S h hs
end KWALK
end
section
section KMETS
variable {l : Launch} {cl : List vw_C} {aty : List FieldType} {nw lg : List Cond} {sk : kSk} {cA aS : Nat → Nat} {mt : List kMd} {X : State → Heap → Prop} {lo : Nat}
variable {D : va_G} {tt : List kT} {Ty : Nat → Nat → Prop} {ct : List kCt} {ow : kOw} {C : kCt} {B : kBd}
/-- a body that the checker takes keeps its contract -/
theorem kbody_met {y : MethodName} {b : ByteArray} {mL n : Nat} {r : Option FieldType} {w : Instr × Nat} {t : kCd} (hy : plainName y.cls = true) (hmt : mt[C.1]? = some (y, b, mL, r)) (hR : kRest l cl aty lg nw sk mt D cA aS tt Ty lo X ct y.cls ow C.2.2.2.2.2) (hcode : ∀ q ∈ B.1, decode b q.1 = .ok (q.2.1, q.2.2)) (hst : B.1 = (0, w) :: t) (hbody : kbody (kEof tt aty ct ow mL r C) B n = true) : kMet l cl aty lg nw sk mt D cA aS tt Ty lo X C := by
  intro y' b' mL' r' hmt' zs as vs
  have e0 : (y', b', mL', r') = (y, b, mL, r) := Option.some.inj (hmt'.symm.trans hmt)
  obtain ⟨rfl, rfl, rfl, rfl⟩ : y' = y ∧ b' = b ∧ mL' = mL ∧ r' = r := by
    simpa using e0
  refine Met.ofW (cc := b') (maxL := mL') (ret := r') hy rfl ?_
  intro p e s m args below meth c s₁ Bd hml hv
  obtain ⟨⟨rfl, hsl⟩, hK, hXs, hG, lv', hs0, hsub⟩ := hv
  have hts : ∀ w ∈ lg, w.before vs.toArray s = true := fun w hw => atoms_spec (ws := Cond.code y' b' mL' r' :: lg) Bd.pre w (List.mem_cons_of_mem _ hw)
  have hown : s.vm.findClass y'.cls = some m.cls := findClass_of_methodNamed Bd.named
  have hP : C.2.1.1.length = zs.length := hs0.1.1.symm
  have hP2 : C.2.1.2.1.length = as.length := hs0.2.2.1.1.symm
  have hlv0 := lv_entry vs hsl
  have hlv : lv_has ((lg_sl vs ++ List.replicate (mL' - (lg_sl vs).length) Slot.unset).toArray) mL' lv' := ⟨hlv0.1, hlv0.2.1, fun q hq => hlv0.2.2 q (hsub q hq)⟩
  have hm : kmov D cA tt Ty lo C.2.2.2.2.1 s.heap s.heap [] := ⟨hG, kfr_rfl, kkp_rfl, fun q hq => by cases hq⟩
  unfold kbody at hbody
  split at hbody
  case h_2 => cases hbody
  rename_i hb0
  have cuts : ∀ (N : Nat) (cu : kCut) (x : List Int) (u : List Nat) (H : Heap) (locs : List Loc) (lv : List (Nat × Value)) (st : List Value) (ls : Array Slot) (z : Int), cu ∈ B.2.2.2 → kst D cA tt Ty (zs ++ x) (as ++ u) cu.2.1.1 H lv st → lv_has ls mL' lv → kmov D cA tt Ty lo C.2.2.2.2.1 s.heap H locs → kev (zs ++ x) cu.2.2 = some z → 0 ≤ z → z < N → W p l e (krm C.2.2.2.2.2) s m vs.toArray below meth c H locs 0 0 (MQ below (kQc D cA tt Ty lo C zs as) vs.toArray s 0 0 (fun q => lo ≤ q)) (F0 m cu.1 ls st) := by
    intro N
    induction N with
    | zero => intro cu x u H locs lv st ls z _ _ _ _ _ h0 h1; omega
    | succ N ih =>
      intro cu x u H locs lv st ls z hcu h1 h2 h3 h4 h5 h6
      have hb1 := List.all_eq_true.mp hbody cu hcu
      split at hb1
      · rename_i cur hcur
        obtain ⟨g1, ins, len, t2, g2⟩ := kdrop_ok hcur
        refine kexec_ok (x0 := x) (rb := some cu.2.2) Bd.exec Bd.bytes hml hown hts Bd.returns Bd.notSynchronized hK hXs hR hP hP2 hcode (fun cu2 x2 u2 H2 locs2 lv2 st2 ls2 z2 w1 w2 w3 w4 w5 w6 w7 => ?_) n false cur cu.2.1.1 x u H locs lv st ls cu.1 (ins, len) t2 hb1 g2 g1 ⟨[], by simp⟩ h1 h2 h3
        have := w7 _ _ rfl h4
        exact ih cu2 x2 u2 H2 locs2 lv2 st2 ls2 z2 w1 w2 w3 w4 w5 w6 (by omega)
      · cases hb1
  show W p l e (krm C.2.2.2.2.2) s m vs.toArray below meth c s.heap [] 0 0 _ (entryFrame m vs.toArray mL')
  rw [lg_entry_eq]
  refine kexec_ok (x0 := []) (rb := none) Bd.exec Bd.bytes hml hown hts Bd.returns Bd.notSynchronized hK hXs hR hP hP2 hcode (fun cu2 x2 u2 H2 locs2 lv2 st2 ls2 z2 w1 w2 w3 w4 w5 w6 _ => cuts (z2.toNat + 1) cu2 x2 u2 H2 locs2 lv2 st2 ls2 z2 w1 w2 w3 w4 w5 w6 (by omega)) n false B.1 C.2.1 [] [] s.heap [] lv' [] _ 0 w t hb0 hst (fun q hq => hq) ⟨[], rfl⟩ (by rw [List.append_nil, List.append_nil]; exact hs0) hlv hm
/-- all contracts, by their depths: each kept by its body, or by a walk of its own -/
theorem kall_met (h : ∀ (i : Nat) (C : kCt), ct[i]? = some C → (∀ (j : Nat) (C' : kCt), ct[j]? = some C' → C'.2.2.2.2.2 < C.2.2.2.2.2 → kMet l cl aty lg nw sk mt D cA aS tt Ty lo X C') → kMet l cl aty lg nw sk mt D cA aS tt Ty lo X C) : ∀ (i : Nat) (C : kCt), ct[i]? = some C → kMet l cl aty lg nw sk mt D cA aS tt Ty lo X C := by
  have key : ∀ (d i : Nat) (C : kCt), ct[i]? = some C → C.2.2.2.2.2 < d → kMet l cl aty lg nw sk mt D cA aS tt Ty lo X C := by
    intro d
    induction d with
    | zero => intro i C _ h0; omega
    | succ d ih => exact fun i C hi hd => h i C hi (fun j C' hj hlt => ih j C' hj (by omega))
  exact fun i C hi => key (C.2.2.2.2.2 + 1) i C hi (by omega)
end KMETS
end
section
/-! THE TABLES' WORDS BY THEIR PLACES: what the pools, names and methods rest on -/
def k_lg : List Cond := lw_tbl.filter goodWord
theorem k_lg_good : ∀ w ∈ k_lg, goodWord w = true := fun w hw => (List.mem_filter.mp hw).2
/-- the word w stands at place p of the tables, and is a good one -/
def kwd (p : Nat) (w : Cond) : Bool := match lw_tbl[p]? with
  | some w' => match decide (w' = w) with
    | true => goodWord w
    | false => false
  | none => false
theorem kwd_ok {p : Nat} {w : Cond} (h : kwd p w = true) : w ∈ k_lg := by
  unfold kwd at h
  cases h1 : lw_tbl[p]? with
  | none => simp [h1] at h
  | some w' =>
    simp only [h1] at h
    cases h2 : decide (w' = w) with
    | false => simp [h2] at h
    | true =>
      simp only [h2] at h
      have e := of_decide_eq_true h2
      subst e
      exact List.mem_filter.mpr ⟨List.mem_of_getElem? h1, h⟩
/-- two lists, item by item -/
def kzip {α : Type} (f : α → Nat → Bool) : List α → List Nat → Bool
  | [], _ => true
  | a :: l, p :: ps => match f a p with
    | true => kzip f l ps
    | false => false
  | _ :: _, [] => false
theorem kzip_ok {α : Type} {f : α → Nat → Bool} : ∀ {l : List α} {ps : List Nat}, kzip f l ps = true → ∀ a ∈ l, ∃ p, f a p = true
  | [], _, _, a, ha => by cases ha
  | b :: l, [], h, a, ha => by simp [kzip] at h
  | b :: l, p :: ps, h, a, ha => by
    unfold kzip at h
    cases h1 : f b p with
    | false => simp [h1] at h
    | true =>
      simp only [h1] at h
      rcases List.mem_cons.mp ha with rfl | ha
      · exact ⟨p, h1⟩
      · exact kzip_ok h a ha
def kOwCb (own : String) (ow : kOw) (ps ps2 : List Nat) : Bool := kzip (fun (q : Nat × Int) p => decide (-2147483648 ≤ q.2 ∧ q.2 ≤ 2147483647) && kwd p (Cond.constant own q.1 (Int32.ofInt q.2))) ow.2.1 ps && (kzip (fun (q : Nat × Int) p => decide (-9223372036854775808 ≤ q.2 ∧ q.2 ≤ 9223372036854775807) && kwd p (Cond.constantLong own q.1 (Int64.ofInt q.2))) ow.2.2.1 ps2 && ow.2.2.2.1.isEmpty)
theorem kOwCb_ok {own : String} {ow : kOw} {ps ps2 : List Nat} {sk : kSk} (h : kOwCb own ow ps ps2 = true) : kOwC own ow k_lg sk := by
  unfold kOwCb at h
  simp only [Bool.and_eq_true] at h
  obtain ⟨h1, h2, h3⟩ := h
  refine ⟨fun q hq => ?_, fun q hq => ?_, fun q hq => ?_⟩
  · obtain ⟨p, hp⟩ := kzip_ok h1 q hq
    simp only [Bool.and_eq_true, decide_eq_true_eq] at hp
    exact ⟨_, Int32.toInt_ofInt_of_le hp.1.1 (by omega), kwd_ok hp.2⟩
  · obtain ⟨p, hp⟩ := kzip_ok h2 q hq
    simp only [Bool.and_eq_true, decide_eq_true_eq] at hp
    exact ⟨_, Int64.toInt_ofInt_of_le hp.1.1 (by omega), kwd_ok hp.2⟩
  · rw [List.isEmpty_iff.mp h3] at hq
    cases hq
def kOwFb (own : String) (ow : kOw) (cl : List vw_C) (ps : List Nat) : Bool := kzip (fun (q : Nat × Nat × Nat × Nat) p => match cl[q.2.1]? with
  | some (_, Tf, N) => match Nat.blt q.2.2.1 N with
    | true => match kwd p (Cond.fieldLink own q.1 (Tf q.2.2.1).1 (Tf q.2.2.1).2.1 (Tf q.2.2.1).2.2.1) with
      | true => match Nat.blt q.2.2.2 3 with
        | true => match (Tf q.2.2.1).2.2.2 with
          | true => false
          | false => decide (parseFieldDescriptor (Tf q.2.2.1).2.2.1 = some (kfty q.2.2.2))
        | false => true
      | false => false
    | false => false
  | none => false) ow.1 ps
theorem kOwFb_ok {own : String} {ow : kOw} {cl : List vw_C} {ps : List Nat} (h : kOwFb own ow cl ps = true) : kOwF own ow cl k_lg := by
  intro q hq
  obtain ⟨p, hp⟩ := kzip_ok h q hq
  split at hp
  · rename_i C Tf N h1
    split at hp
    · rename_i h2
      split at hp
      · rename_i h3
        refine ⟨C, Tf, N, h1, Nat.blt_eq.mp h2, kwd_ok h3, fun hlt => ?_⟩
        rw [show Nat.blt q.2.2.2 3 = true from Nat.blt_eq.mpr hlt] at hp
        dsimp only at hp
        split at hp
        · cases hp
        · rename_i h4
          exact ⟨h4, of_decide_eq_true hp⟩
      · cases hp
    · cases hp
  · cases hp
/-- a method, as the tables have it: its code, its type's file begun, an instance's method chosen by itself or a static one -/
def kMw (cl : List vw_C) (q : kMd × Nat × Nat) : Prop := Cond.code q.1.1 q.1.2.1 q.1.2.2.1 q.1.2.2.2 ∈ k_lg ∧ Cond.initialized q.1.1.cls ∈ k_lg ∧ (parseMethodDescriptor q.1.1.desc).map (fun d => d.parameters.length) = some q.2.1 ∧ (q.1.1.cls ≠ "java/lang/invoke/MethodHandle" ∧ q.1.1.cls ≠ "java/lang/invoke/VarHandle") ∧ q.1.2.2.1 ≤ 21 ∧ (q.2.2 < 100 → Cond.instanceMethod q.1.1 ∈ k_lg ∧ Cond.selects q.1.1.cls q.1.1 q.1.1 ∈ k_lg ∧ ∃ (Tf : u_T) (N : Nat), cl[q.2.2]? = some (q.1.1.cls, Tf, N)) ∧ (100 ≤ q.2.2 → Cond.static q.1.1 ∈ k_lg)
def kMwb (cl : List vw_C) (q : kMd × Nat × Nat) (p1 p2 p3 : Nat) : Bool := kwd p1 (Cond.initialized q.1.1.cls) && (decide ((parseMethodDescriptor q.1.1.desc).map (fun d => d.parameters.length) = some q.2.1) && (decide (q.1.1.cls ≠ "java/lang/invoke/MethodHandle" ∧ q.1.1.cls ≠ "java/lang/invoke/VarHandle") && (Nat.ble q.1.2.2.1 21 && (match Nat.blt q.2.2 100 with
  | true => kwd p2 (Cond.instanceMethod q.1.1) && (kwd p3 (Cond.selects q.1.1.cls q.1.1 q.1.1) && (match cl[q.2.2]? with
    | some (C, _, _) => decide (C = q.1.1.cls)
    | none => false))
  | false => kwd p2 (Cond.static q.1.1)))))
theorem kMwb_ok {cl : List vw_C} {q : kMd × Nat × Nat} {p1 p2 p3 : Nat} (h : kMwb cl q p1 p2 p3 = true) (hc : Cond.code q.1.1 q.1.2.1 q.1.2.2.1 q.1.2.2.2 ∈ k_lg) : kMw cl q := by
  unfold kMwb at h
  simp only [Bool.and_eq_true, decide_eq_true_eq] at h
  obtain ⟨h1, h2, h3, h4, h5⟩ := h
  refine ⟨hc, kwd_ok h1, h2, h3, Nat.le_of_ble_eq_true h4, fun hlt => ?_, fun hge => ?_⟩
  · rw [show Nat.blt q.2.2 100 = true from Nat.blt_eq.mpr hlt] at h5
    simp only [Bool.and_eq_true] at h5
    obtain ⟨g1, g2, g3⟩ := h5
    refine ⟨kwd_ok g1, kwd_ok g2, ?_⟩
    split at g3
    · rename_i C Tf N e
      have e2 := of_decide_eq_true g3
      subst e2
      exact ⟨Tf, N, e⟩
    · cases g3
  · rw [show Nat.blt q.2.2 100 = false from by
      cases hb : Nat.blt q.2.2 100 with
      | false => rfl
      | true => have := Nat.blt_eq.mp hb; omega] at h5
    exact kwd_ok h5
/-- the links to methods: each to a method of the list -/
def kOwMb (own : String) (ow : kOw) (mw : List (kMd × Nat × Nat)) (ps : List Nat) : Bool := kzip (fun (q : Nat × Nat × Nat × Nat × Nat) p => match Nat.beq q.2.2.2.1 102 with
  | true => kwd p (Cond.methodLink own q.1 arraycopyName)
  | false => match mw[q.2.1]? with
    | some x => match Nat.beq q.2.2.1 x.2.1 with
      | true => match Nat.beq q.2.2.2.1 x.2.2 with
        | true => match Nat.ble q.2.2.2.2 x.1.2.2.1 with
          | true => kwd p (Cond.methodLink own q.1 x.1.1)
          | false => false
        | false => false
      | false => false
    | none => false) ow.2.2.2.2 ps
theorem kOwMb_ok {own : String} {ow : kOw} {cl : List vw_C} {mw : List (kMd × Nat × Nat)} {ps : List Nat} {nw : List Cond} (hmw : ∀ x ∈ mw, kMw cl x) (hcp : Cond.native arraycopyName ∈ k_lg ∧ Cond.static arraycopyName ∈ k_lg ∧ Cond.initialized "java/lang/System" ∈ k_lg) (h : kOwMb own ow mw ps = true) : kOwM own ow cl (mw.map (fun x => x.1)) k_lg nw := by
  intro q hq
  obtain ⟨p, hp⟩ := kzip_ok h q hq
  cases h1 : Nat.beq q.2.2.2.1 102 with
  | true =>
    simp only [h1] at hp ⊢
    exact ⟨kwd_ok hp, hcp⟩
  | false =>
    simp only [h1] at hp ⊢
    cases h2 : mw[q.2.1]? with
    | none => simp [h2] at hp
    | some x =>
      simp only [h2] at hp
      cases h3 : Nat.beq q.2.2.1 x.2.1 with
      | false => simp [h3] at hp
      | true =>
        simp only [h3] at hp
        cases h4 : Nat.beq q.2.2.2.1 x.2.2 with
        | false => simp [h4] at hp
        | true =>
          simp only [h4] at hp
          cases h5 : Nat.ble q.2.2.2.2 x.1.2.2.1 with
          | false => simp [h5] at hp
          | true =>
            simp only [h5] at hp
            have e3 := Nat.beq_eq.mp h3
            have e4 := Nat.beq_eq.mp h4
            obtain ⟨w1, w2, w3, w4, w5, w6, w7⟩ := hmw x (List.mem_of_getElem? h2)
            refine ⟨x.1.1, x.1.2.1, x.1.2.2.1, x.1.2.2.2, by rw [List.getElem?_map, h2]; rfl, w1, w2, by rw [e3]; exact w3, w4, w5, Nat.le_of_ble_eq_true h5, fun hlt => ?_, fun hge => ?_⟩
            · obtain ⟨g1, g2, g3⟩ := w6 (by omega)
              exact ⟨kwd_ok hp, g1, g2, by rw [e4]; exact g3⟩
            · exact ⟨w7 (by omega), Or.inl (kwd_ok hp)⟩
end
section
/-! names and types by the tables' places -/
def knub : List String → Bool
  | [] => true
  | a :: l => match l.any (fun b => decide (b = a)) with
    | true => false
    | false => knub l
theorem knub_ok : ∀ {l : List String}, knub l = true → l.Nodup
  | [], _ => List.nodup_nil
  | a :: l, h => by
    unfold knub at h
    split at h
    · cases h
    · rename_i h1
      refine List.nodup_cons.mpr ⟨fun hm => ?_, knub_ok h⟩
      have : l.any (fun b => decide (b = a)) = true := List.any_eq_true.mpr ⟨a, hm, decide_eq_true rfl⟩
      rw [this] at h1
      cases h1
def kclb (q : vw_C) (ps : List Nat) : Bool := (List.range q.2.2).all (fun k => (parseFieldDescriptor (q.2.1 k).2.2.1).isSome) && (knub ((List.range q.2.2).map (fun k => (q.2.1 k).2.1)) && kzip (fun k p => kwd p (u_lay q.1 q.2.1 k)) (List.range q.2.2) ps)
theorem kclb_ok {C : String} {Tf : u_T} {N : Nat} {ps : List Nat} (h : kclb (C, Tf, N) ps = true) : (∃ ty0 : Nat → FieldType, (∀ k, k < N → parseFieldDescriptor (Tf k).2.2.1 = some (ty0 k)) ∧ ∀ a, a < N → ∀ b, b < N → a ≠ b → (Tf a).2.1 ≠ (Tf b).2.1) ∧ ∀ w ∈ u_ws C Tf N, w ∈ k_lg := by
  unfold kclb at h
  simp only [Bool.and_eq_true] at h
  obtain ⟨h1, h2, h3⟩ := h
  refine ⟨⟨fun k => (parseFieldDescriptor (Tf k).2.2.1).getD .int, fun k hk => ?_, fun a ha b hb hab e => ?_⟩, fun w hw => ?_⟩
  · have := List.all_eq_true.mp h1 k (List.mem_range.mpr hk)
    cases h4 : parseFieldDescriptor (Tf k).2.2.1 with
    | none => simp [h4] at this
    | some ty => simp [h4]
  · have hn := knub_ok h2
    have ga : ((List.range N).map (fun k => (Tf k).2.1))[a]? = some (Tf a).2.1 := by simp [ha]
    have gb : ((List.range N).map (fun k => (Tf k).2.1))[b]? = some (Tf b).2.1 := by simp [hb]
    obtain ⟨la, ea⟩ := List.getElem?_eq_some_iff.mp ga
    obtain ⟨lb, eb⟩ := List.getElem?_eq_some_iff.mp gb
    rcases Nat.lt_or_gt_of_ne hab with hlt | hlt
    · exact List.pairwise_iff_getElem.mp hn a b la lb hlt (by rw [ea, eb, e])
    · exact List.pairwise_iff_getElem.mp hn b a lb la hlt (by rw [ea, eb, e])
  · obtain ⟨k, hk, rfl⟩ := List.mem_map.mp hw
    obtain ⟨p, hp⟩ := kzip_ok h3 k hk
    exact kwd_ok hp
theorem kclok_of {cl : List vw_C} (h : ∀ q ∈ cl, ∃ ps, kclb q ps = true) : kclok cl k_lg := fun ci C Tf N hc => by
  obtain ⟨ps, hp⟩ := h _ (List.mem_of_getElem? hc)
  exact kclb_ok hp
def ktokb (tt : List kT) (cl : List vw_C) : Bool := tt.all (fun T => match Nat.blt T.1 100 with
  | true => match cl[T.1]? with
    | some (_, _, N) => Nat.beq N T.2.1
    | none => false
  | false => true)
theorem ktokb_ok {tt : List kT} {cl : List vw_C} (h : ktokb tt cl = true) : ktok tt cl := fun t T ht hb => by
  have h1 := List.all_eq_true.mp h T (List.mem_of_getElem? ht)
  simp only [hb] at h1
  split at h1
  · rename_i C Tf N e
    have e2 := Nat.beq_eq.mp h1
    subst e2
    exact ⟨C, Tf, e⟩
  · cases h1
def kTypb (tt : List kT) : Bool := Nat.ble tt.length 1000 && (tt.all (fun T => Nat.blt T.2.1 5000) && ((match tt[36]? with
  | some T => Nat.beq T.2.1 38
  | none => true) && (match tt[40]? with
  | some T => Nat.beq T.2.1 900
  | none => true)))
theorem kTypb_ok {tt : List kT} {Ty : Nat → Nat → Prop} (h : kTypb tt = true) (hf : ∀ a t t', t < 1000 → t' < 1000 → Ty a t → Ty a t' → t = t') : kTyp tt Ty := by
  unfold kTypb at h
  simp only [Bool.and_eq_true] at h
  obtain ⟨h1, h2, h3, h4⟩ := h
  refine ⟨hf, Nat.le_of_ble_eq_true h1, fun t T ht => Nat.blt_eq.mp (List.all_eq_true.mp h2 T (List.mem_of_getElem? ht)), fun T hT => ?_, fun T hT => ?_⟩
  · rw [hT] at h3
    exact Nat.beq_eq.mp h3
  · rw [hT] at h4
    exact Nat.beq_eq.mp h4
/-- what all bodies of a table rest on -/
theorem kRest_of {l : Launch} {cl : List vw_C} {aty : List FieldType} {mw : List (kMd × Nat × Nat)} {D : va_G} {cA aS : Nat → Nat} {tt : List kT} {Ty : Nat → Nat → Prop} {lo : Nat} {X : State → Heap → Prop} {ct : List kCt} {own : String} {ow : kOw} {d : Nat} (h1 : kOwC own ow k_lg []) (h2 : kOwF own ow cl k_lg) (h3 : kOwM own ow cl (mw.map (fun x => x.1)) k_lg []) (h4 : kclok cl k_lg) (h5 : ktok tt cl) (h6 : kXok X lo) (h7 : kTyp tt Ty) (h8 : ∀ (i : Nat) (C : kCt), ct[i]? = some C → C.2.2.2.2.2 < d → kMet l cl aty k_lg [] [] (mw.map (fun x => x.1)) D cA aS tt Ty lo X C) : kRest l cl aty k_lg [] [] (mw.map (fun x => x.1)) D cA aS tt Ty lo X ct own ow d :=
  ⟨k_lg_good, h1, h2, h3, h4, h5, fun w hw => (by cases hw), h6, h7, fun j q hq => (by simp at hq), h8⟩
/-- a contract is kept if all of lesser depth are -/
def kGo (l : Launch) (cl : List vw_C) (aty : List FieldType) (mw : List (kMd × Nat × Nat)) (D : va_G) (cA aS : Nat → Nat) (tt : List kT) (Ty : Nat → Nat → Prop) (lo : Nat) (X : State → Heap → Prop) (ct : List kCt) (C : kCt) : Prop :=
  (∀ (j : Nat) (C' : kCt), ct[j]? = some C' → C'.2.2.2.2.2 < C.2.2.2.2.2 → kMet l cl aty k_lg [] [] (mw.map (fun x => x.1)) D cA aS tt Ty lo X C') → kMet l cl aty k_lg [] [] (mw.map (fun x => x.1)) D cA aS tt Ty lo X C
theorem kGo_all {l : Launch} {cl : List vw_C} {aty : List FieldType} {mw : List (kMd × Nat × Nat)} {D : va_G} {cA aS : Nat → Nat} {tt : List kT} {Ty : Nat → Nat → Prop} {lo : Nat} {X : State → Heap → Prop} {ct : List kCt} (h : ∀ C ∈ ct, kGo l cl aty mw D cA aS tt Ty lo X ct C) : ∀ (i : Nat) (C : kCt), ct[i]? = some C → kMet l cl aty k_lg [] [] (mw.map (fun x => x.1)) D cA aS tt Ty lo X C :=
  kall_met (fun i C hi hlt => h C (List.mem_of_getElem? hi) hlt)
end
section
/-! TABLES 0 (printed by wip/p1/gen): types of cells, contracts, pools -/
def k0_tt : List kT := [(9, 13, [(0, 1, 1, (.inr (.inr 1))), (1, 1, 1, (.inr (.inr 3))), (2, 1, 1, (.inr (.inr 4))), (3, 1, 1, (.inr (.inr 4))), (4, 1, 1, (.inr (.inr 4))), (5, 1, 1, (.inr (.inr 60))), (6, 1, 1, (.inr (.inr 19))), (7, 1, 1, (.inr (.inr 25))), (8, 1, 1, (.inr (.inr 28))), (9, 1, 1, (.inr (.inr 32))), (10, 1, 1, (.inr (.inr 33))), (11, 1, 1, (.inr (.inr 34))), (12, 1, 1, (.inr (.inr 35)))], []), (8, 2, [(0, 1, 1, (.inr (.inr 2))), (1, 1, 1, (.inl [((.ofNat 0), (.ofNat 0))]))], []), (100, 900, [(0, 1, 900, (.inl [((.ofNat 0), (.ofNat 0))]))], []), (6, 6, [(0, 1, 1, (.inl [((.ofNat 0), (.ofNat 0))])), (1, 1, 1, (.inl [((.negSucc 0), (.negSucc 0))])), (2, 1, 1, (.inr (.inr 1))), (3, 1, 1, (.inl [((.ofNat 0), (.ofNat 0))])), (4, 1, 1, (.inl [((.ofNat 0), (.ofNat 0))])), (5, 1, 1, (.inl [((.ofNat 0), (.ofNat 0))]))], []), (3, 20, [(0, 1, 1, (.inl [((.ofNat 0), (.ofNat 0))])), (1, 1, 1, (.inl [((.ofNat 0), (.ofNat 0))])), (2, 1, 1, (.inl [((.ofNat 0), (.ofNat 0))])), (3, 1, 1, (.inl [((.ofNat 0), (.ofNat 0))])), (4, 1, 1, (.inl [((.ofNat 0), (.ofNat 0))])), (5, 1, 1, (.inl [((.ofNat 0), (.ofNat 0))])), (6, 1, 1, (.inl [((.ofNat 0), (.ofNat 0))])), (7, 1, 1, (.inl [((.ofNat 0), (.ofNat 0))])), (8, 1, 1, (.inl [((.ofNat 0), (.ofNat 0))])), (9, 1, 1, (.inl [((.ofNat 0), (.ofNat 0))])), (10, 1, 1, (.inr (.inr 5))), (11, 1, 1, (.inr (.inr 6))), (12, 1, 1, (.inr (.inr 7))), (13, 1, 1, (.inr (.inr 8))), (14, 1, 1, (.inr (.inr 9))), (15, 1, 1, (.inr (.inr 10))), (16, 1, 1, (.inr (.inr 11))), (17, 1, 1, (.inr (.inr 16))), (18, 1, 1, (.inr (.inr 17))), (19, 1, 1, (.inr (.inr 18)))], []), (100, 8, [(0, 1, 8, (.inl [((.ofNat 0), (.ofNat 0))]))], []), (100, 8, [(0, 1, 8, (.inl [((.ofNat 0), (.ofNat 0))]))], []), (100, 8, [(0, 1, 8, (.inl [((.ofNat 0), (.ofNat 0))]))], []), (100, 8, [(0, 1, 8, (.inl [((.ofNat 0), (.ofNat 0))]))], []), (100, 4, [(0, 1, 4, (.inl [((.ofNat 0), (.ofNat 0))]))], []), (100, 4, [(0, 1, 4, (.inl [((.ofNat 0), (.ofNat 0))]))], []), (100, 3, [(0, 1, 3, (.inl [((.ofNat 0), (.ofNat 0))]))], []), (100, 1, [(0, 1, 1, (.inl [((.ofNat 0), (.ofNat 0))]))], []), (100, 1, [(0, 1, 1, (.inl [((.ofNat 0), (.ofNat 0))]))], []), (100, 1, [(0, 1, 1, (.inl [((.ofNat 0), (.ofNat 0))]))], []), (100, 1, [(0, 1, 1, (.inl [((.ofNat 0), (.ofNat 0))]))], []), (100, 3, [(0, 1, 3, (.inl [((.ofNat 0), (.ofNat 0))]))], []), (100, 9, [(0, 1, 9, (.inl [((.ofNat 0), (.ofNat 0))]))], []), (100, 9, [(0, 1, 9, (.inl [((.ofNat 0), (.ofNat 0))]))], []), (5, 9, [(0, 1, 1, (.inr (.inr 20))), (1, 1, 1, (.inr (.inr 21))), (2, 1, 1, (.inr (.inr 22))), (3, 1, 1, (.inr (.inr 23))), (4, 1, 1, (.inr (.inr 24))), (5, 1, 1, (.inl [((.ofNat 0), (.ofNat 0))])), (6, 1, 1, (.inl [((.ofNat 0), (.ofNat 0))])), (7, 1, 1, (.inl [((.ofNat 0), (.ofNat 0))])), (8, 1, 1, (.inl [((.ofNat 0), (.ofNat 0))]))], []), (100, 61, [(0, 1, 61, (.inl [((.ofNat 0), (.ofNat 0))]))], []), (101, 61, [(0, 1, 61, (.inl [((.ofNat 0), (.ofNat 0))]))], []), (100, 61, [(0, 1, 61, (.inl [((.ofNat 0), (.ofNat 0))]))], []), (100, 61, [(0, 1, 61, (.inl [((.ofNat 0), (.ofNat 0))]))], []), (2, 4, [(0, 1, 1, (.inl [((.ofNat 0), (.ofNat 0))])), (1, 1, 1, (.inl [((.ofNat 0), (.ofNat 0))])), (2, 1, 1, (.inr (.inl [((.ofNat 0), (.ofNat 0))]))), (3, 1, 1, (.inl [((.ofNat 0), (.ofNat 0))]))], []), (1, 5, [(0, 1, 1, (.inr (.inr 26))), (1, 1, 1, (.inl [((.ofNat 0), (.ofNat 0))])), (2, 1, 1, (.inr (.inr 27))), (3, 1, 1, (.inl [((.ofNat 0), (.ofNat 0))])), (4, 1, 1, (.inl [((.ofNat 0), (.ofNat 0))]))], []), (100, 20, [(0, 1, 20, (.inl [((.ofNat 0), (.ofNat 0))]))], []), (100, 20, [(0, 1, 20, (.inl [((.ofNat 0), (.ofNat 0))]))], []), (4, 1, [(0, 1, 1, (.inr (.inr 29)))], []), (100, 13, [(0, 1, 13, (.inl [((.ofNat 0), (.ofNat 0))]))], []), (7, 3, [(0, 1, 1, (.inl [((.negSucc 0), (.negSucc 0))])), (1, 1, 1, (.inl [((.ofNat 0), (.ofNat 0))])), (2, 1, 1, (.inr (.inr 31)))], []), (103, 60, [(0, 1, 60, (.inr (.inl [((.ofNat 0), (.ofNat 0))])))], []), (104, 4, [(0, 1, 4, (.inr (.inr 30)))], []), (105, 3, [(0, 1, 3, (.inr (.inr 4)))], []), (106, 3, [(0, 1, 3, (.inr (.inr 60)))], []), (101, 3, [(0, 1, 3, (.inl [((.ofNat 0), (.ofNat 0))]))], []), (10, 38, [(0, 1, 1, (.inl [((.ofNat 0), (.ofNat 0))])), (1, 1, 1, (.inr (.inr 37))), (2, 1, 1, (.inr (.inr 38))), (3, 1, 1, (.inr (.inr 39))), (4, 1, 1, (.inr (.inr 40))), (5, 1, 1, (.inl [((.ofNat 0), (.ofNat 0))])), (6, 1, 1, (.inr (.inr 41))), (7, 1, 1, (.inl [((.ofNat 0), (.ofNat 0))])), (8, 1, 1, (.inl [((.ofNat 0), (.ofNat 0))])), (9, 1, 1, (.inl [((.ofNat 0), (.ofNat 0))])), (10, 1, 1, (.inl [((.ofNat 0), (.ofNat 0))])), (11, 1, 1, (.inl [((.ofNat 0), (.ofNat 0))])), (12, 1, 1, (.inl [((.ofNat 0), (.ofNat 0))])), (13, 1, 1, (.inl [((.negSucc 0), (.negSucc 0))])), (14, 1, 1, (.inr (.inr 42))), (15, 1, 1, (.inl [((.negSucc 0), (.negSucc 0))])), (16, 1, 1, (.inr (.inr 43))), (17, 1, 1, (.inr (.inr 44))), (18, 1, 1, (.inr (.inr 45))), (19, 1, 1, (.inr (.inr 46))), (20, 1, 1, (.inl [((.ofNat 0), (.ofNat 0))])), (21, 1, 1, (.inl [((.negSucc 0), (.ofNat 0))])), (22, 1, 1, (.inl [((.ofNat 0), (.ofNat 0))])), (23, 1, 1, (.inr (.inl [((.ofNat 0), (.ofNat 0))]))), (24, 1, 1, (.inl [((.ofNat 0), (.ofNat 0))])), (25, 1, 1, (.inl [((.ofNat 0), (.ofNat 0))])), (26, 1, 1, (.inl [((.ofNat 0), (.ofNat 0))])), (27, 1, 1, (.inl [((.ofNat 0), (.ofNat 0))])), (28, 1, 1, (.inr (.inr 47))), (29, 1, 1, (.inr (.inr 48))), (30, 1, 1, (.inr (.inr 49))), (31, 1, 1, (.inr (.inr 50))), (32, 1, 1, (.inl [((.ofNat 0), (.ofNat 0))])), (33, 1, 1, (.inl [((.ofNat 0), (.ofNat 0))])), (34, 1, 1, (.inr (.inr 51))), (35, 1, 1, (.inr (.inr 52))), (36, 1, 1, (.inr (.inr 53))), (37, 1, 1, (.inr (.inr 54)))], []), (100, 115, [(0, 1, 115, (.inl [((.ofNat 0), (.ofNat 0))]))], []), (100, 345, [(0, 1, 345, (.inl [((.ofNat 0), (.ofNat 0))]))], []), (101, 3, [(0, 1, 3, (.inl [((.ofNat 0), (.ofNat 0))]))], []), (102, 900, [(0, 1, 900, (.inl [((.ofNat 0), (.ofNat 0))]))], []), (100, 5, [(0, 1, 5, (.inl [((.ofNat 0), (.ofNat 0))]))], []), (100, 115, [(0, 1, 115, (.inl [((.ofNat 0), (.ofNat 0))]))], []), (100, 8, [(0, 1, 8, (.inl [((.ofNat 0), (.ofNat 0))]))], []), (100, 8, [(0, 1, 8, (.inl [((.ofNat 0), (.ofNat 0))]))], []), (100, 8, [(0, 1, 8, (.inl [((.negSucc 0), (.ofNat 0))]))], []), (100, 8, [(0, 1, 8, (.inl [((.negSucc 0), (.ofNat 0))]))], []), (100, 20, [(0, 1, 20, (.inl [((.ofNat 0), (.ofNat 0))]))], []), (100, 20, [(0, 1, 20, (.inl [((.ofNat 0), (.ofNat 0))]))], []), (100, 21, [(0, 1, 21, (.inl [((.ofNat 0), (.ofNat 0))]))], []), (100, 240, [(0, 1, 240, (.inl [((.ofNat 0), (.ofNat 0))]))], []), (100, 4, [(0, 1, 4, (.inl [((.negSucc 0), (.negSucc 0))]))], []), (100, 4, [(0, 1, 4, (.inl [((.ofNat 0), (.ofNat 0))]))], []), (103, 240, [(0, 1, 240, (.inr (.inl [((.ofNat 0), (.ofNat 0))])))], []), (103, 60, [(0, 1, 60, (.inr (.inl [((.ofNat 0), (.ofNat 0))])))], []), (100, 1, [(0, 1, 1, (.inl [((.ofNat 0), (.ofNat 0))]))], []), (100, 1, [(0, 1, 1, (.inl [((.ofNat 0), (.ofNat 0))]))], []), (100, 1, [(0, 1, 1, (.inl [((.ofNat 0), (.ofNat 0))]))], []), (100, 1, [(0, 1, 1, (.inl [((.ofNat 0), (.ofNat 0))]))], []), (100, 1, [(0, 1, 1, (.inl [((.ofNat 0), (.ofNat 0))]))], []), (0, 4, [(0, 1, 1, (.inl [((.ofNat 0), (.ofNat 0))])), (1, 1, 1, (.inr (.inr 61))), (2, 1, 1, (.inr (.inr 62))), (3, 1, 1, (.inr (.inr 63)))], []), (101, 40, [(0, 1, 40, (.inl [((.ofNat 0), (.ofNat 0))]))], []), (100, 40, [(0, 1, 40, (.inl [((.ofNat 0), (.ofNat 0))]))], []), (100, 40, [(0, 1, 40, (.inl [((.ofNat 0), (.ofNat 0))]))], [])]
def k_aty : List FieldType := [.int, .boolean, .byte, .long, .object "SilenceMatch$Row", .object "SilenceMatch$Green", .object "SilenceMatch$Acts"]
def ct0_0 : kCt := (0, ([], [4], [(0, (.inr (.inr (.inl 0))))], [], [], []), [(0, 0, ([], (.ofNat 0)), (.ofNat 1), (.ofNat 0))], [([], [], some (.inl ([], (.ofNat 0))), [], [], [])], [], 0)
def ct0_1 : kCt := (1, ([], [4], [(0, (.inr (.inr (.inl 0))))], [], [], []), [(0, 0, ([], (.ofNat 0)), (.ofNat 1), (.ofNat 0))], [([], [], some (.inl ([], (.ofNat 0))), [], [], [])], [], 0)
def ct0_2 : kCt := (2, ([((.negSucc 2147483647), (.ofNat 2147483647))], [4], [(0, (.inr (.inr (.inl 0)))), (1, (.inl ([(0, (.ofNat 1))], (.ofNat 0))))], [], [], []), [(0, 0, ([], (.ofNat 0)), (.ofNat 1), (.ofNat 0)), (0, 1, ([], (.ofNat 0)), (.ofNat 1), (.ofNat 0))], [([], [], some (.inl ([], (.ofNat 0))), [], [], [])], [], 1)
def ct0_3 : kCt := (3, ([((.negSucc 2147483647), (.ofNat 2147483647))], [4], [(0, (.inr (.inr (.inl 0)))), (1, (.inl ([(0, (.ofNat 1))], (.ofNat 0))))], [], [], []), [(0, 0, ([], (.ofNat 0)), (.ofNat 1), (.ofNat 0)), (0, 1, ([], (.ofNat 0)), (.ofNat 1), (.ofNat 0))], [([], [], some (.inl ([], (.ofNat 0))), [], [], [])], [], 0)
def ct0_4 : kCt := (4, ([((.negSucc 2147483647), (.ofNat 2147483647))], [4], [(0, (.inr (.inr (.inl 0)))), (1, (.inl ([(0, (.ofNat 1))], (.ofNat 0))))], [], [], []), [(0, 0, ([], (.ofNat 0)), (.ofNat 1), (.ofNat 0)), (0, 1, ([], (.ofNat 0)), (.ofNat 1), (.ofNat 0))], [([], [], some (.inl ([], (.ofNat 0))), [], [], [])], [], 0)
def ct0_5 : kCt := (5, ([((.negSucc 2147483647), (.ofNat 2147483647))], [], [(0, (.inl ([(0, (.ofNat 1))], (.ofNat 0))))], [], [], []), [(0, 0, ([], (.ofNat 0)), (.ofNat 1), (.ofNat 0))], [([], [], some (.inl ([], (.ofNat 0))), [], [([(0, (.negSucc 0))], (.negSucc 0))], []), ([], [], some (.inl ([], (.ofNat 0))), [], [([(0, (.ofNat 1))], (.negSucc 3))], []), ([], [], some (.inl ([], (.ofNat 1))), [], [([(0, (.ofNat 1))], (.ofNat 0)), ([(0, (.negSucc 0))], (.ofNat 3))], [])], [], 0)
def ct0_6 : kCt := (6, ([((.negSucc 2147483647), (.ofNat 2147483647))], [], [(0, (.inl ([(0, (.ofNat 1))], (.ofNat 0))))], [], [], []), [(0, 0, ([], (.ofNat 0)), (.ofNat 1), (.ofNat 0))], [([], [], some (.inl ([], (.ofNat 0))), [], [([(0, (.negSucc 0))], (.negSucc 0))], []), ([], [], some (.inl ([], (.ofNat 0))), [], [([(0, (.ofNat 1))], (.negSucc 2))], []), ([], [], some (.inl ([], (.ofNat 1))), [], [([(0, (.ofNat 1))], (.ofNat 0)), ([(0, (.negSucc 0))], (.ofNat 2))], [])], [], 0)
def ct0_7 : kCt := (7, ([((.negSucc 2147483647), (.ofNat 2147483647))], [], [(0, (.inl ([(0, (.ofNat 1))], (.ofNat 0))))], [], [], []), [(0, 0, ([], (.ofNat 0)), (.ofNat 1), (.ofNat 0))], [([], [], some (.inl ([], (.ofNat 0))), [], [], []), ([], [], some (.inl ([], (.ofNat 1))), [], [([(0, (.ofNat 1))], (.ofNat 0)), ([(0, (.negSucc 0))], (.ofNat 12))], [])], [], 0)
def ct0_8 : kCt := (8, ([((.negSucc 2147483647), (.ofNat 2147483647))], [0], [(0, (.inr (.inr (.inl 0)))), (1, (.inl ([(0, (.ofNat 1))], (.ofNat 0))))], [], [], []), [(0, 0, ([], (.ofNat 0)), (.ofNat 1), (.ofNat 0)), (0, 1, ([], (.ofNat 0)), (.ofNat 1), (.ofNat 0))], [([], [], some (.inl ([], (.ofNat 0))), [], [], [])], [], 1)
def ct0_9 : kCt := (9, ([((.negSucc 2147483647), (.ofNat 2147483647))], [0], [(0, (.inr (.inr (.inl 0)))), (1, (.inl ([(0, (.ofNat 1))], (.ofNat 0))))], [], [], []), [(0, 0, ([], (.ofNat 0)), (.ofNat 1), (.ofNat 0)), (0, 1, ([], (.ofNat 0)), (.ofNat 1), (.ofNat 0))], [([], [], some (.inl ([], (.ofNat 0))), [], [], [])], [], 1)
def ct0_10 : kCt := (10, ([((.negSucc 2147483647), (.ofNat 2147483647)), ((.negSucc 2147483647), (.ofNat 2147483647))], [0], [(0, (.inr (.inr (.inl 0)))), (1, (.inl ([(0, (.ofNat 1))], (.ofNat 0)))), (2, (.inl ([(1, (.ofNat 1))], (.ofNat 0))))], [], [], []), [(0, 0, ([], (.ofNat 0)), (.ofNat 1), (.ofNat 0)), (0, 1, ([], (.ofNat 0)), (.ofNat 1), (.ofNat 0)), (0, 2, ([], (.ofNat 0)), (.ofNat 1), (.ofNat 0))], [([], [], some (.inl ([], (.ofNat 0))), [], [], [])], [], 1)
def ct0_11 : kCt := (11, ([((.negSucc 2147483647), (.ofNat 2147483647))], [], [(0, (.inl ([(0, (.ofNat 1))], (.ofNat 0))))], [], [], []), [(0, 0, ([], (.ofNat 0)), (.ofNat 1), (.ofNat 0))], [([((.negSucc 2147483647), (.ofNat 2147483647))], [], some (.inl ([(1, (.ofNat 1))], (.ofNat 0))), [], [], [(0, 0, ([], (.ofNat 0)), (.ofNat 1), (.ofNat 0))])], [], 0)
def ct0_12 : kCt := (12, ([((.negSucc 2147483647), (.ofNat 2147483647))], [0], [(0, (.inr (.inr (.inl 0)))), (1, (.inl ([(0, (.ofNat 1))], (.ofNat 0))))], [], [], []), [(0, 0, ([], (.ofNat 0)), (.ofNat 1), (.ofNat 0)), (0, 1, ([], (.ofNat 0)), (.ofNat 1), (.ofNat 0))], [([], [], some (.inl ([], (.negSucc 1))), [], [], [])], [], 1)
def ct0_13 : kCt := (13, ([], [0], [(0, (.inr (.inr (.inl 0))))], [], [], []), [(0, 0, ([], (.ofNat 0)), (.ofNat 1), (.ofNat 0))], [([((.ofNat 0), (.ofNat 0))], [], some (.inl ([(0, (.ofNat 1))], (.ofNat 0))), [], [], [(0, 0, ([], (.ofNat 0)), (.ofNat 1), (.ofNat 0))])], [], 0)
def ct0_14 : kCt := (14, ([], [4], [(0, (.inr (.inr (.inl 0))))], [], [], []), [(0, 0, ([], (.ofNat 0)), (.ofNat 1), (.ofNat 0))], [([], [], none, [], [], [])], [(4, some 0), (4, some 1), (4, some 2), (4, some 3), (4, some 4), (4, some 5), (4, some 6), (4, some 7), (4, some 8), (4, some 9)], 0)
def ct0_15 : kCt := (15, ([], [4, 4], [(0, (.inr (.inr (.inl 0)))), (1, (.inr (.inr (.inl 1))))], [], [], []), [(0, 0, ([], (.ofNat 0)), (.ofNat 1), (.ofNat 0)), (0, 1, ([], (.ofNat 0)), (.ofNat 1), (.ofNat 0))], [([], [], none, [], [], [])], [(4, some 0), (4, some 1), (4, some 2), (4, some 3), (4, some 4), (4, some 5), (4, some 6), (4, some 7), (4, some 8), (4, some 9), (5, none), (6, none), (7, none), (8, none), (9, none), (10, none), (11, none), (16, none), (17, none), (18, none)], 1)
def ct0_16 : kCt := (16, ([((.ofNat 0), (.ofNat 0))], [1], [(0, (.inr (.inr (.inl 0)))), (1, (.inl ([(0, (.ofNat 1))], (.ofNat 0))))], [], [], []), [(0, 0, ([], (.ofNat 0)), (.ofNat 1), (.ofNat 0)), (0, 1, ([], (.ofNat 0)), (.ofNat 1), (.ofNat 0))], [([], [], some (.inl ([], (.ofNat 0))), [], [], [])], [], 0)
def ct0_17 : kCt := (17, ([((.negSucc 2147483647), (.ofNat 2147483647))], [], [(0, (.inl ([(0, (.ofNat 1))], (.ofNat 0))))], [], [], []), [(0, 0, ([], (.ofNat 0)), (.ofNat 1), (.ofNat 0))], [([], [], some (.inl ([], (.ofNat 1))), [], [([(0, (.ofNat 1))], (.negSucc 9)), ([(0, (.negSucc 0))], (.ofNat 32))], []), ([], [], some (.inl ([], (.ofNat 0))), [], [], [])], [], 0)
def ct0_18 : kCt := (18, ([((.negSucc 2147483647), (.ofNat 2147483647))], [], [(0, (.inl ([(0, (.ofNat 1))], (.ofNat 0))))], [], [], []), [(0, 0, ([], (.ofNat 0)), (.ofNat 1), (.ofNat 0))], [([], [], some (.inl ([], (.ofNat 4))), [], [], []), ([], [], some (.inl ([], (.ofNat 3))), [], [([(0, (.ofNat 1))], (.negSucc 58)), ([(0, (.negSucc 0))], (.ofNat 59))], []), ([], [], some (.inl ([], (.ofNat 2))), [], [([(0, (.ofNat 1))], (.negSucc 47)), ([(0, (.negSucc 0))], (.ofNat 57))], []), ([], [], some (.inl ([], (.ofNat 1))), [], [([(0, (.ofNat 1))], (.negSucc 96)), ([(0, (.negSucc 0))], (.ofNat 122))], [])], [], 0)
def ct0_19 : kCt := (19, ([], [3], [(0, (.inr (.inr (.inl 0))))], [], [], []), [(0, 0, ([], (.ofNat 0)), (.ofNat 1), (.ofNat 0))], [([], [], none, [], [], [])], [(3, some 3), (3, some 4), (3, some 5)], 0)
def ct0_20 : kCt := (20, ([], [3, 4], [(0, (.inr (.inr (.inl 0)))), (1, (.inr (.inr (.inl 1))))], [], [], []), [(0, 0, ([], (.ofNat 0)), (.ofNat 1), (.ofNat 0)), (0, 1, ([], (.ofNat 0)), (.ofNat 1), (.ofNat 0))], [([], [], none, [], [], [])], [(3, some 0), (3, some 1), (3, some 3), (3, some 4), (3, some 5), (4, some 0), (4, some 1), (4, some 2), (4, some 3), (4, some 4), (4, some 5), (4, some 6), (4, some 7), (4, some 8), (4, some 9)], 1)
def ct0_21 : kCt := (21, ([], [19, 4], [(0, (.inr (.inr (.inl 0)))), (1, (.inr (.inr (.inl 1))))], [], [], []), [(0, 0, ([], (.ofNat 0)), (.ofNat 1), (.ofNat 0)), (0, 1, ([], (.ofNat 0)), (.ofNat 1), (.ofNat 0))], [([], [], none, [], [], [])], [(20, none), (21, none)], 0)
def ct0_22 : kCt := (22, ([((.negSucc 2147483647), (.ofNat 2147483647))], [0], [(0, (.inr (.inr (.inl 0)))), (1, (.inl ([(0, (.ofNat 1))], (.ofNat 0))))], [], [], []), [(0, 0, ([], (.ofNat 0)), (.ofNat 1), (.ofNat 0)), (0, 1, ([], (.ofNat 0)), (.ofNat 1), (.ofNat 0))], [([], [], some (.inl ([], (.negSucc 0))), [], [([(0, (.negSucc 0))], (.negSucc 0))], []), ([], [], some (.inl ([(0, (.ofNat 1))], (.ofNat 0))), [], [([(0, (.ofNat 1))], (.ofNat 0)), ([(0, (.negSucc 0))], (.ofNat 0))], []), ([], [], some (.inl ([], (.negSucc 0))), [], [([(0, (.ofNat 1))], (.negSucc 0))], [])], [(1, some 1)], 0)
def ct0_23 : kCt := (23, ([], [0], [(0, (.inr (.inr (.inl 0))))], [], [], []), [(0, 0, ([], (.ofNat 0)), (.ofNat 1), (.ofNat 0))], [([], [], some (.inl ([], (.ofNat 0))), [], [], [])], [(1, some 1), (3, some 0), (3, some 1), (3, some 3), (3, some 4), (3, some 5), (4, some 0), (4, some 1), (4, some 2), (4, some 3), (4, some 4), (4, some 5), (4, some 6), (4, some 7), (4, some 8), (4, some 9), (5, none), (6, none), (7, none), (8, none), (9, none), (10, none), (11, none), (16, none), (17, none), (18, none), (20, none), (21, none), (60, some 0)], 2)
def ct0_24 : kCt := (24, ([((.negSucc 2147483647), (.ofNat 2147483647))], [0], [(0, (.inr (.inr (.inl 0)))), (1, (.inl ([(0, (.ofNat 1))], (.ofNat 0))))], [], [], []), [(0, 0, ([], (.ofNat 0)), (.ofNat 1), (.ofNat 0)), (0, 1, ([], (.ofNat 0)), (.ofNat 1), (.ofNat 0))], [([], [], some (.inl ([], (.negSucc 0))), [], [([(0, (.ofNat 1))], (.negSucc 1))], []), ([], [], some (.inl ([], (.negSucc 0))), [], [([(0, (.ofNat 1))], (.negSucc 0)), ([(0, (.negSucc 0))], (.ofNat 1))], []), ([], [], some (.inl ([], (.ofNat 0))), [], [([(0, (.ofNat 1))], (.ofNat 0)), ([(0, (.negSucc 0))], (.ofNat 0))], []), ([], [], some (.inl ([], (.negSucc 0))), [], [([(0, (.negSucc 0))], (.negSucc 0))], [])], [], 0)
def ct0_25 : kCt := (25, ([((.negSucc 2147483647), (.ofNat 2147483647)), ((.negSucc 2147483647), (.ofNat 2147483647))], [0], [(0, (.inr (.inr (.inl 0)))), (1, (.inl ([(0, (.ofNat 1))], (.ofNat 0)))), (2, (.inl ([(1, (.ofNat 1))], (.ofNat 0))))], [], [], []), [(0, 0, ([], (.ofNat 0)), (.ofNat 1), (.ofNat 0)), (0, 1, ([], (.ofNat 0)), (.ofNat 1), (.ofNat 0)), (0, 2, ([], (.ofNat 0)), (.ofNat 1), (.ofNat 0))], [([], [], some (.inl ([], (.negSucc 1))), [], [], [])], [], 1)
def ct0_26 : kCt := (26, ([((.negSucc 2147483647), (.ofNat 2147483647)), ((.negSucc 2147483647), (.ofNat 2147483647))], [0], [(0, (.inr (.inr (.inl 0)))), (1, (.inl ([(0, (.ofNat 1))], (.ofNat 0)))), (2, (.inl ([(1, (.ofNat 1))], (.ofNat 0))))], [], [], []), [(0, 0, ([], (.ofNat 0)), (.ofNat 1), (.ofNat 0)), (0, 1, ([], (.ofNat 0)), (.ofNat 1), (.ofNat 0)), (0, 2, ([], (.ofNat 0)), (.ofNat 1), (.ofNat 0))], [([], [], some (.inl ([], (.negSucc 1))), [], [], [])], [], 1)
def ct0_27 : kCt := (27, ([((.negSucc 2147483647), (.ofNat 2147483647)), ((.negSucc 2147483647), (.ofNat 2147483647))], [0], [(0, (.inr (.inr (.inl 0)))), (1, (.inl ([(0, (.ofNat 1))], (.ofNat 0)))), (2, (.inl ([(1, (.ofNat 1))], (.ofNat 0))))], [], [], []), [(0, 0, ([], (.ofNat 0)), (.ofNat 1), (.ofNat 0)), (0, 1, ([], (.ofNat 0)), (.ofNat 1), (.ofNat 0)), (0, 2, ([], (.ofNat 0)), (.ofNat 1), (.ofNat 0))], [([], [], some (.inl ([], (.negSucc 1))), [], [], [])], [], 2)
def ct0_28 : kCt := (28, ([((.negSucc 2147483647), (.ofNat 2147483647))], [0], [(0, (.inr (.inr (.inl 0)))), (1, (.inl ([(0, (.ofNat 1))], (.ofNat 0))))], [], [], []), [(0, 0, ([], (.ofNat 0)), (.ofNat 1), (.ofNat 0)), (0, 1, ([], (.ofNat 0)), (.ofNat 1), (.ofNat 0))], [([], [], some (.inl ([], (.negSucc 1))), [], [], [])], [], 1)
def ct0_29 : kCt := (29, ([((.negSucc 2147483647), (.ofNat 2147483647)), ((.negSucc 2147483647), (.ofNat 2147483647))], [0], [(0, (.inr (.inr (.inl 0)))), (1, (.inl ([(0, (.ofNat 1))], (.ofNat 0)))), (2, (.inl ([(1, (.ofNat 1))], (.ofNat 0))))], [], [], []), [(0, 0, ([], (.ofNat 0)), (.ofNat 1), (.ofNat 0)), (0, 1, ([], (.ofNat 0)), (.ofNat 1), (.ofNat 0)), (0, 2, ([], (.ofNat 0)), (.ofNat 1), (.ofNat 0))], [([], [], some (.inl ([], (.negSucc 1))), [], [], [])], [], 2)
def ct0_30 : kCt := (30, ([((.negSucc 2147483647), (.ofNat 2147483647))], [0], [(0, (.inr (.inr (.inl 0)))), (1, (.inl ([(0, (.ofNat 1))], (.ofNat 0))))], [], [], []), [(0, 0, ([], (.ofNat 0)), (.ofNat 1), (.ofNat 0)), (0, 1, ([], (.ofNat 0)), (.ofNat 1), (.ofNat 0))], [([], [], some (.inl ([], (.negSucc 1))), [], [], [])], [], 1)
def ct0_31 : kCt := (31, ([((.negSucc 2147483647), (.ofNat 2147483647))], [0], [(0, (.inr (.inr (.inl 0)))), (1, (.inl ([(0, (.ofNat 1))], (.ofNat 0))))], [], [], []), [(0, 0, ([], (.ofNat 0)), (.ofNat 1), (.ofNat 0)), (0, 1, ([], (.ofNat 0)), (.ofNat 1), (.ofNat 0))], [([], [], some (.inl ([], (.negSucc 1))), [], [], [])], [], 2)
def ct0_32 : kCt := (32, ([((.negSucc 2147483647), (.ofNat 2147483647))], [0], [(0, (.inr (.inr (.inl 0)))), (1, (.inl ([(0, (.ofNat 1))], (.ofNat 0))))], [], [], []), [(0, 0, ([], (.ofNat 0)), (.ofNat 1), (.ofNat 0)), (0, 1, ([], (.ofNat 0)), (.ofNat 1), (.ofNat 0))], [([], [], some (.inl ([], (.negSucc 1))), [], [], [])], [], 2)
def ct0_33 : kCt := (33, ([((.negSucc 2147483647), (.ofNat 2147483647))], [0], [(0, (.inr (.inr (.inl 0)))), (1, (.inl ([(0, (.ofNat 1))], (.ofNat 0))))], [], [], []), [(0, 0, ([], (.ofNat 0)), (.ofNat 1), (.ofNat 0)), (0, 1, ([], (.ofNat 0)), (.ofNat 1), (.ofNat 0))], [([], [], some (.inl ([], (.negSucc 1))), [], [], [])], [], 1)
def ct0_34 : kCt := (34, ([((.negSucc 2147483647), (.ofNat 2147483647))], [0], [(0, (.inr (.inr (.inl 0)))), (1, (.inl ([(0, (.ofNat 1))], (.ofNat 0))))], [], [], []), [(0, 0, ([], (.ofNat 0)), (.ofNat 1), (.ofNat 0)), (0, 1, ([], (.ofNat 0)), (.ofNat 1), (.ofNat 0))], [([], [], some (.inl ([], (.negSucc 1))), [], [], [])], [], 2)
def ct0_35 : kCt := (35, ([((.negSucc 2147483647), (.ofNat 2147483647))], [0], [(0, (.inr (.inr (.inl 0)))), (1, (.inl ([(0, (.ofNat 1))], (.ofNat 0))))], [], [], []), [(0, 0, ([], (.ofNat 0)), (.ofNat 1), (.ofNat 0)), (0, 1, ([], (.ofNat 0)), (.ofNat 1), (.ofNat 0))], [([], [], some (.inl ([], (.negSucc 1))), [], [], [])], [], 2)
def ct0_36 : kCt := (36, ([((.negSucc 2147483647), (.ofNat 2147483647))], [0], [(0, (.inr (.inr (.inl 0)))), (1, (.inl ([(0, (.ofNat 1))], (.ofNat 0))))], [], [], []), [(0, 0, ([], (.ofNat 0)), (.ofNat 1), (.ofNat 0)), (0, 1, ([], (.ofNat 0)), (.ofNat 1), (.ofNat 0))], [([], [], some (.inl ([], (.negSucc 1))), [], [], [])], [], 1)
def ct0_37 : kCt := (37, ([((.negSucc 2147483647), (.ofNat 2147483647))], [0], [(0, (.inr (.inr (.inl 0)))), (1, (.inl ([(0, (.ofNat 1))], (.ofNat 0))))], [], [], []), [(0, 0, ([], (.ofNat 0)), (.ofNat 1), (.ofNat 0)), (0, 1, ([], (.ofNat 0)), (.ofNat 1), (.ofNat 0))], [([], [], some (.inl ([], (.negSucc 1))), [], [], [])], [], 1)
def ct0_38 : kCt := (38, ([((.negSucc 2147483647), (.ofNat 2147483647)), ((.negSucc 2147483647), (.ofNat 2147483647))], [0], [(0, (.inr (.inr (.inl 0)))), (1, (.inl ([(0, (.ofNat 1))], (.ofNat 0)))), (2, (.inl ([(1, (.ofNat 1))], (.ofNat 0))))], [], [], []), [(0, 0, ([], (.ofNat 0)), (.ofNat 1), (.ofNat 0)), (0, 1, ([], (.ofNat 0)), (.ofNat 1), (.ofNat 0)), (0, 2, ([], (.ofNat 0)), (.ofNat 1), (.ofNat 0))], [([], [], some (.inl ([], (.negSucc 1))), [], [], [])], [], 2)
def ct0_39 : kCt := (39, ([], [0], [(0, (.inr (.inr (.inl 0))))], [], [], []), [(0, 0, ([], (.ofNat 0)), (.ofNat 1), (.ofNat 0))], [([], [], some (.inl ([], (.negSucc 1))), [], [], [])], [], 1)
def ct0_40 : kCt := (40, ([], [0], [(0, (.inr (.inr (.inl 0))))], [], [], []), [(0, 0, ([], (.ofNat 0)), (.ofNat 1), (.ofNat 0))], [([], [], some (.inl ([], (.negSucc 1))), [], [], [])], [], 1)
def ct0_41 : kCt := (41, ([], [0], [(0, (.inr (.inr (.inl 0))))], [], [], []), [(0, 0, ([], (.ofNat 0)), (.ofNat 1), (.ofNat 0))], [([], [], some (.inl ([], (.negSucc 1))), [], [], [])], [], 1)
def ct0_42 : kCt := (42, ([((.negSucc 2147483647), (.ofNat 2147483647))], [0], [(0, (.inr (.inr (.inl 0)))), (1, (.inl ([(0, (.ofNat 1))], (.ofNat 0))))], [], [], []), [(0, 0, ([], (.ofNat 0)), (.ofNat 1), (.ofNat 0)), (0, 1, ([], (.ofNat 0)), (.ofNat 1), (.ofNat 0))], [([], [], some (.inl ([], (.negSucc 1))), [], [], [])], [], 2)
def ct0_43 : kCt := (43, ([((.negSucc 2147483647), (.ofNat 2147483647))], [0], [(0, (.inr (.inr (.inl 0)))), (1, (.inl ([(0, (.ofNat 1))], (.ofNat 0))))], [], [], []), [(0, 0, ([], (.ofNat 0)), (.ofNat 1), (.ofNat 0)), (0, 1, ([], (.ofNat 0)), (.ofNat 1), (.ofNat 0))], [([], [], some (.inl ([], (.negSucc 1))), [], [], [])], [], 2)
def ct0_44 : kCt := (44, ([((.negSucc 2147483647), (.ofNat 2147483647))], [0], [(0, (.inr (.inr (.inl 0)))), (1, (.inl ([(0, (.ofNat 1))], (.ofNat 0))))], [], [], []), [(0, 0, ([], (.ofNat 0)), (.ofNat 1), (.ofNat 0)), (0, 1, ([], (.ofNat 0)), (.ofNat 1), (.ofNat 0))], [([], [], some (.inl ([], (.negSucc 1))), [], [], [])], [], 1)
def ct0_45 : kCt := (45, ([((.negSucc 2147483647), (.ofNat 2147483647))], [0], [(0, (.inr (.inr (.inl 0)))), (1, (.inl ([(0, (.ofNat 1))], (.ofNat 0))))], [], [], []), [(0, 0, ([], (.ofNat 0)), (.ofNat 1), (.ofNat 0)), (0, 1, ([], (.ofNat 0)), (.ofNat 1), (.ofNat 0))], [([], [], some (.inl ([], (.negSucc 1))), [], [], [])], [], 2)
def ct0_46 : kCt := (46, ([], [0], [(0, (.inr (.inr (.inl 0))))], [], [], []), [(0, 0, ([], (.ofNat 0)), (.ofNat 1), (.ofNat 0))], [([], [], some (.inl ([], (.negSucc 1))), [], [], [])], [], 1)
def ct0_47 : kCt := (47, ([], [0], [(0, (.inr (.inr (.inl 0))))], [], [], []), [(0, 0, ([], (.ofNat 0)), (.ofNat 1), (.ofNat 0))], [([], [], some (.inl ([], (.negSucc 1))), [], [], [])], [], 1)
def ct0_48 : kCt := (48, ([((.negSucc 2147483647), (.ofNat 2147483647))], [0], [(0, (.inr (.inr (.inl 0)))), (1, (.inl ([(0, (.ofNat 1))], (.ofNat 0))))], [], [], []), [(0, 0, ([], (.ofNat 0)), (.ofNat 1), (.ofNat 0)), (0, 1, ([], (.ofNat 0)), (.ofNat 1), (.ofNat 0))], [([], [], some (.inl ([], (.negSucc 1))), [], [], [])], [], 2)
def ct0_49 : kCt := (49, ([], [0], [(0, (.inr (.inr (.inl 0))))], [], [], []), [(0, 0, ([], (.ofNat 0)), (.ofNat 1), (.ofNat 0))], [([], [], some (.inl ([], (.negSucc 1))), [], [], [])], [], 1)
def ct0_50 : kCt := (50, ([((.negSucc 2147483647), (.ofNat 2147483647))], [0], [(0, (.inr (.inr (.inl 0)))), (1, (.inl ([(0, (.ofNat 1))], (.ofNat 0))))], [], [], []), [(0, 0, ([], (.ofNat 0)), (.ofNat 1), (.ofNat 0)), (0, 1, ([], (.ofNat 0)), (.ofNat 1), (.ofNat 0))], [([], [], some (.inl ([], (.negSucc 1))), [], [], [])], [], 2)
def ct0_51 : kCt := (51, ([], [0], [(0, (.inr (.inr (.inl 0))))], [], [], []), [(0, 0, ([], (.ofNat 0)), (.ofNat 1), (.ofNat 0))], [([], [], some (.inl ([], (.negSucc 1))), [], [], [])], [], 1)
def ct0_52 : kCt := (52, ([((.negSucc 2147483647), (.ofNat 2147483647))], [0], [(0, (.inr (.inr (.inl 0)))), (1, (.inl ([(0, (.ofNat 1))], (.ofNat 0))))], [], [], []), [(0, 0, ([], (.ofNat 0)), (.ofNat 1), (.ofNat 0)), (0, 1, ([], (.ofNat 0)), (.ofNat 1), (.ofNat 0))], [([], [], some (.inl ([], (.negSucc 1))), [], [], [])], [], 1)
def ct0_53 : kCt := (53, ([((.negSucc 2147483647), (.ofNat 2147483647))], [0], [(0, (.inr (.inr (.inl 0)))), (1, (.inl ([(0, (.ofNat 1))], (.ofNat 0))))], [], [], []), [(0, 0, ([], (.ofNat 0)), (.ofNat 1), (.ofNat 0)), (0, 1, ([], (.ofNat 0)), (.ofNat 1), (.ofNat 0))], [([], [], some (.inl ([], (.negSucc 1))), [], [], [])], [], 1)
def ct0_54 : kCt := (54, ([((.negSucc 2147483647), (.ofNat 2147483647))], [0], [(0, (.inr (.inr (.inl 0)))), (1, (.inl ([(0, (.ofNat 1))], (.ofNat 0))))], [], [], []), [(0, 0, ([], (.ofNat 0)), (.ofNat 1), (.ofNat 0)), (0, 1, ([], (.ofNat 0)), (.ofNat 1), (.ofNat 0))], [([], [], some (.inl ([], (.negSucc 1))), [], [], [])], [], 1)
def ct0_55 : kCt := (55, ([((.negSucc 2147483647), (.ofNat 2147483647))], [0], [(0, (.inr (.inr (.inl 0)))), (1, (.inl ([(0, (.ofNat 1))], (.ofNat 0))))], [], [], []), [(0, 0, ([], (.ofNat 0)), (.ofNat 1), (.ofNat 0)), (0, 1, ([], (.ofNat 0)), (.ofNat 1), (.ofNat 0))], [([], [], some (.inl ([], (.negSucc 1))), [], [], [])], [], 1)
def ct0_56 : kCt := (56, ([((.negSucc 2147483647), (.ofNat 2147483647))], [0], [(0, (.inr (.inr (.inl 0)))), (1, (.inl ([(0, (.ofNat 1))], (.ofNat 0))))], [], [], []), [(0, 0, ([], (.ofNat 0)), (.ofNat 1), (.ofNat 0)), (0, 1, ([], (.ofNat 0)), (.ofNat 1), (.ofNat 0))], [([], [], some (.inl ([], (.negSucc 999))), [], [], [])], [], 1)
def ct0_57 : kCt := (57, ([((.negSucc 2147483647), (.ofNat 2147483647))], [0], [(0, (.inr (.inr (.inl 0)))), (1, (.inl ([(0, (.ofNat 1))], (.ofNat 0))))], [], [], []), [(0, 0, ([], (.ofNat 0)), (.ofNat 1), (.ofNat 0)), (0, 1, ([], (.ofNat 0)), (.ofNat 1), (.ofNat 0))], [([], [], some (.inl ([], (.negSucc 1))), [], [], [])], [], 1)
def ct0_58 : kCt := (58, ([((.negSucc 2147483647), (.ofNat 2147483647)), ((.negSucc 2147483647), (.ofNat 2147483647))], [0], [(0, (.inr (.inr (.inl 0)))), (1, (.inl ([(0, (.ofNat 1))], (.ofNat 0)))), (2, (.inl ([(1, (.ofNat 1))], (.ofNat 0))))], [], [], []), [(0, 0, ([], (.ofNat 0)), (.ofNat 1), (.ofNat 0)), (0, 1, ([], (.ofNat 0)), (.ofNat 1), (.ofNat 0)), (0, 2, ([], (.ofNat 0)), (.ofNat 1), (.ofNat 0))], [([], [], some (.inl ([], (.negSucc 1))), [], [], [])], [], 2)
def ct0_59 : kCt := (59, ([((.negSucc 2147483647), (.ofNat 2147483647)), ((.negSucc 2147483647), (.ofNat 2147483647)), ((.negSucc 2147483647), (.ofNat 2147483647))], [0], [(0, (.inr (.inr (.inl 0)))), (1, (.inl ([(0, (.ofNat 1))], (.ofNat 0)))), (2, (.inl ([(1, (.ofNat 1))], (.ofNat 0)))), (3, (.inl ([(2, (.ofNat 1))], (.ofNat 0))))], [], [], []), [(0, 0, ([], (.ofNat 0)), (.ofNat 1), (.ofNat 0)), (0, 1, ([], (.ofNat 0)), (.ofNat 1), (.ofNat 0)), (0, 2, ([], (.ofNat 0)), (.ofNat 1), (.ofNat 0)), (0, 3, ([], (.ofNat 0)), (.ofNat 1), (.ofNat 0))], [([], [], some (.inl ([], (.negSucc 1))), [], [], [])], [], 2)
def ct0_60 : kCt := (60, ([((.negSucc 2147483647), (.ofNat 2147483647)), ((.negSucc 2147483647), (.ofNat 2147483647))], [0], [(0, (.inr (.inr (.inl 0)))), (1, (.inl ([(0, (.ofNat 1))], (.ofNat 0)))), (2, (.inl ([(1, (.ofNat 1))], (.ofNat 0))))], [], [], []), [(0, 0, ([], (.ofNat 0)), (.ofNat 1), (.ofNat 0)), (0, 1, ([], (.ofNat 0)), (.ofNat 1), (.ofNat 0)), (0, 2, ([], (.ofNat 0)), (.ofNat 1), (.ofNat 0))], [([], [], some (.inl ([], (.negSucc 1))), [], [], [])], [], 2)
def ct0_61 : kCt := (61, ([((.negSucc 2147483647), (.ofNat 2147483647))], [0], [(0, (.inr (.inr (.inl 0)))), (1, (.inl ([(0, (.ofNat 1))], (.ofNat 0))))], [], [], []), [(0, 0, ([], (.ofNat 0)), (.ofNat 1), (.ofNat 0)), (0, 1, ([], (.ofNat 0)), (.ofNat 1), (.ofNat 0))], [([], [], some (.inl ([], (.negSucc 1))), [], [], [])], [], 1)
def ct0_62 : kCt := (62, ([((.negSucc 2147483647), (.ofNat 2147483647)), ((.negSucc 2147483647), (.ofNat 2147483647))], [0], [(0, (.inr (.inr (.inl 0)))), (1, (.inl ([(0, (.ofNat 1))], (.ofNat 0)))), (2, (.inl ([(1, (.ofNat 1))], (.ofNat 0))))], [], [], []), [(0, 0, ([], (.ofNat 0)), (.ofNat 1), (.ofNat 0)), (0, 1, ([], (.ofNat 0)), (.ofNat 1), (.ofNat 0)), (0, 2, ([], (.ofNat 0)), (.ofNat 1), (.ofNat 0))], [([], [], some (.inl ([], (.negSucc 1))), [], [], [])], [], 1)
def ct0_63 : kCt := (63, ([((.negSucc 2147483647), (.ofNat 2147483647)), ((.negSucc 2147483647), (.ofNat 2147483647))], [0], [(0, (.inr (.inr (.inl 0)))), (1, (.inl ([(0, (.ofNat 1))], (.ofNat 0)))), (2, (.inl ([(1, (.ofNat 1))], (.ofNat 0))))], [], [], []), [(0, 0, ([], (.ofNat 0)), (.ofNat 1), (.ofNat 0)), (0, 1, ([], (.ofNat 0)), (.ofNat 1), (.ofNat 0)), (0, 2, ([], (.ofNat 0)), (.ofNat 1), (.ofNat 0))], [([], [], some (.inl ([], (.negSucc 1))), [], [], [])], [], 1)
def ct0_64 : kCt := (64, ([], [0], [(0, (.inr (.inr (.inl 0))))], [], [], []), [(0, 0, ([], (.ofNat 0)), (.ofNat 1), (.ofNat 0))], [([], [], some (.inl ([], (.negSucc 1))), [], [], [])], [], 1)
def ct0_65 : kCt := (65, ([((.negSucc 2147483647), (.ofNat 2147483647))], [0], [(0, (.inr (.inr (.inl 0)))), (1, (.inl ([(0, (.ofNat 1))], (.ofNat 0))))], [], [], []), [(0, 0, ([], (.ofNat 0)), (.ofNat 1), (.ofNat 0)), (0, 1, ([], (.ofNat 0)), (.ofNat 1), (.ofNat 0))], [([], [], some (.inl ([], (.negSucc 1))), [], [], [])], [], 2)
def ct0_66 : kCt := (66, ([((.negSucc 2147483647), (.ofNat 2147483647))], [0], [(0, (.inr (.inr (.inl 0)))), (1, (.inl ([(0, (.ofNat 1))], (.ofNat 0))))], [], [], []), [(0, 0, ([], (.ofNat 0)), (.ofNat 1), (.ofNat 0)), (0, 1, ([], (.ofNat 0)), (.ofNat 1), (.ofNat 0))], [([], [], some (.inl ([], (.negSucc 1))), [], [], [])], [], 2)
def ct0_67 : kCt := (67, ([((.negSucc 2147483647), (.ofNat 2147483647))], [0], [(0, (.inr (.inr (.inl 0)))), (1, (.inl ([(0, (.ofNat 1))], (.ofNat 0))))], [], [], []), [(0, 0, ([], (.ofNat 0)), (.ofNat 1), (.ofNat 0)), (0, 1, ([], (.ofNat 0)), (.ofNat 1), (.ofNat 0))], [([], [], some (.inl ([], (.negSucc 1))), [], [], [])], [], 2)
def ct0_68 : kCt := (68, ([((.negSucc 2147483647), (.ofNat 2147483647))], [0], [(0, (.inr (.inr (.inl 0)))), (1, (.inl ([(0, (.ofNat 1))], (.ofNat 0))))], [], [], []), [(0, 0, ([], (.ofNat 0)), (.ofNat 1), (.ofNat 0)), (0, 1, ([], (.ofNat 0)), (.ofNat 1), (.ofNat 0))], [([], [], some (.inl ([], (.negSucc 1))), [], [], [])], [], 2)
def ct0_69 : kCt := (69, ([((.negSucc 2147483647), (.ofNat 2147483647))], [0], [(0, (.inr (.inr (.inl 0)))), (1, (.inl ([(0, (.ofNat 1))], (.ofNat 0))))], [], [], []), [(0, 0, ([], (.ofNat 0)), (.ofNat 1), (.ofNat 0)), (0, 1, ([], (.ofNat 0)), (.ofNat 1), (.ofNat 0))], [([], [], some (.inl ([], (.negSucc 1))), [], [], [])], [], 2)
def ct0_70 : kCt := (70, ([], [0], [(0, (.inr (.inr (.inl 0))))], [], [], []), [(0, 0, ([], (.ofNat 0)), (.ofNat 1), (.ofNat 0))], [([], [], some (.inl ([], (.negSucc 1))), [], [], [])], [], 1)
def ct0_71 : kCt := (71, ([], [0], [(0, (.inr (.inr (.inl 0))))], [], [], []), [(0, 0, ([], (.ofNat 0)), (.ofNat 1), (.ofNat 0))], [([], [], some (.inl ([], (.negSucc 1))), [], [], [])], [], 1)
def ct0_72 : kCt := (72, ([((.negSucc 2147483647), (.ofNat 2147483647)), ((.negSucc 2147483647), (.ofNat 2147483647))], [0], [(0, (.inr (.inr (.inl 0)))), (1, (.inl ([(0, (.ofNat 1))], (.ofNat 0)))), (2, (.inl ([(1, (.ofNat 1))], (.ofNat 0))))], [], [], []), [(0, 0, ([], (.ofNat 0)), (.ofNat 1), (.ofNat 0)), (0, 1, ([], (.ofNat 0)), (.ofNat 1), (.ofNat 0)), (0, 2, ([], (.ofNat 0)), (.ofNat 1), (.ofNat 0))], [([], [], some (.inl ([], (.negSucc 1))), [], [], [])], [], 2)
def ct0_73 : kCt := (73, ([((.negSucc 2147483647), (.ofNat 2147483647))], [0], [(0, (.inr (.inr (.inl 0)))), (1, (.inl ([(0, (.ofNat 1))], (.ofNat 0))))], [], [], []), [(0, 0, ([], (.ofNat 0)), (.ofNat 1), (.ofNat 0)), (0, 1, ([], (.ofNat 0)), (.ofNat 1), (.ofNat 0))], [([], [], some (.inl ([], (.negSucc 1))), [], [], [])], [], 2)
def ct0_74 : kCt := (74, ([((.negSucc 2147483647), (.ofNat 2147483647)), ((.negSucc 2147483647), (.ofNat 2147483647))], [0], [(0, (.inr (.inr (.inl 0)))), (1, (.inl ([(0, (.ofNat 1))], (.ofNat 0)))), (2, (.inl ([(1, (.ofNat 1))], (.ofNat 0))))], [], [], []), [(0, 0, ([], (.ofNat 0)), (.ofNat 1), (.ofNat 0)), (0, 1, ([], (.ofNat 0)), (.ofNat 1), (.ofNat 0)), (0, 2, ([], (.ofNat 0)), (.ofNat 1), (.ofNat 0))], [([], [], some (.inr (.inl ([], (.negSucc 1)))), [], [], [])], [], 1)
def ct0_75 : kCt := (75, ([((.negSucc 2147483647), (.ofNat 2147483647))], [0], [(0, (.inr (.inr (.inl 0)))), (1, (.inl ([(0, (.ofNat 1))], (.ofNat 0))))], [], [], []), [(0, 0, ([], (.ofNat 0)), (.ofNat 1), (.ofNat 0)), (0, 1, ([], (.ofNat 0)), (.ofNat 1), (.ofNat 0))], [([], [], some (.inl ([], (.negSucc 1))), [], [], [])], [], 2)
def ct0_76 : kCt := (76, ([((.negSucc 2147483647), (.ofNat 2147483647)), ((.negSucc 2147483647), (.ofNat 2147483647))], [0], [(0, (.inr (.inr (.inl 0)))), (1, (.inl ([(0, (.ofNat 1))], (.ofNat 0)))), (2, (.inl ([(1, (.ofNat 1))], (.ofNat 0))))], [], [], []), [(0, 0, ([], (.ofNat 0)), (.ofNat 1), (.ofNat 0)), (0, 1, ([], (.ofNat 0)), (.ofNat 1), (.ofNat 0)), (0, 2, ([], (.ofNat 0)), (.ofNat 1), (.ofNat 0))], [([], [], some (.inl ([], (.negSucc 1))), [], [], [])], [], 1)
def ct0_77 : kCt := (77, ([((.negSucc 2147483647), (.ofNat 2147483647)), ((.negSucc 2147483647), (.ofNat 2147483647))], [0], [(0, (.inr (.inr (.inl 0)))), (1, (.inl ([(0, (.ofNat 1))], (.ofNat 0)))), (2, (.inl ([(1, (.ofNat 1))], (.ofNat 0))))], [], [], []), [(0, 0, ([], (.ofNat 0)), (.ofNat 1), (.ofNat 0)), (0, 1, ([], (.ofNat 0)), (.ofNat 1), (.ofNat 0)), (0, 2, ([], (.ofNat 0)), (.ofNat 1), (.ofNat 0))], [([], [], some (.inl ([], (.negSucc 1))), [], [], [])], [], 1)
def ct0_78 : kCt := (78, ([((.negSucc 2147483647), (.ofNat 2147483647)), ((.negSucc 2147483647), (.ofNat 2147483647))], [0], [(0, (.inr (.inr (.inl 0)))), (1, (.inl ([(0, (.ofNat 1))], (.ofNat 0)))), (2, (.inl ([(1, (.ofNat 1))], (.ofNat 0))))], [], [], []), [(0, 0, ([], (.ofNat 0)), (.ofNat 1), (.ofNat 0)), (0, 1, ([], (.ofNat 0)), (.ofNat 1), (.ofNat 0)), (0, 2, ([], (.ofNat 0)), (.ofNat 1), (.ofNat 0))], [([], [], some (.inl ([], (.negSucc 1))), [], [], [])], [], 1)
def ct0_79 : kCt := (79, ([], [0], [(0, (.inr (.inr (.inl 0))))], [], [], []), [(0, 0, ([], (.ofNat 0)), (.ofNat 1), (.ofNat 0))], [([], [], some (.inl ([], (.negSucc 1))), [], [], [])], [], 1)
def ct0_80 : kCt := (80, ([], [0], [(0, (.inr (.inr (.inl 0))))], [], [], []), [(0, 0, ([], (.ofNat 0)), (.ofNat 1), (.ofNat 0))], [([], [], some (.inl ([], (.negSucc 1))), [], [], [])], [], 1)
def ct0_81 : kCt := (81, ([((.negSucc 2147483647), (.ofNat 2147483647)), ((.negSucc 2147483647), (.ofNat 2147483647))], [0], [(0, (.inr (.inr (.inl 0)))), (1, (.inl ([(0, (.ofNat 1))], (.ofNat 0)))), (2, (.inl ([(1, (.ofNat 1))], (.ofNat 0))))], [], [], []), [(0, 0, ([], (.ofNat 0)), (.ofNat 1), (.ofNat 0)), (0, 1, ([], (.ofNat 0)), (.ofNat 1), (.ofNat 0)), (0, 2, ([], (.ofNat 0)), (.ofNat 1), (.ofNat 0))], [([], [], some (.inl ([], (.negSucc 1))), [], [], [])], [], 1)
def ct0_82 : kCt := (82, ([((.negSucc 2147483647), (.ofNat 2147483647)), ((.negSucc 2147483647), (.ofNat 2147483647)), ((.negSucc 2147483647), (.ofNat 2147483647))], [0], [(0, (.inr (.inr (.inl 0)))), (1, (.inl ([(0, (.ofNat 1))], (.ofNat 0)))), (2, (.inl ([(1, (.ofNat 1))], (.ofNat 0)))), (3, (.inl ([(2, (.ofNat 1))], (.ofNat 0))))], [], [], []), [(0, 0, ([], (.ofNat 0)), (.ofNat 1), (.ofNat 0)), (0, 1, ([], (.ofNat 0)), (.ofNat 1), (.ofNat 0)), (0, 2, ([], (.ofNat 0)), (.ofNat 1), (.ofNat 0)), (0, 3, ([], (.ofNat 0)), (.ofNat 1), (.ofNat 0))], [([], [], some (.inl ([], (.negSucc 1))), [], [], [])], [], 1)
def ct0_83 : kCt := (83, ([((.negSucc 2147483647), (.ofNat 2147483647))], [0], [(0, (.inr (.inr (.inl 0)))), (1, (.inl ([(0, (.ofNat 1))], (.ofNat 0))))], [], [], []), [(0, 0, ([], (.ofNat 0)), (.ofNat 1), (.ofNat 0)), (0, 1, ([], (.ofNat 0)), (.ofNat 1), (.ofNat 0))], [([], [], some (.inl ([], (.negSucc 1))), [], [], [])], [], 1)
def ct0_84 : kCt := (84, ([((.negSucc 2147483647), (.ofNat 2147483647))], [0], [(0, (.inr (.inr (.inl 0)))), (1, (.inl ([(0, (.ofNat 1))], (.ofNat 0))))], [], [], []), [(0, 0, ([], (.ofNat 0)), (.ofNat 1), (.ofNat 0)), (0, 1, ([], (.ofNat 0)), (.ofNat 1), (.ofNat 0))], [([], [], some (.inl ([], (.negSucc 0))), [], [([(0, (.negSucc 0))], (.negSucc 0))], []), ([], [], some (.inl ([], (.negSucc 0))), [], [([(0, (.ofNat 1))], (.negSucc 13))], []), ([], [], some (.inl ([], (.ofNat 0))), [], [([(0, (.ofNat 1))], (.ofNat 0)), ([(0, (.negSucc 0))], (.ofNat 0))], []), ([], [], some (.inl ([], (.ofNat 0))), [], [([(0, (.ofNat 1))], (.negSucc 0)), ([(0, (.negSucc 0))], (.ofNat 1))], []), ([], [], some (.inl ([], (.ofNat 0))), [], [([(0, (.ofNat 1))], (.negSucc 1)), ([(0, (.negSucc 0))], (.ofNat 2))], []), ([], [], some (.inl ([], (.ofNat 0))), [], [([(0, (.ofNat 1))], (.negSucc 2)), ([(0, (.negSucc 0))], (.ofNat 3))], []), ([], [], some (.inl ([], (.ofNat 0))), [], [([(0, (.ofNat 1))], (.negSucc 3)), ([(0, (.negSucc 0))], (.ofNat 4))], []), ([], [], some (.inl ([], (.ofNat 0))), [], [([(0, (.ofNat 1))], (.negSucc 4)), ([(0, (.negSucc 0))], (.ofNat 5))], []), ([], [], some (.inl ([], (.ofNat 0))), [], [([(0, (.ofNat 1))], (.negSucc 5)), ([(0, (.negSucc 0))], (.ofNat 6))], []), ([], [], some (.inl ([], (.ofNat 0))), [], [([(0, (.ofNat 1))], (.negSucc 6)), ([(0, (.negSucc 0))], (.ofNat 7))], []), ([], [], some (.inl ([], (.ofNat 0))), [], [([(0, (.ofNat 1))], (.negSucc 7)), ([(0, (.negSucc 0))], (.ofNat 8))], []), ([], [], some (.inl ([], (.ofNat 0))), [], [([(0, (.ofNat 1))], (.negSucc 8)), ([(0, (.negSucc 0))], (.ofNat 9))], []), ([], [], some (.inl ([], (.ofNat 0))), [], [([(0, (.ofNat 1))], (.negSucc 9)), ([(0, (.negSucc 0))], (.ofNat 10))], []), ([], [], some (.inl ([], (.ofNat 0))), [], [([(0, (.ofNat 1))], (.negSucc 10)), ([(0, (.negSucc 0))], (.ofNat 11))], []), ([], [], some (.inl ([], (.ofNat 0))), [], [([(0, (.ofNat 1))], (.negSucc 11)), ([(0, (.negSucc 0))], (.ofNat 12))], []), ([((.ofNat 0), (.ofNat 0))], [], some (.inl ([(1, (.ofNat 1))], (.ofNat 0))), [], [([(0, (.ofNat 1))], (.negSucc 12)), ([(0, (.negSucc 0))], (.ofNat 13))], [(0, 0, ([], (.ofNat 0)), (.ofNat 1), (.ofNat 0))])], [], 1)
def ct0_85 : kCt := (85, ([((.negSucc 2147483647), (.ofNat 2147483647))], [0], [(0, (.inr (.inr (.inl 0)))), (1, (.inl ([(0, (.ofNat 1))], (.ofNat 0))))], [], [], []), [(0, 0, ([], (.ofNat 0)), (.ofNat 1), (.ofNat 0)), (0, 1, ([], (.ofNat 0)), (.ofNat 1), (.ofNat 0))], [([], [], some (.inl ([], (.negSucc 1))), [], [([(0, (.negSucc 0))], (.negSucc 0))], []), ([], [], some (.inl ([], (.negSucc 1))), [], [([(0, (.ofNat 1))], (.negSucc 2))], []), ([], [], some (.inl ([], (.negSucc 5))), [], [([(0, (.ofNat 1))], (.ofNat 0)), ([(0, (.negSucc 0))], (.ofNat 2))], [])], [], 1)
def ct0_86 : kCt := (86, ([((.negSucc 2147483647), (.ofNat 2147483647)), ((.negSucc 2147483647), (.ofNat 2147483647)), ((.negSucc 9223372036854775807), (.ofNat 9223372036854775807))], [0], [(0, (.inr (.inr (.inl 0)))), (1, (.inl ([(0, (.ofNat 1))], (.ofNat 0)))), (2, (.inl ([(1, (.ofNat 1))], (.ofNat 0)))), (3, (.inr (.inl ([(2, (.ofNat 1))], (.ofNat 0)))))], [], [], []), [(0, 0, ([], (.ofNat 0)), (.ofNat 1), (.ofNat 0)), (0, 1, ([], (.ofNat 0)), (.ofNat 1), (.ofNat 0)), (0, 2, ([], (.ofNat 0)), (.ofNat 1), (.ofNat 0)), (0, 3, ([], (.ofNat 0)), (.ofNat 1), (.ofNat 0))], [([], [], some (.inl ([], (.negSucc 1))), [], [([(0, (.negSucc 0))], (.negSucc 0))], []), ([], [], some (.inl ([], (.negSucc 1))), [], [([(0, (.ofNat 1))], (.negSucc 3))], []), ([], [], some (.inl ([], (.negSucc 5))), [], [([(0, (.ofNat 1))], (.ofNat 0)), ([(0, (.negSucc 0))], (.ofNat 3))], [])], [], 1)
def ct0_87 : kCt := (87, ([((.negSucc 2147483647), (.ofNat 2147483647)), ((.negSucc 2147483647), (.ofNat 2147483647)), ((.negSucc 2147483647), (.ofNat 2147483647)), ((.negSucc 2147483647), (.ofNat 2147483647)), ((.negSucc 2147483647), (.ofNat 2147483647))], [0], [(0, (.inr (.inr (.inl 0)))), (1, (.inl ([(0, (.ofNat 1))], (.ofNat 0)))), (2, (.inl ([(1, (.ofNat 1))], (.ofNat 0)))), (3, (.inl ([(2, (.ofNat 1))], (.ofNat 0)))), (4, (.inl ([(3, (.ofNat 1))], (.ofNat 0)))), (5, (.inl ([(4, (.ofNat 1))], (.ofNat 0))))], [], [], []), [(0, 0, ([], (.ofNat 0)), (.ofNat 1), (.ofNat 0)), (0, 1, ([], (.ofNat 0)), (.ofNat 1), (.ofNat 0)), (0, 2, ([], (.ofNat 0)), (.ofNat 1), (.ofNat 0)), (0, 3, ([], (.ofNat 0)), (.ofNat 1), (.ofNat 0)), (0, 4, ([], (.ofNat 0)), (.ofNat 1), (.ofNat 0)), (0, 5, ([], (.ofNat 0)), (.ofNat 1), (.ofNat 0))], [([], [], some (.inl ([], (.negSucc 1))), [], [([(0, (.negSucc 0))], (.negSucc 0))], []), ([], [], some (.inl ([], (.negSucc 1))), [], [([(0, (.ofNat 1))], (.negSucc 3))], []), ([], [], some (.inl ([], (.negSucc 1))), [], [([(0, (.ofNat 1))], (.ofNat 0)), ([(0, (.negSucc 0))], (.ofNat 3)), ([(2, (.negSucc 0))], (.negSucc 0))], []), ([], [], some (.inl ([], (.negSucc 1))), [], [([(0, (.ofNat 1))], (.ofNat 0)), ([(0, (.negSucc 0))], (.ofNat 3)), ([(2, (.ofNat 1))], (.negSucc 3))], []), ([], [], some (.inl ([], (.negSucc 5))), [], [([(0, (.ofNat 1))], (.ofNat 0)), ([(0, (.negSucc 0))], (.ofNat 3)), ([(2, (.ofNat 1))], (.ofNat 0)), ([(2, (.negSucc 0))], (.ofNat 3))], [])], [], 1)
def ct0_88 : kCt := (88, ([((.negSucc 9223372036854775807), (.ofNat 9223372036854775807)), ((.negSucc 9223372036854775807), (.ofNat 9223372036854775807)), ((.negSucc 9223372036854775807), (.ofNat 9223372036854775807))], [], [(0, (.inr (.inl ([(0, (.ofNat 1))], (.ofNat 0))))), (2, (.inr (.inl ([(1, (.ofNat 1))], (.ofNat 0))))), (4, (.inr (.inl ([(2, (.ofNat 1))], (.ofNat 0)))))], [], [], []), [(0, 0, ([], (.ofNat 0)), (.ofNat 1), (.ofNat 0)), (0, 2, ([], (.ofNat 0)), (.ofNat 1), (.ofNat 0)), (0, 4, ([], (.ofNat 0)), (.ofNat 1), (.ofNat 0))], [([], [], some (.inl ([], (.ofNat 0))), [], [([(0, (.negSucc 0))], (.ofNat 9223372036854775806)), ([(1, (.ofNat 1))], (.ofNat 9223372036854775807)), ([(0, (.negSucc 0)), (1, (.ofNat 1))], (.negSucc 0))], []), ([], [], some (.inl ([], (.ofNat 0))), [], [([(0, (.ofNat 1))], (.ofNat 9223372036854775807)), ([(2, (.negSucc 0))], (.ofNat 9223372036854775806)), ([(0, (.ofNat 1)), (2, (.negSucc 0))], (.negSucc 0)), ([(0, (.ofNat 1)), (1, (.negSucc 0))], (.ofNat 0))], []), ([], [], some (.inl ([], (.ofNat 1))), [], [([(0, (.negSucc 0)), (2, (.ofNat 1))], (.ofNat 0)), ([(0, (.ofNat 1)), (1, (.negSucc 0))], (.ofNat 0))], [])], [], 0)
def ct0_89 : kCt := (89, ([((.negSucc 2147483647), (.ofNat 2147483647))], [], [(0, (.inl ([(0, (.ofNat 1))], (.ofNat 0))))], [], [], []), [(0, 0, ([], (.ofNat 0)), (.ofNat 1), (.ofNat 0))], [([], [], some (.inl ([], (.ofNat 0))), [], [([(0, (.negSucc 0))], (.negSucc 0))], []), ([], [], some (.inl ([], (.ofNat 0))), [], [([(0, (.ofNat 1))], (.negSucc 1))], []), ([], [], some (.inl ([], (.ofNat 1))), [], [([(0, (.ofNat 1))], (.ofNat 0)), ([(0, (.negSucc 0))], (.ofNat 1))], [])], [], 1)
def ct0_90 : kCt := (90, ([((.negSucc 2147483647), (.ofNat 2147483647))], [], [(0, (.inl ([(0, (.ofNat 1))], (.ofNat 0))))], [], [], []), [(0, 0, ([], (.ofNat 0)), (.ofNat 1), (.ofNat 0))], [([], [], some (.inl ([], (.ofNat 0))), [], [([(0, (.negSucc 0))], (.negSucc 0))], []), ([], [], some (.inl ([], (.ofNat 0))), [], [([(0, (.ofNat 1))], (.negSucc 3))], []), ([], [], some (.inl ([], (.ofNat 1))), [], [([(0, (.ofNat 1))], (.ofNat 0)), ([(0, (.negSucc 0))], (.ofNat 3))], [])], [], 1)
def ct0_91 : kCt := (91, ([((.negSucc 2147483647), (.ofNat 2147483647))], [], [(0, (.inl ([(0, (.ofNat 1))], (.ofNat 0))))], [], [], []), [(0, 0, ([], (.ofNat 0)), (.ofNat 1), (.ofNat 0))], [([], [], some (.inl ([], (.ofNat 0))), [], [([(0, (.negSucc 0))], (.negSucc 0))], []), ([], [], some (.inl ([], (.ofNat 0))), [], [([(0, (.ofNat 1))], (.negSucc 2000000000))], []), ([], [], some (.inl ([], (.ofNat 1))), [], [([(0, (.ofNat 1))], (.ofNat 0)), ([(0, (.negSucc 0))], (.ofNat 2000000000))], [])], [], 1)
def ct0_92 : kCt := (92, ([((.negSucc 2147483647), (.ofNat 2147483647)), ((.negSucc 2147483647), (.ofNat 2147483647))], [], [(0, (.inl ([(0, (.ofNat 1))], (.ofNat 0)))), (1, (.inl ([(1, (.ofNat 1))], (.ofNat 0))))], [], [], []), [(0, 0, ([], (.ofNat 0)), (.ofNat 1), (.ofNat 0)), (0, 1, ([], (.ofNat 0)), (.ofNat 1), (.ofNat 0))], [([((.ofNat 0), (.ofNat 1))], [], some (.inl ([(2, (.ofNat 1))], (.ofNat 0))), [], [], [(0, 0, ([], (.ofNat 0)), (.ofNat 1), (.ofNat 0))])], [], 0)
def ct0_93 : kCt := (93, ([((.negSucc 2147483647), (.ofNat 2147483647))], [], [(0, (.inl ([(0, (.ofNat 1))], (.ofNat 0))))], [], [], []), [(0, 0, ([], (.ofNat 0)), (.ofNat 1), (.ofNat 0))], [([((.negSucc 2147483647), (.ofNat 2147483647))], [], some (.inl ([(1, (.ofNat 1))], (.ofNat 0))), [], [], [(0, 0, ([], (.ofNat 0)), (.ofNat 1), (.ofNat 0))])], [], 0)
def ct0_94 : kCt := (94, ([], [36], [(0, (.inr (.inr (.inl 0))))], [], [], []), [(0, 0, ([], (.ofNat 0)), (.ofNat 1), (.ofNat 0))], [([], [], some (.inl ([], (.ofNat 0))), [], [], [])], [], 0)
def ct0_95 : kCt := (95, ([], [36], [(0, (.inr (.inr (.inl 0))))], [], [], []), [(0, 0, ([], (.ofNat 0)), (.ofNat 1), (.ofNat 0))], [([], [], some (.inl ([], (.ofNat 0))), [], [], [])], [], 0)
def ct0_96 : kCt := (96, ([((.negSucc 2147483647), (.ofNat 2147483647))], [36], [(0, (.inr (.inr (.inl 0)))), (1, (.inl ([(0, (.ofNat 1))], (.ofNat 0))))], [], [], []), [(0, 0, ([], (.ofNat 0)), (.ofNat 1), (.ofNat 0)), (0, 1, ([], (.ofNat 0)), (.ofNat 1), (.ofNat 0))], [([], [], some (.inl ([], (.ofNat 0))), [], [], [])], [], 1)
def ct0_97 : kCt := (97, ([((.negSucc 2147483647), (.ofNat 2147483647))], [36], [(0, (.inr (.inr (.inl 0)))), (1, (.inl ([(0, (.ofNat 1))], (.ofNat 0))))], [], [], []), [(0, 0, ([], (.ofNat 0)), (.ofNat 1), (.ofNat 0)), (0, 1, ([], (.ofNat 0)), (.ofNat 1), (.ofNat 0))], [([], [], some (.inl ([], (.ofNat 0))), [], [], [])], [], 1)
def ct0_98 : kCt := (98, ([((.negSucc 9223372036854775807), (.ofNat 9223372036854775807))], [36], [(0, (.inr (.inr (.inl 0)))), (1, (.inr (.inl ([(0, (.ofNat 1))], (.ofNat 0)))))], [], [], []), [(0, 0, ([], (.ofNat 0)), (.ofNat 1), (.ofNat 0)), (0, 1, ([], (.ofNat 0)), (.ofNat 1), (.ofNat 0))], [([], [], some (.inl ([], (.ofNat 0))), [], [], [])], [], 1)
def ct0_99 : kCt := (99, ([((.negSucc 2147483647), (.ofNat 2147483647)), ((.negSucc 2147483647), (.ofNat 2147483647))], [36], [(0, (.inr (.inr (.inl 0)))), (1, (.inl ([(0, (.ofNat 1))], (.ofNat 0)))), (2, (.inl ([(1, (.ofNat 1))], (.ofNat 0))))], [], [], []), [(0, 0, ([], (.ofNat 0)), (.ofNat 1), (.ofNat 0)), (0, 1, ([], (.ofNat 0)), (.ofNat 1), (.ofNat 0)), (0, 2, ([], (.ofNat 0)), (.ofNat 1), (.ofNat 0))], [([], [], some (.inl ([], (.ofNat 0))), [], [], [])], [], 1)
def ct0_100 : kCt := (100, ([((.negSucc 2147483647), (.ofNat 2147483647)), ((.negSucc 2147483647), (.ofNat 2147483647))], [36], [(0, (.inr (.inr (.inl 0)))), (1, (.inl ([(0, (.ofNat 1))], (.ofNat 0)))), (2, (.inl ([(1, (.ofNat 1))], (.ofNat 0))))], [], [], []), [(0, 0, ([], (.ofNat 0)), (.ofNat 1), (.ofNat 0)), (0, 1, ([], (.ofNat 0)), (.ofNat 1), (.ofNat 0)), (0, 2, ([], (.ofNat 0)), (.ofNat 1), (.ofNat 0))], [([], [], some (.inl ([], (.ofNat 0))), [], [], [])], [], 2)
def ct0_101 : kCt := (101, ([((.ofNat 0), (.ofNat 7)), ((.ofNat 0), (.ofNat 3))], [36], [(0, (.inr (.inr (.inl 0)))), (1, (.inl ([(0, (.ofNat 1))], (.ofNat 0)))), (2, (.inl ([(1, (.ofNat 1))], (.ofNat 0))))], [], [], []), [(0, 0, ([], (.ofNat 0)), (.ofNat 1), (.ofNat 0)), (0, 1, ([], (.ofNat 0)), (.ofNat 1), (.ofNat 0)), (0, 2, ([], (.ofNat 0)), (.ofNat 1), (.ofNat 0))], [([], [], some (.inl ([], (.ofNat 0))), [], [], [])], [], 0)
def ct0_102 : kCt := (102, ([((.ofNat 0), (.ofNat 0))], [36], [(0, (.inr (.inr (.inl 0)))), (1, (.inl ([(0, (.ofNat 1))], (.ofNat 0))))], [], [], []), [(0, 0, ([], (.ofNat 0)), (.ofNat 1), (.ofNat 0)), (0, 1, ([], (.ofNat 0)), (.ofNat 1), (.ofNat 0))], [([], [], some (.inl ([], (.negSucc 0))), [], [], [])], [], 0)
def ct0_103 : kCt := (103, ([], [36], [(0, (.inr (.inr (.inl 0))))], [], [], []), [(0, 0, ([], (.ofNat 0)), (.ofNat 1), (.ofNat 0))], [([], [], some (.inl ([], (.ofNat 1))), [], [], [])], [], 0)
def ct0_104 : kCt := (104, ([], [36], [(0, (.inr (.inr (.inl 0))))], [], [], []), [(0, 0, ([], (.ofNat 0)), (.ofNat 1), (.ofNat 0))], [([], [], none, [], [], [])], [(36, some 9), (36, some 10)], 1)
def ct0_105 : kCt := (105, ([], [36], [(0, (.inr (.inr (.inl 0))))], [], [], []), [(0, 0, ([], (.ofNat 0)), (.ofNat 1), (.ofNat 0))], [([], [], none, [], [], [])], [(36, some 15), (36, some 20), (36, some 21), (36, some 22), (43, none), (44, none)], 1)
def ct0_106 : kCt := (106, ([], [36], [(0, (.inr (.inr (.inl 0))))], [], [], []), [(0, 0, ([], (.ofNat 0)), (.ofNat 1), (.ofNat 0))], [([], [], none, [], [], [])], [(45, none), (46, none)], 0)
def ct0_107 : kCt := (107, ([], [36], [(0, (.inr (.inr (.inl 0))))], [], [], []), [(0, 0, ([], (.ofNat 0)), (.ofNat 1), (.ofNat 0))], [([], [], some (.inl ([], (.ofNat 0))), [], [], [])], [(36, some 15), (36, some 20), (36, some 21), (36, some 22), (43, none), (44, none), (45, none), (46, none)], 2)
def ct0_108 : kCt := (108, ([((.negSucc 2147483647), (.ofNat 2147483647))], [36], [(0, (.inr (.inr (.inl 0)))), (1, (.inl ([(0, (.ofNat 1))], (.ofNat 0))))], [], [], []), [(0, 0, ([], (.ofNat 0)), (.ofNat 1), (.ofNat 0)), (0, 1, ([], (.ofNat 0)), (.ofNat 1), (.ofNat 0))], [([], [], some (.inl ([], (.ofNat 0))), [], [], [])], [(36, some 15), (36, some 20), (36, some 21), (36, some 22), (43, none), (44, none), (45, none), (46, none)], 3)
def ct0_109 : kCt := (109, ([((.negSucc 2147483647), (.ofNat 2147483647)), ((.negSucc 2147483647), (.ofNat 2147483647))], [36], [(0, (.inr (.inr (.inl 0)))), (1, (.inl ([(0, (.ofNat 1))], (.ofNat 0)))), (2, (.inl ([(1, (.ofNat 1))], (.ofNat 0))))], [], [], []), [(0, 0, ([], (.ofNat 0)), (.ofNat 1), (.ofNat 0)), (0, 1, ([], (.ofNat 0)), (.ofNat 1), (.ofNat 0)), (0, 2, ([], (.ofNat 0)), (.ofNat 1), (.ofNat 0))], [([], [], some (.inl ([], (.ofNat 0))), [], [], [])], [(36, some 15), (36, some 20), (36, some 21), (36, some 22), (43, none), (44, none), (45, none), (46, none)], 3)
def ct0_110 : kCt := (110, ([((.negSucc 2147483647), (.ofNat 2147483647))], [36], [(0, (.inr (.inr (.inl 0)))), (1, (.inl ([(0, (.ofNat 1))], (.ofNat 0))))], [], [], []), [(0, 0, ([], (.ofNat 0)), (.ofNat 1), (.ofNat 0)), (0, 1, ([], (.ofNat 0)), (.ofNat 1), (.ofNat 0))], [([], [], some (.inl ([], (.negSucc 1))), [], [], [])], [], 2)
def ct0_111 : kCt := (111, ([((.negSucc 2147483647), (.ofNat 2147483647))], [36], [(0, (.inr (.inr (.inl 0)))), (1, (.inl ([(0, (.ofNat 1))], (.ofNat 0))))], [], [], []), [(0, 0, ([], (.ofNat 0)), (.ofNat 1), (.ofNat 0)), (0, 1, ([], (.ofNat 0)), (.ofNat 1), (.ofNat 0))], [([], [], some (.inl ([], (.negSucc 0))), [], [([(0, (.negSucc 0))], (.negSucc 0))], []), ([], [], some (.inl ([], (.negSucc 0))), [], [([(0, (.ofNat 1))], (.negSucc 0))], []), ([], [], some (.inl ([(0, (.ofNat 1))], (.ofNat 0))), [], [([(0, (.ofNat 1))], (.ofNat 0)), ([(0, (.negSucc 0))], (.ofNat 0))], [])], [(36, some 5)], 1)
def ct0_112 : kCt := (112, ([], [36], [(0, (.inr (.inr (.inl 0))))], [], [], []), [(0, 0, ([], (.ofNat 0)), (.ofNat 1), (.ofNat 0))], [([], [], some (.inl ([], (.ofNat 0))), [], [], [])], [(36, some 5), (36, some 7), (36, some 8), (36, some 9), (36, some 10), (36, some 12), (36, some 13), (37, none), (42, none)], 2)
def ct0_113 : kCt := (113, ([((.negSucc 2147483647), (.ofNat 2147483647))], [36], [(0, (.inr (.inr (.inl 0)))), (1, (.inl ([(0, (.ofNat 1))], (.ofNat 0))))], [], [], []), [(0, 0, ([], (.ofNat 0)), (.ofNat 1), (.ofNat 0)), (0, 1, ([], (.ofNat 0)), (.ofNat 1), (.ofNat 0))], [([], [], some (.inl ([], (.negSucc 0))), [], [([(0, (.ofNat 1))], (.negSucc 1))], []), ([], [], some (.inl ([], (.negSucc 0))), [], [([(0, (.ofNat 1))], (.negSucc 0)), ([(0, (.negSucc 0))], (.ofNat 1))], []), ([], [], some (.inl ([], (.ofNat 0))), [], [([(0, (.ofNat 1))], (.ofNat 0)), ([(0, (.negSucc 0))], (.ofNat 0))], []), ([], [], some (.inl ([], (.negSucc 0))), [], [([(0, (.negSucc 0))], (.negSucc 0))], [])], [], 0)
def ct0_114 : kCt := (114, ([((.negSucc 2147483647), (.ofNat 2147483647)), ((.negSucc 2147483647), (.ofNat 2147483647))], [36], [(0, (.inr (.inr (.inl 0)))), (1, (.inl ([(0, (.ofNat 1))], (.ofNat 0)))), (2, (.inl ([(1, (.ofNat 1))], (.ofNat 0))))], [], [], []), [(0, 0, ([], (.ofNat 0)), (.ofNat 1), (.ofNat 0)), (0, 1, ([], (.ofNat 0)), (.ofNat 1), (.ofNat 0)), (0, 2, ([], (.ofNat 0)), (.ofNat 1), (.ofNat 0))], [([], [], some (.inl ([], (.negSucc 1))), [], [], [])], [(36, some 15), (36, some 20), (36, some 21), (36, some 22), (43, none), (44, none), (45, none), (46, none)], 4)
def ct0_115 : kCt := (115, ([((.negSucc 2147483647), (.ofNat 2147483647)), ((.negSucc 2147483647), (.ofNat 2147483647))], [36], [(0, (.inr (.inr (.inl 0)))), (1, (.inl ([(0, (.ofNat 1))], (.ofNat 0)))), (2, (.inl ([(1, (.ofNat 1))], (.ofNat 0))))], [], [], []), [(0, 0, ([], (.ofNat 0)), (.ofNat 1), (.ofNat 0)), (0, 1, ([], (.ofNat 0)), (.ofNat 1), (.ofNat 0)), (0, 2, ([], (.ofNat 0)), (.ofNat 1), (.ofNat 0))], [([], [], some (.inl ([], (.negSucc 1))), [], [], [])], [], 2)
def ct0_116 : kCt := (116, ([((.negSucc 2147483647), (.ofNat 2147483647)), ((.negSucc 2147483647), (.ofNat 2147483647))], [36], [(0, (.inr (.inr (.inl 0)))), (1, (.inl ([(0, (.ofNat 1))], (.ofNat 0)))), (2, (.inl ([(1, (.ofNat 1))], (.ofNat 0))))], [], [], []), [(0, 0, ([], (.ofNat 0)), (.ofNat 1), (.ofNat 0)), (0, 1, ([], (.ofNat 0)), (.ofNat 1), (.ofNat 0)), (0, 2, ([], (.ofNat 0)), (.ofNat 1), (.ofNat 0))], [([], [], some (.inl ([], (.negSucc 1))), [], [], [])], [], 2)
def ct0_117 : kCt := (117, ([((.negSucc 2147483647), (.ofNat 2147483647))], [36], [(0, (.inr (.inr (.inl 0)))), (1, (.inl ([(0, (.ofNat 1))], (.ofNat 0))))], [], [], []), [(0, 0, ([], (.ofNat 0)), (.ofNat 1), (.ofNat 0)), (0, 1, ([], (.ofNat 0)), (.ofNat 1), (.ofNat 0))], [([], [], some (.inl ([], (.negSucc 1))), [], [], [])], [], 1)
def ct0_118 : kCt := (118, ([((.negSucc 2147483647), (.ofNat 2147483647)), ((.negSucc 2147483647), (.ofNat 2147483647))], [36], [(0, (.inr (.inr (.inl 0)))), (1, (.inl ([(0, (.ofNat 1))], (.ofNat 0)))), (2, (.inl ([(1, (.ofNat 1))], (.ofNat 0))))], [], [], []), [(0, 0, ([], (.ofNat 0)), (.ofNat 1), (.ofNat 0)), (0, 1, ([], (.ofNat 0)), (.ofNat 1), (.ofNat 0)), (0, 2, ([], (.ofNat 0)), (.ofNat 1), (.ofNat 0))], [([], [], some (.inl ([], (.negSucc 1))), [], [], [])], [], 2)
def ct0_119 : kCt := (119, ([((.negSucc 2147483647), (.ofNat 2147483647))], [36], [(0, (.inr (.inr (.inl 0)))), (1, (.inl ([(0, (.ofNat 1))], (.ofNat 0))))], [], [], []), [(0, 0, ([], (.ofNat 0)), (.ofNat 1), (.ofNat 0)), (0, 1, ([], (.ofNat 0)), (.ofNat 1), (.ofNat 0))], [([], [], some (.inl ([], (.negSucc 1))), [], [], [])], [], 2)
def ct0_120 : kCt := (120, ([((.negSucc 2147483647), (.ofNat 2147483647))], [36], [(0, (.inr (.inr (.inl 0)))), (1, (.inl ([(0, (.ofNat 1))], (.ofNat 0))))], [], [], []), [(0, 0, ([], (.ofNat 0)), (.ofNat 1), (.ofNat 0)), (0, 1, ([], (.ofNat 0)), (.ofNat 1), (.ofNat 0))], [([], [], some (.inl ([], (.negSucc 1))), [], [], [])], [], 2)
def ct0_121 : kCt := (121, ([((.negSucc 2147483647), (.ofNat 2147483647))], [36], [(0, (.inr (.inr (.inl 0)))), (1, (.inl ([(0, (.ofNat 1))], (.ofNat 0))))], [], [], []), [(0, 0, ([], (.ofNat 0)), (.ofNat 1), (.ofNat 0)), (0, 1, ([], (.ofNat 0)), (.ofNat 1), (.ofNat 0))], [([], [], some (.inl ([], (.negSucc 1))), [], [], [])], [(36, some 15), (36, some 20), (36, some 21), (36, some 22), (43, none), (44, none), (45, none), (46, none)], 4)
def ct0_122 : kCt := (122, ([((.negSucc 2147483647), (.ofNat 2147483647))], [36], [(0, (.inr (.inr (.inl 0)))), (1, (.inl ([(0, (.ofNat 1))], (.ofNat 0))))], [], [], []), [(0, 0, ([], (.ofNat 0)), (.ofNat 1), (.ofNat 0)), (0, 1, ([], (.ofNat 0)), (.ofNat 1), (.ofNat 0))], [([], [], some (.inl ([], (.negSucc 1))), [], [], [])], [(36, some 15), (36, some 20), (36, some 21), (36, some 22), (43, none), (44, none), (45, none), (46, none)], 4)
def ct0_123 : kCt := (123, ([((.negSucc 2147483647), (.ofNat 2147483647))], [36], [(0, (.inr (.inr (.inl 0)))), (1, (.inl ([(0, (.ofNat 1))], (.ofNat 0))))], [], [], []), [(0, 0, ([], (.ofNat 0)), (.ofNat 1), (.ofNat 0)), (0, 1, ([], (.ofNat 0)), (.ofNat 1), (.ofNat 0))], [([], [], some (.inl ([], (.negSucc 1))), [], [], [])], [(36, some 15), (36, some 20), (36, some 21), (36, some 22), (43, none), (44, none), (45, none), (46, none)], 4)
def ct0_124 : kCt := (124, ([((.negSucc 2147483647), (.ofNat 2147483647))], [36], [(0, (.inr (.inr (.inl 0)))), (1, (.inl ([(0, (.ofNat 1))], (.ofNat 0))))], [], [], []), [(0, 0, ([], (.ofNat 0)), (.ofNat 1), (.ofNat 0)), (0, 1, ([], (.ofNat 0)), (.ofNat 1), (.ofNat 0))], [([], [], some (.inl ([], (.negSucc 1))), [], [], [])], [(36, some 15), (36, some 20), (36, some 21), (36, some 22), (43, none), (44, none), (45, none), (46, none)], 4)
def ct0_125 : kCt := (125, ([((.negSucc 2147483647), (.ofNat 2147483647))], [36], [(0, (.inr (.inr (.inl 0)))), (1, (.inl ([(0, (.ofNat 1))], (.ofNat 0))))], [], [], []), [(0, 0, ([], (.ofNat 0)), (.ofNat 1), (.ofNat 0)), (0, 1, ([], (.ofNat 0)), (.ofNat 1), (.ofNat 0))], [([], [], some (.inl ([], (.negSucc 1))), [], [], [])], [(36, some 15), (36, some 20), (36, some 21), (36, some 22), (43, none), (44, none), (45, none), (46, none)], 4)
def ct0_126 : kCt := (126, ([((.negSucc 2147483647), (.ofNat 2147483647))], [36], [(0, (.inr (.inr (.inl 0)))), (1, (.inl ([(0, (.ofNat 1))], (.ofNat 0))))], [], [], []), [(0, 0, ([], (.ofNat 0)), (.ofNat 1), (.ofNat 0)), (0, 1, ([], (.ofNat 0)), (.ofNat 1), (.ofNat 0))], [([], [], some (.inl ([], (.negSucc 1))), [], [], [])], [(36, some 15), (36, some 20), (36, some 21), (36, some 22), (43, none), (44, none), (45, none), (46, none)], 3)
def ct0_127 : kCt := (127, ([((.negSucc 2147483647), (.ofNat 2147483647)), ((.negSucc 2147483647), (.ofNat 2147483647))], [36], [(0, (.inr (.inr (.inl 0)))), (1, (.inl ([(0, (.ofNat 1))], (.ofNat 0)))), (2, (.inl ([(1, (.ofNat 1))], (.ofNat 0))))], [], [], []), [(0, 0, ([], (.ofNat 0)), (.ofNat 1), (.ofNat 0)), (0, 1, ([], (.ofNat 0)), (.ofNat 1), (.ofNat 0)), (0, 2, ([], (.ofNat 0)), (.ofNat 1), (.ofNat 0))], [([], [], some (.inl ([], (.negSucc 1))), [], [], [])], [(36, some 15), (36, some 20), (36, some 21), (36, some 22), (43, none), (44, none), (45, none), (46, none)], 4)
def ct0_128 : kCt := (128, ([], [36], [(0, (.inr (.inr (.inl 0))))], [], [], []), [(0, 0, ([], (.ofNat 0)), (.ofNat 1), (.ofNat 0))], [([], [], some (.inl ([], (.negSucc 1))), [], [], [])], [(36, some 15), (36, some 20), (36, some 21), (36, some 22), (43, none), (44, none), (45, none), (46, none)], 3)
def ct0_129 : kCt := (129, ([], [36], [(0, (.inr (.inr (.inl 0))))], [], [], []), [(0, 0, ([], (.ofNat 0)), (.ofNat 1), (.ofNat 0))], [([], [], some (.inl ([], (.negSucc 1))), [], [], [])], [(36, some 15), (36, some 20), (36, some 21), (36, some 22), (43, none), (44, none), (45, none), (46, none)], 3)
def ct0_130 : kCt := (130, ([], [36], [(0, (.inr (.inr (.inl 0))))], [], [], []), [(0, 0, ([], (.ofNat 0)), (.ofNat 1), (.ofNat 0))], [([], [], some (.inl ([], (.negSucc 1))), [], [], [])], [(36, some 15), (36, some 20), (36, some 21), (36, some 22), (43, none), (44, none), (45, none), (46, none)], 3)
def ct0_131 : kCt := (131, ([((.negSucc 2147483647), (.ofNat 2147483647))], [36], [(0, (.inr (.inr (.inl 0)))), (1, (.inl ([(0, (.ofNat 1))], (.ofNat 0))))], [], [], []), [(0, 0, ([], (.ofNat 0)), (.ofNat 1), (.ofNat 0)), (0, 1, ([], (.ofNat 0)), (.ofNat 1), (.ofNat 0))], [([], [], some (.inl ([], (.negSucc 1))), [], [], [])], [(36, some 15), (36, some 20), (36, some 21), (36, some 22), (43, none), (44, none), (45, none), (46, none)], 4)
def ct0_132 : kCt := (132, ([((.negSucc 2147483647), (.ofNat 2147483647))], [36], [(0, (.inr (.inr (.inl 0)))), (1, (.inl ([(0, (.ofNat 1))], (.ofNat 0))))], [], [], []), [(0, 0, ([], (.ofNat 0)), (.ofNat 1), (.ofNat 0)), (0, 1, ([], (.ofNat 0)), (.ofNat 1), (.ofNat 0))], [([], [], some (.inl ([], (.negSucc 1))), [], [], [])], [(36, some 15), (36, some 20), (36, some 21), (36, some 22), (43, none), (44, none), (45, none), (46, none)], 3)
def ct0_133 : kCt := (133, ([((.negSucc 2147483647), (.ofNat 2147483647))], [36], [(0, (.inr (.inr (.inl 0)))), (1, (.inl ([(0, (.ofNat 1))], (.ofNat 0))))], [], [], []), [(0, 0, ([], (.ofNat 0)), (.ofNat 1), (.ofNat 0)), (0, 1, ([], (.ofNat 0)), (.ofNat 1), (.ofNat 0))], [([], [], some (.inl ([], (.negSucc 1))), [], [], [])], [(36, some 15), (36, some 20), (36, some 21), (36, some 22), (43, none), (44, none), (45, none), (46, none)], 4)
def ct0_134 : kCt := (134, ([((.negSucc 2147483647), (.ofNat 2147483647))], [36], [(0, (.inr (.inr (.inl 0)))), (1, (.inl ([(0, (.ofNat 1))], (.ofNat 0))))], [], [], []), [(0, 0, ([], (.ofNat 0)), (.ofNat 1), (.ofNat 0)), (0, 1, ([], (.ofNat 0)), (.ofNat 1), (.ofNat 0))], [([], [], some (.inl ([], (.negSucc 1))), [], [], [])], [(36, some 15), (36, some 20), (36, some 21), (36, some 22), (43, none), (44, none), (45, none), (46, none)], 3)
def ct0_135 : kCt := (135, ([], [36], [(0, (.inr (.inr (.inl 0))))], [], [], []), [(0, 0, ([], (.ofNat 0)), (.ofNat 1), (.ofNat 0))], [([], [], some (.inl ([], (.negSucc 1))), [], [], [])], [(36, some 15), (36, some 20), (36, some 21), (36, some 22), (43, none), (44, none), (45, none), (46, none)], 3)
def ct0_136 : kCt := (136, ([], [36], [(0, (.inr (.inr (.inl 0))))], [], [], []), [(0, 0, ([], (.ofNat 0)), (.ofNat 1), (.ofNat 0))], [([], [], some (.inl ([], (.negSucc 1))), [], [], [])], [(36, some 15), (36, some 20), (36, some 21), (36, some 22), (43, none), (44, none), (45, none), (46, none)], 3)
def ct0_137 : kCt := (137, ([((.negSucc 2147483647), (.ofNat 2147483647))], [36], [(0, (.inr (.inr (.inl 0)))), (1, (.inl ([(0, (.ofNat 1))], (.ofNat 0))))], [], [], []), [(0, 0, ([], (.ofNat 0)), (.ofNat 1), (.ofNat 0)), (0, 1, ([], (.ofNat 0)), (.ofNat 1), (.ofNat 0))], [([], [], some (.inl ([], (.negSucc 1))), [], [], [])], [(36, some 15), (36, some 20), (36, some 21), (36, some 22), (43, none), (44, none)], 2)
def ct0_138 : kCt := (138, ([], [36], [(0, (.inr (.inr (.inl 0))))], [], [], []), [(0, 0, ([], (.ofNat 0)), (.ofNat 1), (.ofNat 0))], [([], [], some (.inl ([], (.negSucc 1))), [], [], [])], [(36, some 15), (36, some 20), (36, some 21), (36, some 22), (43, none), (44, none), (45, none), (46, none)], 3)
def ct0_139 : kCt := (139, ([((.negSucc 2147483647), (.ofNat 2147483647))], [36], [(0, (.inr (.inr (.inl 0)))), (1, (.inl ([(0, (.ofNat 1))], (.ofNat 0))))], [], [], []), [(0, 0, ([], (.ofNat 0)), (.ofNat 1), (.ofNat 0)), (0, 1, ([], (.ofNat 0)), (.ofNat 1), (.ofNat 0))], [([], [], some (.inl ([], (.negSucc 1))), [], [], [])], [(36, some 15), (36, some 20), (36, some 21), (36, some 22), (43, none), (44, none), (45, none), (46, none)], 3)
def ct0_140 : kCt := (140, ([], [36], [(0, (.inr (.inr (.inl 0))))], [], [], []), [(0, 0, ([], (.ofNat 0)), (.ofNat 1), (.ofNat 0))], [([], [], some (.inl ([], (.negSucc 1))), [], [], [])], [], 1)
def ct0_141 : kCt := (141, ([((.negSucc 2147483647), (.ofNat 2147483647))], [36], [(0, (.inr (.inr (.inl 0)))), (1, (.inl ([(0, (.ofNat 1))], (.ofNat 0))))], [], [], []), [(0, 0, ([], (.ofNat 0)), (.ofNat 1), (.ofNat 0)), (0, 1, ([], (.ofNat 0)), (.ofNat 1), (.ofNat 0))], [([], [], some (.inl ([], (.negSucc 1))), [], [], [])], [(36, some 15), (36, some 20), (36, some 21), (36, some 22), (43, none), (44, none), (45, none), (46, none)], 4)
def ct0_142 : kCt := (142, ([((.negSucc 2147483647), (.ofNat 2147483647))], [36], [(0, (.inr (.inr (.inl 0)))), (1, (.inl ([(0, (.ofNat 1))], (.ofNat 0))))], [], [], []), [(0, 0, ([], (.ofNat 0)), (.ofNat 1), (.ofNat 0)), (0, 1, ([], (.ofNat 0)), (.ofNat 1), (.ofNat 0))], [([], [], some (.inl ([], (.negSucc 1))), [], [], [])], [(36, some 15), (36, some 20), (36, some 21), (36, some 22), (43, none), (44, none), (45, none), (46, none)], 4)
def ct0_143 : kCt := (143, ([((.negSucc 2147483647), (.ofNat 2147483647))], [36], [(0, (.inr (.inr (.inl 0)))), (1, (.inl ([(0, (.ofNat 1))], (.ofNat 0))))], [], [], []), [(0, 0, ([], (.ofNat 0)), (.ofNat 1), (.ofNat 0)), (0, 1, ([], (.ofNat 0)), (.ofNat 1), (.ofNat 0))], [([], [], some (.inl ([], (.negSucc 1))), [], [], [])], [(36, some 15), (36, some 20), (36, some 21), (36, some 22), (43, none), (44, none), (45, none), (46, none)], 4)
def ct0_144 : kCt := (144, ([((.negSucc 2147483647), (.ofNat 2147483647))], [36], [(0, (.inr (.inr (.inl 0)))), (1, (.inl ([(0, (.ofNat 1))], (.ofNat 0))))], [], [], []), [(0, 0, ([], (.ofNat 0)), (.ofNat 1), (.ofNat 0)), (0, 1, ([], (.ofNat 0)), (.ofNat 1), (.ofNat 0))], [([], [], some (.inl ([], (.negSucc 1))), [], [], [])], [(36, some 15), (36, some 20), (36, some 21), (36, some 22), (43, none), (44, none), (45, none), (46, none)], 4)
def ct0_145 : kCt := (145, ([((.negSucc 2147483647), (.ofNat 2147483647))], [36], [(0, (.inr (.inr (.inl 0)))), (1, (.inl ([(0, (.ofNat 1))], (.ofNat 0))))], [], [], []), [(0, 0, ([], (.ofNat 0)), (.ofNat 1), (.ofNat 0)), (0, 1, ([], (.ofNat 0)), (.ofNat 1), (.ofNat 0))], [([], [], some (.inl ([], (.negSucc 999))), [], [], [])], [(36, some 15), (36, some 20), (36, some 21), (36, some 22), (43, none), (44, none), (45, none), (46, none)], 4)
def ct0_146 : kCt := (146, ([((.negSucc 2147483647), (.ofNat 2147483647))], [36], [(0, (.inr (.inr (.inl 0)))), (1, (.inl ([(0, (.ofNat 1))], (.ofNat 0))))], [], [], []), [(0, 0, ([], (.ofNat 0)), (.ofNat 1), (.ofNat 0)), (0, 1, ([], (.ofNat 0)), (.ofNat 1), (.ofNat 0))], [([], [], some (.inl ([], (.negSucc 1))), [], [], [])], [(36, some 15), (36, some 20), (36, some 21), (36, some 22), (43, none), (44, none), (45, none), (46, none)], 4)
def ct0_147 : kCt := (147, ([((.negSucc 2147483647), (.ofNat 2147483647)), ((.negSucc 2147483647), (.ofNat 2147483647))], [36], [(0, (.inr (.inr (.inl 0)))), (1, (.inl ([(0, (.ofNat 1))], (.ofNat 0)))), (2, (.inl ([(1, (.ofNat 1))], (.ofNat 0))))], [], [], []), [(0, 0, ([], (.ofNat 0)), (.ofNat 1), (.ofNat 0)), (0, 1, ([], (.ofNat 0)), (.ofNat 1), (.ofNat 0)), (0, 2, ([], (.ofNat 0)), (.ofNat 1), (.ofNat 0))], [([], [], some (.inl ([], (.negSucc 1))), [], [], [])], [], 3)
def ct0_148 : kCt := (148, ([((.negSucc 2147483647), (.ofNat 2147483647)), ((.negSucc 2147483647), (.ofNat 2147483647)), ((.negSucc 2147483647), (.ofNat 2147483647))], [36], [(0, (.inr (.inr (.inl 0)))), (1, (.inl ([(0, (.ofNat 1))], (.ofNat 0)))), (2, (.inl ([(1, (.ofNat 1))], (.ofNat 0)))), (3, (.inl ([(2, (.ofNat 1))], (.ofNat 0))))], [], [], []), [(0, 0, ([], (.ofNat 0)), (.ofNat 1), (.ofNat 0)), (0, 1, ([], (.ofNat 0)), (.ofNat 1), (.ofNat 0)), (0, 2, ([], (.ofNat 0)), (.ofNat 1), (.ofNat 0)), (0, 3, ([], (.ofNat 0)), (.ofNat 1), (.ofNat 0))], [([], [], some (.inl ([], (.negSucc 1))), [], [], [])], [], 3)
def ct0_149 : kCt := (149, ([((.negSucc 2147483647), (.ofNat 2147483647)), ((.negSucc 2147483647), (.ofNat 2147483647))], [36], [(0, (.inr (.inr (.inl 0)))), (1, (.inl ([(0, (.ofNat 1))], (.ofNat 0)))), (2, (.inl ([(1, (.ofNat 1))], (.ofNat 0))))], [], [], []), [(0, 0, ([], (.ofNat 0)), (.ofNat 1), (.ofNat 0)), (0, 1, ([], (.ofNat 0)), (.ofNat 1), (.ofNat 0)), (0, 2, ([], (.ofNat 0)), (.ofNat 1), (.ofNat 0))], [([], [], some (.inl ([], (.negSucc 1))), [], [], [])], [], 3)
def ct0_150 : kCt := (150, ([((.negSucc 2147483647), (.ofNat 2147483647))], [36], [(0, (.inr (.inr (.inl 0)))), (1, (.inl ([(0, (.ofNat 1))], (.ofNat 0))))], [], [], []), [(0, 0, ([], (.ofNat 0)), (.ofNat 1), (.ofNat 0)), (0, 1, ([], (.ofNat 0)), (.ofNat 1), (.ofNat 0))], [([], [], some (.inl ([], (.negSucc 1))), [], [], [])], [], 2)
def ct0_151 : kCt := (151, ([((.negSucc 2147483647), (.ofNat 2147483647)), ((.negSucc 2147483647), (.ofNat 2147483647))], [36], [(0, (.inr (.inr (.inl 0)))), (1, (.inl ([(0, (.ofNat 1))], (.ofNat 0)))), (2, (.inl ([(1, (.ofNat 1))], (.ofNat 0))))], [], [], []), [(0, 0, ([], (.ofNat 0)), (.ofNat 1), (.ofNat 0)), (0, 1, ([], (.ofNat 0)), (.ofNat 1), (.ofNat 0)), (0, 2, ([], (.ofNat 0)), (.ofNat 1), (.ofNat 0))], [([], [], some (.inl ([], (.negSucc 1))), [], [], [])], [], 2)
def ct0_152 : kCt := (152, ([((.negSucc 2147483647), (.ofNat 2147483647)), ((.negSucc 2147483647), (.ofNat 2147483647))], [36], [(0, (.inr (.inr (.inl 0)))), (1, (.inl ([(0, (.ofNat 1))], (.ofNat 0)))), (2, (.inl ([(1, (.ofNat 1))], (.ofNat 0))))], [], [], []), [(0, 0, ([], (.ofNat 0)), (.ofNat 1), (.ofNat 0)), (0, 1, ([], (.ofNat 0)), (.ofNat 1), (.ofNat 0)), (0, 2, ([], (.ofNat 0)), (.ofNat 1), (.ofNat 0))], [([], [], some (.inl ([], (.negSucc 1))), [], [], [])], [], 2)
def ct0_153 : kCt := (153, ([], [36], [(0, (.inr (.inr (.inl 0))))], [], [], []), [(0, 0, ([], (.ofNat 0)), (.ofNat 1), (.ofNat 0))], [([], [], some (.inl ([], (.negSucc 1))), [], [], [])], [(36, some 15), (36, some 20), (36, some 21), (36, some 22), (43, none), (44, none), (45, none), (46, none)], 3)
def ct0_154 : kCt := (154, ([((.negSucc 2147483647), (.ofNat 2147483647))], [36], [(0, (.inr (.inr (.inl 0)))), (1, (.inl ([(0, (.ofNat 1))], (.ofNat 0))))], [], [], []), [(0, 0, ([], (.ofNat 0)), (.ofNat 1), (.ofNat 0)), (0, 1, ([], (.ofNat 0)), (.ofNat 1), (.ofNat 0))], [([], [], some (.inl ([], (.negSucc 1))), [], [], [])], [], 3)
def ct0_155 : kCt := (155, ([((.negSucc 2147483647), (.ofNat 2147483647))], [36], [(0, (.inr (.inr (.inl 0)))), (1, (.inl ([(0, (.ofNat 1))], (.ofNat 0))))], [], [], []), [(0, 0, ([], (.ofNat 0)), (.ofNat 1), (.ofNat 0)), (0, 1, ([], (.ofNat 0)), (.ofNat 1), (.ofNat 0))], [([], [], some (.inl ([], (.negSucc 1))), [], [], [])], [], 3)
def ct0_156 : kCt := (156, ([((.negSucc 2147483647), (.ofNat 2147483647))], [36], [(0, (.inr (.inr (.inl 0)))), (1, (.inl ([(0, (.ofNat 1))], (.ofNat 0))))], [], [], []), [(0, 0, ([], (.ofNat 0)), (.ofNat 1), (.ofNat 0)), (0, 1, ([], (.ofNat 0)), (.ofNat 1), (.ofNat 0))], [([], [], some (.inl ([], (.negSucc 1))), [], [], [])], [], 3)
def ct0_157 : kCt := (157, ([((.negSucc 2147483647), (.ofNat 2147483647))], [36], [(0, (.inr (.inr (.inl 0)))), (1, (.inl ([(0, (.ofNat 1))], (.ofNat 0))))], [], [], []), [(0, 0, ([], (.ofNat 0)), (.ofNat 1), (.ofNat 0)), (0, 1, ([], (.ofNat 0)), (.ofNat 1), (.ofNat 0))], [([], [], some (.inl ([], (.negSucc 1))), [], [], [])], [], 3)
def ct0_158 : kCt := (158, ([((.negSucc 2147483647), (.ofNat 2147483647))], [36], [(0, (.inr (.inr (.inl 0)))), (1, (.inl ([(0, (.ofNat 1))], (.ofNat 0))))], [], [], []), [(0, 0, ([], (.ofNat 0)), (.ofNat 1), (.ofNat 0)), (0, 1, ([], (.ofNat 0)), (.ofNat 1), (.ofNat 0))], [([], [], some (.inl ([], (.negSucc 1))), [], [], [])], [], 3)
def ct0_159 : kCt := (159, ([], [36], [(0, (.inr (.inr (.inl 0))))], [], [], []), [(0, 0, ([], (.ofNat 0)), (.ofNat 1), (.ofNat 0))], [([], [], some (.inl ([], (.negSucc 1))), [], [], [])], [(36, some 15), (36, some 20), (36, some 21), (36, some 22), (43, none), (44, none), (45, none), (46, none)], 3)
def ct0_160 : kCt := (160, ([], [36], [(0, (.inr (.inr (.inl 0))))], [], [], []), [(0, 0, ([], (.ofNat 0)), (.ofNat 1), (.ofNat 0))], [([], [], some (.inl ([], (.negSucc 1))), [], [], [])], [(36, some 15), (36, some 20), (36, some 21), (36, some 22), (43, none), (44, none), (45, none), (46, none)], 3)
def ct0_161 : kCt := (161, ([((.negSucc 2147483647), (.ofNat 2147483647)), ((.negSucc 2147483647), (.ofNat 2147483647))], [36], [(0, (.inr (.inr (.inl 0)))), (1, (.inl ([(0, (.ofNat 1))], (.ofNat 0)))), (2, (.inl ([(1, (.ofNat 1))], (.ofNat 0))))], [], [], []), [(0, 0, ([], (.ofNat 0)), (.ofNat 1), (.ofNat 0)), (0, 1, ([], (.ofNat 0)), (.ofNat 1), (.ofNat 0)), (0, 2, ([], (.ofNat 0)), (.ofNat 1), (.ofNat 0))], [([], [], some (.inl ([], (.negSucc 1))), [], [], [])], [(36, some 15), (36, some 20), (36, some 21), (36, some 22), (43, none), (44, none), (45, none), (46, none)], 3)
def ct0_162 : kCt := (162, ([((.negSucc 2147483647), (.ofNat 2147483647))], [36], [(0, (.inr (.inr (.inl 0)))), (1, (.inl ([(0, (.ofNat 1))], (.ofNat 0))))], [], [], []), [(0, 0, ([], (.ofNat 0)), (.ofNat 1), (.ofNat 0)), (0, 1, ([], (.ofNat 0)), (.ofNat 1), (.ofNat 0))], [([], [], some (.inl ([], (.negSucc 1))), [], [], [])], [(36, some 15), (36, some 20), (36, some 21), (36, some 22), (43, none), (44, none), (45, none), (46, none)], 3)
def ct0_163 : kCt := (163, ([((.negSucc 2147483647), (.ofNat 2147483647)), ((.negSucc 2147483647), (.ofNat 2147483647))], [36], [(0, (.inr (.inr (.inl 0)))), (1, (.inl ([(0, (.ofNat 1))], (.ofNat 0)))), (2, (.inl ([(1, (.ofNat 1))], (.ofNat 0))))], [], [], []), [(0, 0, ([], (.ofNat 0)), (.ofNat 1), (.ofNat 0)), (0, 1, ([], (.ofNat 0)), (.ofNat 1), (.ofNat 0)), (0, 2, ([], (.ofNat 0)), (.ofNat 1), (.ofNat 0))], [([], [], some (.inr (.inl ([], (.negSucc 1)))), [], [], [])], [(36, some 15), (36, some 20), (36, some 21), (36, some 22), (43, none), (44, none)], 2)
def ct0_164 : kCt := (164, ([((.negSucc 2147483647), (.ofNat 2147483647))], [36], [(0, (.inr (.inr (.inl 0)))), (1, (.inl ([(0, (.ofNat 1))], (.ofNat 0))))], [], [], []), [(0, 0, ([], (.ofNat 0)), (.ofNat 1), (.ofNat 0)), (0, 1, ([], (.ofNat 0)), (.ofNat 1), (.ofNat 0))], [([], [], some (.inl ([], (.negSucc 1))), [], [], [])], [(36, some 15), (36, some 20), (36, some 21), (36, some 22), (43, none), (44, none)], 2)
def ct0_165 : kCt := (165, ([((.negSucc 2147483647), (.ofNat 2147483647)), ((.negSucc 2147483647), (.ofNat 2147483647))], [36], [(0, (.inr (.inr (.inl 0)))), (1, (.inl ([(0, (.ofNat 1))], (.ofNat 0)))), (2, (.inl ([(1, (.ofNat 1))], (.ofNat 0))))], [], [], []), [(0, 0, ([], (.ofNat 0)), (.ofNat 1), (.ofNat 0)), (0, 1, ([], (.ofNat 0)), (.ofNat 1), (.ofNat 0)), (0, 2, ([], (.ofNat 0)), (.ofNat 1), (.ofNat 0))], [([], [], some (.inl ([], (.negSucc 1))), [], [], [])], [(36, some 15), (36, some 20), (36, some 21), (36, some 22), (43, none), (44, none)], 2)
def ct0_166 : kCt := (166, ([((.negSucc 2147483647), (.ofNat 2147483647)), ((.negSucc 2147483647), (.ofNat 2147483647))], [36], [(0, (.inr (.inr (.inl 0)))), (1, (.inl ([(0, (.ofNat 1))], (.ofNat 0)))), (2, (.inl ([(1, (.ofNat 1))], (.ofNat 0))))], [], [], []), [(0, 0, ([], (.ofNat 0)), (.ofNat 1), (.ofNat 0)), (0, 1, ([], (.ofNat 0)), (.ofNat 1), (.ofNat 0)), (0, 2, ([], (.ofNat 0)), (.ofNat 1), (.ofNat 0))], [([], [], some (.inl ([], (.negSucc 1))), [], [], [])], [(36, some 15), (36, some 20), (36, some 21), (36, some 22), (43, none), (44, none)], 2)
def ct0_167 : kCt := (167, ([((.negSucc 2147483647), (.ofNat 2147483647)), ((.negSucc 2147483647), (.ofNat 2147483647))], [36], [(0, (.inr (.inr (.inl 0)))), (1, (.inl ([(0, (.ofNat 1))], (.ofNat 0)))), (2, (.inl ([(1, (.ofNat 1))], (.ofNat 0))))], [], [], []), [(0, 0, ([], (.ofNat 0)), (.ofNat 1), (.ofNat 0)), (0, 1, ([], (.ofNat 0)), (.ofNat 1), (.ofNat 0)), (0, 2, ([], (.ofNat 0)), (.ofNat 1), (.ofNat 0))], [([], [], some (.inl ([], (.negSucc 1))), [], [], [])], [(36, some 15), (36, some 20), (36, some 21), (36, some 22), (43, none), (44, none)], 2)
def ct0_168 : kCt := (168, ([], [36], [(0, (.inr (.inr (.inl 0))))], [], [], []), [(0, 0, ([], (.ofNat 0)), (.ofNat 1), (.ofNat 0))], [([], [], some (.inl ([], (.negSucc 1))), [], [], [])], [], 1)
def ct0_169 : kCt := (169, ([], [36], [(0, (.inr (.inr (.inl 0))))], [], [], []), [(0, 0, ([], (.ofNat 0)), (.ofNat 1), (.ofNat 0))], [([], [], some (.inl ([], (.negSucc 1))), [], [], [])], [], 1)
def ct0_170 : kCt := (170, ([((.negSucc 2147483647), (.ofNat 2147483647)), ((.negSucc 2147483647), (.ofNat 2147483647))], [36], [(0, (.inr (.inr (.inl 0)))), (1, (.inl ([(0, (.ofNat 1))], (.ofNat 0)))), (2, (.inl ([(1, (.ofNat 1))], (.ofNat 0))))], [], [], []), [(0, 0, ([], (.ofNat 0)), (.ofNat 1), (.ofNat 0)), (0, 1, ([], (.ofNat 0)), (.ofNat 1), (.ofNat 0)), (0, 2, ([], (.ofNat 0)), (.ofNat 1), (.ofNat 0))], [([], [], some (.inl ([], (.negSucc 1))), [], [], [])], [], 1)
def ct0_171 : kCt := (171, ([((.negSucc 2147483647), (.ofNat 2147483647)), ((.negSucc 2147483647), (.ofNat 2147483647)), ((.negSucc 2147483647), (.ofNat 2147483647))], [36], [(0, (.inr (.inr (.inl 0)))), (1, (.inl ([(0, (.ofNat 1))], (.ofNat 0)))), (2, (.inl ([(1, (.ofNat 1))], (.ofNat 0)))), (3, (.inl ([(2, (.ofNat 1))], (.ofNat 0))))], [], [], []), [(0, 0, ([], (.ofNat 0)), (.ofNat 1), (.ofNat 0)), (0, 1, ([], (.ofNat 0)), (.ofNat 1), (.ofNat 0)), (0, 2, ([], (.ofNat 0)), (.ofNat 1), (.ofNat 0)), (0, 3, ([], (.ofNat 0)), (.ofNat 1), (.ofNat 0))], [([], [], some (.inl ([], (.negSucc 1))), [], [([(0, (.negSucc 0))], (.negSucc 0))], []), ([], [], some (.inl ([], (.negSucc 1))), [], [([(0, (.ofNat 1))], (.negSucc 2000000000))], []), ([], [], some (.inl ([], (.negSucc 1))), [], [([(0, (.ofNat 1))], (.ofNat 0)), ([(0, (.negSucc 0))], (.ofNat 2000000000)), ([(1, (.negSucc 0))], (.ofNat 0))], []), ([], [], some (.inl ([], (.negSucc 1))), [], [([(0, (.ofNat 1))], (.ofNat 0)), ([(0, (.negSucc 0))], (.ofNat 2000000000)), ([(1, (.ofNat 1))], (.negSucc 20))], []), ([], [], some (.inl ([], (.negSucc 1))), [], [([(0, (.ofNat 1))], (.ofNat 0)), ([(0, (.negSucc 0))], (.ofNat 2000000000)), ([(1, (.ofNat 1))], (.negSucc 0)), ([(1, (.negSucc 0))], (.ofNat 20))], [])], [], 2)
def ct0_172 : kCt := (172, ([((.negSucc 2147483647), (.ofNat 2147483647))], [36], [(0, (.inr (.inr (.inl 0)))), (1, (.inl ([(0, (.ofNat 1))], (.ofNat 0))))], [], [], []), [(0, 0, ([], (.ofNat 0)), (.ofNat 1), (.ofNat 0)), (0, 1, ([], (.ofNat 0)), (.ofNat 1), (.ofNat 0))], [([], [], some (.inl ([], (.negSucc 1))), [], [], [])], [], 1)
def ct0_173 : kCt := (173, ([((.negSucc 2147483647), (.ofNat 2147483647))], [36], [(0, (.inr (.inr (.inl 0)))), (1, (.inl ([(0, (.ofNat 1))], (.ofNat 0))))], [], [], []), [(0, 0, ([], (.ofNat 0)), (.ofNat 1), (.ofNat 0)), (0, 1, ([], (.ofNat 0)), (.ofNat 1), (.ofNat 0))], [([], [], some (.inl ([], (.negSucc 0))), [], [([(0, (.negSucc 0))], (.negSucc 0))], []), ([], [], some (.inl ([], (.negSucc 0))), [], [([(0, (.ofNat 1))], (.negSucc 13))], []), ([], [], some (.inl ([], (.ofNat 0))), [], [([(0, (.ofNat 1))], (.negSucc 11)), ([(0, (.negSucc 0))], (.ofNat 12))], []), ([], [], some (.inl ([], (.ofNat 0))), [], [([(0, (.ofNat 1))], (.negSucc 5)), ([(0, (.negSucc 0))], (.ofNat 11))], []), ([], [], some (.inl ([], (.ofNat 0))), [], [([(0, (.ofNat 1))], (.negSucc 4)), ([(0, (.negSucc 0))], (.ofNat 5))], []), ([], [], some (.inl ([], (.ofNat 0))), [], [([(0, (.ofNat 1))], (.ofNat 0)), ([(0, (.negSucc 0))], (.ofNat 4))], []), ([((.ofNat 0), (.ofNat 0))], [], some (.inl ([(1, (.ofNat 1))], (.ofNat 0))), [], [([(0, (.ofNat 1))], (.negSucc 12)), ([(0, (.negSucc 0))], (.ofNat 13))], [(0, 0, ([], (.ofNat 0)), (.ofNat 1), (.ofNat 0))])], [], 1)
def ct0_174 : kCt := (174, ([((.negSucc 2147483647), (.ofNat 2147483647))], [36], [(0, (.inr (.inr (.inl 0)))), (1, (.inl ([(0, (.ofNat 1))], (.ofNat 0))))], [], [], []), [(0, 0, ([], (.ofNat 0)), (.ofNat 1), (.ofNat 0)), (0, 1, ([], (.ofNat 0)), (.ofNat 1), (.ofNat 0))], [([], [], some (.inl ([], (.negSucc 1))), [], [([(0, (.negSucc 0))], (.negSucc 0))], []), ([], [], some (.inl ([], (.negSucc 1))), [], [([(0, (.ofNat 1))], (.negSucc 2))], []), ([], [], some (.inl ([], (.negSucc 5))), [], [([(0, (.ofNat 1))], (.ofNat 0)), ([(0, (.negSucc 0))], (.ofNat 2))], [])], [], 1)
def ct0_175 : kCt := (175, ([((.negSucc 2147483647), (.ofNat 2147483647)), ((.negSucc 2147483647), (.ofNat 2147483647)), ((.negSucc 9223372036854775807), (.ofNat 9223372036854775807))], [36], [(0, (.inr (.inr (.inl 0)))), (1, (.inl ([(0, (.ofNat 1))], (.ofNat 0)))), (2, (.inl ([(1, (.ofNat 1))], (.ofNat 0)))), (3, (.inr (.inl ([(2, (.ofNat 1))], (.ofNat 0)))))], [], [], []), [(0, 0, ([], (.ofNat 0)), (.ofNat 1), (.ofNat 0)), (0, 1, ([], (.ofNat 0)), (.ofNat 1), (.ofNat 0)), (0, 2, ([], (.ofNat 0)), (.ofNat 1), (.ofNat 0)), (0, 3, ([], (.ofNat 0)), (.ofNat 1), (.ofNat 0))], [([], [], some (.inl ([], (.negSucc 1))), [], [([(0, (.negSucc 0))], (.negSucc 0))], []), ([], [], some (.inl ([], (.negSucc 1))), [], [([(0, (.ofNat 1))], (.negSucc 3))], []), ([], [], some (.inl ([], (.negSucc 5))), [], [([(0, (.ofNat 1))], (.ofNat 0)), ([(0, (.negSucc 0))], (.ofNat 3))], [])], [], 2)
def ct0_176 : kCt := (176, ([((.negSucc 2147483647), (.ofNat 2147483647)), ((.negSucc 2147483647), (.ofNat 2147483647)), ((.negSucc 2147483647), (.ofNat 2147483647)), ((.negSucc 2147483647), (.ofNat 2147483647)), ((.negSucc 2147483647), (.ofNat 2147483647))], [36], [(0, (.inr (.inr (.inl 0)))), (1, (.inl ([(0, (.ofNat 1))], (.ofNat 0)))), (2, (.inl ([(1, (.ofNat 1))], (.ofNat 0)))), (3, (.inl ([(2, (.ofNat 1))], (.ofNat 0)))), (4, (.inl ([(3, (.ofNat 1))], (.ofNat 0)))), (5, (.inl ([(4, (.ofNat 1))], (.ofNat 0))))], [], [], []), [(0, 0, ([], (.ofNat 0)), (.ofNat 1), (.ofNat 0)), (0, 1, ([], (.ofNat 0)), (.ofNat 1), (.ofNat 0)), (0, 2, ([], (.ofNat 0)), (.ofNat 1), (.ofNat 0)), (0, 3, ([], (.ofNat 0)), (.ofNat 1), (.ofNat 0)), (0, 4, ([], (.ofNat 0)), (.ofNat 1), (.ofNat 0)), (0, 5, ([], (.ofNat 0)), (.ofNat 1), (.ofNat 0))], [([], [], some (.inl ([], (.negSucc 1))), [], [([(0, (.negSucc 0))], (.negSucc 0))], []), ([], [], some (.inl ([], (.negSucc 1))), [], [([(0, (.ofNat 1))], (.negSucc 3))], []), ([], [], some (.inl ([], (.negSucc 1))), [], [([(0, (.ofNat 1))], (.ofNat 0)), ([(0, (.negSucc 0))], (.ofNat 3)), ([(2, (.negSucc 0))], (.negSucc 0))], []), ([], [], some (.inl ([], (.negSucc 1))), [], [([(0, (.ofNat 1))], (.ofNat 0)), ([(0, (.negSucc 0))], (.ofNat 3)), ([(2, (.ofNat 1))], (.negSucc 3))], []), ([], [], some (.inl ([], (.negSucc 5))), [], [([(0, (.ofNat 1))], (.ofNat 0)), ([(0, (.negSucc 0))], (.ofNat 3)), ([(2, (.ofNat 1))], (.ofNat 0)), ([(2, (.negSucc 0))], (.ofNat 3))], [])], [], 2)
def k0_ct0 : List kCt := [ct0_0, ct0_1, ct0_2, ct0_3, ct0_4, ct0_5, ct0_6, ct0_7, ct0_8, ct0_9, ct0_10, ct0_11, ct0_12, ct0_13, ct0_14, ct0_15, ct0_16, ct0_17, ct0_18, ct0_19, ct0_20, ct0_21, ct0_22, ct0_23, ct0_24, ct0_25, ct0_26, ct0_27, ct0_28, ct0_29, ct0_30, ct0_31, ct0_32, ct0_33, ct0_34, ct0_35, ct0_36, ct0_37, ct0_38, ct0_39, ct0_40, ct0_41, ct0_42, ct0_43, ct0_44, ct0_45, ct0_46, ct0_47, ct0_48, ct0_49]
def k0_ct1 : List kCt := [ct0_50, ct0_51, ct0_52, ct0_53, ct0_54, ct0_55, ct0_56, ct0_57, ct0_58, ct0_59, ct0_60, ct0_61, ct0_62, ct0_63, ct0_64, ct0_65, ct0_66, ct0_67, ct0_68, ct0_69, ct0_70, ct0_71, ct0_72, ct0_73, ct0_74, ct0_75, ct0_76, ct0_77, ct0_78, ct0_79, ct0_80, ct0_81, ct0_82, ct0_83, ct0_84, ct0_85, ct0_86, ct0_87, ct0_88, ct0_89, ct0_90, ct0_91, ct0_92, ct0_93, ct0_94, ct0_95, ct0_96, ct0_97, ct0_98, ct0_99]
def k0_ct2 : List kCt := [ct0_100, ct0_101, ct0_102, ct0_103, ct0_104, ct0_105, ct0_106, ct0_107, ct0_108, ct0_109, ct0_110, ct0_111, ct0_112, ct0_113, ct0_114, ct0_115, ct0_116, ct0_117, ct0_118, ct0_119, ct0_120, ct0_121, ct0_122, ct0_123, ct0_124, ct0_125, ct0_126, ct0_127, ct0_128, ct0_129, ct0_130, ct0_131, ct0_132, ct0_133, ct0_134, ct0_135, ct0_136, ct0_137, ct0_138, ct0_139, ct0_140, ct0_141, ct0_142, ct0_143, ct0_144, ct0_145, ct0_146, ct0_147, ct0_148, ct0_149]
def k0_ct3 : List kCt := [ct0_150, ct0_151, ct0_152, ct0_153, ct0_154, ct0_155, ct0_156, ct0_157, ct0_158, ct0_159, ct0_160, ct0_161, ct0_162, ct0_163, ct0_164, ct0_165, ct0_166, ct0_167, ct0_168, ct0_169, ct0_170, ct0_171, ct0_172, ct0_173, ct0_174, ct0_175, ct0_176]
def k0_ct : List kCt := k0_ct0 ++ (k0_ct1 ++ (k0_ct2 ++ (k0_ct3)))
def ow0_SilenceMatch_Green : kOw := ([(9, 3, 10, 3), (15, 3, 11, 3), (18, 3, 12, 3), (21, 3, 13, 3), (24, 3, 14, 3), (27, 3, 15, 3), (30, 3, 16, 3), (33, 3, 17, 3), (36, 3, 18, 3), (39, 3, 19, 3), (42, 3, 0, 0), (46, 3, 1, 0), (49, 3, 2, 0), (52, 3, 3, 0), (55, 3, 4, 0), (58, 3, 5, 0), (61, 3, 6, 0), (64, 3, 7, 0), (67, 3, 8, 0), (70, 3, 9, 0)], [], [], [], [(73, 0, 5, 102, 0), (79, 1, 0, 3, 1)])
def ow0_SilenceMatch : kOw := ([(10, 9, 0, 3), (21, 9, 1, 3), (28, 9, 2, 3), (32, 9, 3, 3), (41, 9, 5, 3), (48, 9, 6, 3), (68, 9, 9, 3), (81, 9, 12, 3), (85, 8, 1, 0), (97, 6, 0, 0), (103, 0, 0, 0), (109, 3, 0, 0), (112, 6, 1, 0), (181, 3, 6, 0), (184, 3, 7, 0), (187, 3, 3, 0), (231, 3, 9, 0), (300, 3, 5, 0), (338, 3, 1, 0), (341, 3, 2, 0), (344, 3, 4, 0), (347, 3, 8, 0), (365, 7, 0, 0)], [], [(298, (.negSucc 1))], [], [(93, 20, 1, 6, 2), (100, 15, 1, 3, 2), (106, 21, 1, 5, 2), (115, 3, 1, 3, 2), (136, 4, 1, 3, 2), (145, 2, 1, 3, 2), (151, 0, 0, 3, 1), (164, 1, 0, 3, 1), (175, 9, 1, 9, 2), (207, 8, 1, 9, 2), (259, 10, 2, 9, 3), (279, 12, 1, 9, 2), (350, 13, 0, 9, 1), (353, 6, 1, 100, 1), (359, 5, 1, 100, 1)])
def ow0_SilenceMatch_Tape : kOw := ([(15, 8, 1, 0)], [], [], [], [])
def ow0_SilenceMatch_Reader : kOw := ([(9, 6, 0, 0), (15, 6, 1, 0), (18, 6, 3, 0), (21, 6, 4, 0), (24, 6, 5, 0), (27, 6, 2, 3), (198, 8, 1, 0)], [], [], [], [(31, 14, 0, 3, 1), (36, 19, 0, 6, 1)])
def ow0_SilenceMatch_Match : kOw := ([(9, 5, 0, 3), (15, 5, 1, 3), (32, 3, 6, 0), (41, 3, 8, 0)], [], [], [], [])
def ow0_SilenceMatchModel : kOw := ([(9, 10, 1, 3), (16, 10, 3, 3), (27, 10, 13, 0), (31, 10, 14, 3), (34, 10, 15, 0), (37, 10, 16, 3), (40, 10, 17, 3), (43, 10, 18, 3), (46, 10, 19, 3), (61, 10, 34, 3), (87, 10, 5, 0), (90, 10, 7, 0), (93, 10, 8, 0), (100, 10, 9, 0), (103, 10, 10, 0), (124, 10, 12, 0), (252, 10, 20, 0), (255, 10, 21, 0), (258, 10, 22, 0)], [], [(77, (.ofNat 2)), (318, (.ofNat 4)), (382, (.ofNat 9)), (415, (.negSucc 1)), (436, (.ofNat 2000000000)), (445, (.ofNat 20)), (447, (.ofNat 6)), (449, (.ofNat 11)), (451, (.ofNat 3))], [], [(79, 88, 3, 100, 6), (83, 95, 0, 10, 1), (96, 102, 1, 10, 2), (127, 103, 0, 10, 1), (144, 104, 0, 10, 1), (221, 94, 0, 10, 1), (226, 98, 1, 10, 3), (230, 96, 1, 10, 2), (239, 99, 2, 10, 3), (249, 101, 2, 10, 3), (303, 105, 0, 10, 1), (306, 106, 0, 10, 1), (309, 107, 0, 10, 1), (312, 97, 1, 10, 2), (315, 108, 1, 10, 2), (323, 109, 2, 10, 3), (384, 100, 2, 10, 3), (393, 90, 1, 100, 1), (403, 110, 1, 10, 2), (438, 91, 1, 100, 1)])
end
section
/-! BODIES 0 -/
def cd_X3_exists : kCd := [(0, .aload_n 0, 1), (1, .getfield 42, 3), (4, .ifCond .le 7, 3), (7, .iconst 1, 1), (8, .goto 4, 3), (11, .iconst 0, 1), (12, .ireturn, 1)]
def bd0_0 : kBd := (cd_X3_exists, [], [], [])
theorem ok0_0 : kbody (kEof k0_tt k_aty k0_ct ow0_SilenceMatch_Green 1 (some .boolean) ct0_0) bd0_0 100000 = true := by decide +kernel
def cd_X3_cells : kCd := [(0, .aload_n 0, 1), (1, .getfield 46, 3), (4, .aload_n 0, 1), (5, .getfield 49, 3), (8, .imul, 1), (9, .ireturn, 1)]
def bd0_1 : kBd := (cd_X3_cells, [], [], [])
theorem ok0_1 : kbody (kEof k0_tt k_aty k0_ct ow0_SilenceMatch_Green 1 (some .int) ct0_1) bd0_1 100000 = true := by decide +kernel
def cd_X3_hasCell : kCd := [(0, .iload_n 1, 1), (1, .ifCond .lt 15, 3), (4, .iload_n 1, 1), (5, .aload_n 0, 1), (6, .invokevirtual 79, 3), (9, .if_icmp .ge 7, 3), (12, .iconst 1, 1), (13, .goto 4, 3), (16, .iconst 0, 1), (17, .ireturn, 1)]
def bd0_2 : kBd := (cd_X3_hasCell, [(6, [1])], [], [])
theorem ok0_2 : kbody (kEof k0_tt k_aty k0_ct ow0_SilenceMatch_Green 2 (some .boolean) ct0_2) bd0_2 100000 = true := by decide +kernel
def cd_X3_hasPlayer : kCd := [(0, .iload_n 1, 1), (1, .ifCond .lt 15, 3), (4, .iload_n 1, 1), (5, .aload_n 0, 1), (6, .getfield 61, 3), (9, .if_icmp .ge 7, 3), (12, .iconst 1, 1), (13, .goto 4, 3), (16, .iconst 0, 1), (17, .ireturn, 1)]
def bd0_3 : kBd := (cd_X3_hasPlayer, [], [], [])
theorem ok0_3 : kbody (kEof k0_tt k_aty k0_ct ow0_SilenceMatch_Green 2 (some .boolean) ct0_3) bd0_3 100000 = true := by decide +kernel
def cd_X3_hasUmpire : kCd := [(0, .iload_n 1, 1), (1, .ifCond .lt 15, 3), (4, .iload_n 1, 1), (5, .aload_n 0, 1), (6, .getfield 64, 3), (9, .if_icmp .ge 7, 3), (12, .iconst 1, 1), (13, .goto 4, 3), (16, .iconst 0, 1), (17, .ireturn, 1)]
def bd0_4 : kBd := (cd_X3_hasUmpire, [], [], [])
theorem ok0_4 : kbody (kEof k0_tt k_aty k0_ct ow0_SilenceMatch_Green 2 (some .boolean) ct0_4) bd0_4 100000 = true := by decide +kernel
def cd_X9_isSlot : kCd := [(0, .iload_n 0, 1), (1, .ifCond .lt 12, 3), (4, .iload_n 0, 1), (5, .iconst 4, 1), (6, .if_icmp .ge 7, 3), (9, .iconst 1, 1), (10, .goto 4, 3), (13, .iconst 0, 1), (14, .ireturn, 1)]
def bd0_5 : kBd := (cd_X9_isSlot, [], [], [])
theorem ok0_5 : kbody (kEof k0_tt k_aty k0_ct ow0_SilenceMatch 1 (some .boolean) ct0_5) bd0_5 100000 = true := by decide +kernel
def cd_X9_isImage : kCd := [(0, .iload_n 0, 1), (1, .ifCond .lt 12, 3), (4, .iload_n 0, 1), (5, .iconst 3, 1), (6, .if_icmp .ge 7, 3), (9, .iconst 1, 1), (10, .goto 4, 3), (13, .iconst 0, 1), (14, .ireturn, 1)]
def bd0_6 : kBd := (cd_X9_isImage, [], [], [])
theorem ok0_6 : kbody (kEof k0_tt k_aty k0_ct ow0_SilenceMatch 1 (some .boolean) ct0_6) bd0_6 100000 = true := by decide +kernel
def cd_X9_isLoudness : kCd := [(0, .iload_n 0, 1), (1, .ifCond .lt 13, 3), (4, .iload_n 0, 1), (5, .bipush 12, 2), (7, .if_icmp .gt 7, 3), (10, .iconst 1, 1), (11, .goto 4, 3), (14, .iconst 0, 1), (15, .ireturn, 1)]
def bd0_7 : kBd := (cd_X9_isLoudness, [], [], [])
theorem ok0_7 : kbody (kEof k0_tt k_aty k0_ct ow0_SilenceMatch 1 (some .boolean) ct0_7) bd0_7 100000 = true := by decide +kernel
def cd_X9_isSide : kCd := [(0, .aload_n 0, 1), (1, .getfield 28, 3), (4, .invokevirtual 151, 3), (7, .ifCond .eq 16, 3), (10, .iload_n 1, 1), (11, .ifCond .eq 8, 3), (14, .iload_n 1, 1), (15, .iconst 1, 1), (16, .if_icmp .ne 7, 3), (19, .iconst 1, 1), (20, .goto 4, 3), (23, .iconst 0, 1), (24, .ireturn, 1)]
def bd0_8 : kBd := (cd_X9_isSide, [(4, [0])], [], [])
theorem ok0_8 : kbody (kEof k0_tt k_aty k0_ct ow0_SilenceMatch 2 (some .boolean) ct0_8) bd0_8 100000 = true := by decide +kernel
def cd_X9_isMinute : kCd := [(0, .aload_n 0, 1), (1, .getfield 28, 3), (4, .invokevirtual 151, 3), (7, .ifCond .eq 23, 3), (10, .iload_n 1, 1), (11, .iconst 1, 1), (12, .if_icmp .lt 18, 3), (15, .iload_n 1, 1), (16, .aload_n 0, 1), (17, .getfield 28, 3), (20, .getfield 187, 3), (23, .if_icmp .gt 7, 3), (26, .iconst 1, 1), (27, .goto 4, 3), (30, .iconst 0, 1), (31, .ireturn, 1)]
def bd0_9 : kBd := (cd_X9_isMinute, [(4, [0])], [], [])
theorem ok0_9 : kbody (kEof k0_tt k_aty k0_ct ow0_SilenceMatch 2 (some .boolean) ct0_9) bd0_9 100000 = true := by decide +kernel
def cd_X9_areCoverTerms : kCd := [(0, .aload_n 0, 1), (1, .getfield 28, 3), (4, .invokevirtual 151, 3), (7, .ifCond .eq 28, 3), (10, .iload_n 1, 1), (11, .ifCond .lt 24, 3), (14, .iload_n 1, 1), (15, .bipush 9, 2), (17, .if_icmp .gt 18, 3), (20, .iload_n 2, 1), (21, .iconst 1, 1), (22, .if_icmp .lt 13, 3), (25, .iload_n 2, 1), (26, .bipush 12, 2), (28, .if_icmp .gt 7, 3), (31, .iconst 1, 1), (32, .goto 4, 3), (35, .iconst 0, 1), (36, .ireturn, 1)]
def bd0_10 : kBd := (cd_X9_areCoverTerms, [(4, [0])], [], [])
theorem ok0_10 : kbody (kEof k0_tt k_aty k0_ct ow0_SilenceMatch 3 (some .boolean) ct0_10) bd0_10 100000 = true := by decide +kernel
def cd_X9_bitsBelow : kCd := [(0, .iconst 1, 1), (1, .iload_n 0, 1), (2, .ishl, 1), (3, .iconst 1, 1), (4, .isub, 1), (5, .ireturn, 1)]
def bd0_11 : kBd := (cd_X9_bitsBelow, [], [], [])
theorem ok0_11 : kbody (kEof k0_tt k_aty k0_ct ow0_SilenceMatch 1 (some .int) ct0_11) bd0_11 100000 = true := by decide +kernel
def cd_X9_listen : kCd := [(0, .iload_n 1, 1), (1, .invokestatic 359, 3), (4, .ifCond .eq 13, 3), (7, .aload_n 0, 1), (8, .getfield 28, 3), (11, .invokevirtual 151, 3), (14, .ifCond .ne 6, 3), (17, .bipush (-2), 2), (19, .ireturn, 1), (20, .aload_n 0, 1), (21, .getfield 68, 3), (24, .iload_n 1, 1), (25, .aaload, 1), (26, .astore_n 2, 1), (27, .aload_n 2, 1), (28, .getfield 365, 3), (31, .iconst (-1), 1), (32, .if_icmp .ne 6, 3), (35, .bipush (-6), 2), (37, .ireturn, 1), (38, .aload_n 2, 1), (39, .aload_n 0, 1), (40, .getfield 28, 3), (43, .getfield 184, 3), (46, .invokevirtual 389, 3), (49, .ifCond .ne 6, 3), (52, .bipush (-2), 2), (54, .ireturn, 1), (55, .aload_n 0, 1), (56, .getfield 62, 3), (59, .aload_n 0, 1), (60, .getfield 28, 3), (63, .aload_n 2, 1), (64, .invokevirtual 392, 3), (67, .iconst 0, 1), (68, .ireturn, 1)]
def bd0_12 : kBd := (cd_X9_listen, [(1, [5]), (11, [0])], [], [])
theorem ok0_12 : kbody (kEof k0_tt k_aty k0_ct ow0_SilenceMatch 3 (some .int) ct0_12) bd0_12 100000 = true := by decide +kernel
def cd_X9_filledSlots : kCd := [(0, .iconst 0, 1), (1, .istore_n 1, 1), (2, .iconst 0, 1), (3, .istore_n 2, 1), (4, .iload_n 2, 1), (5, .iconst 4, 1), (6, .if_icmp .ge 25, 3), (9, .aload_n 0, 1), (10, .getfield 68, 3), (13, .iload_n 2, 1), (14, .aaload, 1), (15, .getfield 365, 3), (18, .iconst (-1), 1), (19, .if_icmp .eq 6, 3), (22, .iinc 1 1, 3), (25, .iinc 2 1, 3), (28, .goto (-24), 3), (31, .iload_n 1, 1), (32, .ireturn, 1)]
def bd0_13 : kBd := (cd_X9_filledSlots, [], [], [(4, (([((.ofNat 0), (.ofNat 0)), ((.ofNat 0), (.ofNat 4))], [0], [(0, (.inr (.inr (.inl 0)))), (1, (.inl ([(0, (.ofNat 1))], (.ofNat 0)))), (2, (.inl ([(1, (.ofNat 1))], (.ofNat 0))))], [], [], []), [(0, 1, ([], (.ofNat 0)), (.ofNat 1), (.ofNat 0)), (0, 2, ([], (.ofNat 0)), (.ofNat 1), (.ofNat 0))]), ([(1, (.negSucc 0))], (.ofNat 4)))])
theorem ok0_13 : kbody (kEof k0_tt k_aty k0_ct ow0_SilenceMatch 3 (some .int) ct0_13) bd0_13 100000 = true := by decide +kernel
def cd_X3_clear : kCd := [(0, .aload_n 0, 1), (1, .iconst 0, 1), (2, .putfield 42, 3), (5, .aload_n 0, 1), (6, .iconst 0, 1), (7, .putfield 46, 3), (10, .aload_n 0, 1), (11, .iconst 0, 1), (12, .putfield 49, 3), (15, .aload_n 0, 1), (16, .iconst 0, 1), (17, .putfield 52, 3), (20, .aload_n 0, 1), (21, .iconst 0, 1), (22, .putfield 55, 3), (25, .aload_n 0, 1), (26, .iconst 0, 1), (27, .putfield 58, 3), (30, .aload_n 0, 1), (31, .iconst 0, 1), (32, .putfield 61, 3), (35, .aload_n 0, 1), (36, .iconst 0, 1), (37, .putfield 64, 3), (40, .aload_n 0, 1), (41, .iconst 0, 1), (42, .putfield 67, 3), (45, .aload_n 0, 1), (46, .iconst 0, 1), (47, .putfield 70, 3), (50, .return_, 1)]
def bd0_14 : kBd := (cd_X3_clear, [], [], [])
theorem ok0_14 : kbody (kEof k0_tt k_aty k0_ct ow0_SilenceMatch_Green 1 none ct0_14) bd0_14 100000 = true := by decide +kernel
def cd_X3_copyFrom : kCd := [(0, .aload_n 0, 1), (1, .aload_n 1, 1), (2, .getfield 42, 3), (5, .putfield 42, 3), (8, .aload_n 0, 1), (9, .aload_n 1, 1), (10, .getfield 46, 3), (13, .putfield 46, 3), (16, .aload_n 0, 1), (17, .aload_n 1, 1), (18, .getfield 49, 3), (21, .putfield 49, 3), (24, .aload_n 0, 1), (25, .aload_n 1, 1), (26, .getfield 52, 3), (29, .putfield 52, 3), (32, .aload_n 0, 1), (33, .aload_n 1, 1), (34, .getfield 55, 3), (37, .putfield 55, 3), (40, .aload_n 0, 1), (41, .aload_n 1, 1), (42, .getfield 58, 3), (45, .putfield 58, 3), (48, .aload_n 0, 1), (49, .aload_n 1, 1), (50, .getfield 61, 3), (53, .putfield 61, 3), (56, .aload_n 0, 1), (57, .aload_n 1, 1), (58, .getfield 64, 3), (61, .putfield 64, 3), (64, .aload_n 0, 1), (65, .aload_n 1, 1), (66, .getfield 67, 3), (69, .putfield 67, 3), (72, .aload_n 0, 1), (73, .aload_n 1, 1), (74, .getfield 70, 3), (77, .putfield 70, 3), (80, .aload_n 1, 1), (81, .getfield 9, 3), (84, .iconst 0, 1), (85, .aload_n 0, 1), (86, .getfield 9, 3), (89, .iconst 0, 1), (90, .bipush 8, 2), (92, .invokestatic 73, 3), (95, .aload_n 1, 1), (96, .getfield 15, 3), (99, .iconst 0, 1), (100, .aload_n 0, 1), (101, .getfield 15, 3), (104, .iconst 0, 1), (105, .bipush 8, 2), (107, .invokestatic 73, 3), (110, .aload_n 1, 1), (111, .getfield 18, 3), (114, .iconst 0, 1), (115, .aload_n 0, 1), (116, .getfield 18, 3), (119, .iconst 0, 1), (120, .bipush 8, 2), (122, .invokestatic 73, 3), (125, .aload_n 1, 1), (126, .getfield 21, 3), (129, .iconst 0, 1), (130, .aload_n 0, 1), (131, .getfield 21, 3), (134, .iconst 0, 1), (135, .bipush 8, 2), (137, .invokestatic 73, 3), (140, .aload_n 1, 1), (141, .getfield 24, 3), (144, .iconst 0, 1), (145, .aload_n 0, 1), (146, .getfield 24, 3), (149, .iconst 0, 1), (150, .iconst 4, 1), (151, .invokestatic 73, 3), (154, .aload_n 1, 1), (155, .getfield 27, 3), (158, .iconst 0, 1), (159, .aload_n 0, 1), (160, .getfield 27, 3), (163, .iconst 0, 1), (164, .iconst 4, 1), (165, .invokestatic 73, 3), (168, .aload_n 1, 1), (169, .getfield 30, 3), (172, .iconst 0, 1), (173, .aload_n 0, 1), (174, .getfield 30, 3), (177, .iconst 0, 1), (178, .iconst 3, 1), (179, .invokestatic 73, 3), (182, .aload_n 1, 1), (183, .getfield 33, 3), (186, .iconst 0, 1), (187, .aload_n 0, 1), (188, .getfield 33, 3), (191, .iconst 0, 1), (192, .iconst 3, 1), (193, .invokestatic 73, 3), (196, .aload_n 1, 1), (197, .getfield 36, 3), (200, .iconst 0, 1), (201, .aload_n 0, 1), (202, .getfield 36, 3), (205, .iconst 0, 1), (206, .bipush 9, 2), (208, .invokestatic 73, 3), (211, .aload_n 1, 1), (212, .getfield 39, 3), (215, .iconst 0, 1), (216, .aload_n 0, 1), (217, .getfield 39, 3), (220, .iconst 0, 1), (221, .bipush 9, 2), (223, .invokestatic 73, 3), (226, .return_, 1)]
def bd0_15 : kBd := (cd_X3_copyFrom, [], [], [])
theorem ok0_15 : kbody (kEof k0_tt k_aty k0_ct ow0_SilenceMatch_Green 2 none ct0_15) bd0_15 100000 = true := by decide +kernel
def cd_X8_byteAt : kCd := [(0, .iload_n 1, 1), (1, .ifCond .lt 20, 3), (4, .iload_n 1, 1), (5, .aload_n 0, 1), (6, .getfield 15, 3), (9, .if_icmp .ge 12, 3), (12, .aload_n 0, 1), (13, .getfield 9, 3), (16, .iload_n 1, 1), (17, .iaload, 1), (18, .goto 4, 3), (21, .iconst 0, 1), (22, .ireturn, 1)]
def bd0_16 : kBd := (cd_X8_byteAt, [], [], [])
theorem ok0_16 : kbody (kEof k0_tt k_aty k0_ct ow0_SilenceMatch_Tape 2 (some .int) ct0_16) bd0_16 100000 = true := by decide +kernel
def cd_X6_isBlank : kCd := [(0, .iload_n 0, 1), (1, .bipush 32, 2), (3, .if_icmp .eq 9, 3), (6, .iload_n 0, 1), (7, .bipush 10, 2), (9, .if_icmp .ne 7, 3), (12, .iconst 1, 1), (13, .goto 4, 3), (16, .iconst 0, 1), (17, .ireturn, 1)]
def bd0_17 : kBd := (cd_X6_isBlank, [], [], [])
theorem ok0_17 : kbody (kEof k0_tt k_aty k0_ct ow0_SilenceMatch_Reader 1 (some .boolean) ct0_17) bd0_17 100000 = true := by decide +kernel
def cd_X6_kindOf : kCd := [(0, .iload_n 0, 1), (1, .bipush 97, 2), (3, .if_icmp .lt 11, 3), (6, .iload_n 0, 1), (7, .bipush 122, 2), (9, .if_icmp .gt 5, 3), (12, .iconst 1, 1), (13, .ireturn, 1), (14, .iload_n 0, 1), (15, .bipush 48, 2), (17, .if_icmp .lt 11, 3), (20, .iload_n 0, 1), (21, .bipush 57, 2), (23, .if_icmp .gt 5, 3), (26, .iconst 2, 1), (27, .ireturn, 1), (28, .iload_n 0, 1), (29, .bipush 59, 2), (31, .if_icmp .ne 7, 3), (34, .iconst 3, 1), (35, .goto 4, 3), (38, .iconst 4, 1), (39, .ireturn, 1)]
def bd0_18 : kBd := (cd_X6_kindOf, [], [], [])
theorem ok0_18 : kbody (kEof k0_tt k_aty k0_ct ow0_SilenceMatch_Reader 1 (some .int) ct0_18) bd0_18 100000 = true := by decide +kernel
def cd_X6_advance : kCd := [(0, .aload_n 0, 1), (1, .getfield 9, 3), (4, .ifCond .eq 4, 3), (7, .return_, 1), (8, .aload_n 0, 1), (9, .getfield 24, 3), (12, .istore_n 1, 1), (13, .iload_n 1, 1), (14, .aload_n 0, 1), (15, .getfield 27, 3), (18, .getfield 198, 3), (21, .if_icmp .ge 23, 3), (24, .aload_n 0, 1), (25, .getfield 27, 3), (28, .iload_n 1, 1), (29, .invokevirtual 182, 3), (32, .invokestatic 201, 3), (35, .ifCond .eq 9, 3), (38, .iinc 1 1, 3), (41, .goto (-28), 3), (44, .aload_n 0, 1), (45, .iload_n 1, 1), (46, .putfield 21, 3), (49, .aload_n 0, 1), (50, .iload_n 1, 1), (51, .aload_n 0, 1), (52, .getfield 27, 3), (55, .getfield 198, 3), (58, .if_icmp .ge 17, 3), (61, .aload_n 0, 1), (62, .getfield 27, 3), (65, .iload_n 1, 1), (66, .invokevirtual 182, 3), (69, .invokestatic 205, 3), (72, .goto 4, 3), (75, .iconst 0, 1), (76, .putfield 18, 3), (79, .iload_n 1, 1), (80, .aload_n 0, 1), (81, .getfield 27, 3), (84, .getfield 198, 3), (87, .if_icmp .ge 6, 3), (90, .iinc 1 1, 3), (93, .iload_n 1, 1), (94, .aload_n 0, 1), (95, .getfield 27, 3), (98, .getfield 198, 3), (101, .if_icmp .ge 43, 3), (104, .aload_n 0, 1), (105, .getfield 18, 3), (108, .iconst 1, 1), (109, .if_icmp .eq 11, 3), (112, .aload_n 0, 1), (113, .getfield 18, 3), (116, .iconst 2, 1), (117, .if_icmp .ne 27, 3), (120, .aload_n 0, 1), (121, .getfield 27, 3), (124, .iload_n 1, 1), (125, .invokevirtual 182, 3), (128, .invokestatic 205, 3), (131, .aload_n 0, 1), (132, .getfield 18, 3), (135, .if_icmp .ne 9, 3), (138, .iinc 1 1, 3), (141, .goto (-48), 3), (144, .aload_n 0, 1), (145, .iload_n 1, 1), (146, .putfield 24, 3), (149, .return_, 1)]
def bd0_19 : kBd := (cd_X6_advance, [], [], [(13, (([((.ofNat 0), (.ofNat 0))], [3], [(0, (.inr (.inr (.inl 0)))), (1, (.inl ([(0, (.ofNat 1))], (.ofNat 0))))], [], [], []), [(0, 1, ([], (.ofNat 0)), (.ofNat 1), (.ofNat 0))]), ([(0, (.negSucc 0))], (.ofNat 1))), (93, (([((.ofNat 0), (.ofNat 0))], [3], [(0, (.inr (.inr (.inl 0)))), (1, (.inl ([(0, (.ofNat 1))], (.ofNat 0))))], [], [], []), [(0, 1, ([], (.ofNat 0)), (.ofNat 1), (.ofNat 0))]), ([(0, (.negSucc 0))], (.ofNat 0)))])
theorem ok0_19 : kbody (kEof k0_tt k_aty k0_ct ow0_SilenceMatch_Reader 2 none ct0_19) bd0_19 100000 = true := by decide +kernel
def cd_X6_readGreen : kCd := [(0, .aload_n 0, 1), (1, .iconst 0, 1), (2, .putfield 9, 3), (5, .aload_n 0, 1), (6, .iconst (-1), 1), (7, .putfield 15, 3), (10, .aload_n 0, 1), (11, .iconst 0, 1), (12, .putfield 24, 3), (15, .aload_n 1, 1), (16, .invokevirtual 31, 3), (19, .aload_n 0, 1), (20, .invokevirtual 36, 3), (23, .iconst 0, 1), (24, .istore_n 2, 1), (25, .iload_n 2, 1), (26, .bipush 25, 2), (28, .if_icmp .gt 38, 3), (31, .aload_n 0, 1), (32, .getfield 9, 3), (35, .ifCond .ne 31, 3), (38, .aload_n 0, 1), (39, .getfield 18, 3), (42, .ifCond .eq 24, 3), (45, .aload_n 0, 1), (46, .aload_n 1, 1), (47, .invokevirtual 39, 3), (50, .aload_n 1, 1), (51, .dup, 1), (52, .getfield 43, 3), (55, .iconst 1, 1), (56, .iadd, 1), (57, .putfield 43, 3), (60, .iinc 2 1, 3), (63, .goto (-38), 3), (66, .return_, 1)]
def bd0_20 : kBd := (cd_X6_readGreen, [(16, [14]), (20, [19])], [], [(25, (([((.ofNat 0), (.ofNat 0))], [3, 4], [(0, (.inr (.inr (.inl 0)))), (1, (.inr (.inr (.inl 1)))), (2, (.inl ([(0, (.ofNat 1))], (.ofNat 0))))], [], [], []), [(0, 2, ([], (.ofNat 0)), (.ofNat 1), (.ofNat 0))]), ([(0, (.negSucc 0))], (.ofNat 0)))])
theorem ok0_20 : kbody (kEof k0_tt k_aty k0_ct ow0_SilenceMatch_Reader 3 none ct0_20) bd0_20 100000 = true := by decide +kernel
def cd_X5_learn : kCd := [(0, .iconst 0, 1), (1, .istore_n 2, 1), (2, .iload_n 2, 1), (3, .bipush 60, 2), (5, .if_icmp .gt 23, 3), (8, .aload_n 0, 1), (9, .getfield 9, 3), (12, .iload_n 2, 1), (13, .iconst 0, 1), (14, .iastore, 1), (15, .aload_n 0, 1), (16, .getfield 15, 3), (19, .iload_n 2, 1), (20, .iconst 0, 1), (21, .bastore, 1), (22, .iinc 2 1, 3), (25, .goto (-23), 3), (28, .iconst 0, 1), (29, .istore_n 2, 1), (30, .iload_n 2, 1), (31, .aload_n 1, 1), (32, .getfield 32, 3), (35, .if_icmp .ge 55, 3), (38, .iconst 1, 1), (39, .istore_n 3, 1), (40, .iload_n 3, 1), (41, .bipush 60, 2), (43, .if_icmp .gt 41, 3), (46, .aload_n 1, 1), (47, .getfield 38, 3), (50, .iload_n 2, 1), (51, .iaload, 1), (52, .ifCond .le 26, 3), (55, .iload_n 3, 1), (56, .aload_n 1, 1), (57, .getfield 38, 3), (60, .iload_n 2, 1), (61, .iaload, 1), (62, .irem, 1), (63, .ifCond .ne 15, 3), (66, .aload_n 0, 1), (67, .getfield 9, 3), (70, .iload_n 3, 1), (71, .dup2, 1), (72, .iaload, 1), (73, .iconst 1, 1), (74, .iload_n 2, 1), (75, .ishl, 1), (76, .ior, 1), (77, .iastore, 1), (78, .iinc 3 1, 3), (81, .goto (-41), 3), (84, .iinc 2 1, 3), (87, .goto (-57), 3), (90, .iconst 0, 1), (91, .istore_n 2, 1), (92, .iload_n 2, 1), (93, .aload_n 1, 1), (94, .getfield 41, 3), (97, .if_icmp .ge 45, 3), (100, .aload_n 1, 1), (101, .getfield 44, 3), (104, .iload_n 2, 1), (105, .iaload, 1), (106, .istore_n 3, 1), (107, .iload_n 3, 1), (108, .aload_n 1, 1), (109, .getfield 47, 3), (112, .iload_n 2, 1), (113, .iaload, 1), (114, .if_icmp .gt 22, 3), (117, .iload_n 3, 1), (118, .bipush 60, 2), (120, .if_icmp .gt 16, 3), (123, .aload_n 0, 1), (124, .getfield 15, 3), (127, .iload_n 3, 1), (128, .iconst 1, 1), (129, .bastore, 1), (130, .iinc 3 1, 3), (133, .goto (-26), 3), (136, .iinc 2 1, 3), (139, .goto (-47), 3), (142, .return_, 1)]
def bd0_21 : kBd := (cd_X5_learn, [], [], [(2, (([((.ofNat 0), (.ofNat 61))], [19, 4], [(0, (.inr (.inr (.inl 0)))), (1, (.inr (.inr (.inl 1)))), (2, (.inl ([(0, (.ofNat 1))], (.ofNat 0))))], [], [], []), [(0, 2, ([], (.ofNat 0)), (.ofNat 1), (.ofNat 0))]), ([(0, (.negSucc 0))], (.ofNat 63))), (30, (([((.ofNat 0), (.ofNat 0))], [19, 4], [(0, (.inr (.inr (.inl 0)))), (1, (.inr (.inr (.inl 1)))), (2, (.inl ([(0, (.ofNat 1))], (.ofNat 0))))], [], [], []), [(0, 2, ([], (.ofNat 0)), (.ofNat 1), (.ofNat 0))]), ([(0, (.negSucc 0))], (.ofNat 1))), (92, (([((.ofNat 0), (.ofNat 0))], [19, 4], [(0, (.inr (.inr (.inl 0)))), (1, (.inr (.inr (.inl 1)))), (2, (.inl ([(0, (.ofNat 1))], (.ofNat 0))))], [], [], []), [(0, 2, ([], (.ofNat 0)), (.ofNat 1), (.ofNat 0))]), ([(0, (.negSucc 0))], (.ofNat 0)))])
theorem ok0_21 : kbody (kEof k0_tt k_aty k0_ct ow0_SilenceMatch_Match 4 none ct0_21) bd0_21 100000 = true := by decide +kernel
def cd_X9_end : kCd := [(0, .iload_n 1, 1), (1, .ifCond .lt 14, 3), (4, .iload_n 1, 1), (5, .aload_n 0, 1), (6, .getfield 10, 3), (9, .getfield 85, 3), (12, .if_icmp .le 5, 3), (15, .iconst (-1), 1), (16, .ireturn, 1), (17, .aload_n 0, 1), (18, .getfield 10, 3), (21, .iload_n 1, 1), (22, .putfield 85, 3), (25, .iload_n 1, 1), (26, .ireturn, 1)]
def bd0_22 : kBd := (cd_X9_end, [], [], [])
theorem ok0_22 : kbody (kEof k0_tt k_aty k0_ct ow0_SilenceMatch 2 (some .int) ct0_22) bd0_22 100000 = true := by decide +kernel
def cd_X9_green : kCd := [(0, .aload_n 0, 1), (1, .getfield 21, 3), (4, .aload_n 0, 1), (5, .getfield 32, 3), (8, .invokevirtual 93, 3), (11, .aload_n 0, 1), (12, .getfield 21, 3), (15, .getfield 97, 3), (18, .ifCond .eq 6, 3), (21, .bipush (-4), 2), (23, .ireturn, 1), (24, .aload_n 0, 1), (25, .getfield 10, 3), (28, .iconst 0, 1), (29, .putfield 85, 3), (32, .aload_n 0, 1), (33, .getfield 28, 3), (36, .aload_n 0, 1), (37, .getfield 32, 3), (40, .invokevirtual 100, 3), (43, .aload_n 0, 1), (44, .getfield 41, 3), (47, .iconst 0, 1), (48, .putfield 103, 3), (51, .aload_n 0, 1), (52, .getfield 48, 3), (55, .aload_n 0, 1), (56, .getfield 28, 3), (59, .invokevirtual 106, 3), (62, .aload_n 0, 1), (63, .getfield 28, 3), (66, .getfield 109, 3), (69, .ireturn, 1)]
def bd0_23 : kBd := (cd_X9_green, [(8, [20]), (40, [15]), (59, [21])], [], [])
theorem ok0_23 : kbody (kEof k0_tt k_aty k0_ct ow0_SilenceMatch 1 (some .int) ct0_23) bd0_23 100000 = true := by decide +kernel
def cd_X9_fault : kCd := [(0, .iload_n 1, 1), (1, .ifCond .ne 11, 3), (4, .aload_n 0, 1), (5, .getfield 21, 3), (8, .getfield 97, 3), (11, .ireturn, 1), (12, .iload_n 1, 1), (13, .iconst 1, 1), (14, .if_icmp .ne 13, 3), (17, .aload_n 0, 1), (18, .getfield 21, 3), (21, .getfield 112, 3), (24, .goto 4, 3), (27, .iconst (-1), 1), (28, .ireturn, 1)]
def bd0_24 : kBd := (cd_X9_fault, [], [(0, 1, [(.negSucc 0), (.ofNat 0), (.ofNat 1)])], [])
theorem ok0_24 : kbody (kEof k0_tt k_aty k0_ct ow0_SilenceMatch 2 (some .int) ct0_24) bd0_24 100000 = true := by decide +kernel
def cd_X9_player : kCd := [(0, .aload_n 0, 1), (1, .getfield 28, 3), (4, .iload_n 1, 1), (5, .invokevirtual 115, 3), (8, .ifCond .ne 6, 3), (11, .bipush (-2), 2), (13, .ireturn, 1), (14, .iload_n 2, 1), (15, .tableswitch 85 0 4 #[33, 43, 53, 63, 73], 33), (48, .aload_n 0, 1), (49, .getfield 28, 3), (52, .getfield 119, 3), (55, .iload_n 1, 1), (56, .iaload, 1), (57, .ireturn, 1), (58, .aload_n 0, 1), (59, .getfield 28, 3), (62, .getfield 123, 3), (65, .iload_n 1, 1), (66, .iaload, 1), (67, .ireturn, 1), (68, .aload_n 0, 1), (69, .getfield 28, 3), (72, .getfield 126, 3), (75, .iload_n 1, 1), (76, .iaload, 1), (77, .ireturn, 1), (78, .aload_n 0, 1), (79, .getfield 28, 3), (82, .getfield 129, 3), (85, .iload_n 1, 1), (86, .iaload, 1), (87, .ireturn, 1), (88, .aload_n 0, 1), (89, .getfield 28, 3), (92, .iconst 1, 1), (93, .iload_n 1, 1), (94, .ishl, 1), (95, .iconst 0, 1), (96, .invokevirtual 132, 3), (99, .ireturn, 1), (100, .bipush (-2), 2), (102, .ireturn, 1)]
def bd0_25 : kBd := (cd_X9_player, [(5, [3])], [], [])
theorem ok0_25 : kbody (kEof k0_tt k_aty k0_ct ow0_SilenceMatch 3 (some .int) ct0_25) bd0_25 100000 = true := by decide +kernel
def cd_X9_umpire : kCd := [(0, .aload_n 0, 1), (1, .getfield 28, 3), (4, .iload_n 1, 1), (5, .invokevirtual 136, 3), (8, .ifCond .ne 6, 3), (11, .bipush (-2), 2), (13, .ireturn, 1), (14, .iload_n 2, 1), (15, .ifCond .ne 13, 3), (18, .aload_n 0, 1), (19, .getfield 28, 3), (22, .getfield 139, 3), (25, .iload_n 1, 1), (26, .iaload, 1), (27, .ireturn, 1), (28, .iload_n 2, 1), (29, .iconst 1, 1), (30, .if_icmp .ne 15, 3), (33, .aload_n 0, 1), (34, .getfield 28, 3), (37, .getfield 142, 3), (40, .iload_n 1, 1), (41, .iaload, 1), (42, .goto 5, 3), (45, .bipush (-2), 2), (47, .ireturn, 1)]
def bd0_26 : kBd := (cd_X9_umpire, [(5, [4])], [], [])
theorem ok0_26 : kbody (kEof k0_tt k_aty k0_ct ow0_SilenceMatch 3 (some .int) ct0_26) bd0_26 100000 = true := by decide +kernel
def cd_X9_far : kCd := [(0, .aload_n 0, 1), (1, .getfield 28, 3), (4, .iload_n 1, 1), (5, .invokevirtual 145, 3), (8, .ifCond .eq 14, 3), (11, .aload_n 0, 1), (12, .getfield 28, 3), (15, .iload_n 2, 1), (16, .invokevirtual 145, 3), (19, .ifCond .ne 6, 3), (22, .bipush (-2), 2), (24, .ireturn, 1), (25, .aload_n 0, 1), (26, .getfield 28, 3), (29, .iload_n 1, 1), (30, .iload_n 2, 1), (31, .invokevirtual 148, 3), (34, .ireturn, 1)]
def bd0_27 : kBd := (cd_X9_far, [(5, [2])], [], [])
theorem ok0_27 : kbody (kEof k0_tt k_aty k0_ct ow0_SilenceMatch 3 (some .int) ct0_27) bd0_27 100000 = true := by decide +kernel
def cd_X9_wind : kCd := [(0, .aload_n 0, 1), (1, .getfield 28, 3), (4, .invokevirtual 151, 3), (7, .ifCond .eq 14, 3), (10, .iload_n 1, 1), (11, .iconst 1, 1), (12, .if_icmp .lt 9, 3), (15, .iload_n 1, 1), (16, .bipush 60, 2), (18, .if_icmp .le 6, 3), (21, .bipush (-2), 2), (23, .ireturn, 1), (24, .aload_n 0, 1), (25, .getfield 48, 3), (28, .getfield 155, 3), (31, .iload_n 1, 1), (32, .baload, 1), (33, .ifCond .eq 7, 3), (36, .iconst 1, 1), (37, .goto 4, 3), (40, .iconst 0, 1), (41, .ireturn, 1)]
def bd0_28 : kBd := (cd_X9_wind, [(4, [0])], [], [])
theorem ok0_28 : kbody (kEof k0_tt k_aty k0_ct ow0_SilenceMatch 2 (some .int) ct0_28) bd0_28 100000 = true := by decide +kernel
def cd_X9_ears : kCd := [(0, .aload_n 0, 1), (1, .getfield 28, 3), (4, .iload_n 1, 1), (5, .invokevirtual 145, 3), (8, .ifCond .eq 10, 3), (11, .iload_n 2, 1), (12, .invokestatic 158, 3), (15, .ifCond .ne 6, 3), (18, .bipush (-2), 2), (20, .ireturn, 1), (21, .aload_n 0, 1), (22, .getfield 28, 3), (25, .iload_n 1, 1), (26, .iload_n 2, 1), (27, .invokevirtual 161, 3), (30, .ireturn, 1)]
def bd0_29 : kBd := (cd_X9_ears, [(5, [2])], [], [])
theorem ok0_29 : kbody (kEof k0_tt k_aty k0_ct ow0_SilenceMatch 3 (some .int) ct0_29) bd0_29 100000 = true := by decide +kernel
def cd_X9_dead : kCd := [(0, .aload_n 0, 1), (1, .getfield 28, 3), (4, .invokevirtual 151, 3), (7, .ifCond .eq 10, 3), (10, .iload_n 1, 1), (11, .invokestatic 158, 3), (14, .ifCond .ne 6, 3), (17, .bipush (-2), 2), (19, .ireturn, 1), (20, .aload_n 0, 1), (21, .getfield 28, 3), (24, .invokevirtual 164, 3), (27, .invokestatic 168, 3), (30, .aload_n 0, 1), (31, .getfield 28, 3), (34, .iload_n 1, 1), (35, .invokevirtual 172, 3), (38, .iconst (-1), 1), (39, .ixor, 1), (40, .iand, 1), (41, .ireturn, 1)]
def bd0_30 : kBd := (cd_X9_dead, [(4, [0])], [], [])
theorem ok0_30 : kbody (kEof k0_tt k_aty k0_ct ow0_SilenceMatch 2 (some .int) ct0_30) bd0_30 100000 = true := by decide +kernel
def cd_X9_quiet : kCd := [(0, .aload_n 0, 1), (1, .getfield 28, 3), (4, .iload_n 1, 1), (5, .invokevirtual 145, 3), (8, .ifCond .ne 6, 3), (11, .bipush (-2), 2), (13, .ireturn, 1), (14, .bipush 12, 2), (16, .istore_n 2, 1), (17, .iload_n 2, 1), (18, .ifCond .le 21, 3), (21, .aload_n 0, 1), (22, .getfield 28, 3), (25, .iload_n 1, 1), (26, .iload_n 2, 1), (27, .invokevirtual 161, 3), (30, .ifCond .eq 9, 3), (33, .iinc 2 (-1), 3), (36, .goto (-19), 3), (39, .iload_n 2, 1), (40, .ireturn, 1)]
def bd0_31 : kBd := (cd_X9_quiet, [(5, [2])], [], [])
theorem ok0_31 : kbody (kEof k0_tt k_aty k0_ct ow0_SilenceMatch 3 (some .int) ct0_31) bd0_31 100000 = true := by decide +kernel
def cd_X9_coughs : kCd := [(0, .aload_n 0, 1), (1, .iload_n 1, 1), (2, .invokevirtual 175, 3), (5, .ifCond .eq 15, 3), (8, .aload_n 0, 1), (9, .getfield 48, 3), (12, .getfield 178, 3), (15, .iload_n 1, 1), (16, .iaload, 1), (17, .goto 5, 3), (20, .bipush (-2), 2), (22, .ireturn, 1)]
def bd0_32 : kBd := (cd_X9_coughs, [(2, [9])], [], [])
theorem ok0_32 : kbody (kEof k0_tt k_aty k0_ct ow0_SilenceMatch 2 (some .int) ct0_32) bd0_32 100000 = true := by decide +kernel
def cd_X9_out : kCd := [(0, .aload_n 0, 1), (1, .getfield 28, 3), (4, .iload_n 1, 1), (5, .invokevirtual 115, 3), (8, .ifCond .ne 6, 3), (11, .bipush (-2), 2), (13, .ireturn, 1), (14, .aload_n 0, 1), (15, .getfield 48, 3), (18, .aload_n 0, 1), (19, .getfield 28, 3), (22, .aload_n 0, 1), (23, .getfield 28, 3), (26, .getfield 187, 3), (29, .invokevirtual 190, 3), (32, .aload_n 0, 1), (33, .getfield 48, 3), (36, .iload_n 1, 1), (37, .invokevirtual 194, 3), (40, .ireturn, 1)]
def bd0_33 : kBd := (cd_X9_out, [(5, [3])], [], [])
theorem ok0_33 : kbody (kEof k0_tt k_aty k0_ct ow0_SilenceMatch 2 (some .int) ct0_33) bd0_33 100000 = true := by decide +kernel
def cd_X9_outs : kCd := [(0, .aload_n 0, 1), (1, .iload_n 1, 1), (2, .invokevirtual 175, 3), (5, .ifCond .ne 6, 3), (8, .bipush (-2), 2), (10, .ireturn, 1), (11, .aload_n 0, 1), (12, .getfield 48, 3), (15, .aload_n 0, 1), (16, .getfield 28, 3), (19, .aload_n 0, 1), (20, .getfield 28, 3), (23, .getfield 187, 3), (26, .invokevirtual 190, 3), (29, .aload_n 0, 1), (30, .getfield 48, 3), (33, .iload_n 1, 1), (34, .invokevirtual 197, 3), (37, .ireturn, 1)]
def bd0_34 : kBd := (cd_X9_outs, [(2, [9])], [], [])
theorem ok0_34 : kbody (kEof k0_tt k_aty k0_ct ow0_SilenceMatch 2 (some .int) ct0_34) bd0_34 100000 = true := by decide +kernel
def cd_X9_laughs : kCd := [(0, .aload_n 0, 1), (1, .iload_n 1, 1), (2, .invokevirtual 175, 3), (5, .ifCond .ne 6, 3), (8, .bipush (-2), 2), (10, .ireturn, 1), (11, .aload_n 0, 1), (12, .getfield 48, 3), (15, .aload_n 0, 1), (16, .getfield 28, 3), (19, .aload_n 0, 1), (20, .getfield 28, 3), (23, .getfield 187, 3), (26, .invokevirtual 190, 3), (29, .aload_n 0, 1), (30, .getfield 48, 3), (33, .getfield 200, 3), (36, .iload_n 1, 1), (37, .iaload, 1), (38, .ireturn, 1)]
def bd0_35 : kBd := (cd_X9_laughs, [(2, [9])], [], [])
theorem ok0_35 : kbody (kEof k0_tt k_aty k0_ct ow0_SilenceMatch 2 (some .int) ct0_35) bd0_35 100000 = true := by decide +kernel
def cd_X9_finger : kCd := [(0, .aload_n 0, 1), (1, .getfield 28, 3), (4, .iload_n 1, 1), (5, .invokevirtual 115, 3), (8, .ifCond .ne 6, 3), (11, .bipush (-2), 2), (13, .ireturn, 1), (14, .aload_n 0, 1), (15, .getfield 48, 3), (18, .aload_n 0, 1), (19, .getfield 28, 3), (22, .aload_n 0, 1), (23, .getfield 28, 3), (26, .getfield 187, 3), (29, .invokevirtual 190, 3), (32, .aload_n 0, 1), (33, .getfield 48, 3), (36, .aload_n 0, 1), (37, .getfield 28, 3), (40, .iload_n 1, 1), (41, .invokevirtual 203, 3), (44, .ireturn, 1)]
def bd0_36 : kBd := (cd_X9_finger, [(5, [3])], [], [])
theorem ok0_36 : kbody (kEof k0_tt k_aty k0_ct ow0_SilenceMatch 2 (some .int) ct0_36) bd0_36 100000 = true := by decide +kernel
def cd_X9_fingers : kCd := [(0, .aload_n 0, 1), (1, .getfield 28, 3), (4, .iload_n 1, 1), (5, .invokevirtual 136, 3), (8, .ifCond .ne 6, 3), (11, .bipush (-2), 2), (13, .ireturn, 1), (14, .aload_n 0, 1), (15, .getfield 48, 3), (18, .aload_n 0, 1), (19, .getfield 28, 3), (22, .aload_n 0, 1), (23, .getfield 28, 3), (26, .getfield 187, 3), (29, .invokevirtual 190, 3), (32, .iconst 0, 1), (33, .istore_n 2, 1), (34, .iconst 0, 1), (35, .istore_n 3, 1), (36, .iload_n 3, 1), (37, .aload_n 0, 1), (38, .getfield 28, 3), (41, .getfield 181, 3), (44, .if_icmp .ge 28, 3), (47, .aload_n 0, 1), (48, .getfield 48, 3), (51, .aload_n 0, 1), (52, .getfield 28, 3), (55, .iload_n 3, 1), (56, .invokevirtual 203, 3), (59, .iload_n 1, 1), (60, .if_icmp .ne 6, 3), (63, .iinc 2 1, 3), (66, .iinc 3 1, 3), (69, .goto (-33), 3), (72, .iload_n 2, 1), (73, .ireturn, 1)]
def bd0_37 : kBd := (cd_X9_fingers, [(5, [4])], [], [])
theorem ok0_37 : kbody (kEof k0_tt k_aty k0_ct ow0_SilenceMatch 4 (some .int) ct0_37) bd0_37 100000 = true := by decide +kernel
def cd_X9_score : kCd := [(0, .aload_n 0, 1), (1, .iload_n 1, 1), (2, .invokevirtual 207, 3), (5, .ifCond .eq 18, 3), (8, .iload_n 2, 1), (9, .ifCond .lt 14, 3), (12, .iload_n 2, 1), (13, .aload_n 0, 1), (14, .getfield 28, 3), (17, .getfield 187, 3), (20, .if_icmp .le 6, 3), (23, .bipush (-2), 2), (25, .ireturn, 1), (26, .aload_n 0, 1), (27, .getfield 48, 3), (30, .aload_n 0, 1), (31, .getfield 28, 3), (34, .aload_n 0, 1), (35, .getfield 28, 3), (38, .getfield 187, 3), (41, .invokevirtual 190, 3), (44, .aload_n 0, 1), (45, .getfield 48, 3), (48, .aload_n 0, 1), (49, .getfield 28, 3), (52, .iload_n 1, 1), (53, .iload_n 2, 1), (54, .invokevirtual 210, 3), (57, .ireturn, 1)]
def bd0_38 : kBd := (cd_X9_score, [(2, [8])], [], [])
theorem ok0_38 : kbody (kEof k0_tt k_aty k0_ct ow0_SilenceMatch 3 (some .int) ct0_38) bd0_38 100000 = true := by decide +kernel
def cd_X9_wins : kCd := [(0, .aload_n 0, 1), (1, .getfield 28, 3), (4, .invokevirtual 151, 3), (7, .ifCond .ne 6, 3), (10, .bipush (-2), 2), (12, .ireturn, 1), (13, .aload_n 0, 1), (14, .getfield 48, 3), (17, .aload_n 0, 1), (18, .getfield 28, 3), (21, .aload_n 0, 1), (22, .getfield 28, 3), (25, .getfield 187, 3), (28, .invokevirtual 190, 3), (31, .aload_n 0, 1), (32, .invokevirtual 214, 3), (35, .ireturn, 1)]
def bd0_39 : kBd := (cd_X9_wins, [(4, [0])], [], [])
theorem ok0_39 : kbody (kEof k0_tt k_aty k0_ct ow0_SilenceMatch 1 (some .int) ct0_39) bd0_39 100000 = true := by decide +kernel
def cd_X9_leads : kCd := [(0, .aload_n 0, 1), (1, .getfield 28, 3), (4, .invokevirtual 151, 3), (7, .ifCond .ne 6, 3), (10, .bipush (-2), 2), (12, .ireturn, 1), (13, .aload_n 0, 1), (14, .getfield 48, 3), (17, .aload_n 0, 1), (18, .getfield 28, 3), (21, .aload_n 0, 1), (22, .getfield 28, 3), (25, .getfield 187, 3), (28, .invokevirtual 190, 3), (31, .aload_n 0, 1), (32, .invokevirtual 214, 3), (35, .istore_n 1, 1), (36, .iload_n 1, 1), (37, .iconst (-1), 1), (38, .if_icmp .ne 5, 3), (41, .iconst (-1), 1), (42, .ireturn, 1), (43, .aload_n 0, 1), (44, .getfield 28, 3), (47, .getfield 187, 3), (50, .istore_n 2, 1), (51, .iload_n 2, 1), (52, .ifCond .le 27, 3), (55, .aload_n 0, 1), (56, .getfield 48, 3), (59, .aload_n 0, 1), (60, .getfield 28, 3), (63, .iload_n 1, 1), (64, .iload_n 2, 1), (65, .iconst 1, 1), (66, .isub, 1), (67, .invokevirtual 217, 3), (70, .ifCond .le 9, 3), (73, .iinc 2 (-1), 3), (76, .goto (-25), 3), (79, .iload_n 2, 1), (80, .ireturn, 1)]
def bd0_40 : kBd := (cd_X9_leads, [(4, [0])], [], [])
theorem ok0_40 : kbody (kEof k0_tt k_aty k0_ct ow0_SilenceMatch 3 (some .int) ct0_40) bd0_40 100000 = true := by decide +kernel
def cd_X9_last : kCd := [(0, .aload_n 0, 1), (1, .getfield 28, 3), (4, .invokevirtual 151, 3), (7, .ifCond .ne 6, 3), (10, .bipush (-2), 2), (12, .ireturn, 1), (13, .aload_n 0, 1), (14, .getfield 48, 3), (17, .aload_n 0, 1), (18, .getfield 28, 3), (21, .aload_n 0, 1), (22, .getfield 28, 3), (25, .getfield 187, 3), (28, .invokevirtual 190, 3), (31, .iconst (-1), 1), (32, .istore_n 1, 1), (33, .iconst 1, 1), (34, .istore_n 2, 1), (35, .iload_n 2, 1), (36, .aload_n 0, 1), (37, .getfield 28, 3), (40, .getfield 187, 3), (43, .if_icmp .gt 22, 3), (46, .aload_n 0, 1), (47, .getfield 48, 3), (50, .iload_n 2, 1), (51, .invokevirtual 197, 3), (54, .ifCond .eq 5, 3), (57, .iload_n 2, 1), (58, .istore_n 1, 1), (59, .iinc 2 1, 3), (62, .goto (-27), 3), (65, .iload_n 1, 1), (66, .ireturn, 1)]
def bd0_41 : kBd := (cd_X9_last, [(4, [0])], [], [])
theorem ok0_41 : kbody (kEof k0_tt k_aty k0_ct ow0_SilenceMatch 3 (some .int) ct0_41) bd0_41 100000 = true := by decide +kernel
def cd_X9_tries : kCd := [(0, .aload_n 0, 1), (1, .iload_n 1, 1), (2, .invokevirtual 175, 3), (5, .ifCond .ne 6, 3), (8, .bipush (-2), 2), (10, .ireturn, 1), (11, .aload_n 0, 1), (12, .getfield 48, 3), (15, .aload_n 0, 1), (16, .getfield 28, 3), (19, .aload_n 0, 1), (20, .getfield 28, 3), (23, .getfield 187, 3), (26, .invokevirtual 190, 3), (29, .aload_n 0, 1), (30, .getfield 48, 3), (33, .getfield 178, 3), (36, .iload_n 1, 1), (37, .iaload, 1), (38, .aload_n 0, 1), (39, .getfield 48, 3), (42, .getfield 220, 3), (45, .iload_n 1, 1), (46, .iconst 1, 1), (47, .isub, 1), (48, .iaload, 1), (49, .iand, 1), (50, .ireturn, 1)]
def bd0_42 : kBd := (cd_X9_tries, [(2, [9])], [], [])
theorem ok0_42 : kbody (kEof k0_tt k_aty k0_ct ow0_SilenceMatch 2 (some .int) ct0_42) bd0_42 100000 = true := by decide +kernel
def cd_X9_crowd : kCd := [(0, .aload_n 0, 1), (1, .getfield 28, 3), (4, .iload_n 1, 1), (5, .invokevirtual 145, 3), (8, .ifCond .ne 6, 3), (11, .bipush (-2), 2), (13, .ireturn, 1), (14, .iconst 0, 1), (15, .istore_n 2, 1), (16, .iconst 0, 1), (17, .istore_n 3, 1), (18, .iload_n 3, 1), (19, .aload_n 0, 1), (20, .getfield 28, 3), (23, .getfield 181, 3), (26, .if_icmp .ge 28, 3), (29, .aload_n 0, 1), (30, .getfield 28, 3), (33, .getfield 123, 3), (36, .iload_n 3, 1), (37, .iaload, 1), (38, .iload_n 1, 1), (39, .if_icmp .ne 9, 3), (42, .iload_n 2, 1), (43, .iconst 1, 1), (44, .iload_n 3, 1), (45, .ishl, 1), (46, .ior, 1), (47, .istore_n 2, 1), (48, .iinc 3 1, 3), (51, .goto (-33), 3), (54, .iload_n 2, 1), (55, .ireturn, 1)]
def bd0_43 : kBd := (cd_X9_crowd, [(5, [2])], [], [])
theorem ok0_43 : kbody (kEof k0_tt k_aty k0_ct ow0_SilenceMatch 4 (some .int) ct0_43) bd0_43 100000 = true := by decide +kernel
def cd_X9_near : kCd := [(0, .aload_n 0, 1), (1, .getfield 28, 3), (4, .iload_n 1, 1), (5, .invokevirtual 115, 3), (8, .ifCond .ne 6, 3), (11, .bipush (-2), 2), (13, .ireturn, 1), (14, .iconst (-1), 1), (15, .istore_n 2, 1), (16, .bipush 20, 2), (18, .istore_n 3, 1), (19, .iconst 0, 1), (20, .istore 4, 2), (22, .iload 4, 2), (24, .aload_n 0, 1), (25, .getfield 28, 3), (28, .getfield 184, 3), (31, .if_icmp .ge 49, 3), (34, .aload_n 0, 1), (35, .getfield 28, 3), (38, .aload_n 0, 1), (39, .getfield 28, 3), (42, .getfield 139, 3), (45, .iload 4, 2), (47, .iaload, 1), (48, .aload_n 0, 1), (49, .getfield 28, 3), (52, .getfield 123, 3), (55, .iload_n 1, 1), (56, .iaload, 1), (57, .invokevirtual 148, 3), (60, .istore 5, 2), (62, .iload 5, 2), (64, .iload_n 3, 1), (65, .if_icmp .ge 9, 3), (68, .iload 5, 2), (70, .istore_n 3, 1), (71, .iload 4, 2), (73, .istore_n 2, 1), (74, .iinc 4 1, 3), (77, .goto (-55), 3), (80, .iload_n 2, 1), (81, .ireturn, 1)]
def bd0_44 : kBd := (cd_X9_near, [(5, [3])], [], [])
theorem ok0_44 : kbody (kEof k0_tt k_aty k0_ct ow0_SilenceMatch 6 (some .int) ct0_44) bd0_44 100000 = true := by decide +kernel
def cd_X9_gone : kCd := [(0, .aload_n 0, 1), (1, .iload_n 1, 1), (2, .invokevirtual 207, 3), (5, .ifCond .ne 6, 3), (8, .bipush (-2), 2), (10, .ireturn, 1), (11, .aload_n 0, 1), (12, .getfield 48, 3), (15, .aload_n 0, 1), (16, .getfield 28, 3), (19, .aload_n 0, 1), (20, .getfield 28, 3), (23, .getfield 187, 3), (26, .invokevirtual 190, 3), (29, .iconst 0, 1), (30, .istore_n 2, 1), (31, .iload_n 2, 1), (32, .aload_n 0, 1), (33, .getfield 28, 3), (36, .getfield 187, 3), (39, .if_icmp .gt 27, 3), (42, .aload_n 0, 1), (43, .getfield 48, 3), (46, .aload_n 0, 1), (47, .getfield 28, 3), (50, .iload_n 1, 1), (51, .iload_n 2, 1), (52, .invokevirtual 210, 3), (55, .ifCond .ne 5, 3), (58, .iload_n 2, 1), (59, .ireturn, 1), (60, .iinc 2 1, 3), (63, .goto (-32), 3), (66, .iconst (-1), 1), (67, .ireturn, 1)]
def bd0_45 : kBd := (cd_X9_gone, [(2, [8])], [], [])
theorem ok0_45 : kbody (kEof k0_tt k_aty k0_ct ow0_SilenceMatch 3 (some .int) ct0_45) bd0_45 100000 = true := by decide +kernel
def cd_X9_calm : kCd := [(0, .aload_n 0, 1), (1, .getfield 28, 3), (4, .invokevirtual 151, 3), (7, .ifCond .ne 6, 3), (10, .bipush (-2), 2), (12, .ireturn, 1), (13, .aload_n 0, 1), (14, .getfield 48, 3), (17, .aload_n 0, 1), (18, .getfield 28, 3), (21, .aload_n 0, 1), (22, .getfield 28, 3), (25, .getfield 187, 3), (28, .invokevirtual 190, 3), (31, .iconst 0, 1), (32, .istore_n 1, 1), (33, .iconst 0, 1), (34, .istore_n 2, 1), (35, .iconst 1, 1), (36, .istore_n 3, 1), (37, .iload_n 3, 1), (38, .aload_n 0, 1), (39, .getfield 28, 3), (42, .getfield 187, 3), (45, .if_icmp .gt 34, 3), (48, .aload_n 0, 1), (49, .getfield 48, 3), (52, .iload_n 3, 1), (53, .invokevirtual 197, 3), (56, .ifCond .ne 9, 3), (59, .iload_n 2, 1), (60, .iconst 1, 1), (61, .iadd, 1), (62, .goto 4, 3), (65, .iconst 0, 1), (66, .istore_n 2, 1), (67, .iload_n 1, 1), (68, .iload_n 2, 1), (69, .invokestatic 223, 3), (72, .istore_n 1, 1), (73, .iinc 3 1, 3), (76, .goto (-39), 3), (79, .iload_n 1, 1), (80, .ireturn, 1)]
def bd0_46 : kBd := (cd_X9_calm, [(4, [0])], [], [])
theorem ok0_46 : kbody (kEof k0_tt k_aty k0_ct ow0_SilenceMatch 4 (some .int) ct0_46) bd0_46 100000 = true := by decide +kernel
def cd_X9_chain : kCd := [(0, .aload_n 0, 1), (1, .getfield 28, 3), (4, .invokevirtual 151, 3), (7, .ifCond .ne 6, 3), (10, .bipush (-2), 2), (12, .ireturn, 1), (13, .aload_n 0, 1), (14, .getfield 48, 3), (17, .aload_n 0, 1), (18, .getfield 28, 3), (21, .aload_n 0, 1), (22, .getfield 28, 3), (25, .getfield 187, 3), (28, .invokevirtual 190, 3), (31, .iconst 0, 1), (32, .istore_n 1, 1), (33, .iconst 0, 1), (34, .istore_n 2, 1), (35, .iconst 1, 1), (36, .istore_n 3, 1), (37, .iload_n 3, 1), (38, .aload_n 0, 1), (39, .getfield 28, 3), (42, .getfield 187, 3), (45, .if_icmp .gt 35, 3), (48, .aload_n 0, 1), (49, .getfield 48, 3), (52, .getfield 200, 3), (55, .iload_n 3, 1), (56, .iaload, 1), (57, .ifCond .eq 9, 3), (60, .iload_n 2, 1), (61, .iconst 1, 1), (62, .iadd, 1), (63, .goto 4, 3), (66, .iconst 0, 1), (67, .istore_n 2, 1), (68, .iload_n 1, 1), (69, .iload_n 2, 1), (70, .invokestatic 223, 3), (73, .istore_n 1, 1), (74, .iinc 3 1, 3), (77, .goto (-40), 3), (80, .iload_n 1, 1), (81, .ireturn, 1)]
def bd0_47 : kBd := (cd_X9_chain, [(4, [0])], [], [])
theorem ok0_47 : kbody (kEof k0_tt k_aty k0_ct ow0_SilenceMatch 4 (some .int) ct0_47) bd0_47 100000 = true := by decide +kernel
def cd_X9_bells : kCd := [(0, .aload_n 0, 1), (1, .iload_n 1, 1), (2, .invokevirtual 207, 3), (5, .ifCond .ne 6, 3), (8, .bipush (-2), 2), (10, .ireturn, 1), (11, .aload_n 0, 1), (12, .getfield 48, 3), (15, .aload_n 0, 1), (16, .getfield 28, 3), (19, .bipush 60, 2), (21, .invokevirtual 190, 3), (24, .iconst 1, 1), (25, .istore_n 2, 1), (26, .iload_n 2, 1), (27, .bipush 60, 2), (29, .if_icmp .gt 27, 3), (32, .aload_n 0, 1), (33, .getfield 48, 3), (36, .aload_n 0, 1), (37, .getfield 28, 3), (40, .iload_n 1, 1), (41, .iload_n 2, 1), (42, .invokevirtual 217, 3), (45, .ifCond .le 5, 3), (48, .iload_n 2, 1), (49, .ireturn, 1), (50, .iinc 2 1, 3), (53, .goto (-27), 3), (56, .iconst (-1), 1), (57, .ireturn, 1)]
def bd0_48 : kBd := (cd_X9_bells, [(2, [8])], [], [])
theorem ok0_48 : kbody (kEof k0_tt k_aty k0_ct ow0_SilenceMatch 3 (some .int) ct0_48) bd0_48 100000 = true := by decide +kernel
def cd_X9_fire : kCd := [(0, .aload_n 0, 1), (1, .getfield 28, 3), (4, .invokevirtual 151, 3), (7, .ifCond .ne 6, 3), (10, .bipush (-2), 2), (12, .ireturn, 1), (13, .aload_n 0, 1), (14, .iconst 0, 1), (15, .iconst 0, 1), (16, .invokevirtual 228, 3), (19, .istore_n 1, 1), (20, .iconst (-1), 1), (21, .istore_n 2, 1), (22, .iconst 0, 1), (23, .istore_n 3, 1), (24, .iload_n 3, 1), (25, .aload_n 0, 1), (26, .getfield 28, 3), (29, .getfield 184, 3), (32, .if_icmp .ge 30, 3), (35, .aload_n 0, 1), (36, .iconst 1, 1), (37, .iload_n 3, 1), (38, .ishl, 1), (39, .iconst 0, 1), (40, .invokevirtual 228, 3), (43, .istore 4, 2), (45, .iload 4, 2), (47, .iload_n 1, 1), (48, .if_icmp .ge 8, 3), (51, .iload 4, 2), (53, .istore_n 1, 1), (54, .iload_n 3, 1), (55, .istore_n 2, 1), (56, .iinc 3 1, 3), (59, .goto (-35), 3), (62, .iload_n 2, 1), (63, .ireturn, 1)]
def bd0_49 : kBd := (cd_X9_fire, [(4, [0])], [], [])
theorem ok0_49 : kbody (kEof k0_tt k_aty k0_ct ow0_SilenceMatch 5 (some .int) ct0_49) bd0_49 100000 = true := by decide +kernel
def cd_X9_swap : kCd := [(0, .aload_n 0, 1), (1, .iload_n 1, 1), (2, .invokevirtual 207, 3), (5, .ifCond .ne 6, 3), (8, .bipush (-2), 2), (10, .ireturn, 1), (11, .aload_n 0, 1), (12, .getfield 48, 3), (15, .aload_n 0, 1), (16, .getfield 28, 3), (19, .aload_n 0, 1), (20, .getfield 28, 3), (23, .getfield 187, 3), (26, .invokevirtual 190, 3), (29, .aload_n 0, 1), (30, .getfield 48, 3), (33, .aload_n 0, 1), (34, .getfield 28, 3), (37, .iload_n 1, 1), (38, .aload_n 0, 1), (39, .getfield 28, 3), (42, .getfield 187, 3), (45, .invokevirtual 217, 3), (48, .istore_n 2, 1), (49, .iconst (-1), 1), (50, .istore_n 3, 1), (51, .iconst 0, 1), (52, .istore 4, 2), (54, .iload 4, 2), (56, .aload_n 0, 1), (57, .getfield 28, 3), (60, .getfield 181, 3), (63, .if_icmp .ge 89, 3), (66, .iload 4, 2), (68, .iconst 1, 1), (69, .iadd, 1), (70, .istore 5, 2), (72, .iload 5, 2), (74, .aload_n 0, 1), (75, .getfield 28, 3), (78, .getfield 181, 3), (81, .if_icmp .ge 65, 3), (84, .aload_n 0, 1), (85, .getfield 28, 3), (88, .getfield 119, 3), (91, .iload 4, 2), (93, .iaload, 1), (94, .iload_n 1, 1), (95, .if_icmp .ne 45, 3), (98, .aload_n 0, 1), (99, .getfield 28, 3), (102, .getfield 119, 3), (105, .iload 5, 2), (107, .iaload, 1), (108, .iload_n 1, 1), (109, .if_icmp .ne 31, 3), (112, .aload_n 0, 1), (113, .iload 4, 2), (115, .iload 5, 2), (117, .invokevirtual 234, 3), (120, .istore 6, 2), (122, .iload 6, 2), (124, .iload_n 2, 1), (125, .if_icmp .le 15, 3), (128, .iload 6, 2), (130, .istore_n 2, 1), (131, .bipush 10, 2), (133, .iload 4, 2), (135, .imul, 1), (136, .iload 5, 2), (138, .iadd, 1), (139, .istore_n 3, 1), (140, .iinc 5 1, 3), (143, .goto (-71), 3), (146, .iinc 4 1, 3), (149, .goto (-95), 3), (152, .iload_n 3, 1), (153, .ireturn, 1)]
def bd0_50 : kBd := (cd_X9_swap, [(2, [8])], [], [])
theorem ok0_50 : kbody (kEof k0_tt k_aty k0_ct ow0_SilenceMatch 7 (some .int) ct0_50) bd0_50 100000 = true := by decide +kernel
def cd_X9_groups : kCd := [(0, .aload_n 0, 1), (1, .getfield 28, 3), (4, .invokevirtual 151, 3), (7, .ifCond .ne 6, 3), (10, .bipush (-2), 2), (12, .ireturn, 1), (13, .iconst 0, 1), (14, .istore_n 1, 1), (15, .iconst 0, 1), (16, .istore_n 2, 1), (17, .iconst 0, 1), (18, .istore_n 3, 1), (19, .iload_n 3, 1), (20, .aload_n 0, 1), (21, .getfield 28, 3), (24, .getfield 181, 3), (27, .if_icmp .ge 32, 3), (30, .iload_n 1, 1), (31, .iload_n 3, 1), (32, .ishr, 1), (33, .iconst 1, 1), (34, .iand, 1), (35, .ifCond .ne 18, 3), (38, .iload_n 1, 1), (39, .aload_n 0, 1), (40, .getfield 28, 3), (43, .iload_n 3, 1), (44, .iconst 0, 1), (45, .invokevirtual 273, 3), (48, .ior, 1), (49, .istore_n 1, 1), (50, .iinc 2 1, 3), (53, .iinc 3 1, 3), (56, .goto (-37), 3), (59, .iload_n 2, 1), (60, .ireturn, 1)]
def bd0_51 : kBd := (cd_X9_groups, [(4, [0])], [], [])
theorem ok0_51 : kbody (kEof k0_tt k_aty k0_ct ow0_SilenceMatch 4 (some .int) ct0_51) bd0_51 100000 = true := by decide +kernel
def cd_X9_safe : kCd := [(0, .aload_n 0, 1), (1, .getfield 28, 3), (4, .iload_n 1, 1), (5, .invokevirtual 115, 3), (8, .ifCond .ne 6, 3), (11, .bipush (-2), 2), (13, .ireturn, 1), (14, .iconst 0, 1), (15, .istore_n 2, 1), (16, .iconst 0, 1), (17, .istore_n 3, 1), (18, .iload_n 3, 1), (19, .aload_n 0, 1), (20, .getfield 28, 3), (23, .invokevirtual 164, 3), (26, .if_icmp .ge 33, 3), (29, .aload_n 0, 1), (30, .iload_n 1, 1), (31, .iload_n 3, 1), (32, .invokevirtual 237, 3), (35, .aload_n 0, 1), (36, .getfield 48, 3), (39, .iload_n 1, 1), (40, .invokevirtual 194, 3), (43, .iconst (-1), 1), (44, .if_icmp .ne 9, 3), (47, .iload_n 2, 1), (48, .iconst 1, 1), (49, .iload_n 3, 1), (50, .ishl, 1), (51, .ior, 1), (52, .istore_n 2, 1), (53, .iinc 3 1, 3), (56, .goto (-38), 3), (59, .iload_n 2, 1), (60, .ireturn, 1)]
def bd0_52 : kBd := (cd_X9_safe, [(5, [3])], [], [])
theorem ok0_52 : kbody (kEof k0_tt k_aty k0_ct ow0_SilenceMatch 4 (some .int) ct0_52) bd0_52 100000 = true := by decide +kernel
def cd_X9_place : kCd := [(0, .aload_n 0, 1), (1, .getfield 28, 3), (4, .iload_n 1, 1), (5, .invokevirtual 115, 3), (8, .ifCond .eq 11, 3), (11, .aload_n 0, 1), (12, .iload_n 1, 1), (13, .invokevirtual 241, 3), (16, .goto 5, 3), (19, .bipush (-2), 2), (21, .ireturn, 1)]
def bd0_53 : kBd := (cd_X9_place, [(5, [3])], [], [])
theorem ok0_53 : kbody (kEof k0_tt k_aty k0_ct ow0_SilenceMatch 2 (some .int) ct0_53) bd0_53 100000 = true := by decide +kernel
def cd_X9_lasts : kCd := [(0, .aload_n 0, 1), (1, .getfield 28, 3), (4, .iload_n 1, 1), (5, .invokevirtual 115, 3), (8, .ifCond .ne 6, 3), (11, .bipush (-2), 2), (13, .ireturn, 1), (14, .aload_n 0, 1), (15, .iload_n 1, 1), (16, .aload_n 0, 1), (17, .iload_n 1, 1), (18, .invokevirtual 241, 3), (21, .invokevirtual 237, 3), (24, .aload_n 0, 1), (25, .getfield 48, 3), (28, .iload_n 1, 1), (29, .invokevirtual 194, 3), (32, .ireturn, 1)]
def bd0_54 : kBd := (cd_X9_lasts, [(5, [3])], [], [])
theorem ok0_54 : kbody (kEof k0_tt k_aty k0_ct ow0_SilenceMatch 2 (some .int) ct0_54) bd0_54 100000 = true := by decide +kernel
def cd_X9_best : kCd := [(0, .aload_n 0, 1), (1, .getfield 28, 3), (4, .iload_n 1, 1), (5, .invokevirtual 115, 3), (8, .ifCond .eq 11, 3), (11, .aload_n 0, 1), (12, .iload_n 1, 1), (13, .invokevirtual 244, 3), (16, .goto 5, 3), (19, .bipush (-2), 2), (21, .ireturn, 1)]
def bd0_55 : kBd := (cd_X9_best, [(5, [3])], [], [])
theorem ok0_55 : kbody (kEof k0_tt k_aty k0_ct ow0_SilenceMatch 2 (some .int) ct0_55) bd0_55 100000 = true := by decide +kernel
def cd_X9_gains : kCd := [(0, .aload_n 0, 1), (1, .getfield 28, 3), (4, .iload_n 1, 1), (5, .invokevirtual 115, 3), (8, .ifCond .ne 7, 3), (11, .sipush (-1000), 3), (14, .ireturn, 1), (15, .aload_n 0, 1), (16, .iload_n 1, 1), (17, .aload_n 0, 1), (18, .iload_n 1, 1), (19, .invokevirtual 244, 3), (22, .invokevirtual 237, 3), (25, .aload_n 0, 1), (26, .getfield 48, 3), (29, .aload_n 0, 1), (30, .getfield 28, 3), (33, .aload_n 0, 1), (34, .getfield 28, 3), (37, .getfield 119, 3), (40, .iload_n 1, 1), (41, .iaload, 1), (42, .aload_n 0, 1), (43, .getfield 28, 3), (46, .getfield 187, 3), (49, .invokevirtual 217, 3), (52, .ireturn, 1)]
def bd0_56 : kBd := (cd_X9_gains, [(5, [3])], [], [])
theorem ok0_56 : kbody (kEof k0_tt k_aty k0_ct ow0_SilenceMatch 2 (some .int) ct0_56) bd0_56 100000 = true := by decide +kernel
def cd_X9_hush : kCd := [(0, .aload_n 0, 1), (1, .getfield 28, 3), (4, .iload_n 1, 1), (5, .invokevirtual 115, 3), (8, .ifCond .ne 6, 3), (11, .bipush (-2), 2), (13, .ireturn, 1), (14, .aload_n 0, 1), (15, .getfield 35, 3), (18, .aload_n 0, 1), (19, .getfield 28, 3), (22, .invokevirtual 100, 3), (25, .bipush 12, 2), (27, .istore_n 2, 1), (28, .iload_n 2, 1), (29, .ifCond .lt 51, 3), (32, .aload_n 0, 1), (33, .getfield 35, 3), (36, .getfield 126, 3), (39, .iload_n 1, 1), (40, .iload_n 2, 1), (41, .iastore, 1), (42, .aload_n 0, 1), (43, .getfield 48, 3), (46, .aload_n 0, 1), (47, .getfield 35, 3), (50, .aload_n 0, 1), (51, .getfield 28, 3), (54, .getfield 187, 3), (57, .invokevirtual 190, 3), (60, .aload_n 0, 1), (61, .getfield 48, 3), (64, .iload_n 1, 1), (65, .invokevirtual 194, 3), (68, .iconst (-1), 1), (69, .if_icmp .ne 5, 3), (72, .iload_n 2, 1), (73, .ireturn, 1), (74, .iinc 2 (-1), 3), (77, .goto (-49), 3), (80, .iconst (-1), 1), (81, .ireturn, 1)]
def bd0_57 : kBd := (cd_X9_hush, [(5, [3])], [], [])
theorem ok0_57 : kbody (kEof k0_tt k_aty k0_ct ow0_SilenceMatch 3 (some .int) ct0_57) bd0_57 100000 = true := by decide +kernel
def cd_X9_cover : kCd := [(0, .aload_n 0, 1), (1, .iload_n 1, 1), (2, .iload_n 2, 1), (3, .invokevirtual 259, 3), (6, .ifCond .ne 6, 3), (9, .bipush (-2), 2), (11, .ireturn, 1), (12, .aload_n 0, 1), (13, .getfield 55, 3), (16, .aload_n 0, 1), (17, .getfield 28, 3), (20, .iload_n 2, 1), (21, .iload_n 1, 1), (22, .isub, 1), (23, .invokevirtual 263, 3), (26, .aload_n 0, 1), (27, .getfield 55, 3), (30, .getfield 266, 3), (33, .ireturn, 1)]
def bd0_58 : kBd := (cd_X9_cover, [(3, [10])], [], [])
theorem ok0_58 : kbody (kEof k0_tt k_aty k0_ct ow0_SilenceMatch 3 (some .int) ct0_58) bd0_58 100000 = true := by decide +kernel
def cd_X9_covers : kCd := [(0, .aload_n 0, 1), (1, .iload_n 1, 1), (2, .iload_n 2, 1), (3, .invokevirtual 259, 3), (6, .ifCond .ne 6, 3), (9, .bipush (-2), 2), (11, .ireturn, 1), (12, .aload_n 0, 1), (13, .getfield 55, 3), (16, .aload_n 0, 1), (17, .getfield 28, 3), (20, .iload_n 2, 1), (21, .iload_n 1, 1), (22, .isub, 1), (23, .invokevirtual 263, 3), (26, .iload_n 3, 1), (27, .ifCond .lt 26, 3), (30, .iload_n 3, 1), (31, .aload_n 0, 1), (32, .getfield 55, 3), (35, .getfield 266, 3), (38, .if_icmp .ge 15, 3), (41, .aload_n 0, 1), (42, .getfield 55, 3), (45, .getfield 267, 3), (48, .iload_n 3, 1), (49, .iaload, 1), (50, .goto 4, 3), (53, .iconst (-1), 1), (54, .ireturn, 1)]
def bd0_59 : kBd := (cd_X9_covers, [(3, [10])], [], [])
theorem ok0_59 : kbody (kEof k0_tt k_aty k0_ct ow0_SilenceMatch 4 (some .int) ct0_59) bd0_59 100000 = true := by decide +kernel
def cd_X9_more : kCd := [(0, .aload_n 0, 1), (1, .iload_n 1, 1), (2, .iload_n 2, 1), (3, .invokevirtual 259, 3), (6, .ifCond .ne 6, 3), (9, .bipush (-2), 2), (11, .ireturn, 1), (12, .aload_n 0, 1), (13, .getfield 28, 3), (16, .invokevirtual 164, 3), (19, .invokestatic 168, 3), (22, .aload_n 0, 1), (23, .getfield 28, 3), (26, .iload_n 2, 1), (27, .invokevirtual 172, 3), (30, .iconst (-1), 1), (31, .ixor, 1), (32, .iand, 1), (33, .istore_n 3, 1), (34, .iconst 0, 1), (35, .istore 4, 2), (37, .iconst (-1), 1), (38, .istore 5, 2), (40, .iconst 0, 1), (41, .istore 6, 2), (43, .iload 6, 2), (45, .aload_n 0, 1), (46, .getfield 28, 3), (49, .invokevirtual 164, 3), (52, .if_icmp .ge 43, 3), (55, .aload_n 0, 1), (56, .getfield 28, 3), (59, .iload 6, 2), (61, .iload_n 2, 1), (62, .iload_n 1, 1), (63, .isub, 1), (64, .invokevirtual 270, 3), (67, .iload_n 3, 1), (68, .iand, 1), (69, .invokestatic 250, 3), (72, .istore 7, 2), (74, .iload 7, 2), (76, .iload 4, 2), (78, .if_icmp .le 11, 3), (81, .iload 7, 2), (83, .istore 4, 2), (85, .iload 6, 2), (87, .istore 5, 2), (89, .iinc 6 1, 3), (92, .goto (-49), 3), (95, .iload 5, 2), (97, .ireturn, 1)]
def bd0_60 : kBd := (cd_X9_more, [(3, [10])], [], [])
theorem ok0_60 : kbody (kEof k0_tt k_aty k0_ct ow0_SilenceMatch 8 (some .int) ct0_60) bd0_60 100000 = true := by decide +kernel
def cd_X9_spread : kCd := [(0, .aload_n 0, 1), (1, .getfield 28, 3), (4, .iload_n 1, 1), (5, .invokevirtual 115, 3), (8, .ifCond .eq 15, 3), (11, .aload_n 0, 1), (12, .getfield 28, 3), (15, .iload_n 1, 1), (16, .iconst 0, 1), (17, .invokevirtual 273, 3), (20, .goto 5, 3), (23, .bipush (-2), 2), (25, .ireturn, 1)]
def bd0_61 : kBd := (cd_X9_spread, [(5, [3])], [], [])
theorem ok0_61 : kbody (kEof k0_tt k_aty k0_ct ow0_SilenceMatch 2 (some .int) ct0_61) bd0_61 100000 = true := by decide +kernel
def cd_X9_part : kCd := [(0, .aload_n 0, 1), (1, .getfield 28, 3), (4, .iload_n 1, 1), (5, .invokevirtual 115, 3), (8, .ifCond .eq 14, 3), (11, .aload_n 0, 1), (12, .getfield 28, 3), (15, .iload_n 2, 1), (16, .invokevirtual 115, 3), (19, .ifCond .ne 6, 3), (22, .bipush (-2), 2), (24, .ireturn, 1), (25, .iload_n 1, 1), (26, .iload_n 2, 1), (27, .if_icmp .ne 7, 3), (30, .iconst (-1), 1), (31, .goto 12, 3), (34, .aload_n 0, 1), (35, .iload_n 1, 1), (36, .iload_n 2, 1), (37, .invokevirtual 276, 3), (40, .invokestatic 250, 3), (43, .ireturn, 1)]
def bd0_62 : kBd := (cd_X9_part, [(5, [3])], [], [])
theorem ok0_62 : kbody (kEof k0_tt k_aty k0_ct ow0_SilenceMatch 3 (some .int) ct0_62) bd0_62 100000 = true := by decide +kernel
def cd_X9_parts : kCd := [(0, .aload_n 0, 1), (1, .getfield 28, 3), (4, .iload_n 1, 1), (5, .invokevirtual 115, 3), (8, .ifCond .eq 14, 3), (11, .aload_n 0, 1), (12, .getfield 28, 3), (15, .iload_n 2, 1), (16, .invokevirtual 115, 3), (19, .ifCond .ne 6, 3), (22, .bipush (-2), 2), (24, .ireturn, 1), (25, .iload_n 1, 1), (26, .iload_n 2, 1), (27, .if_icmp .ne 7, 3), (30, .iconst (-1), 1), (31, .goto 9, 3), (34, .aload_n 0, 1), (35, .iload_n 1, 1), (36, .iload_n 2, 1), (37, .invokevirtual 276, 3), (40, .ireturn, 1)]
def bd0_63 : kBd := (cd_X9_parts, [(5, [3])], [], [])
theorem ok0_63 : kbody (kEof k0_tt k_aty k0_ct ow0_SilenceMatch 3 (some .int) ct0_63) bd0_63 100000 = true := by decide +kernel
def cd_X9_grudge : kCd := [(0, .aload_n 0, 1), (1, .getfield 28, 3), (4, .invokevirtual 151, 3), (7, .ifCond .ne 6, 3), (10, .bipush (-2), 2), (12, .ireturn, 1), (13, .aload_n 0, 1), (14, .iconst 0, 1), (15, .iconst 0, 1), (16, .invokevirtual 228, 3), (19, .istore_n 1, 1), (20, .iconst (-1), 1), (21, .istore_n 2, 1), (22, .iconst 0, 1), (23, .istore_n 3, 1), (24, .iload_n 3, 1), (25, .aload_n 0, 1), (26, .getfield 28, 3), (29, .getfield 231, 3), (32, .if_icmp .ge 30, 3), (35, .aload_n 0, 1), (36, .iconst 0, 1), (37, .iconst 1, 1), (38, .iload_n 3, 1), (39, .ishl, 1), (40, .invokevirtual 228, 3), (43, .istore 4, 2), (45, .iload 4, 2), (47, .iload_n 1, 1), (48, .if_icmp .ge 8, 3), (51, .iload 4, 2), (53, .istore_n 1, 1), (54, .iload_n 3, 1), (55, .istore_n 2, 1), (56, .iinc 3 1, 3), (59, .goto (-35), 3), (62, .iload_n 2, 1), (63, .ireturn, 1)]
def bd0_64 : kBd := (cd_X9_grudge, [(4, [0])], [], [])
theorem ok0_64 : kbody (kEof k0_tt k_aty k0_ct ow0_SilenceMatch 5 (some .int) ct0_64) bd0_64 100000 = true := by decide +kernel
def cd_X9_fits : kCd := [(0, .aload_n 0, 1), (1, .iload_n 1, 1), (2, .invokevirtual 279, 3), (5, .istore_n 2, 1), (6, .iload_n 2, 1), (7, .ifCond .eq 7, 3), (10, .iload_n 2, 1), (11, .goto 10, 3), (14, .aload_n 0, 1), (15, .getfield 62, 3), (18, .invokevirtual 282, 3), (21, .ireturn, 1)]
def bd0_65 : kBd := (cd_X9_fits, [(2, [12])], [], [])
theorem ok0_65 : kbody (kEof k0_tt k_aty k0_ct ow0_SilenceMatch 3 (some .int) ct0_65) bd0_65 100000 = true := by decide +kernel
def cd_X9_spots : kCd := [(0, .aload_n 0, 1), (1, .iload_n 1, 1), (2, .invokevirtual 279, 3), (5, .istore_n 2, 1), (6, .iload_n 2, 1), (7, .ifCond .eq 7, 3), (10, .iload_n 2, 1), (11, .goto 10, 3), (14, .aload_n 0, 1), (15, .getfield 62, 3), (18, .invokevirtual 285, 3), (21, .ireturn, 1)]
def bd0_66 : kBd := (cd_X9_spots, [(2, [12])], [], [])
theorem ok0_66 : kbody (kEof k0_tt k_aty k0_ct ow0_SilenceMatch 3 (some .int) ct0_66) bd0_66 100000 = true := by decide +kernel
def cd_X9_who : kCd := [(0, .aload_n 0, 1), (1, .iload_n 1, 1), (2, .invokevirtual 279, 3), (5, .istore_n 2, 1), (6, .iload_n 2, 1), (7, .ifCond .eq 7, 3), (10, .iload_n 2, 1), (11, .goto 14, 3), (14, .aload_n 0, 1), (15, .getfield 62, 3), (18, .aload_n 0, 1), (19, .getfield 28, 3), (22, .invokevirtual 288, 3), (25, .ireturn, 1)]
def bd0_67 : kBd := (cd_X9_who, [(2, [12])], [], [])
theorem ok0_67 : kbody (kEof k0_tt k_aty k0_ct ow0_SilenceMatch 3 (some .int) ct0_67) bd0_67 100000 = true := by decide +kernel
def cd_X9_ask : kCd := [(0, .aload_n 0, 1), (1, .iload_n 1, 1), (2, .invokevirtual 279, 3), (5, .istore_n 2, 1), (6, .iload_n 2, 1), (7, .ifCond .eq 7, 3), (10, .iload_n 2, 1), (11, .goto 14, 3), (14, .aload_n 0, 1), (15, .getfield 62, 3), (18, .aload_n 0, 1), (19, .getfield 28, 3), (22, .invokevirtual 292, 3), (25, .ireturn, 1)]
def bd0_68 : kBd := (cd_X9_ask, [(2, [12])], [], [])
theorem ok0_68 : kbody (kEof k0_tt k_aty k0_ct ow0_SilenceMatch 3 (some .int) ct0_68) bd0_68 100000 = true := by decide +kernel
def cd_X9_leaves : kCd := [(0, .aload_n 0, 1), (1, .iload_n 1, 1), (2, .invokevirtual 279, 3), (5, .istore_n 2, 1), (6, .iload_n 2, 1), (7, .ifCond .eq 5, 3), (10, .iload_n 2, 1), (11, .ireturn, 1), (12, .aload_n 0, 1), (13, .getfield 62, 3), (16, .aload_n 0, 1), (17, .getfield 28, 3), (20, .invokevirtual 292, 3), (23, .istore_n 3, 1), (24, .iload_n 3, 1), (25, .iconst (-1), 1), (26, .if_icmp .ne 13, 3), (29, .aload_n 0, 1), (30, .getfield 62, 3), (33, .invokevirtual 282, 3), (36, .goto 15, 3), (39, .aload_n 0, 1), (40, .getfield 62, 3), (43, .aload_n 0, 1), (44, .getfield 28, 3), (47, .iload_n 3, 1), (48, .invokevirtual 295, 3), (51, .ireturn, 1)]
def bd0_69 : kBd := (cd_X9_leaves, [(2, [12])], [], [])
theorem ok0_69 : kbody (kEof k0_tt k_aty k0_ct ow0_SilenceMatch 4 (some .int) ct0_69) bd0_69 100000 = true := by decide +kernel
def cd_X9_even : kCd := [(0, .aload_n 0, 1), (1, .getfield 28, 3), (4, .invokevirtual 151, 3), (7, .ifCond .eq 13, 3), (10, .aload_n 0, 1), (11, .invokevirtual 247, 3), (14, .invokestatic 250, 3), (17, .goto 5, 3), (20, .bipush (-2), 2), (22, .ireturn, 1)]
def bd0_70 : kBd := (cd_X9_even, [(4, [0])], [], [])
theorem ok0_70 : kbody (kEof k0_tt k_aty k0_ct ow0_SilenceMatch 1 (some .int) ct0_70) bd0_70 100000 = true := by decide +kernel
def cd_X9_evens : kCd := [(0, .aload_n 0, 1), (1, .getfield 28, 3), (4, .invokevirtual 151, 3), (7, .ifCond .eq 10, 3), (10, .aload_n 0, 1), (11, .invokevirtual 247, 3), (14, .goto 5, 3), (17, .bipush (-2), 2), (19, .ireturn, 1)]
def bd0_71 : kBd := (cd_X9_evens, [(4, [0])], [], [])
theorem ok0_71 : kbody (kEof k0_tt k_aty k0_ct ow0_SilenceMatch 1 (some .int) ct0_71) bd0_71 100000 = true := by decide +kernel
def cd_X9_without : kCd := [(0, .aload_n 0, 1), (1, .iload_n 2, 1), (2, .invokevirtual 207, 3), (5, .ifCond .eq 21, 3), (8, .iload_n 1, 1), (9, .ifCond .lt 17, 3), (12, .iload_n 1, 1), (13, .aload_n 0, 1), (14, .getfield 28, 3), (17, .getfield 181, 3), (20, .invokestatic 168, 3), (23, .if_icmp .le 6, 3), (26, .bipush (-2), 2), (28, .ireturn, 1), (29, .aload_n 0, 1), (30, .getfield 48, 3), (33, .aload_n 0, 1), (34, .getfield 28, 3), (37, .iload_n 1, 1), (38, .iconst 0, 1), (39, .iconst 0, 1), (40, .invokevirtual 255, 3), (43, .aload_n 0, 1), (44, .getfield 48, 3), (47, .aload_n 0, 1), (48, .getfield 28, 3), (51, .iload_n 2, 1), (52, .aload_n 0, 1), (53, .getfield 28, 3), (56, .getfield 187, 3), (59, .invokevirtual 210, 3), (62, .ireturn, 1)]
def bd0_72 : kBd := (cd_X9_without, [(2, [8])], [], [])
theorem ok0_72 : kbody (kEof k0_tt k_aty k0_ct ow0_SilenceMatch 3 (some .int) ct0_72) bd0_72 100000 = true := by decide +kernel
def cd_X9_drop : kCd := [(0, .aload_n 0, 1), (1, .iload_n 1, 1), (2, .invokevirtual 207, 3), (5, .ifCond .ne 6, 3), (8, .bipush (-2), 2), (10, .ireturn, 1), (11, .aload_n 0, 1), (12, .getfield 48, 3), (15, .aload_n 0, 1), (16, .getfield 28, 3), (19, .aload_n 0, 1), (20, .getfield 28, 3), (23, .getfield 187, 3), (26, .invokevirtual 190, 3), (29, .aload_n 0, 1), (30, .getfield 48, 3), (33, .aload_n 0, 1), (34, .getfield 28, 3), (37, .iload_n 1, 1), (38, .aload_n 0, 1), (39, .getfield 28, 3), (42, .getfield 187, 3), (45, .invokevirtual 210, 3), (48, .istore_n 2, 1), (49, .iconst (-1), 1), (50, .istore_n 3, 1), (51, .iconst 0, 1), (52, .istore 4, 2), (54, .iload 4, 2), (56, .aload_n 0, 1), (57, .getfield 28, 3), (60, .getfield 181, 3), (63, .if_icmp .ge 73, 3), (66, .aload_n 0, 1), (67, .getfield 28, 3), (70, .getfield 119, 3), (73, .iload 4, 2), (75, .iaload, 1), (76, .iload_n 1, 1), (77, .if_icmp .ne 53, 3), (80, .aload_n 0, 1), (81, .getfield 48, 3), (84, .aload_n 0, 1), (85, .getfield 28, 3), (88, .iconst 1, 1), (89, .iload 4, 2), (91, .ishl, 1), (92, .iconst 0, 1), (93, .iconst 0, 1), (94, .invokevirtual 255, 3), (97, .aload_n 0, 1), (98, .getfield 48, 3), (101, .aload_n 0, 1), (102, .getfield 28, 3), (105, .iload_n 1, 1), (106, .aload_n 0, 1), (107, .getfield 28, 3), (110, .getfield 187, 3), (113, .invokevirtual 210, 3), (116, .istore 5, 2), (118, .iload 5, 2), (120, .iload_n 2, 1), (121, .if_icmp .le 9, 3), (124, .iload 5, 2), (126, .istore_n 2, 1), (127, .iload 4, 2), (129, .istore_n 3, 1), (130, .iinc 4 1, 3), (133, .goto (-79), 3), (136, .iload_n 3, 1), (137, .ireturn, 1)]
def bd0_73 : kBd := (cd_X9_drop, [(2, [8])], [], [])
theorem ok0_73 : kbody (kEof k0_tt k_aty k0_ct ow0_SilenceMatch 6 (some .int) ct0_73) bd0_73 100000 = true := by decide +kernel
def cd_X9_chance : kCd := [(0, .aload_n 0, 1), (1, .getfield 28, 3), (4, .iload_n 1, 1), (5, .invokevirtual 115, 3), (8, .ifCond .eq 12, 3), (11, .iload_n 2, 1), (12, .ifCond .lt 8, 3), (15, .iload_n 2, 1), (16, .iconst 1, 1), (17, .if_icmp .le 7, 3), (20, .ldc2_w 298, 3), (23, .lreturn, 1), (24, .bipush 10, 2), (26, .aload_n 0, 1), (27, .getfield 28, 3), (30, .getfield 300, 3), (33, .isub, 1), (34, .istore_n 3, 1), (35, .bipush 10, 2), (37, .istore 4, 2), (39, .bipush 10, 2), (41, .istore 5, 2), (43, .iload 5, 2), (45, .iconst 1, 1), (46, .if_icmp .le 36, 3), (49, .iload_n 3, 1), (50, .iload 5, 2), (52, .irem, 1), (53, .ifCond .ne 23, 3), (56, .iload 4, 2), (58, .iload 5, 2), (60, .irem, 1), (61, .ifCond .ne 15, 3), (64, .iload_n 3, 1), (65, .iload 5, 2), (67, .idiv, 1), (68, .istore_n 3, 1), (69, .iload 4, 2), (71, .iload 5, 2), (73, .idiv, 1), (74, .istore 4, 2), (76, .iinc 5 (-1), 3), (79, .goto (-36), 3), (82, .aload_n 0, 1), (83, .getfield 48, 3), (86, .aload_n 0, 1), (87, .getfield 28, 3), (90, .iload_n 1, 1), (91, .aload_n 0, 1), (92, .getfield 28, 3), (95, .getfield 187, 3), (98, .invokevirtual 303, 3), (101, .istore 5, 2), (103, .iload_n 2, 1), (104, .ifCond .ne 12, 3), (107, .iload_n 3, 1), (108, .iload 5, 2), (110, .invokestatic 306, 3), (113, .goto 10, 3), (116, .iload 4, 2), (118, .iload 5, 2), (120, .invokestatic 306, 3), (123, .lreturn, 1)]
def bd0_74 : kBd := (cd_X9_chance, [(5, [3])], [], [])
theorem ok0_74 : kbody (kEof k0_tt k_aty k0_ct ow0_SilenceMatch 6 (some .long) ct0_74) bd0_74 100000 = true := by decide +kernel
def cd_X9_surest : kCd := [(0, .aload_n 0, 1), (1, .iload_n 1, 1), (2, .invokevirtual 207, 3), (5, .ifCond .ne 6, 3), (8, .bipush (-2), 2), (10, .ireturn, 1), (11, .bipush 61, 2), (13, .istore_n 2, 1), (14, .iconst (-1), 1), (15, .istore_n 3, 1), (16, .iconst 0, 1), (17, .istore 4, 2), (19, .iload 4, 2), (21, .aload_n 0, 1), (22, .getfield 28, 3), (25, .getfield 181, 3), (28, .if_icmp .ge 43, 3), (31, .aload_n 0, 1), (32, .getfield 28, 3), (35, .getfield 119, 3), (38, .iload 4, 2), (40, .iaload, 1), (41, .iload_n 1, 1), (42, .if_icmp .ne 23, 3), (45, .aload_n 0, 1), (46, .iload 4, 2), (48, .invokevirtual 310, 3), (51, .iload_n 2, 1), (52, .if_icmp .ge 13, 3), (55, .aload_n 0, 1), (56, .iload 4, 2), (58, .invokevirtual 310, 3), (61, .istore_n 2, 1), (62, .iload 4, 2), (64, .istore_n 3, 1), (65, .iinc 4 1, 3), (68, .goto (-49), 3), (71, .iload_n 3, 1), (72, .ireturn, 1)]
def bd0_75 : kBd := (cd_X9_surest, [(2, [8])], [], [])
theorem ok0_75 : kbody (kEof k0_tt k_aty k0_ct ow0_SilenceMatch 5 (some .int) ct0_75) bd0_75 100000 = true := by decide +kernel
def cd_X9_sure : kCd := [(0, .aload_n 0, 1), (1, .getfield 28, 3), (4, .iload_n 1, 1), (5, .invokevirtual 115, 3), (8, .ifCond .eq 13, 3), (11, .iload_n 2, 1), (12, .ifCond .lt 9, 3), (15, .iload_n 2, 1), (16, .bipush 100, 2), (18, .if_icmp .le 6, 3), (21, .bipush (-2), 2), (23, .ireturn, 1), (24, .aload_n 0, 1), (25, .getfield 28, 3), (28, .getfield 187, 3), (31, .istore_n 3, 1), (32, .iload_n 3, 1), (33, .ifCond .le 30, 3), (36, .aload_n 0, 1), (37, .aload_n 0, 1), (38, .getfield 48, 3), (41, .aload_n 0, 1), (42, .getfield 28, 3), (45, .iload_n 1, 1), (46, .iload_n 3, 1), (47, .invokevirtual 303, 3), (50, .iload_n 2, 1), (51, .invokevirtual 313, 3), (54, .ifCond .ne 9, 3), (57, .iinc 3 (-1), 3), (60, .goto (-28), 3), (63, .iload_n 3, 1), (64, .ireturn, 1)]
def bd0_76 : kBd := (cd_X9_sure, [(5, [3])], [], [])
theorem ok0_76 : kbody (kEof k0_tt k_aty k0_ct ow0_SilenceMatch 4 (some .int) ct0_76) bd0_76 100000 = true := by decide +kernel
def cd_X9_move : kCd := [(0, .aload_n 0, 1), (1, .getfield 28, 3), (4, .iload_n 1, 1), (5, .invokevirtual 115, 3), (8, .ifCond .eq 14, 3), (11, .aload_n 0, 1), (12, .getfield 28, 3), (15, .iload_n 2, 1), (16, .invokevirtual 145, 3), (19, .ifCond .ne 6, 3), (22, .bipush (-2), 2), (24, .ireturn, 1), (25, .aload_n 0, 1), (26, .getfield 41, 3), (29, .getfield 103, 3), (32, .bipush 40, 2), (34, .if_icmp .lt 6, 3), (37, .bipush (-5), 2), (39, .ireturn, 1), (40, .aload_n 0, 1), (41, .getfield 28, 3), (44, .getfield 123, 3), (47, .iload_n 1, 1), (48, .iaload, 1), (49, .istore_n 3, 1), (50, .aload_n 0, 1), (51, .getfield 41, 3), (54, .iconst 0, 1), (55, .iload_n 1, 1), (56, .iload_n 3, 1), (57, .invokevirtual 316, 3), (60, .aload_n 0, 1), (61, .getfield 28, 3), (64, .getfield 123, 3), (67, .iload_n 1, 1), (68, .iload_n 2, 1), (69, .iastore, 1), (70, .iload_n 3, 1), (71, .ireturn, 1)]
def bd0_77 : kBd := (cd_X9_move, [(5, [3])], [], [])
theorem ok0_77 : kbody (kEof k0_tt k_aty k0_ct ow0_SilenceMatch 4 (some .int) ct0_77) bd0_77 100000 = true := by decide +kernel
def cd_X9_lozenge : kCd := [(0, .aload_n 0, 1), (1, .getfield 28, 3), (4, .iload_n 1, 1), (5, .invokevirtual 115, 3), (8, .ifCond .eq 10, 3), (11, .iload_n 2, 1), (12, .invokestatic 158, 3), (15, .ifCond .ne 6, 3), (18, .bipush (-2), 2), (20, .ireturn, 1), (21, .aload_n 0, 1), (22, .getfield 41, 3), (25, .getfield 103, 3), (28, .bipush 40, 2), (30, .if_icmp .lt 6, 3), (33, .bipush (-5), 2), (35, .ireturn, 1), (36, .aload_n 0, 1), (37, .getfield 28, 3), (40, .getfield 126, 3), (43, .iload_n 1, 1), (44, .iaload, 1), (45, .istore_n 3, 1), (46, .aload_n 0, 1), (47, .getfield 41, 3), (50, .iconst 1, 1), (51, .iload_n 1, 1), (52, .iload_n 3, 1), (53, .invokevirtual 316, 3), (56, .aload_n 0, 1), (57, .getfield 28, 3), (60, .getfield 126, 3), (63, .iload_n 1, 1), (64, .iload_n 2, 1), (65, .iastore, 1), (66, .iload_n 3, 1), (67, .ireturn, 1)]
def bd0_78 : kBd := (cd_X9_lozenge, [(5, [3])], [], [])
theorem ok0_78 : kbody (kEof k0_tt k_aty k0_ct ow0_SilenceMatch 4 (some .int) ct0_78) bd0_78 100000 = true := by decide +kernel
def cd_X9_undo : kCd := [(0, .aload_n 0, 1), (1, .getfield 28, 3), (4, .invokevirtual 151, 3), (7, .ifCond .ne 6, 3), (10, .bipush (-2), 2), (12, .ireturn, 1), (13, .aload_n 0, 1), (14, .getfield 41, 3), (17, .getfield 103, 3), (20, .ifCond .ne 6, 3), (23, .bipush (-5), 2), (25, .ireturn, 1), (26, .aload_n 0, 1), (27, .getfield 41, 3), (30, .aload_n 0, 1), (31, .getfield 28, 3), (34, .invokevirtual 320, 3), (37, .aload_n 0, 1), (38, .getfield 41, 3), (41, .getfield 103, 3), (44, .ireturn, 1)]
def bd0_79 : kBd := (cd_X9_undo, [(4, [0])], [], [])
theorem ok0_79 : kbody (kEof k0_tt k_aty k0_ct ow0_SilenceMatch 1 (some .int) ct0_79) bd0_79 100000 = true := by decide +kernel
def cd_X9_anew : kCd := [(0, .aload_n 0, 1), (1, .getfield 28, 3), (4, .invokevirtual 151, 3), (7, .ifCond .ne 6, 3), (10, .bipush (-2), 2), (12, .ireturn, 1), (13, .aload_n 0, 1), (14, .getfield 41, 3), (17, .getfield 103, 3), (20, .istore_n 1, 1), (21, .iconst 0, 1), (22, .istore_n 2, 1), (23, .iload_n 2, 1), (24, .iload_n 1, 1), (25, .if_icmp .ge 20, 3), (28, .aload_n 0, 1), (29, .getfield 41, 3), (32, .aload_n 0, 1), (33, .getfield 28, 3), (36, .invokevirtual 320, 3), (39, .iinc 2 1, 3), (42, .goto (-19), 3), (45, .iload_n 1, 1), (46, .ireturn, 1)]
def bd0_80 : kBd := (cd_X9_anew, [(4, [0])], [], [])
theorem ok0_80 : kbody (kEof k0_tt k_aty k0_ct ow0_SilenceMatch 3 (some .int) ct0_80) bd0_80 100000 = true := by decide +kernel
def cd_X9_drawn : kCd := [(0, .aload_n 0, 1), (1, .getfield 28, 3), (4, .invokevirtual 151, 3), (7, .ifCond .eq 14, 3), (10, .iload_n 1, 1), (11, .ifCond .lt 10, 3), (14, .iload_n 1, 1), (15, .ldc_w 323, 3), (18, .if_icmp .le 6, 3), (21, .bipush (-2), 2), (23, .ireturn, 1), (24, .iload_n 2, 1), (25, .ifCond .lt 8, 3), (28, .iload_n 2, 1), (29, .iconst 2, 1), (30, .if_icmp .le 6, 3), (33, .bipush (-2), 2), (35, .ireturn, 1), (36, .aload_n 0, 1), (37, .getfield 48, 3), (40, .aload_n 0, 1), (41, .getfield 28, 3), (44, .iload_n 1, 1), (45, .i2l, 1), (46, .invokevirtual 324, 3), (49, .iload_n 2, 1), (50, .ifCond .ne 18, 3), (53, .aload_n 0, 1), (54, .getfield 48, 3), (57, .aload_n 0, 1), (58, .getfield 28, 3), (61, .getfield 187, 3), (64, .invokevirtual 328, 3), (67, .ireturn, 1), (68, .iload_n 2, 1), (69, .iconst 1, 1), (70, .if_icmp .ne 10, 3), (73, .aload_n 0, 1), (74, .invokevirtual 214, 3), (77, .goto 13, 3), (80, .aload_n 0, 1), (81, .getfield 48, 3), (84, .getfield 331, 3), (87, .getfield 335, 3), (90, .ireturn, 1)]
def bd0_81 : kBd := (cd_X9_drawn, [(4, [0])], [], [])
theorem ok0_81 : kbody (kEof k0_tt k_aty k0_ct ow0_SilenceMatch 3 (some .int) ct0_81) bd0_81 100000 = true := by decide +kernel
def cd_X9_luck : kCd := [(0, .aload_n 0, 1), (1, .getfield 28, 3), (4, .iload_n 3, 1), (5, .invokevirtual 115, 3), (8, .ifCond .eq 14, 3), (11, .iload_n 1, 1), (12, .ifCond .lt 10, 3), (15, .iload_n 1, 1), (16, .ldc_w 323, 3), (19, .if_icmp .le 6, 3), (22, .bipush (-2), 2), (24, .ireturn, 1), (25, .iload_n 2, 1), (26, .iconst 1, 1), (27, .if_icmp .lt 9, 3), (30, .iload_n 2, 1), (31, .bipush 20, 2), (33, .if_icmp .le 6, 3), (36, .bipush (-2), 2), (38, .ireturn, 1), (39, .iconst 0, 1), (40, .istore 4, 2), (42, .iconst 0, 1), (43, .istore 5, 2), (45, .iload 5, 2), (47, .iload_n 2, 1), (48, .if_icmp .ge 40, 3), (51, .aload_n 0, 1), (52, .getfield 48, 3), (55, .aload_n 0, 1), (56, .getfield 28, 3), (59, .iload_n 1, 1), (60, .iload 5, 2), (62, .iadd, 1), (63, .i2l, 1), (64, .invokevirtual 324, 3), (67, .aload_n 0, 1), (68, .getfield 48, 3), (71, .iload_n 3, 1), (72, .invokevirtual 194, 3), (75, .iconst (-1), 1), (76, .if_icmp .ne 6, 3), (79, .iinc 4 1, 3), (82, .iinc 5 1, 3), (85, .goto (-40), 3), (88, .iload 4, 2), (90, .ireturn, 1)]
def bd0_82 : kBd := (cd_X9_luck, [(5, [3])], [], [])
theorem ok0_82 : kbody (kEof k0_tt k_aty k0_ct ow0_SilenceMatch 6 (some .int) ct0_82) bd0_82 100000 = true := by decide +kernel
def cd_X9_bell : kCd := [(0, .aload_n 0, 1), (1, .getfield 28, 3), (4, .invokevirtual 151, 3), (7, .ifCond .eq 14, 3), (10, .iload_n 1, 1), (11, .iconst 1, 1), (12, .if_icmp .lt 9, 3), (15, .iload_n 1, 1), (16, .bipush 60, 2), (18, .if_icmp .le 6, 3), (21, .bipush (-2), 2), (23, .ireturn, 1), (24, .aload_n 0, 1), (25, .getfield 41, 3), (28, .getfield 103, 3), (31, .ifCond .eq 6, 3), (34, .bipush (-5), 2), (36, .ireturn, 1), (37, .aload_n 0, 1), (38, .getfield 28, 3), (41, .getfield 187, 3), (44, .istore_n 2, 1), (45, .aload_n 0, 1), (46, .getfield 28, 3), (49, .iload_n 1, 1), (50, .putfield 187, 3), (53, .iload_n 2, 1), (54, .ireturn, 1)]
def bd0_83 : kBd := (cd_X9_bell, [(4, [0])], [], [])
theorem ok0_83 : kbody (kEof k0_tt k_aty k0_ct ow0_SilenceMatch 3 (some .int) ct0_83) bd0_83 100000 = true := by decide +kernel
def cd_X9_count : kCd := [(0, .iload_n 1, 1), (1, .tableswitch 180 0 13 #[71, 79, 87, 95, 103, 111, 119, 127, 135, 143, 151, 159, 167, 175], 71), (72, .aload_n 0, 1), (73, .getfield 28, 3), (76, .getfield 338, 3), (79, .ireturn, 1), (80, .aload_n 0, 1), (81, .getfield 28, 3), (84, .getfield 341, 3), (87, .ireturn, 1), (88, .aload_n 0, 1), (89, .getfield 28, 3), (92, .getfield 187, 3), (95, .ireturn, 1), (96, .aload_n 0, 1), (97, .getfield 28, 3), (100, .getfield 344, 3), (103, .ireturn, 1), (104, .aload_n 0, 1), (105, .getfield 28, 3), (108, .getfield 300, 3), (111, .ireturn, 1), (112, .aload_n 0, 1), (113, .getfield 28, 3), (116, .invokevirtual 164, 3), (119, .ireturn, 1), (120, .aload_n 0, 1), (121, .getfield 28, 3), (124, .getfield 181, 3), (127, .ireturn, 1), (128, .aload_n 0, 1), (129, .getfield 28, 3), (132, .getfield 184, 3), (135, .ireturn, 1), (136, .aload_n 0, 1), (137, .getfield 28, 3), (140, .getfield 347, 3), (143, .ireturn, 1), (144, .aload_n 0, 1), (145, .getfield 28, 3), (148, .getfield 231, 3), (151, .ireturn, 1), (152, .aload_n 0, 1), (153, .getfield 41, 3), (156, .getfield 103, 3), (159, .ireturn, 1), (160, .aload_n 0, 1), (161, .getfield 28, 3), (164, .getfield 109, 3), (167, .ireturn, 1), (168, .aload_n 0, 1), (169, .getfield 10, 3), (172, .getfield 85, 3), (175, .ireturn, 1), (176, .aload_n 0, 1), (177, .invokevirtual 350, 3), (180, .ireturn, 1), (181, .iconst (-1), 1), (182, .ireturn, 1)]
def bd0_84 : kBd := (cd_X9_count, [(116, [1]), (177, [13])], [], [])
theorem ok0_84 : kbody (kEof k0_tt k_aty k0_ct ow0_SilenceMatch 2 (some .int) ct0_84) bd0_84 100000 = true := by decide +kernel
def cd_X9_back : kCd := [(0, .iload_n 1, 1), (1, .invokestatic 353, 3), (4, .ifCond .ne 6, 3), (7, .bipush (-2), 2), (9, .ireturn, 1), (10, .aload_n 0, 1), (11, .getfield 81, 3), (14, .iload_n 1, 1), (15, .baload, 1), (16, .ifCond .ne 6, 3), (19, .bipush (-6), 2), (21, .ireturn, 1), (22, .aload_n 0, 1), (23, .getfield 28, 3), (26, .aload_n 0, 1), (27, .getfield 73, 3), (30, .iload_n 1, 1), (31, .aaload, 1), (32, .invokevirtual 100, 3), (35, .aload_n 0, 1), (36, .getfield 41, 3), (39, .aload_n 0, 1), (40, .getfield 77, 3), (43, .iload_n 1, 1), (44, .aaload, 1), (45, .invokevirtual 356, 3), (48, .aload_n 0, 1), (49, .getfield 48, 3), (52, .aload_n 0, 1), (53, .getfield 28, 3), (56, .invokevirtual 106, 3), (59, .iconst 0, 1), (60, .ireturn, 1)]
def bd0_85 : kBd := (cd_X9_back, [(1, [6])], [], [])
theorem ok0_85 : kbody (kEof k0_tt k_aty k0_ct ow0_SilenceMatch 2 (some .int) ct0_85) bd0_85 100000 = true := by decide +kernel
def cd_X9_write : kCd := [(0, .iload_n 1, 1), (1, .invokestatic 359, 3), (4, .ifCond .ne 6, 3), (7, .bipush (-2), 2), (9, .ireturn, 1), (10, .aload_n 0, 1), (11, .getfield 68, 3), (14, .iload_n 1, 1), (15, .aaload, 1), (16, .astore 5, 2), (18, .aload 5, 2), (20, .getfield 365, 3), (23, .iconst (-1), 1), (24, .if_icmp .ne 6, 3), (27, .bipush (-6), 2), (29, .ireturn, 1), (30, .iload_n 2, 1), (31, .ifCond .lt 12, 3), (34, .iload_n 2, 1), (35, .aload 5, 2), (37, .getfield 368, 3), (40, .if_icmp .lt 6, 3), (43, .bipush (-7), 2), (45, .ireturn, 1), (46, .aload 5, 2), (48, .getfield 369, 3), (51, .iload_n 2, 1), (52, .aload 5, 2), (54, .lload_n 3, 1), (55, .invokevirtual 373, 3), (58, .lastore, 1), (59, .iconst 0, 1), (60, .ireturn, 1)]
def bd0_86 : kBd := (cd_X9_write, [(1, [5])], [], [])
theorem ok0_86 : kbody (kEof k0_tt k_aty k0_ct ow0_SilenceMatch 6 (some .int) ct0_86) bd0_86 100000 = true := by decide +kernel
def cd_X9_paste : kCd := [(0, .iload_n 1, 1), (1, .invokestatic 359, 3), (4, .ifCond .eq 10, 3), (7, .iload_n 3, 1), (8, .invokestatic 359, 3), (11, .ifCond .ne 6, 3), (14, .bipush (-2), 2), (16, .ireturn, 1), (17, .aload_n 0, 1), (18, .getfield 68, 3), (21, .iload_n 1, 1), (22, .aaload, 1), (23, .astore 6, 2), (25, .aload_n 0, 1), (26, .getfield 68, 3), (29, .iload_n 3, 1), (30, .aaload, 1), (31, .astore 7, 2), (33, .aload 6, 2), (35, .getfield 365, 3), (38, .iconst (-1), 1), (39, .if_icmp .eq 12, 3), (42, .aload 7, 2), (44, .getfield 365, 3), (47, .iconst (-1), 1), (48, .if_icmp .ne 6, 3), (51, .bipush (-6), 2), (53, .ireturn, 1), (54, .aload 6, 2), (56, .getfield 365, 3), (59, .aload 7, 2), (61, .getfield 365, 3), (64, .if_icmp .eq 6, 3), (67, .bipush (-8), 2), (69, .ireturn, 1), (70, .aload 6, 2), (72, .iload_n 2, 1), (73, .iload 5, 2), (75, .invokevirtual 377, 3), (78, .ifCond .eq 15, 3), (81, .aload 7, 2), (83, .iload 4, 2), (85, .iload 5, 2), (87, .invokevirtual 377, 3), (90, .ifCond .ne 6, 3), (93, .bipush (-7), 2), (95, .ireturn, 1), (96, .aload 6, 2), (98, .getfield 369, 3), (101, .iload_n 2, 1), (102, .aload 7, 2), (104, .getfield 369, 3), (107, .iload 4, 2), (109, .iload 5, 2), (111, .invokestatic 380, 3), (114, .iconst 0, 1), (115, .ireturn, 1)]
def bd0_87 : kBd := (cd_X9_paste, [(1, [5]), (8, [5])], [], [])
theorem ok0_87 : kbody (kEof k0_tt k_aty k0_ct ow0_SilenceMatch 8 (some .int) ct0_87) bd0_87 100000 = true := by decide +kernel
def cd_X10_in : kCd := [(0, .lload_n 0, 1), (1, .lload_n 2, 1), (2, .lcmp, 1), (3, .ifCond .lt 14, 3), (6, .lload_n 0, 1), (7, .lload 4, 2), (9, .lcmp, 1), (10, .ifCond .gt 7, 3), (13, .iconst 1, 1), (14, .goto 4, 3), (17, .iconst 0, 1), (18, .ireturn, 1)]
def bd0_88 : kBd := (cd_X10_in, [], [], [])
theorem ok0_88 : kbody (kEof k0_tt k_aty k0_ct ow0_SilenceMatchModel 6 (some .boolean) ct0_88) bd0_88 100000 = true := by decide +kernel
def cd_X10_isSide : kCd := [(0, .iload_n 0, 1), (1, .i2l, 1), (2, .lconst 0, 1), (3, .lconst 1, 1), (4, .invokestatic 79, 3), (7, .ireturn, 1)]
def bd0_89 : kBd := (cd_X10_isSide, [(4, [88])], [], [])
theorem ok0_89 : kbody (kEof k0_tt k_aty k0_ct ow0_SilenceMatchModel 1 (some .boolean) ct0_89) bd0_89 100000 = true := by decide +kernel
def cd_X10_isSlot : kCd := [(0, .iload_n 0, 1), (1, .i2l, 1), (2, .lconst 0, 1), (3, .ldc2_w 451, 3), (6, .invokestatic 79, 3), (9, .ireturn, 1)]
def bd0_90 : kBd := (cd_X10_isSlot, [(6, [88])], [], [])
theorem ok0_90 : kbody (kEof k0_tt k_aty k0_ct ow0_SilenceMatchModel 1 (some .boolean) ct0_90) bd0_90 100000 = true := by decide +kernel
def cd_X10_isSeed : kCd := [(0, .iload_n 0, 1), (1, .i2l, 1), (2, .lconst 0, 1), (3, .ldc2_w 436, 3), (6, .invokestatic 79, 3), (9, .ireturn, 1)]
def bd0_91 : kBd := (cd_X10_isSeed, [(6, [88])], [], [])
theorem ok0_91 : kbody (kEof k0_tt k_aty k0_ct ow0_SilenceMatchModel 1 (some .boolean) ct0_91) bd0_91 100000 = true := by decide +kernel
def cd_X10_bit : kCd := [(0, .iload_n 0, 1), (1, .iload_n 1, 1), (2, .ishr, 1), (3, .iconst 1, 1), (4, .iand, 1), (5, .ireturn, 1)]
def bd0_92 : kBd := (cd_X10_bit, [], [], [])
theorem ok0_92 : kbody (kEof k0_tt k_aty k0_ct ow0_SilenceMatchModel 2 (some .int) ct0_92) bd0_92 100000 = true := by decide +kernel
def cd_X10_bits : kCd := [(0, .iconst 0, 1), (1, .istore_n 1, 1), (2, .iconst 0, 1), (3, .istore_n 2, 1), (4, .iload_n 2, 1), (5, .bipush 20, 2), (7, .if_icmp .ge 17, 3), (10, .iload_n 1, 1), (11, .iload_n 0, 1), (12, .iload_n 2, 1), (13, .ishr, 1), (14, .iconst 1, 1), (15, .iand, 1), (16, .iadd, 1), (17, .istore_n 1, 1), (18, .iinc 2 1, 3), (21, .goto (-17), 3), (24, .iload_n 1, 1), (25, .ireturn, 1)]
def bd0_93 : kBd := (cd_X10_bits, [], [], [(4, (([((.negSucc 2147483647), (.ofNat 2147483647)), ((.negSucc 2147483647), (.ofNat 2147483647)), ((.ofNat 0), (.ofNat 20))], [], [(0, (.inl ([(0, (.ofNat 1))], (.ofNat 0)))), (1, (.inl ([(1, (.ofNat 1))], (.ofNat 0)))), (2, (.inl ([(2, (.ofNat 1))], (.ofNat 0))))], [], [], []), [(0, 1, ([], (.ofNat 0)), (.ofNat 1), (.ofNat 0)), (0, 2, ([], (.ofNat 0)), (.ofNat 1), (.ofNat 0))]), ([(2, (.negSucc 0))], (.ofNat 20)))])
theorem ok0_93 : kbody (kEof k0_tt k_aty k0_ct ow0_SilenceMatchModel 3 (some .int) ct0_93) bd0_93 100000 = true := by decide +kernel
def cd_X10_isGreen : kCd := [(0, .aload_n 0, 1), (1, .getfield 9, 3), (4, .bipush 10, 2), (6, .iaload, 1), (7, .ifCond .le 7, 3), (10, .iconst 1, 1), (11, .goto 4, 3), (14, .iconst 0, 1), (15, .ireturn, 1)]
def bd0_94 : kBd := (cd_X10_isGreen, [], [], [])
theorem ok0_94 : kbody (kEof k0_tt k_aty k0_ct ow0_SilenceMatchModel 1 (some .boolean) ct0_94) bd0_94 100000 = true := by decide +kernel
def cd_X10_cellMany : kCd := [(0, .aload_n 0, 1), (1, .getfield 9, 3), (4, .iconst 0, 1), (5, .iaload, 1), (6, .aload_n 0, 1), (7, .getfield 9, 3), (10, .iconst 1, 1), (11, .iaload, 1), (12, .imul, 1), (13, .ireturn, 1)]
def bd0_95 : kBd := (cd_X10_cellMany, [], [], [])
theorem ok0_95 : kbody (kEof k0_tt k_aty k0_ct ow0_SilenceMatchModel 1 (some .int) ct0_95) bd0_95 100000 = true := by decide +kernel
def cd_X10_isCell : kCd := [(0, .iload_n 1, 1), (1, .i2l, 1), (2, .lconst 0, 1), (3, .aload_n 0, 1), (4, .invokevirtual 83, 3), (7, .iconst 1, 1), (8, .isub, 1), (9, .i2l, 1), (10, .invokestatic 79, 3), (13, .ireturn, 1)]
def bd0_96 : kBd := (cd_X10_isCell, [(4, [95]), (10, [88])], [], [])
theorem ok0_96 : kbody (kEof k0_tt k_aty k0_ct ow0_SilenceMatchModel 2 (some .boolean) ct0_96) bd0_96 100000 = true := by decide +kernel
def cd_X10_isPlayer : kCd := [(0, .iload_n 1, 1), (1, .i2l, 1), (2, .lconst 0, 1), (3, .aload_n 0, 1), (4, .getfield 9, 3), (7, .iconst 5, 1), (8, .iaload, 1), (9, .iconst 1, 1), (10, .isub, 1), (11, .i2l, 1), (12, .invokestatic 79, 3), (15, .ireturn, 1)]
def bd0_97 : kBd := (cd_X10_isPlayer, [(12, [88])], [], [])
theorem ok0_97 : kbody (kEof k0_tt k_aty k0_ct ow0_SilenceMatchModel 2 (some .boolean) ct0_97) bd0_97 100000 = true := by decide +kernel
def cd_X10_isUmpire : kCd := [(0, .lload_n 1, 1), (1, .lconst 0, 1), (2, .aload_n 0, 1), (3, .getfield 9, 3), (6, .bipush 6, 2), (8, .iaload, 1), (9, .iconst 1, 1), (10, .isub, 1), (11, .i2l, 1), (12, .invokestatic 79, 3), (15, .ireturn, 1)]
def bd0_98 : kBd := (cd_X10_isUmpire, [(12, [88])], [], [])
theorem ok0_98 : kbody (kEof k0_tt k_aty k0_ct ow0_SilenceMatchModel 3 (some .boolean) ct0_98) bd0_98 100000 = true := by decide +kernel
def cd_X10_isLoud : kCd := [(0, .aload_n 0, 1), (1, .invokevirtual 221, 3), (4, .ifCond .eq 20, 3), (7, .iload_n 1, 1), (8, .i2l, 1), (9, .iload_n 2, 1), (10, .i2l, 1), (11, .ldc2_w 224, 3), (14, .invokestatic 79, 3), (17, .ifCond .eq 7, 3), (20, .iconst 1, 1), (21, .goto 4, 3), (24, .iconst 0, 1), (25, .ireturn, 1)]
def bd0_99 : kBd := (cd_X10_isLoud, [(1, [94])], [], [])
theorem ok0_99 : kbody (kEof k0_tt k_aty k0_ct ow0_SilenceMatchModel 3 (some .boolean) ct0_99) bd0_99 100000 = true := by decide +kernel
def cd_X10_isEar : kCd := [(0, .iload_n 1, 1), (1, .i2l, 1), (2, .lconst 0, 1), (3, .ldc2_w 382, 3), (6, .invokestatic 79, 3), (9, .ifCond .eq 16, 3), (12, .aload_n 0, 1), (13, .iload_n 2, 1), (14, .iconst 1, 1), (15, .invokevirtual 239, 3), (18, .ifCond .eq 7, 3), (21, .iconst 1, 1), (22, .goto 4, 3), (25, .iconst 0, 1), (26, .ireturn, 1)]
def bd0_100 : kBd := (cd_X10_isEar, [(6, [88]), (15, [99])], [], [])
theorem ok0_100 : kbody (kEof k0_tt k_aty k0_ct ow0_SilenceMatchModel 3 (some .boolean) ct0_100) bd0_100 100000 = true := by decide +kernel
def cd_X10_of : kCd := [(0, .aload_n 0, 1), (1, .getfield 9, 3), (4, .bipush 11, 2), (6, .iconst 4, 1), (7, .iload_n 1, 1), (8, .imul, 1), (9, .iadd, 1), (10, .iload_n 2, 1), (11, .iadd, 1), (12, .iaload, 1), (13, .ireturn, 1)]
def bd0_101 : kBd := (cd_X10_of, [], [], [])
theorem ok0_101 : kbody (kEof k0_tt k_aty k0_ct ow0_SilenceMatchModel 3 (some .int) ct0_101) bd0_101 100000 = true := by decide +kernel
def cd_X10_see : kCd := [(0, .iload_n 1, 1), (1, .aload_n 0, 1), (2, .getfield 90, 3), (5, .if_icmp .ge 16, 3), (8, .aload_n 0, 1), (9, .getfield 20, 3), (12, .iload_n 1, 1), (13, .baload, 1), (14, .sipush 255, 3), (17, .iand, 1), (18, .goto 4, 3), (21, .iconst (-1), 1), (22, .ireturn, 1)]
def bd0_102 : kBd := (cd_X10_see, [], [], [])
theorem ok0_102 : kbody (kEof k0_tt k_aty k0_ct ow0_SilenceMatchModel 2 (some .int) ct0_102) bd0_102 100000 = true := by decide +kernel
def cd_X10_good : kCd := [(0, .aload_n 0, 1), (1, .getfield 124, 3), (4, .ifCond .ne 7, 3), (7, .iconst 1, 1), (8, .goto 4, 3), (11, .iconst 0, 1), (12, .ireturn, 1)]
def bd0_103 : kBd := (cd_X10_good, [], [], [])
theorem ok0_103 : kbody (kEof k0_tt k_aty k0_ct ow0_SilenceMatchModel 1 (some .boolean) ct0_103) bd0_103 100000 = true := by decide +kernel
def cd_X10_advance : kCd := [(0, .aload_n 0, 1), (1, .aload_n 0, 1), (2, .getfield 93, 3), (5, .invokevirtual 96, 3), (8, .bipush 32, 2), (10, .if_icmp .eq 16, 3), (13, .aload_n 0, 1), (14, .aload_n 0, 1), (15, .getfield 93, 3), (18, .invokevirtual 96, 3), (21, .bipush 10, 2), (23, .if_icmp .ne 16, 3), (26, .aload_n 0, 1), (27, .dup, 1), (28, .getfield 93, 3), (31, .iconst 1, 1), (32, .iadd, 1), (33, .putfield 93, 3), (36, .goto (-36), 3), (39, .aload_n 0, 1), (40, .aload_n 0, 1), (41, .getfield 93, 3), (44, .putfield 100, 3), (47, .aload_n 0, 1), (48, .aload_n 0, 1), (49, .getfield 93, 3), (52, .invokevirtual 96, 3), (55, .istore_n 1, 1), (56, .iload_n 1, 1), (57, .iconst (-1), 1), (58, .if_icmp .ne 11, 3), (61, .aload_n 0, 1), (62, .iconst 0, 1), (63, .putfield 103, 3), (66, .goto 173, 3), (69, .iload_n 1, 1), (70, .i2l, 1), (71, .ldc2_w 106, 3), (74, .ldc2_w 108, 3), (77, .invokestatic 79, 3), (80, .ifCond .eq 45, 3), (83, .aload_n 0, 1), (84, .aload_n 0, 1), (85, .getfield 93, 3), (88, .invokevirtual 96, 3), (91, .i2l, 1), (92, .ldc2_w 106, 3), (95, .ldc2_w 108, 3), (98, .invokestatic 79, 3), (101, .ifCond .eq 16, 3), (104, .aload_n 0, 1), (105, .dup, 1), (106, .getfield 93, 3), (109, .iconst 1, 1), (110, .iadd, 1), (111, .putfield 93, 3), (114, .goto (-31), 3), (117, .aload_n 0, 1), (118, .iconst 1, 1), (119, .putfield 103, 3), (122, .goto 117, 3), (125, .iload_n 1, 1), (126, .i2l, 1), (127, .ldc2_w 110, 3), (130, .ldc2_w 112, 3), (133, .invokestatic 79, 3), (136, .ifCond .eq 78, 3), (139, .aload_n 0, 1), (140, .iconst 0, 1), (141, .putfield 114, 3), (144, .aload_n 0, 1), (145, .aload_n 0, 1), (146, .getfield 93, 3), (149, .invokevirtual 96, 3), (152, .i2l, 1), (153, .ldc2_w 110, 3), (156, .ldc2_w 112, 3), (159, .invokestatic 79, 3), (162, .ifCond .eq 44, 3), (165, .aload_n 0, 1), (166, .ldc 117, 2), (168, .bipush 10, 2), (170, .aload_n 0, 1), (171, .getfield 114, 3), (174, .imul, 1), (175, .aload_n 0, 1), (176, .aload_n 0, 1), (177, .getfield 93, 3), (180, .invokevirtual 96, 3), (183, .iadd, 1), (184, .bipush 48, 2), (186, .isub, 1), (187, .invokestatic 118, 3), (190, .putfield 114, 3), (193, .aload_n 0, 1), (194, .dup, 1), (195, .getfield 93, 3), (198, .iconst 1, 1), (199, .iadd, 1), (200, .putfield 93, 3), (203, .goto (-59), 3), (206, .aload_n 0, 1), (207, .iconst 2, 1), (208, .putfield 103, 3), (211, .goto 28, 3), (214, .aload_n 0, 1), (215, .iload_n 1, 1), (216, .bipush 59, 2), (218, .if_icmp .ne 7, 3), (221, .iconst 3, 1), (222, .goto 4, 3), (225, .iconst 4, 1), (226, .putfield 103, 3), (229, .aload_n 0, 1), (230, .dup, 1), (231, .getfield 93, 3), (234, .iconst 1, 1), (235, .iadd, 1), (236, .putfield 93, 3), (239, .return_, 1)]
def bd0_104 : kBd := (cd_X10_advance, [(5, [102]), (18, [102]), (52, [102])], [], [])
theorem ok0_104 : kbody (kEof k0_tt k_aty k0_ct ow0_SilenceMatchModel 2 none ct0_104) bd0_104 100000 = true := by decide +kernel
def cd_X10_asItIs : kCd := [(0, .iconst 0, 1), (1, .istore_n 1, 1), (2, .iload_n 1, 1), (3, .bipush 8, 2), (5, .if_icmp .ge 33, 3), (8, .aload_n 0, 1), (9, .getfield 37, 3), (12, .iload_n 1, 1), (13, .aload_n 0, 1), (14, .iload_n 1, 1), (15, .iconst 1, 1), (16, .invokevirtual 249, 3), (19, .iastore, 1), (20, .aload_n 0, 1), (21, .getfield 40, 3), (24, .iload_n 1, 1), (25, .aload_n 0, 1), (26, .iload_n 1, 1), (27, .iconst 2, 1), (28, .invokevirtual 249, 3), (31, .iastore, 1), (32, .iinc 1 1, 3), (35, .goto (-33), 3), (38, .iconst 0, 1), (39, .istore_n 1, 1), (40, .iload_n 1, 1), (41, .aload_n 0, 1), (42, .getfield 9, 3), (45, .bipush 9, 2), (47, .iaload, 1), (48, .if_icmp .ge 63, 3), (51, .aload_n 0, 1), (52, .getfield 9, 3), (55, .bipush 75, 2), (57, .iload_n 1, 1), (58, .iadd, 1), (59, .iaload, 1), (60, .istore_n 2, 1), (61, .iload_n 2, 1), (62, .sipush 1000, 3), (65, .if_icmp .lt 27, 3), (68, .aload_n 0, 1), (69, .getfield 40, 3), (72, .iload_n 2, 1), (73, .sipush 1000, 3), (76, .isub, 1), (77, .bipush 100, 2), (79, .idiv, 1), (80, .iload_n 2, 1), (81, .sipush 1000, 3), (84, .isub, 1), (85, .bipush 100, 2), (87, .irem, 1), (88, .iastore, 1), (89, .goto 16, 3), (92, .aload_n 0, 1), (93, .getfield 37, 3), (96, .iload_n 2, 1), (97, .bipush 100, 2), (99, .idiv, 1), (100, .iload_n 2, 1), (101, .bipush 100, 2), (103, .irem, 1), (104, .iastore, 1), (105, .iinc 1 1, 3), (108, .goto (-68), 3), (111, .aload_n 0, 1), (112, .iconst 0, 1), (113, .putfield 252, 3), (116, .aload_n 0, 1), (117, .iconst (-1), 1), (118, .putfield 255, 3), (121, .aload_n 0, 1), (122, .iconst (-1), 1), (123, .putfield 34, 3), (126, .aload_n 0, 1), (127, .aload_n 0, 1), (128, .getfield 9, 3), (131, .iconst 2, 1), (132, .iaload, 1), (133, .putfield 258, 3), (136, .return_, 1)]
def bd0_105 : kBd := (cd_X10_asItIs, [(16, [101]), (28, [101])], [], [(2, (([((.ofNat 0), (.ofNat 8))], [36], [(0, (.inr (.inr (.inl 0)))), (1, (.inl ([(0, (.ofNat 1))], (.ofNat 0))))], [], [], []), [(0, 1, ([], (.ofNat 0)), (.ofNat 1), (.ofNat 0))]), ([(0, (.negSucc 0))], (.ofNat 9))), (40, (([((.ofNat 0), (.ofNat 0))], [36], [(0, (.inr (.inr (.inl 0)))), (1, (.inl ([(0, (.ofNat 1))], (.ofNat 0))))], [], [], []), [(0, 1, ([], (.ofNat 0)), (.ofNat 1), (.ofNat 0))]), ([(0, (.negSucc 0))], (.ofNat 0)))])
theorem ok0_105 : kbody (kEof k0_tt k_aty k0_ct ow0_SilenceMatchModel 3 none ct0_105) bd0_105 100000 = true := by decide +kernel
def cd_X10_goMatch : kCd := [(0, .iconst 0, 1), (1, .istore_n 1, 1), (2, .iload_n 1, 1), (3, .bipush 8, 2), (5, .if_icmp .ge 23, 3), (8, .aload_n 0, 1), (9, .getfield 43, 3), (12, .iload_n 1, 1), (13, .iconst (-1), 1), (14, .iastore, 1), (15, .aload_n 0, 1), (16, .getfield 46, 3), (19, .iload_n 1, 1), (20, .iconst (-1), 1), (21, .iastore, 1), (22, .iinc 1 1, 3), (25, .goto (-23), 3), (28, .iconst 1, 1), (29, .istore_n 1, 1), (30, .iload_n 1, 1), (31, .aload_n 0, 1), (32, .getfield 258, 3), (35, .if_icmp .gt 14, 3), (38, .aload_n 0, 1), (39, .iload_n 1, 1), (40, .invokevirtual 300, 3), (43, .iinc 1 1, 3), (46, .goto (-16), 3), (49, .return_, 1)]
def bd0_106 : kBd := (cd_X10_goMatch, [], [], [(2, (([((.ofNat 0), (.ofNat 8))], [36], [(0, (.inr (.inr (.inl 0)))), (1, (.inl ([(0, (.ofNat 1))], (.ofNat 0))))], [], [], []), [(0, 1, ([], (.ofNat 0)), (.ofNat 1), (.ofNat 0))]), ([(0, (.negSucc 0))], (.ofNat 9))), (30, (([((.ofNat 1), (.ofNat 1))], [36], [(0, (.inr (.inr (.inl 0)))), (1, (.inl ([(0, (.ofNat 1))], (.ofNat 0))))], [], [], []), [(0, 1, ([], (.ofNat 0)), (.ofNat 1), (.ofNat 0))]), ([(0, (.negSucc 0))], (.ofNat 1)))])
theorem ok0_106 : kbody (kEof k0_tt k_aty k0_ct ow0_SilenceMatchModel 2 none ct0_106) bd0_106 100000 = true := by decide +kernel
def cd_X10_asksGreen : kCd := [(0, .aload_n 0, 1), (1, .invokevirtual 303, 3), (4, .aload_n 0, 1), (5, .invokevirtual 306, 3), (8, .aload_n 0, 1), (9, .invokevirtual 221, 3), (12, .ireturn, 1)]
def bd0_107 : kBd := (cd_X10_asksGreen, [(1, [105]), (5, [106]), (9, [94])], [], [])
theorem ok0_107 : kbody (kEof k0_tt k_aty k0_ct ow0_SilenceMatchModel 1 (some .boolean) ct0_107) bd0_107 100000 = true := by decide +kernel
def cd_X10_asksPlayer : kCd := [(0, .aload_n 0, 1), (1, .invokevirtual 309, 3), (4, .pop, 1), (5, .aload_n 0, 1), (6, .iload_n 1, 1), (7, .invokevirtual 312, 3), (10, .ireturn, 1)]
def bd0_108 : kBd := (cd_X10_asksPlayer, [(1, [107]), (7, [97])], [], [])
theorem ok0_108 : kbody (kEof k0_tt k_aty k0_ct ow0_SilenceMatchModel 2 (some .boolean) ct0_108) bd0_108 100000 = true := by decide +kernel
def cd_X10_asksMinute : kCd := [(0, .aload_n 0, 1), (1, .invokevirtual 309, 3), (4, .ifCond .eq 22, 3), (7, .iload_n 1, 1), (8, .i2l, 1), (9, .iload_n 2, 1), (10, .i2l, 1), (11, .aload_n 0, 1), (12, .getfield 258, 3), (15, .i2l, 1), (16, .invokestatic 79, 3), (19, .ifCond .eq 7, 3), (22, .iconst 1, 1), (23, .goto 4, 3), (26, .iconst 0, 1), (27, .ireturn, 1)]
def bd0_109 : kBd := (cd_X10_asksMinute, [(1, [107])], [], [])
theorem ok0_109 : kbody (kEof k0_tt k_aty k0_ct ow0_SilenceMatchModel 3 (some .boolean) ct0_109) bd0_109 100000 = true := by decide +kernel
def cd_X10_laySounds : kCd := [(0, .iload_n 1, 1), (1, .invokestatic 393, 3), (4, .ifCond .eq 10, 3), (7, .aload_n 0, 1), (8, .invokevirtual 221, 3), (11, .ifCond .ne 6, 3), (14, .bipush (-2), 2), (16, .ireturn, 1), (17, .aload_n 0, 1), (18, .getfield 61, 3), (21, .iload_n 1, 1), (22, .iaload, 1), (23, .iconst (-1), 1), (24, .if_icmp .ne 6, 3), (27, .bipush (-6), 2), (29, .ireturn, 1), (30, .aload_n 0, 1), (31, .getfield 61, 3), (34, .iload_n 1, 1), (35, .iaload, 1), (36, .iconst 2, 1), (37, .irem, 1), (38, .ifCond .eq 6, 3), (41, .bipush (-2), 2), (43, .ireturn, 1), (44, .iconst 0, 1), (45, .istore_n 2, 1), (46, .iload_n 2, 1), (47, .aload_n 0, 1), (48, .getfield 61, 3), (51, .iload_n 1, 1), (52, .iaload, 1), (53, .if_icmp .ge 41, 3), (56, .aload_n 0, 1), (57, .aload_n 0, 1), (58, .iload_n 1, 1), (59, .iload_n 2, 1), (60, .invokevirtual 396, 3), (63, .invokevirtual 226, 3), (66, .ifCond .eq 19, 3), (69, .aload_n 0, 1), (70, .iload_n 1, 1), (71, .iload_n 2, 1), (72, .iconst 1, 1), (73, .iadd, 1), (74, .invokevirtual 396, 3), (77, .lconst 0, 1), (78, .lconst 1, 1), (79, .invokestatic 79, 3), (82, .ifCond .ne 6, 3), (85, .bipush (-2), 2), (87, .ireturn, 1), (88, .iinc 2 2, 3), (91, .goto (-45), 3), (94, .aload_n 0, 1), (95, .invokevirtual 303, 3), (98, .aload_n 0, 1), (99, .iconst 0, 1), (100, .putfield 400, 3), (103, .iconst 0, 1), (104, .istore_n 2, 1), (105, .iload_n 2, 1), (106, .aload_n 0, 1), (107, .invokevirtual 83, 3), (110, .if_icmp .ge 126, 3), (113, .iconst 1, 1), (114, .istore_n 3, 1), (115, .iload_n 3, 1), (116, .bipush 12, 2), (118, .if_icmp .gt 112, 3), (121, .aload_n 0, 1), (122, .iload_n 2, 1), (123, .iload_n 3, 1), (124, .invokevirtual 243, 3), (127, .istore 4, 2), (129, .iconst 1, 1), (130, .istore 5, 2), (132, .iconst 0, 1), (133, .istore 6, 2), (135, .iload 6, 2), (137, .aload_n 0, 1), (138, .getfield 61, 3), (141, .iload_n 1, 1), (142, .iaload, 1), (143, .if_icmp .ge 48, 3), (146, .iload 5, 2), (148, .ifCond .eq 34, 3), (151, .iload 4, 2), (153, .aload_n 0, 1), (154, .iload_n 1, 1), (155, .iload 6, 2), (157, .invokevirtual 396, 3), (160, .l2i, 1), (161, .invokestatic 261, 3), (164, .i2l, 1), (165, .aload_n 0, 1), (166, .iload_n 1, 1), (167, .iload 6, 2), (169, .iconst 1, 1), (170, .iadd, 1), (171, .invokevirtual 396, 3), (174, .lcmp, 1), (175, .ifCond .ne 7, 3), (178, .iconst 1, 1), (179, .goto 4, 3), (182, .iconst 0, 1), (183, .istore 5, 2), (185, .iinc 6 2, 3), (188, .goto (-53), 3), (191, .iload 5, 2), (193, .ifCond .ne 6, 3), (196, .goto 28, 3), (199, .aload_n 0, 1), (200, .getfield 58, 3), (203, .aload_n 0, 1), (204, .getfield 400, 3), (207, .bipush 20, 2), (209, .iload_n 2, 1), (210, .imul, 1), (211, .iload_n 3, 1), (212, .iadd, 1), (213, .iastore, 1), (214, .aload_n 0, 1), (215, .dup, 1), (216, .getfield 400, 3), (219, .iconst 1, 1), (220, .iadd, 1), (221, .putfield 400, 3), (224, .iinc 3 1, 3), (227, .goto (-112), 3), (230, .iinc 2 1, 3), (233, .goto (-128), 3), (236, .iconst 0, 1), (237, .ireturn, 1)]
def bd0_110 : kBd := (cd_X10_laySounds, [(1, [90]), (8, [94])], [], [])
theorem ok0_110 : kbody (kEof k0_tt k_aty k0_ct ow0_SilenceMatchModel 7 (some .int) ct0_110) bd0_110 100000 = true := by decide +kernel
def cd_X10_end : kCd := [(0, .iload_n 1, 1), (1, .i2l, 1), (2, .lconst 0, 1), (3, .aload_n 0, 1), (4, .getfield 87, 3), (7, .i2l, 1), (8, .invokestatic 79, 3), (11, .ifCond .ne 5, 3), (14, .iconst (-1), 1), (15, .ireturn, 1), (16, .aload_n 0, 1), (17, .iload_n 1, 1), (18, .putfield 87, 3), (21, .iload_n 1, 1), (22, .ireturn, 1)]
def bd0_111 : kBd := (cd_X10_end, [(8, [88])], [], [])
theorem ok0_111 : kbody (kEof k0_tt k_aty k0_ct ow0_SilenceMatchModel 2 (some .int) ct0_111) bd0_111 100000 = true := by decide +kernel
def cd_X10_green : kCd := [(0, .aload_n 0, 1), (1, .aload_n 0, 1), (2, .getfield 87, 3), (5, .putfield 90, 3), (8, .aload_n 0, 1), (9, .iconst 0, 1), (10, .putfield 87, 3), (13, .aload_n 0, 1), (14, .iconst 0, 1), (15, .putfield 93, 3), (18, .aload_n 0, 1), (19, .iconst 0, 1), (20, .putfield 124, 3), (23, .aload_n 0, 1), (24, .iconst (-1), 1), (25, .putfield 27, 3), (28, .iconst 0, 1), (29, .istore_n 1, 1), (30, .iload_n 1, 1), (31, .bipush 115, 2), (33, .if_icmp .ge 16, 3), (36, .aload_n 0, 1), (37, .getfield 31, 3), (40, .iload_n 1, 1), (41, .iconst 0, 1), (42, .iastore, 1), (43, .iinc 1 1, 3), (46, .goto (-16), 3), (49, .aload_n 0, 1), (50, .invokevirtual 144, 3), (53, .aload_n 0, 1), (54, .invokevirtual 127, 3), (57, .ifCond .eq 17, 3), (60, .aload_n 0, 1), (61, .getfield 103, 3), (64, .ifCond .eq 10, 3), (67, .aload_n 0, 1), (68, .invokevirtual 212, 3), (71, .goto (-18), 3), (74, .aload_n 0, 1), (75, .invokevirtual 127, 3), (78, .ifCond .ne 6, 3), (81, .bipush (-4), 2), (83, .ireturn, 1), (84, .iconst 0, 1), (85, .istore_n 1, 1), (86, .iload_n 1, 1), (87, .bipush 115, 2), (89, .if_icmp .ge 21, 3), (92, .aload_n 0, 1), (93, .getfield 9, 3), (96, .iload_n 1, 1), (97, .aload_n 0, 1), (98, .getfield 31, 3), (101, .iload_n 1, 1), (102, .iaload, 1), (103, .iastore, 1), (104, .iinc 1 1, 3), (107, .goto (-21), 3), (110, .aload_n 0, 1), (111, .getfield 9, 3), (114, .bipush 10, 2), (116, .iaload, 1), (117, .ireturn, 1)]
def bd0_112 : kBd := (cd_X10_green, [(50, [104]), (54, [103]), (75, [103])], [], [(30, (([((.ofNat 0), (.ofNat 115))], [36], [(0, (.inr (.inr (.inl 0)))), (1, (.inl ([(0, (.ofNat 1))], (.ofNat 0))))], [], [], []), [(0, 1, ([], (.ofNat 0)), (.ofNat 1), (.ofNat 0))]), ([(0, (.negSucc 0))], (.ofNat 232))), (53, (([((.ofNat 115), (.ofNat 115))], [36], [(0, (.inr (.inr (.inl 0)))), (1, (.inl ([(0, (.ofNat 1))], (.ofNat 0))))], [], [], []), [(0, 1, ([], (.ofNat 0)), (.ofNat 1), (.ofNat 0))]), ([(0, (.negSucc 0))], (.ofNat 231))), (86, (([((.ofNat 0), (.ofNat 115))], [36], [(0, (.inr (.inr (.inl 0)))), (1, (.inl ([(0, (.ofNat 1))], (.ofNat 0))))], [], [], []), [(0, 1, ([], (.ofNat 0)), (.ofNat 1), (.ofNat 0))]), ([(0, (.negSucc 0))], (.ofNat 115)))])
theorem ok0_112 : kbody (kEof k0_tt k_aty k0_ct ow0_SilenceMatchModel 2 (some .int) ct0_112) bd0_112 100000 = true := by decide +kernel
def cd_X10_fault : kCd := [(0, .iload_n 1, 1), (1, .ifCond .ne 10, 3), (4, .aload_n 0, 1), (5, .getfield 124, 3), (8, .goto 16, 3), (11, .iload_n 1, 1), (12, .iconst 1, 1), (13, .if_icmp .ne 10, 3), (16, .aload_n 0, 1), (17, .getfield 27, 3), (20, .goto 4, 3), (23, .iconst (-1), 1), (24, .ireturn, 1)]
def bd0_113 : kBd := (cd_X10_fault, [], [(0, 1, [(.negSucc 0), (.ofNat 0), (.ofNat 1)])], [])
theorem ok0_113 : kbody (kEof k0_tt k_aty k0_ct ow0_SilenceMatchModel 2 (some .int) ct0_113) bd0_113 100000 = true := by decide +kernel
def cd_X10_player : kCd := [(0, .aload_n 0, 1), (1, .iload_n 1, 1), (2, .invokevirtual 315, 3), (5, .ifCond .eq 15, 3), (8, .iload_n 2, 1), (9, .i2l, 1), (10, .lconst 0, 1), (11, .ldc2_w 318, 3), (14, .invokestatic 79, 3), (17, .ifCond .ne 6, 3), (20, .bipush (-2), 2), (22, .ireturn, 1), (23, .iload_n 2, 1), (24, .iconst 1, 1), (25, .if_icmp .ne 12, 3), (28, .aload_n 0, 1), (29, .getfield 37, 3), (32, .iload_n 1, 1), (33, .iaload, 1), (34, .goto 36, 3), (37, .iload_n 2, 1), (38, .iconst 2, 1), (39, .if_icmp .ne 12, 3), (42, .aload_n 0, 1), (43, .getfield 40, 3), (46, .iload_n 1, 1), (47, .iaload, 1), (48, .goto 22, 3), (51, .iload_n 2, 1), (52, .iconst 4, 1), (53, .if_icmp .ne 11, 3), (56, .aload_n 0, 1), (57, .iload_n 1, 1), (58, .invokevirtual 320, 3), (61, .goto 9, 3), (64, .aload_n 0, 1), (65, .iload_n 1, 1), (66, .iload_n 2, 1), (67, .invokevirtual 249, 3), (70, .ireturn, 1)]
def bd0_114 : kBd := (cd_X10_player, [(2, [108])], [], [])
theorem ok0_114 : kbody (kEof k0_tt k_aty k0_ct ow0_SilenceMatchModel 3 (some .int) ct0_114) bd0_114 100000 = true := by decide +kernel
def cd_X10_umpire : kCd := [(0, .aload_n 0, 1), (1, .iload_n 1, 1), (2, .i2l, 1), (3, .invokevirtual 226, 3), (6, .ifCond .eq 29, 3), (9, .iload_n 2, 1), (10, .i2l, 1), (11, .lconst 0, 1), (12, .lconst 1, 1), (13, .invokestatic 79, 3), (16, .ifCond .eq 19, 3), (19, .aload_n 0, 1), (20, .getfield 9, 3), (23, .bipush 43, 2), (25, .iconst 2, 1), (26, .iload_n 1, 1), (27, .imul, 1), (28, .iadd, 1), (29, .iload_n 2, 1), (30, .iadd, 1), (31, .iaload, 1), (32, .goto 5, 3), (35, .bipush (-2), 2), (37, .ireturn, 1)]
def bd0_115 : kBd := (cd_X10_umpire, [(3, [98])], [], [])
theorem ok0_115 : kbody (kEof k0_tt k_aty k0_ct ow0_SilenceMatchModel 3 (some .int) ct0_115) bd0_115 100000 = true := by decide +kernel
def cd_X10_far : kCd := [(0, .aload_n 0, 1), (1, .iload_n 1, 1), (2, .invokevirtual 230, 3), (5, .ifCond .eq 20, 3), (8, .aload_n 0, 1), (9, .iload_n 2, 1), (10, .invokevirtual 230, 3), (13, .ifCond .eq 12, 3), (16, .aload_n 0, 1), (17, .iload_n 1, 1), (18, .iload_n 2, 1), (19, .invokevirtual 218, 3), (22, .goto 5, 3), (25, .bipush (-2), 2), (27, .ireturn, 1)]
def bd0_116 : kBd := (cd_X10_far, [(2, [96])], [], [])
theorem ok0_116 : kbody (kEof k0_tt k_aty k0_ct ow0_SilenceMatchModel 3 (some .int) ct0_116) bd0_116 100000 = true := by decide +kernel
def cd_X10_wind : kCd := [(0, .aload_n 0, 1), (1, .invokevirtual 221, 3), (4, .ifCond .eq 15, 3), (7, .iload_n 1, 1), (8, .i2l, 1), (9, .lconst 1, 1), (10, .ldc2_w 234, 3), (13, .invokestatic 79, 3), (16, .ifCond .ne 6, 3), (19, .bipush (-2), 2), (21, .ireturn, 1), (22, .aload_n 0, 1), (23, .iload_n 1, 1), (24, .invokevirtual 236, 3), (27, .ifCond .eq 7, 3), (30, .iconst 1, 1), (31, .goto 4, 3), (34, .iconst 0, 1), (35, .ireturn, 1)]
def bd0_117 : kBd := (cd_X10_wind, [(1, [94])], [], [])
theorem ok0_117 : kbody (kEof k0_tt k_aty k0_ct ow0_SilenceMatchModel 2 (some .int) ct0_117) bd0_117 100000 = true := by decide +kernel
def cd_X10_ears : kCd := [(0, .aload_n 0, 1), (1, .iload_n 1, 1), (2, .invokevirtual 230, 3), (5, .ifCond .eq 21, 3), (8, .aload_n 0, 1), (9, .iload_n 2, 1), (10, .iconst 0, 1), (11, .invokevirtual 239, 3), (14, .ifCond .eq 12, 3), (17, .aload_n 0, 1), (18, .iload_n 1, 1), (19, .iload_n 2, 1), (20, .invokevirtual 243, 3), (23, .goto 5, 3), (26, .bipush (-2), 2), (28, .ireturn, 1)]
def bd0_118 : kBd := (cd_X10_ears, [(2, [96])], [], [])
theorem ok0_118 : kbody (kEof k0_tt k_aty k0_ct ow0_SilenceMatchModel 3 (some .int) ct0_118) bd0_118 100000 = true := by decide +kernel
def cd_X10_dead : kCd := [(0, .aload_n 0, 1), (1, .iload_n 1, 1), (2, .iconst 0, 1), (3, .invokevirtual 239, 3), (6, .ifCond .eq 11, 3), (9, .aload_n 0, 1), (10, .iload_n 1, 1), (11, .invokevirtual 246, 3), (14, .goto 5, 3), (17, .bipush (-2), 2), (19, .ireturn, 1)]
def bd0_119 : kBd := (cd_X10_dead, [(3, [99])], [], [])
theorem ok0_119 : kbody (kEof k0_tt k_aty k0_ct ow0_SilenceMatchModel 2 (some .int) ct0_119) bd0_119 100000 = true := by decide +kernel
def cd_X10_quiet : kCd := [(0, .aload_n 0, 1), (1, .iload_n 1, 1), (2, .invokevirtual 230, 3), (5, .ifCond .ne 6, 3), (8, .bipush (-2), 2), (10, .ireturn, 1), (11, .bipush 12, 2), (13, .istore_n 2, 1), (14, .aload_n 0, 1), (15, .iload_n 1, 1), (16, .iload_n 2, 1), (17, .invokevirtual 243, 3), (20, .ifCond .eq 9, 3), (23, .iinc 2 (-1), 3), (26, .goto (-12), 3), (29, .iload_n 2, 1), (30, .ireturn, 1)]
def bd0_120 : kBd := (cd_X10_quiet, [(2, [96])], [], [])
theorem ok0_120 : kbody (kEof k0_tt k_aty k0_ct ow0_SilenceMatchModel 3 (some .int) ct0_120) bd0_120 100000 = true := by decide +kernel
def cd_X10_coughs : kCd := [(0, .aload_n 0, 1), (1, .iload_n 1, 1), (2, .iconst 1, 1), (3, .invokevirtual 323, 3), (6, .ifCond .ne 6, 3), (9, .bipush (-2), 2), (11, .ireturn, 1), (12, .iconst 0, 1), (13, .istore_n 2, 1), (14, .iconst 0, 1), (15, .istore_n 3, 1), (16, .iload_n 3, 1), (17, .aload_n 0, 1), (18, .getfield 9, 3), (21, .iconst 5, 1), (22, .iaload, 1), (23, .if_icmp .ge 28, 3), (26, .iload_n 2, 1), (27, .aload_n 0, 1), (28, .iload_n 3, 1), (29, .iload_n 1, 1), (30, .invokevirtual 267, 3), (33, .ifCond .eq 9, 3), (36, .iconst 1, 1), (37, .iload_n 3, 1), (38, .ishl, 1), (39, .goto 4, 3), (42, .iconst 0, 1), (43, .ior, 1), (44, .istore_n 2, 1), (45, .iinc 3 1, 3), (48, .goto (-32), 3), (51, .iload_n 2, 1), (52, .ireturn, 1)]
def bd0_121 : kBd := (cd_X10_coughs, [(3, [109])], [], [])
theorem ok0_121 : kbody (kEof k0_tt k_aty k0_ct ow0_SilenceMatchModel 4 (some .int) ct0_121) bd0_121 100000 = true := by decide +kernel
def cd_X10_out : kCd := [(0, .aload_n 0, 1), (1, .iload_n 1, 1), (2, .invokevirtual 315, 3), (5, .ifCond .eq 12, 3), (8, .aload_n 0, 1), (9, .getfield 43, 3), (12, .iload_n 1, 1), (13, .iaload, 1), (14, .goto 5, 3), (17, .bipush (-2), 2), (19, .ireturn, 1)]
def bd0_122 : kBd := (cd_X10_out, [(2, [108])], [], [])
theorem ok0_122 : kbody (kEof k0_tt k_aty k0_ct ow0_SilenceMatchModel 2 (some .int) ct0_122) bd0_122 100000 = true := by decide +kernel
def cd_X10_outs : kCd := [(0, .aload_n 0, 1), (1, .iload_n 1, 1), (2, .iconst 1, 1), (3, .invokevirtual 323, 3), (6, .ifCond .eq 11, 3), (9, .aload_n 0, 1), (10, .iload_n 1, 1), (11, .invokevirtual 326, 3), (14, .goto 5, 3), (17, .bipush (-2), 2), (19, .ireturn, 1)]
def bd0_123 : kBd := (cd_X10_outs, [(3, [109])], [], [])
theorem ok0_123 : kbody (kEof k0_tt k_aty k0_ct ow0_SilenceMatchModel 2 (some .int) ct0_123) bd0_123 100000 = true := by decide +kernel
def cd_X10_laughs : kCd := [(0, .aload_n 0, 1), (1, .iload_n 1, 1), (2, .iconst 1, 1), (3, .invokevirtual 323, 3), (6, .ifCond .eq 11, 3), (9, .aload_n 0, 1), (10, .iload_n 1, 1), (11, .invokevirtual 329, 3), (14, .goto 5, 3), (17, .bipush (-2), 2), (19, .ireturn, 1)]
def bd0_124 : kBd := (cd_X10_laughs, [(3, [109])], [], [])
theorem ok0_124 : kbody (kEof k0_tt k_aty k0_ct ow0_SilenceMatchModel 2 (some .int) ct0_124) bd0_124 100000 = true := by decide +kernel
def cd_X10_finger : kCd := [(0, .aload_n 0, 1), (1, .iload_n 1, 1), (2, .invokevirtual 315, 3), (5, .ifCond .eq 12, 3), (8, .aload_n 0, 1), (9, .getfield 46, 3), (12, .iload_n 1, 1), (13, .iaload, 1), (14, .goto 5, 3), (17, .bipush (-2), 2), (19, .ireturn, 1)]
def bd0_125 : kBd := (cd_X10_finger, [(2, [108])], [], [])
theorem ok0_125 : kbody (kEof k0_tt k_aty k0_ct ow0_SilenceMatchModel 2 (some .int) ct0_125) bd0_125 100000 = true := by decide +kernel
def cd_X10_fingers : kCd := [(0, .aload_n 0, 1), (1, .invokevirtual 309, 3), (4, .pop, 1), (5, .aload_n 0, 1), (6, .iload_n 1, 1), (7, .i2l, 1), (8, .invokevirtual 226, 3), (11, .ifCond .ne 6, 3), (14, .bipush (-2), 2), (16, .ireturn, 1), (17, .iconst 0, 1), (18, .istore_n 2, 1), (19, .iconst 0, 1), (20, .istore_n 3, 1), (21, .iload_n 3, 1), (22, .aload_n 0, 1), (23, .getfield 9, 3), (26, .iconst 5, 1), (27, .iaload, 1), (28, .if_icmp .ge 27, 3), (31, .iload_n 2, 1), (32, .aload_n 0, 1), (33, .getfield 46, 3), (36, .iload_n 3, 1), (37, .iaload, 1), (38, .iload_n 1, 1), (39, .if_icmp .ne 7, 3), (42, .iconst 1, 1), (43, .goto 4, 3), (46, .iconst 0, 1), (47, .iadd, 1), (48, .istore_n 2, 1), (49, .iinc 3 1, 3), (52, .goto (-31), 3), (55, .iload_n 2, 1), (56, .ireturn, 1)]
def bd0_126 : kBd := (cd_X10_fingers, [(1, [107]), (8, [98])], [], [])
theorem ok0_126 : kbody (kEof k0_tt k_aty k0_ct ow0_SilenceMatchModel 4 (some .int) ct0_126) bd0_126 100000 = true := by decide +kernel
def cd_X10_score : kCd := [(0, .aload_n 0, 1), (1, .iload_n 2, 1), (2, .iconst 0, 1), (3, .invokevirtual 323, 3), (6, .ifCond .eq 19, 3), (9, .iload_n 1, 1), (10, .invokestatic 332, 3), (13, .ifCond .eq 12, 3), (16, .aload_n 0, 1), (17, .iload_n 1, 1), (18, .iload_n 2, 1), (19, .invokevirtual 335, 3), (22, .goto 5, 3), (25, .bipush (-2), 2), (27, .ireturn, 1)]
def bd0_127 : kBd := (cd_X10_score, [(3, [109])], [], [])
theorem ok0_127 : kbody (kEof k0_tt k_aty k0_ct ow0_SilenceMatchModel 3 (some .int) ct0_127) bd0_127 100000 = true := by decide +kernel
def cd_X10_wins : kCd := [(0, .aload_n 0, 1), (1, .invokevirtual 309, 3), (4, .ifCond .eq 10, 3), (7, .aload_n 0, 1), (8, .invokevirtual 341, 3), (11, .goto 5, 3), (14, .bipush (-2), 2), (16, .ireturn, 1)]
def bd0_128 : kBd := (cd_X10_wins, [(1, [107])], [], [])
theorem ok0_128 : kbody (kEof k0_tt k_aty k0_ct ow0_SilenceMatchModel 1 (some .int) ct0_128) bd0_128 100000 = true := by decide +kernel
def cd_X10_leads : kCd := [(0, .aload_n 0, 1), (1, .invokevirtual 309, 3), (4, .ifCond .ne 6, 3), (7, .bipush (-2), 2), (9, .ireturn, 1), (10, .aload_n 0, 1), (11, .invokevirtual 341, 3), (14, .istore_n 1, 1), (15, .iload_n 1, 1), (16, .iconst (-1), 1), (17, .if_icmp .ne 5, 3), (20, .iconst (-1), 1), (21, .ireturn, 1), (22, .aload_n 0, 1), (23, .getfield 258, 3), (26, .istore_n 2, 1), (27, .iload_n 2, 1), (28, .ifCond .le 30, 3), (31, .aload_n 0, 1), (32, .iload_n 1, 1), (33, .iload_n 2, 1), (34, .iconst 1, 1), (35, .isub, 1), (36, .invokevirtual 335, 3), (39, .aload_n 0, 1), (40, .iconst 1, 1), (41, .iload_n 1, 1), (42, .isub, 1), (43, .iload_n 2, 1), (44, .iconst 1, 1), (45, .isub, 1), (46, .invokevirtual 335, 3), (49, .if_icmp .le 9, 3), (52, .iinc 2 (-1), 3), (55, .goto (-28), 3), (58, .iload_n 2, 1), (59, .ireturn, 1)]
def bd0_129 : kBd := (cd_X10_leads, [(1, [107])], [], [])
theorem ok0_129 : kbody (kEof k0_tt k_aty k0_ct ow0_SilenceMatchModel 3 (some .int) ct0_129) bd0_129 100000 = true := by decide +kernel
def cd_X10_last : kCd := [(0, .aload_n 0, 1), (1, .invokevirtual 309, 3), (4, .ifCond .ne 6, 3), (7, .bipush (-2), 2), (9, .ireturn, 1), (10, .iconst (-1), 1), (11, .istore_n 1, 1), (12, .iconst 0, 1), (13, .istore_n 2, 1), (14, .iload_n 2, 1), (15, .aload_n 0, 1), (16, .getfield 9, 3), (19, .iconst 5, 1), (20, .iaload, 1), (21, .if_icmp .ge 20, 3), (24, .iload_n 1, 1), (25, .aload_n 0, 1), (26, .getfield 43, 3), (29, .iload_n 2, 1), (30, .iaload, 1), (31, .invokestatic 344, 3), (34, .istore_n 1, 1), (35, .iinc 2 1, 3), (38, .goto (-24), 3), (41, .iload_n 1, 1), (42, .ireturn, 1)]
def bd0_130 : kBd := (cd_X10_last, [(1, [107])], [], [])
theorem ok0_130 : kbody (kEof k0_tt k_aty k0_ct ow0_SilenceMatchModel 3 (some .int) ct0_130) bd0_130 100000 = true := by decide +kernel
def cd_X10_tries : kCd := [(0, .aload_n 0, 1), (1, .iload_n 1, 1), (2, .iconst 1, 1), (3, .invokevirtual 323, 3), (6, .ifCond .ne 6, 3), (9, .bipush (-2), 2), (11, .ireturn, 1), (12, .iconst 0, 1), (13, .istore_n 2, 1), (14, .iconst 0, 1), (15, .istore_n 3, 1), (16, .iload_n 3, 1), (17, .aload_n 0, 1), (18, .getfield 9, 3), (21, .iconst 5, 1), (22, .iaload, 1), (23, .if_icmp .ge 37, 3), (26, .iload_n 2, 1), (27, .aload_n 0, 1), (28, .iload_n 3, 1), (29, .iload_n 1, 1), (30, .invokevirtual 267, 3), (33, .ifCond .eq 18, 3), (36, .aload_n 0, 1), (37, .iload_n 3, 1), (38, .iload_n 1, 1), (39, .invokevirtual 291, 3), (42, .ifCond .eq 9, 3), (45, .iconst 1, 1), (46, .iload_n 3, 1), (47, .ishl, 1), (48, .goto 4, 3), (51, .iconst 0, 1), (52, .ior, 1), (53, .istore_n 2, 1), (54, .iinc 3 1, 3), (57, .goto (-41), 3), (60, .iload_n 2, 1), (61, .ireturn, 1)]
def bd0_131 : kBd := (cd_X10_tries, [(3, [109])], [], [])
theorem ok0_131 : kbody (kEof k0_tt k_aty k0_ct ow0_SilenceMatchModel 4 (some .int) ct0_131) bd0_131 100000 = true := by decide +kernel
def cd_X10_crowd : kCd := [(0, .aload_n 0, 1), (1, .invokevirtual 309, 3), (4, .pop, 1), (5, .aload_n 0, 1), (6, .iload_n 1, 1), (7, .invokevirtual 230, 3), (10, .ifCond .ne 6, 3), (13, .bipush (-2), 2), (15, .ireturn, 1), (16, .iconst 0, 1), (17, .istore_n 2, 1), (18, .iconst 0, 1), (19, .istore_n 3, 1), (20, .iload_n 3, 1), (21, .aload_n 0, 1), (22, .getfield 9, 3), (25, .iconst 5, 1), (26, .iaload, 1), (27, .if_icmp .ge 29, 3), (30, .iload_n 2, 1), (31, .aload_n 0, 1), (32, .getfield 37, 3), (35, .iload_n 3, 1), (36, .iaload, 1), (37, .iload_n 1, 1), (38, .if_icmp .ne 9, 3), (41, .iconst 1, 1), (42, .iload_n 3, 1), (43, .ishl, 1), (44, .goto 4, 3), (47, .iconst 0, 1), (48, .ior, 1), (49, .istore_n 2, 1), (50, .iinc 3 1, 3), (53, .goto (-33), 3), (56, .iload_n 2, 1), (57, .ireturn, 1)]
def bd0_132 : kBd := (cd_X10_crowd, [(1, [107]), (7, [96])], [], [])
theorem ok0_132 : kbody (kEof k0_tt k_aty k0_ct ow0_SilenceMatchModel 4 (some .int) ct0_132) bd0_132 100000 = true := by decide +kernel
def cd_X10_near : kCd := [(0, .aload_n 0, 1), (1, .iload_n 1, 1), (2, .invokevirtual 315, 3), (5, .ifCond .ne 6, 3), (8, .bipush (-2), 2), (10, .ireturn, 1), (11, .iconst (-1), 1), (12, .istore_n 2, 1), (13, .iconst 0, 1), (14, .istore_n 3, 1), (15, .iload_n 3, 1), (16, .aload_n 0, 1), (17, .getfield 9, 3), (20, .bipush 6, 2), (22, .iaload, 1), (23, .if_icmp .ge 61, 3), (26, .iload_n 2, 1), (27, .iconst (-1), 1), (28, .if_icmp .eq 48, 3), (31, .aload_n 0, 1), (32, .aload_n 0, 1), (33, .getfield 37, 3), (36, .iload_n 1, 1), (37, .iaload, 1), (38, .aload_n 0, 1), (39, .getfield 9, 3), (42, .bipush 43, 2), (44, .iconst 2, 1), (45, .iload_n 3, 1), (46, .imul, 1), (47, .iadd, 1), (48, .iaload, 1), (49, .invokevirtual 218, 3), (52, .aload_n 0, 1), (53, .aload_n 0, 1), (54, .getfield 37, 3), (57, .iload_n 1, 1), (58, .iaload, 1), (59, .aload_n 0, 1), (60, .getfield 9, 3), (63, .bipush 43, 2), (65, .iconst 2, 1), (66, .iload_n 2, 1), (67, .imul, 1), (68, .iadd, 1), (69, .iaload, 1), (70, .invokevirtual 218, 3), (73, .if_icmp .ge 5, 3), (76, .iload_n 3, 1), (77, .istore_n 2, 1), (78, .iinc 3 1, 3), (81, .goto (-66), 3), (84, .iload_n 2, 1), (85, .ireturn, 1)]
def bd0_133 : kBd := (cd_X10_near, [(2, [108])], [], [])
theorem ok0_133 : kbody (kEof k0_tt k_aty k0_ct ow0_SilenceMatchModel 4 (some .int) ct0_133) bd0_133 100000 = true := by decide +kernel
def cd_X10_gone : kCd := [(0, .aload_n 0, 1), (1, .invokevirtual 309, 3), (4, .ifCond .eq 10, 3), (7, .iload_n 1, 1), (8, .invokestatic 332, 3), (11, .ifCond .ne 6, 3), (14, .bipush (-2), 2), (16, .ireturn, 1), (17, .iconst 0, 1), (18, .istore_n 2, 1), (19, .iload_n 2, 1), (20, .aload_n 0, 1), (21, .getfield 258, 3), (24, .if_icmp .gt 20, 3), (27, .aload_n 0, 1), (28, .iload_n 1, 1), (29, .iload_n 2, 1), (30, .invokevirtual 335, 3), (33, .ifCond .ne 5, 3), (36, .iload_n 2, 1), (37, .ireturn, 1), (38, .iinc 2 1, 3), (41, .goto (-22), 3), (44, .iconst (-1), 1), (45, .ireturn, 1)]
def bd0_134 : kBd := (cd_X10_gone, [(1, [107])], [], [])
theorem ok0_134 : kbody (kEof k0_tt k_aty k0_ct ow0_SilenceMatchModel 3 (some .int) ct0_134) bd0_134 100000 = true := by decide +kernel
def cd_X10_calm : kCd := [(0, .aload_n 0, 1), (1, .invokevirtual 309, 3), (4, .ifCond .ne 6, 3), (7, .bipush (-2), 2), (9, .ireturn, 1), (10, .iconst 0, 1), (11, .istore_n 1, 1), (12, .iconst 0, 1), (13, .istore_n 2, 1), (14, .iconst 1, 1), (15, .istore_n 3, 1), (16, .iload_n 3, 1), (17, .aload_n 0, 1), (18, .getfield 258, 3), (21, .if_icmp .gt 31, 3), (24, .aload_n 0, 1), (25, .iload_n 3, 1), (26, .invokevirtual 326, 3), (29, .ifCond .ne 9, 3), (32, .iload_n 2, 1), (33, .iconst 1, 1), (34, .iadd, 1), (35, .goto 4, 3), (38, .iconst 0, 1), (39, .istore_n 2, 1), (40, .iload_n 1, 1), (41, .iload_n 2, 1), (42, .invokestatic 344, 3), (45, .istore_n 1, 1), (46, .iinc 3 1, 3), (49, .goto (-33), 3), (52, .iload_n 1, 1), (53, .ireturn, 1)]
def bd0_135 : kBd := (cd_X10_calm, [(1, [107])], [], [])
theorem ok0_135 : kbody (kEof k0_tt k_aty k0_ct ow0_SilenceMatchModel 4 (some .int) ct0_135) bd0_135 100000 = true := by decide +kernel
def cd_X10_chain : kCd := [(0, .aload_n 0, 1), (1, .invokevirtual 309, 3), (4, .ifCond .ne 6, 3), (7, .bipush (-2), 2), (9, .ireturn, 1), (10, .iconst 0, 1), (11, .istore_n 1, 1), (12, .iconst 0, 1), (13, .istore_n 2, 1), (14, .iconst 1, 1), (15, .istore_n 3, 1), (16, .iload_n 3, 1), (17, .aload_n 0, 1), (18, .getfield 258, 3), (21, .if_icmp .gt 31, 3), (24, .aload_n 0, 1), (25, .iload_n 3, 1), (26, .invokevirtual 329, 3), (29, .ifCond .eq 9, 3), (32, .iload_n 2, 1), (33, .iconst 1, 1), (34, .iadd, 1), (35, .goto 4, 3), (38, .iconst 0, 1), (39, .istore_n 2, 1), (40, .iload_n 1, 1), (41, .iload_n 2, 1), (42, .invokestatic 344, 3), (45, .istore_n 1, 1), (46, .iinc 3 1, 3), (49, .goto (-33), 3), (52, .iload_n 1, 1), (53, .ireturn, 1)]
def bd0_136 : kBd := (cd_X10_chain, [(1, [107])], [], [])
theorem ok0_136 : kbody (kEof k0_tt k_aty k0_ct ow0_SilenceMatchModel 4 (some .int) ct0_136) bd0_136 100000 = true := by decide +kernel
def cd_X10_bells : kCd := [(0, .aload_n 0, 1), (1, .invokevirtual 303, 3), (4, .aload_n 0, 1), (5, .invokevirtual 221, 3), (8, .ifCond .eq 10, 3), (11, .iload_n 1, 1), (12, .invokestatic 332, 3), (15, .ifCond .ne 6, 3), (18, .bipush (-2), 2), (20, .ireturn, 1), (21, .aload_n 0, 1), (22, .bipush 60, 2), (24, .putfield 258, 3), (27, .aload_n 0, 1), (28, .invokevirtual 306, 3), (31, .iconst 1, 1), (32, .istore_n 2, 1), (33, .iload_n 2, 1), (34, .bipush 60, 2), (36, .if_icmp .gt 28, 3), (39, .aload_n 0, 1), (40, .iload_n 1, 1), (41, .iload_n 2, 1), (42, .invokevirtual 335, 3), (45, .aload_n 0, 1), (46, .iconst 1, 1), (47, .iload_n 1, 1), (48, .isub, 1), (49, .iload_n 2, 1), (50, .invokevirtual 335, 3), (53, .if_icmp .le 5, 3), (56, .iload_n 2, 1), (57, .ireturn, 1), (58, .iinc 2 1, 3), (61, .goto (-28), 3), (64, .iconst (-1), 1), (65, .ireturn, 1)]
def bd0_137 : kBd := (cd_X10_bells, [(1, [105]), (5, [94])], [], [])
theorem ok0_137 : kbody (kEof k0_tt k_aty k0_ct ow0_SilenceMatchModel 3 (some .int) ct0_137) bd0_137 100000 = true := by decide +kernel
def cd_X10_fire : kCd := [(0, .aload_n 0, 1), (1, .invokevirtual 309, 3), (4, .ifCond .ne 6, 3), (7, .bipush (-2), 2), (9, .ireturn, 1), (10, .iconst (-1), 1), (11, .istore_n 1, 1), (12, .aload_n 0, 1), (13, .invokevirtual 347, 3), (16, .istore_n 2, 1), (17, .iconst 0, 1), (18, .istore_n 3, 1), (19, .iload_n 3, 1), (20, .aload_n 0, 1), (21, .getfield 9, 3), (24, .bipush 6, 2), (26, .iaload, 1), (27, .if_icmp .ge 36, 3), (30, .aload_n 0, 1), (31, .iload_n 3, 1), (32, .putfield 34, 3), (35, .aload_n 0, 1), (36, .invokevirtual 306, 3), (39, .aload_n 0, 1), (40, .invokevirtual 347, 3), (43, .iload_n 2, 1), (44, .if_icmp .lt 6, 3), (47, .goto 10, 3), (50, .aload_n 0, 1), (51, .invokevirtual 347, 3), (54, .istore_n 2, 1), (55, .iload_n 3, 1), (56, .istore_n 1, 1), (57, .iinc 3 1, 3), (60, .goto (-41), 3), (63, .aload_n 0, 1), (64, .iconst (-1), 1), (65, .putfield 34, 3), (68, .iload_n 1, 1), (69, .ireturn, 1)]
def bd0_138 : kBd := (cd_X10_fire, [(1, [107])], [], [])
theorem ok0_138 : kbody (kEof k0_tt k_aty k0_ct ow0_SilenceMatchModel 4 (some .int) ct0_138) bd0_138 100000 = true := by decide +kernel
def cd_X10_swap : kCd := [(0, .aload_n 0, 1), (1, .invokevirtual 309, 3), (4, .ifCond .eq 10, 3), (7, .iload_n 1, 1), (8, .invokestatic 332, 3), (11, .ifCond .ne 6, 3), (14, .bipush (-2), 2), (16, .ireturn, 1), (17, .iconst (-1), 1), (18, .istore_n 2, 1), (19, .aload_n 0, 1), (20, .iload_n 1, 1), (21, .invokevirtual 338, 3), (24, .istore_n 3, 1), (25, .iconst 0, 1), (26, .istore 4, 2), (28, .iload 4, 2), (30, .aload_n 0, 1), (31, .getfield 9, 3), (34, .iconst 5, 1), (35, .iaload, 1), (36, .if_icmp .ge 104, 3), (39, .iload 4, 2), (41, .iconst 1, 1), (42, .iadd, 1), (43, .istore 5, 2), (45, .iload 5, 2), (47, .aload_n 0, 1), (48, .getfield 9, 3), (51, .iconst 5, 1), (52, .iaload, 1), (53, .if_icmp .ge 81, 3), (56, .aload_n 0, 1), (57, .iload 4, 2), (59, .iconst 0, 1), (60, .invokevirtual 249, 3), (63, .iload_n 1, 1), (64, .if_icmp .ne 64, 3), (67, .aload_n 0, 1), (68, .iload 5, 2), (70, .iconst 0, 1), (71, .invokevirtual 249, 3), (74, .iload_n 1, 1), (75, .if_icmp .eq 6, 3), (78, .goto 50, 3), (81, .aload_n 0, 1), (82, .iload 4, 2), (84, .iload 5, 2), (86, .invokevirtual 350, 3), (89, .aload_n 0, 1), (90, .invokevirtual 306, 3), (93, .aload_n 0, 1), (94, .iload 4, 2), (96, .iload 5, 2), (98, .invokevirtual 350, 3), (101, .aload_n 0, 1), (102, .iload_n 1, 1), (103, .invokevirtual 338, 3), (106, .iload_n 3, 1), (107, .if_icmp .gt 6, 3), (110, .goto 18, 3), (113, .aload_n 0, 1), (114, .iload_n 1, 1), (115, .invokevirtual 338, 3), (118, .istore_n 3, 1), (119, .bipush 10, 2), (121, .iload 4, 2), (123, .imul, 1), (124, .iload 5, 2), (126, .iadd, 1), (127, .istore_n 2, 1), (128, .iinc 5 1, 3), (131, .goto (-86), 3), (134, .iinc 4 1, 3), (137, .goto (-109), 3), (140, .iload_n 2, 1), (141, .ireturn, 1)]
def bd0_139 : kBd := (cd_X10_swap, [(1, [107])], [], [])
theorem ok0_139 : kbody (kEof k0_tt k_aty k0_ct ow0_SilenceMatchModel 6 (some .int) ct0_139) bd0_139 100000 = true := by decide +kernel
def cd_X10_groups : kCd := [(0, .aload_n 0, 1), (1, .invokevirtual 221, 3), (4, .ifCond .ne 6, 3), (7, .bipush (-2), 2), (9, .ireturn, 1), (10, .iconst 0, 1), (11, .istore_n 1, 1), (12, .iconst 0, 1), (13, .istore_n 2, 1), (14, .iconst 0, 1), (15, .istore_n 3, 1), (16, .iload_n 3, 1), (17, .aload_n 0, 1), (18, .getfield 9, 3), (21, .iconst 5, 1), (22, .iaload, 1), (23, .if_icmp .ge 34, 3), (26, .iload_n 2, 1), (27, .iload_n 1, 1), (28, .iload_n 3, 1), (29, .invokestatic 261, 3), (32, .ifCond .ne 7, 3), (35, .iconst 1, 1), (36, .goto 4, 3), (39, .iconst 0, 1), (40, .iadd, 1), (41, .istore_n 2, 1), (42, .iload_n 1, 1), (43, .aload_n 0, 1), (44, .iload_n 3, 1), (45, .iconst 0, 1), (46, .invokevirtual 354, 3), (49, .ior, 1), (50, .istore_n 1, 1), (51, .iinc 3 1, 3), (54, .goto (-38), 3), (57, .iload_n 2, 1), (58, .ireturn, 1)]
def bd0_140 : kBd := (cd_X10_groups, [(1, [94])], [], [])
theorem ok0_140 : kbody (kEof k0_tt k_aty k0_ct ow0_SilenceMatchModel 4 (some .int) ct0_140) bd0_140 100000 = true := by decide +kernel
def cd_X10_safe : kCd := [(0, .aload_n 0, 1), (1, .iload_n 1, 1), (2, .invokevirtual 315, 3), (5, .ifCond .ne 6, 3), (8, .bipush (-2), 2), (10, .ireturn, 1), (11, .iconst 0, 1), (12, .istore_n 2, 1), (13, .iconst 0, 1), (14, .istore_n 3, 1), (15, .iload_n 3, 1), (16, .aload_n 0, 1), (17, .invokevirtual 83, 3), (20, .if_icmp .ge 31, 3), (23, .iload_n 2, 1), (24, .aload_n 0, 1), (25, .iload_n 1, 1), (26, .iload_n 3, 1), (27, .invokevirtual 358, 3), (30, .ldc_w 357, 3), (33, .if_icmp .ne 9, 3), (36, .iconst 1, 1), (37, .iload_n 3, 1), (38, .ishl, 1), (39, .goto 4, 3), (42, .iconst 0, 1), (43, .ior, 1), (44, .istore_n 2, 1), (45, .iinc 3 1, 3), (48, .goto (-33), 3), (51, .iload_n 2, 1), (52, .ireturn, 1)]
def bd0_141 : kBd := (cd_X10_safe, [(2, [108])], [], [])
theorem ok0_141 : kbody (kEof k0_tt k_aty k0_ct ow0_SilenceMatchModel 4 (some .int) ct0_141) bd0_141 100000 = true := by decide +kernel
def cd_X10_place : kCd := [(0, .aload_n 0, 1), (1, .iload_n 1, 1), (2, .invokevirtual 315, 3), (5, .ifCond .eq 11, 3), (8, .aload_n 0, 1), (9, .iload_n 1, 1), (10, .invokevirtual 364, 3), (13, .goto 5, 3), (16, .bipush (-2), 2), (18, .ireturn, 1)]
def bd0_142 : kBd := (cd_X10_place, [(2, [108])], [], [])
theorem ok0_142 : kbody (kEof k0_tt k_aty k0_ct ow0_SilenceMatchModel 2 (some .int) ct0_142) bd0_142 100000 = true := by decide +kernel
def cd_X10_lasts : kCd := [(0, .aload_n 0, 1), (1, .iload_n 1, 1), (2, .invokevirtual 315, 3), (5, .ifCond .ne 6, 3), (8, .bipush (-2), 2), (10, .ireturn, 1), (11, .aload_n 0, 1), (12, .iload_n 1, 1), (13, .invokevirtual 364, 3), (16, .pop, 1), (17, .aload_n 0, 1), (18, .getfield 361, 3), (21, .ldc_w 357, 3), (24, .if_icmp .ne 7, 3), (27, .iconst (-1), 1), (28, .goto 7, 3), (31, .aload_n 0, 1), (32, .getfield 361, 3), (35, .ireturn, 1)]
def bd0_143 : kBd := (cd_X10_lasts, [(2, [108])], [], [])
theorem ok0_143 : kbody (kEof k0_tt k_aty k0_ct ow0_SilenceMatchModel 2 (some .int) ct0_143) bd0_143 100000 = true := by decide +kernel
def cd_X10_best : kCd := [(0, .aload_n 0, 1), (1, .iload_n 1, 1), (2, .invokevirtual 315, 3), (5, .ifCond .eq 11, 3), (8, .aload_n 0, 1), (9, .iload_n 1, 1), (10, .invokevirtual 370, 3), (13, .goto 5, 3), (16, .bipush (-2), 2), (18, .ireturn, 1)]
def bd0_144 : kBd := (cd_X10_best, [(2, [108])], [], [])
theorem ok0_144 : kbody (kEof k0_tt k_aty k0_ct ow0_SilenceMatchModel 2 (some .int) ct0_144) bd0_144 100000 = true := by decide +kernel
def cd_X10_gains : kCd := [(0, .aload_n 0, 1), (1, .iload_n 1, 1), (2, .invokevirtual 315, 3), (5, .ifCond .ne 7, 3), (8, .sipush (-1000), 3), (11, .ireturn, 1), (12, .aload_n 0, 1), (13, .iload_n 1, 1), (14, .invokevirtual 370, 3), (17, .pop, 1), (18, .aload_n 0, 1), (19, .getfield 367, 3), (22, .ireturn, 1)]
def bd0_145 : kBd := (cd_X10_gains, [(2, [108])], [], [])
theorem ok0_145 : kbody (kEof k0_tt k_aty k0_ct ow0_SilenceMatchModel 2 (some .int) ct0_145) bd0_145 100000 = true := by decide +kernel
def cd_X10_hush : kCd := [(0, .aload_n 0, 1), (1, .iload_n 1, 1), (2, .invokevirtual 315, 3), (5, .ifCond .ne 6, 3), (8, .bipush (-2), 2), (10, .ireturn, 1), (11, .bipush 12, 2), (13, .istore_n 2, 1), (14, .iload_n 2, 1), (15, .ifCond .lt 32, 3), (18, .aload_n 0, 1), (19, .getfield 40, 3), (22, .iload_n 1, 1), (23, .iload_n 2, 1), (24, .iastore, 1), (25, .aload_n 0, 1), (26, .invokevirtual 306, 3), (29, .aload_n 0, 1), (30, .getfield 43, 3), (33, .iload_n 1, 1), (34, .iaload, 1), (35, .iconst (-1), 1), (36, .if_icmp .ne 5, 3), (39, .iload_n 2, 1), (40, .ireturn, 1), (41, .iinc 2 (-1), 3), (44, .goto (-30), 3), (47, .iconst (-1), 1), (48, .ireturn, 1)]
def bd0_146 : kBd := (cd_X10_hush, [(2, [108])], [], [])
theorem ok0_146 : kbody (kEof k0_tt k_aty k0_ct ow0_SilenceMatchModel 3 (some .int) ct0_146) bd0_146 100000 = true := by decide +kernel
def cd_X10_cover : kCd := [(0, .aload_n 0, 1), (1, .iload_n 1, 1), (2, .iload_n 2, 1), (3, .invokevirtual 384, 3), (6, .ifCond .eq 12, 3), (9, .aload_n 0, 1), (10, .iload_n 1, 1), (11, .iload_n 2, 1), (12, .invokevirtual 387, 3), (15, .goto 5, 3), (18, .bipush (-2), 2), (20, .ireturn, 1)]
def bd0_147 : kBd := (cd_X10_cover, [(3, [100])], [], [])
theorem ok0_147 : kbody (kEof k0_tt k_aty k0_ct ow0_SilenceMatchModel 3 (some .int) ct0_147) bd0_147 100000 = true := by decide +kernel
def cd_X10_covers : kCd := [(0, .aload_n 0, 1), (1, .iload_n 1, 1), (2, .iload_n 2, 1), (3, .invokevirtual 384, 3), (6, .ifCond .ne 6, 3), (9, .bipush (-2), 2), (11, .ireturn, 1), (12, .iload_n 3, 1), (13, .i2l, 1), (14, .lconst 0, 1), (15, .aload_n 0, 1), (16, .iload_n 1, 1), (17, .iload_n 2, 1), (18, .invokevirtual 387, 3), (21, .iconst 1, 1), (22, .isub, 1), (23, .i2l, 1), (24, .invokestatic 79, 3), (27, .ifCond .eq 12, 3), (30, .aload_n 0, 1), (31, .getfield 52, 3), (34, .iload_n 3, 1), (35, .iaload, 1), (36, .goto 4, 3), (39, .iconst (-1), 1), (40, .ireturn, 1)]
def bd0_148 : kBd := (cd_X10_covers, [(3, [100])], [], [])
theorem ok0_148 : kbody (kEof k0_tt k_aty k0_ct ow0_SilenceMatchModel 4 (some .int) ct0_148) bd0_148 100000 = true := by decide +kernel
def cd_X10_more : kCd := [(0, .aload_n 0, 1), (1, .iload_n 1, 1), (2, .iload_n 2, 1), (3, .invokevirtual 384, 3), (6, .ifCond .ne 6, 3), (9, .bipush (-2), 2), (11, .ireturn, 1), (12, .aload_n 0, 1), (13, .invokevirtual 303, 3), (16, .aload_n 0, 1), (17, .iload_n 2, 1), (18, .iload_n 1, 1), (19, .isub, 1), (20, .invokevirtual 376, 3), (23, .pop, 1), (24, .iconst (-1), 1), (25, .istore_n 3, 1), (26, .iconst 0, 1), (27, .istore 4, 2), (29, .iconst 0, 1), (30, .istore 5, 2), (32, .iload 5, 2), (34, .aload_n 0, 1), (35, .invokevirtual 83, 3), (38, .if_icmp .ge 44, 3), (41, .aload_n 0, 1), (42, .getfield 49, 3), (45, .iload 5, 2), (47, .iaload, 1), (48, .aload_n 0, 1), (49, .iload_n 2, 1), (50, .invokevirtual 246, 3), (53, .iand, 1), (54, .invokestatic 373, 3), (57, .istore 6, 2), (59, .iload 6, 2), (61, .iload 4, 2), (63, .if_icmp .gt 6, 3), (66, .goto 10, 3), (69, .iload 6, 2), (71, .istore 4, 2), (73, .iload 5, 2), (75, .istore_n 3, 1), (76, .iinc 5 1, 3), (79, .goto (-47), 3), (82, .iload_n 3, 1), (83, .ireturn, 1)]
def bd0_149 : kBd := (cd_X10_more, [(3, [100])], [], [])
theorem ok0_149 : kbody (kEof k0_tt k_aty k0_ct ow0_SilenceMatchModel 7 (some .int) ct0_149) bd0_149 100000 = true := by decide +kernel
def cd_X10_spread : kCd := [(0, .aload_n 0, 1), (1, .iload_n 1, 1), (2, .invokevirtual 312, 3), (5, .ifCond .eq 12, 3), (8, .aload_n 0, 1), (9, .iload_n 1, 1), (10, .iconst 0, 1), (11, .invokevirtual 354, 3), (14, .goto 5, 3), (17, .bipush (-2), 2), (19, .ireturn, 1)]
def bd0_150 : kBd := (cd_X10_spread, [(2, [97])], [], [])
theorem ok0_150 : kbody (kEof k0_tt k_aty k0_ct ow0_SilenceMatchModel 2 (some .int) ct0_150) bd0_150 100000 = true := by decide +kernel
def cd_X10_part : kCd := [(0, .aload_n 0, 1), (1, .iload_n 1, 1), (2, .invokevirtual 312, 3), (5, .ifCond .eq 11, 3), (8, .aload_n 0, 1), (9, .iload_n 2, 1), (10, .invokevirtual 312, 3), (13, .ifCond .ne 6, 3), (16, .bipush (-2), 2), (18, .ireturn, 1), (19, .aload_n 0, 1), (20, .iload_n 1, 1), (21, .iload_n 2, 1), (22, .invokevirtual 390, 3), (25, .istore_n 3, 1), (26, .iload_n 3, 1), (27, .iconst (-1), 1), (28, .if_icmp .ne 7, 3), (31, .iconst (-1), 1), (32, .goto 7, 3), (35, .iload_n 3, 1), (36, .invokestatic 373, 3), (39, .ireturn, 1)]
def bd0_151 : kBd := (cd_X10_part, [(2, [97])], [], [])
theorem ok0_151 : kbody (kEof k0_tt k_aty k0_ct ow0_SilenceMatchModel 4 (some .int) ct0_151) bd0_151 100000 = true := by decide +kernel
def cd_X10_parts : kCd := [(0, .aload_n 0, 1), (1, .iload_n 1, 1), (2, .invokevirtual 312, 3), (5, .ifCond .eq 20, 3), (8, .aload_n 0, 1), (9, .iload_n 2, 1), (10, .invokevirtual 312, 3), (13, .ifCond .eq 12, 3), (16, .aload_n 0, 1), (17, .iload_n 1, 1), (18, .iload_n 2, 1), (19, .invokevirtual 390, 3), (22, .goto 5, 3), (25, .bipush (-2), 2), (27, .ireturn, 1)]
def bd0_152 : kBd := (cd_X10_parts, [(2, [97])], [], [])
theorem ok0_152 : kbody (kEof k0_tt k_aty k0_ct ow0_SilenceMatchModel 3 (some .int) ct0_152) bd0_152 100000 = true := by decide +kernel
def cd_X10_grudge : kCd := [(0, .aload_n 0, 1), (1, .invokevirtual 309, 3), (4, .ifCond .ne 6, 3), (7, .bipush (-2), 2), (9, .ireturn, 1), (10, .iconst (-1), 1), (11, .istore_n 1, 1), (12, .aload_n 0, 1), (13, .invokevirtual 347, 3), (16, .istore_n 2, 1), (17, .iconst 0, 1), (18, .istore_n 3, 1), (19, .iload_n 3, 1), (20, .aload_n 0, 1), (21, .getfield 9, 3), (24, .bipush 8, 2), (26, .iaload, 1), (27, .if_icmp .ge 36, 3), (30, .aload_n 0, 1), (31, .iload_n 3, 1), (32, .putfield 255, 3), (35, .aload_n 0, 1), (36, .invokevirtual 306, 3), (39, .aload_n 0, 1), (40, .invokevirtual 347, 3), (43, .iload_n 2, 1), (44, .if_icmp .lt 6, 3), (47, .goto 10, 3), (50, .aload_n 0, 1), (51, .invokevirtual 347, 3), (54, .istore_n 2, 1), (55, .iload_n 3, 1), (56, .istore_n 1, 1), (57, .iinc 3 1, 3), (60, .goto (-41), 3), (63, .aload_n 0, 1), (64, .iconst (-1), 1), (65, .putfield 255, 3), (68, .iload_n 1, 1), (69, .ireturn, 1)]
def bd0_153 : kBd := (cd_X10_grudge, [(1, [107])], [], [])
theorem ok0_153 : kbody (kEof k0_tt k_aty k0_ct ow0_SilenceMatchModel 4 (some .int) ct0_153) bd0_153 100000 = true := by decide +kernel
def cd_X10_fits : kCd := [(0, .aload_n 0, 1), (1, .iload_n 1, 1), (2, .invokevirtual 403, 3), (5, .istore_n 2, 1), (6, .iload_n 2, 1), (7, .ifCond .ge 7, 3), (10, .iload_n 2, 1), (11, .goto 7, 3), (14, .aload_n 0, 1), (15, .getfield 400, 3), (18, .ireturn, 1)]
def bd0_154 : kBd := (cd_X10_fits, [(2, [110])], [], [])
theorem ok0_154 : kbody (kEof k0_tt k_aty k0_ct ow0_SilenceMatchModel 3 (some .int) ct0_154) bd0_154 100000 = true := by decide +kernel
def cd_X10_spots : kCd := [(0, .aload_n 0, 1), (1, .iload_n 1, 1), (2, .invokevirtual 403, 3), (5, .istore_n 2, 1), (6, .iload_n 2, 1), (7, .ifCond .ge 5, 3), (10, .iload_n 2, 1), (11, .ireturn, 1), (12, .iconst 0, 1), (13, .istore_n 3, 1), (14, .iconst 0, 1), (15, .istore 4, 2), (17, .iload 4, 2), (19, .aload_n 0, 1), (20, .getfield 400, 3), (23, .if_icmp .ge 24, 3), (26, .iload_n 3, 1), (27, .iconst 1, 1), (28, .aload_n 0, 1), (29, .getfield 58, 3), (32, .iload 4, 2), (34, .iaload, 1), (35, .bipush 20, 2), (37, .idiv, 1), (38, .ishl, 1), (39, .ior, 1), (40, .istore_n 3, 1), (41, .iinc 4 1, 3), (44, .goto (-27), 3), (47, .iload_n 3, 1), (48, .ireturn, 1)]
def bd0_155 : kBd := (cd_X10_spots, [(2, [110])], [], [])
theorem ok0_155 : kbody (kEof k0_tt k_aty k0_ct ow0_SilenceMatchModel 5 (some .int) ct0_155) bd0_155 100000 = true := by decide +kernel
def cd_X10_who : kCd := [(0, .aload_n 0, 1), (1, .iload_n 1, 1), (2, .invokevirtual 403, 3), (5, .istore_n 2, 1), (6, .iload_n 2, 1), (7, .ifCond .ge 5, 3), (10, .iload_n 2, 1), (11, .ireturn, 1), (12, .iconst 0, 1), (13, .istore_n 3, 1), (14, .iconst 0, 1), (15, .istore 4, 2), (17, .iload 4, 2), (19, .aload_n 0, 1), (20, .getfield 9, 3), (23, .iconst 5, 1), (24, .iaload, 1), (25, .if_icmp .ge 66, 3), (28, .iconst 0, 1), (29, .istore 5, 2), (31, .iload 5, 2), (33, .aload_n 0, 1), (34, .getfield 400, 3), (37, .if_icmp .ge 48, 3), (40, .iload_n 3, 1), (41, .aload_n 0, 1), (42, .getfield 58, 3), (45, .iload 5, 2), (47, .iaload, 1), (48, .bipush 20, 2), (50, .aload_n 0, 1), (51, .getfield 37, 3), (54, .iload 4, 2), (56, .iaload, 1), (57, .imul, 1), (58, .aload_n 0, 1), (59, .getfield 40, 3), (62, .iload 4, 2), (64, .iaload, 1), (65, .iadd, 1), (66, .if_icmp .ne 10, 3), (69, .iconst 1, 1), (70, .iload 4, 2), (72, .ishl, 1), (73, .goto 4, 3), (76, .iconst 0, 1), (77, .ior, 1), (78, .istore_n 3, 1), (79, .iinc 5 1, 3), (82, .goto (-51), 3), (85, .iinc 4 1, 3), (88, .goto (-71), 3), (91, .iload_n 3, 1), (92, .ireturn, 1)]
def bd0_156 : kBd := (cd_X10_who, [(2, [110])], [], [])
theorem ok0_156 : kbody (kEof k0_tt k_aty k0_ct ow0_SilenceMatchModel 6 (some .int) ct0_156) bd0_156 100000 = true := by decide +kernel
def cd_X10_ask : kCd := [(0, .aload_n 0, 1), (1, .iload_n 1, 1), (2, .invokevirtual 403, 3), (5, .istore_n 2, 1), (6, .iload_n 2, 1), (7, .ifCond .ge 7, 3), (10, .iload_n 2, 1), (11, .goto 7, 3), (14, .aload_n 0, 1), (15, .invokevirtual 409, 3), (18, .ireturn, 1)]
def bd0_157 : kBd := (cd_X10_ask, [(2, [110])], [], [])
theorem ok0_157 : kbody (kEof k0_tt k_aty k0_ct ow0_SilenceMatchModel 3 (some .int) ct0_157) bd0_157 100000 = true := by decide +kernel
def cd_X10_leaves : kCd := [(0, .aload_n 0, 1), (1, .iload_n 1, 1), (2, .invokevirtual 403, 3), (5, .istore_n 2, 1), (6, .iload_n 2, 1), (7, .ifCond .ge 5, 3), (10, .iload_n 2, 1), (11, .ireturn, 1), (12, .aload_n 0, 1), (13, .invokevirtual 409, 3), (16, .pop, 1), (17, .aload_n 0, 1), (18, .getfield 406, 3), (21, .ireturn, 1)]
def bd0_158 : kBd := (cd_X10_leaves, [(2, [110])], [], [])
theorem ok0_158 : kbody (kEof k0_tt k_aty k0_ct ow0_SilenceMatchModel 3 (some .int) ct0_158) bd0_158 100000 = true := by decide +kernel
def cd_X10_even : kCd := [(0, .aload_n 0, 1), (1, .invokevirtual 309, 3), (4, .ifCond .eq 13, 3), (7, .aload_n 0, 1), (8, .invokevirtual 412, 3), (11, .invokestatic 373, 3), (14, .goto 5, 3), (17, .bipush (-2), 2), (19, .ireturn, 1)]
def bd0_159 : kBd := (cd_X10_even, [(1, [107])], [], [])
theorem ok0_159 : kbody (kEof k0_tt k_aty k0_ct ow0_SilenceMatchModel 1 (some .int) ct0_159) bd0_159 100000 = true := by decide +kernel
def cd_X10_evens : kCd := [(0, .aload_n 0, 1), (1, .invokevirtual 309, 3), (4, .ifCond .eq 10, 3), (7, .aload_n 0, 1), (8, .invokevirtual 412, 3), (11, .goto 5, 3), (14, .bipush (-2), 2), (16, .ireturn, 1)]
def bd0_160 : kBd := (cd_X10_evens, [(1, [107])], [], [])
theorem ok0_160 : kbody (kEof k0_tt k_aty k0_ct ow0_SilenceMatchModel 1 (some .int) ct0_160) bd0_160 100000 = true := by decide +kernel
def cd_X10_without : kCd := [(0, .aload_n 0, 1), (1, .invokevirtual 309, 3), (4, .ifCond .eq 30, 3), (7, .iload_n 1, 1), (8, .i2l, 1), (9, .lconst 0, 1), (10, .iconst 1, 1), (11, .aload_n 0, 1), (12, .getfield 9, 3), (15, .iconst 5, 1), (16, .iaload, 1), (17, .ishl, 1), (18, .iconst 1, 1), (19, .isub, 1), (20, .i2l, 1), (21, .invokestatic 79, 3), (24, .ifCond .eq 10, 3), (27, .iload_n 2, 1), (28, .invokestatic 332, 3), (31, .ifCond .ne 6, 3), (34, .bipush (-2), 2), (36, .ireturn, 1), (37, .aload_n 0, 1), (38, .iload_n 1, 1), (39, .putfield 252, 3), (42, .aload_n 0, 1), (43, .invokevirtual 306, 3), (46, .aload_n 0, 1), (47, .iload_n 2, 1), (48, .aload_n 0, 1), (49, .getfield 258, 3), (52, .invokevirtual 335, 3), (55, .ireturn, 1)]
def bd0_161 : kBd := (cd_X10_without, [(1, [107])], [], [])
theorem ok0_161 : kbody (kEof k0_tt k_aty k0_ct ow0_SilenceMatchModel 3 (some .int) ct0_161) bd0_161 100000 = true := by decide +kernel
def cd_X10_drop : kCd := [(0, .aload_n 0, 1), (1, .invokevirtual 309, 3), (4, .ifCond .eq 10, 3), (7, .iload_n 1, 1), (8, .invokestatic 332, 3), (11, .ifCond .ne 6, 3), (14, .bipush (-2), 2), (16, .ireturn, 1), (17, .iconst (-1), 1), (18, .istore_n 2, 1), (19, .aload_n 0, 1), (20, .iload_n 1, 1), (21, .aload_n 0, 1), (22, .getfield 258, 3), (25, .invokevirtual 335, 3), (28, .istore_n 3, 1), (29, .iconst 0, 1), (30, .istore 4, 2), (32, .iload 4, 2), (34, .aload_n 0, 1), (35, .getfield 9, 3), (38, .iconst 5, 1), (39, .iaload, 1), (40, .if_icmp .ge 64, 3), (43, .aload_n 0, 1), (44, .iload 4, 2), (46, .iconst 0, 1), (47, .invokevirtual 249, 3), (50, .iload_n 1, 1), (51, .if_icmp .eq 6, 3), (54, .goto 44, 3), (57, .aload_n 0, 1), (58, .iconst 1, 1), (59, .iload 4, 2), (61, .ishl, 1), (62, .putfield 252, 3), (65, .aload_n 0, 1), (66, .invokevirtual 306, 3), (69, .aload_n 0, 1), (70, .iload_n 1, 1), (71, .aload_n 0, 1), (72, .getfield 258, 3), (75, .invokevirtual 335, 3), (78, .iload_n 3, 1), (79, .if_icmp .gt 6, 3), (82, .goto 16, 3), (85, .aload_n 0, 1), (86, .iload_n 1, 1), (87, .aload_n 0, 1), (88, .getfield 258, 3), (91, .invokevirtual 335, 3), (94, .istore_n 3, 1), (95, .iload 4, 2), (97, .istore_n 2, 1), (98, .iinc 4 1, 3), (101, .goto (-69), 3), (104, .iload_n 2, 1), (105, .ireturn, 1)]
def bd0_162 : kBd := (cd_X10_drop, [(1, [107])], [], [])
theorem ok0_162 : kbody (kEof k0_tt k_aty k0_ct ow0_SilenceMatchModel 5 (some .int) ct0_162) bd0_162 100000 = true := by decide +kernel
def cd_X10_chance : kCd := [(0, .aload_n 0, 1), (1, .invokevirtual 303, 3), (4, .aload_n 0, 1), (5, .iload_n 1, 1), (6, .invokevirtual 312, 3), (9, .ifCond .eq 13, 3), (12, .iload_n 2, 1), (13, .i2l, 1), (14, .lconst 0, 1), (15, .lconst 1, 1), (16, .invokestatic 79, 3), (19, .ifCond .ne 7, 3), (22, .ldc2_w 415, 3), (25, .lreturn, 1), (26, .aload_n 0, 1), (27, .iload_n 1, 1), (28, .aload_n 0, 1), (29, .getfield 258, 3), (32, .invokevirtual 417, 3), (35, .istore_n 3, 1), (36, .bipush 10, 2), (38, .aload_n 0, 1), (39, .getfield 9, 3), (42, .iconst 4, 1), (43, .iaload, 1), (44, .isub, 1), (45, .i2l, 1), (46, .iload_n 3, 1), (47, .invokestatic 420, 3), (50, .lstore 4, 2), (52, .ldc2_w 289, 3), (55, .iload_n 3, 1), (56, .invokestatic 420, 3), (59, .lstore 6, 2), (61, .iload_n 2, 1), (62, .ifCond .ne 8, 3), (65, .lload 4, 2), (67, .goto 5, 3), (70, .lload 6, 2), (72, .lload 4, 2), (74, .lload 6, 2), (76, .invokestatic 424, 3), (79, .ldiv, 1), (80, .lreturn, 1)]
def bd0_163 : kBd := (cd_X10_chance, [(1, [105]), (6, [97])], [], [])
theorem ok0_163 : kbody (kEof k0_tt k_aty k0_ct ow0_SilenceMatchModel 8 (some .long) ct0_163) bd0_163 100000 = true := by decide +kernel
def cd_X10_surest : kCd := [(0, .aload_n 0, 1), (1, .invokevirtual 303, 3), (4, .aload_n 0, 1), (5, .invokevirtual 221, 3), (8, .ifCond .eq 10, 3), (11, .iload_n 1, 1), (12, .invokestatic 332, 3), (15, .ifCond .ne 6, 3), (18, .bipush (-2), 2), (20, .ireturn, 1), (21, .iconst (-1), 1), (22, .istore_n 2, 1), (23, .iconst 0, 1), (24, .istore_n 3, 1), (25, .iload_n 3, 1), (26, .aload_n 0, 1), (27, .getfield 9, 3), (30, .iconst 5, 1), (31, .iaload, 1), (32, .if_icmp .ge 35, 3), (35, .aload_n 0, 1), (36, .iload_n 3, 1), (37, .iconst 0, 1), (38, .invokevirtual 249, 3), (41, .iload_n 1, 1), (42, .if_icmp .ne 19, 3), (45, .iload_n 2, 1), (46, .iconst (-1), 1), (47, .if_icmp .eq 12, 3), (50, .aload_n 0, 1), (51, .iload_n 3, 1), (52, .iload_n 2, 1), (53, .invokevirtual 428, 3), (56, .ifCond .eq 5, 3), (59, .iload_n 3, 1), (60, .istore_n 2, 1), (61, .iinc 3 1, 3), (64, .goto (-39), 3), (67, .iload_n 2, 1), (68, .ireturn, 1)]
def bd0_164 : kBd := (cd_X10_surest, [(1, [105]), (5, [94])], [], [])
theorem ok0_164 : kbody (kEof k0_tt k_aty k0_ct ow0_SilenceMatchModel 4 (some .int) ct0_164) bd0_164 100000 = true := by decide +kernel
def cd_X10_sure : kCd := [(0, .aload_n 0, 1), (1, .invokevirtual 303, 3), (4, .aload_n 0, 1), (5, .iload_n 1, 1), (6, .invokevirtual 312, 3), (9, .ifCond .eq 15, 3), (12, .iload_n 2, 1), (13, .i2l, 1), (14, .lconst 0, 1), (15, .ldc2_w 431, 3), (18, .invokestatic 79, 3), (21, .ifCond .ne 6, 3), (24, .bipush (-2), 2), (26, .ireturn, 1), (27, .aload_n 0, 1), (28, .getfield 258, 3), (31, .istore_n 3, 1), (32, .bipush 10, 2), (34, .aload_n 0, 1), (35, .getfield 9, 3), (38, .iconst 4, 1), (39, .iaload, 1), (40, .isub, 1), (41, .i2l, 1), (42, .aload_n 0, 1), (43, .iload_n 1, 1), (44, .iload_n 3, 1), (45, .invokevirtual 417, 3), (48, .invokestatic 420, 3), (51, .ldc2_w 431, 3), (54, .lmul, 1), (55, .iload_n 2, 1), (56, .i2l, 1), (57, .ldc2_w 289, 3), (60, .aload_n 0, 1), (61, .iload_n 1, 1), (62, .iload_n 3, 1), (63, .invokevirtual 417, 3), (66, .invokestatic 420, 3), (69, .lmul, 1), (70, .lcmp, 1), (71, .ifCond .ge 9, 3), (74, .iinc 3 (-1), 3), (77, .goto (-45), 3), (80, .iload_n 3, 1), (81, .ireturn, 1)]
def bd0_165 : kBd := (cd_X10_sure, [(1, [105]), (6, [97])], [], [])
theorem ok0_165 : kbody (kEof k0_tt k_aty k0_ct ow0_SilenceMatchModel 4 (some .int) ct0_165) bd0_165 100000 = true := by decide +kernel
def cd_X10_move : kCd := [(0, .aload_n 0, 1), (1, .invokevirtual 303, 3), (4, .aload_n 0, 1), (5, .iload_n 1, 1), (6, .invokevirtual 312, 3), (9, .ifCond .eq 30, 3), (12, .aload_n 0, 1), (13, .iload_n 2, 1), (14, .invokevirtual 230, 3), (17, .ifCond .eq 22, 3), (20, .aload_n 0, 1), (21, .bipush 100, 2), (23, .iload_n 1, 1), (24, .imul, 1), (25, .iload_n 2, 1), (26, .iadd, 1), (27, .aload_n 0, 1), (28, .getfield 37, 3), (31, .iload_n 1, 1), (32, .iaload, 1), (33, .invokevirtual 433, 3), (36, .goto 5, 3), (39, .bipush (-2), 2), (41, .ireturn, 1)]
def bd0_166 : kBd := (cd_X10_move, [(1, [105]), (6, [97])], [], [])
theorem ok0_166 : kbody (kEof k0_tt k_aty k0_ct ow0_SilenceMatchModel 3 (some .int) ct0_166) bd0_166 100000 = true := by decide +kernel
def cd_X10_lozenge : kCd := [(0, .aload_n 0, 1), (1, .invokevirtual 303, 3), (4, .aload_n 0, 1), (5, .iload_n 1, 1), (6, .invokevirtual 312, 3), (9, .ifCond .eq 38, 3), (12, .iload_n 2, 1), (13, .i2l, 1), (14, .lconst 0, 1), (15, .ldc2_w 224, 3), (18, .invokestatic 79, 3), (21, .ifCond .eq 26, 3), (24, .aload_n 0, 1), (25, .sipush 1000, 3), (28, .bipush 100, 2), (30, .iload_n 1, 1), (31, .imul, 1), (32, .iadd, 1), (33, .iload_n 2, 1), (34, .iadd, 1), (35, .aload_n 0, 1), (36, .getfield 40, 3), (39, .iload_n 1, 1), (40, .iaload, 1), (41, .invokevirtual 433, 3), (44, .goto 5, 3), (47, .bipush (-2), 2), (49, .ireturn, 1)]
def bd0_167 : kBd := (cd_X10_lozenge, [(1, [105]), (6, [97])], [], [])
theorem ok0_167 : kbody (kEof k0_tt k_aty k0_ct ow0_SilenceMatchModel 3 (some .int) ct0_167) bd0_167 100000 = true := by decide +kernel
def cd_X10_undo : kCd := [(0, .aload_n 0, 1), (1, .invokevirtual 221, 3), (4, .ifCond .ne 6, 3), (7, .bipush (-2), 2), (9, .ireturn, 1), (10, .aload_n 0, 1), (11, .getfield 9, 3), (14, .bipush 9, 2), (16, .iaload, 1), (17, .ifCond .ne 6, 3), (20, .bipush (-5), 2), (22, .ireturn, 1), (23, .aload_n 0, 1), (24, .getfield 9, 3), (27, .bipush 9, 2), (29, .dup2, 1), (30, .iaload, 1), (31, .iconst 1, 1), (32, .isub, 1), (33, .iastore, 1), (34, .aload_n 0, 1), (35, .getfield 9, 3), (38, .bipush 9, 2), (40, .iaload, 1), (41, .ireturn, 1)]
def bd0_168 : kBd := (cd_X10_undo, [(1, [94])], [], [])
theorem ok0_168 : kbody (kEof k0_tt k_aty k0_ct ow0_SilenceMatchModel 1 (some .int) ct0_168) bd0_168 100000 = true := by decide +kernel
def cd_X10_anew : kCd := [(0, .aload_n 0, 1), (1, .invokevirtual 221, 3), (4, .ifCond .ne 6, 3), (7, .bipush (-2), 2), (9, .ireturn, 1), (10, .aload_n 0, 1), (11, .getfield 9, 3), (14, .bipush 9, 2), (16, .iaload, 1), (17, .istore_n 1, 1), (18, .aload_n 0, 1), (19, .getfield 9, 3), (22, .bipush 9, 2), (24, .iconst 0, 1), (25, .iastore, 1), (26, .iload_n 1, 1), (27, .ireturn, 1)]
def bd0_169 : kBd := (cd_X10_anew, [(1, [94])], [], [])
theorem ok0_169 : kbody (kEof k0_tt k_aty k0_ct ow0_SilenceMatchModel 2 (some .int) ct0_169) bd0_169 100000 = true := by decide +kernel
def cd_X10_drawn : kCd := [(0, .aload_n 0, 1), (1, .invokevirtual 221, 3), (4, .ifCond .eq 22, 3), (7, .iload_n 1, 1), (8, .invokestatic 438, 3), (11, .ifCond .eq 15, 3), (14, .iload_n 2, 1), (15, .i2l, 1), (16, .lconst 0, 1), (17, .ldc2_w 77, 3), (20, .invokestatic 79, 3), (23, .ifCond .ne 6, 3), (26, .bipush (-2), 2), (28, .ireturn, 1), (29, .aload_n 0, 1), (30, .iload_n 1, 1), (31, .i2l, 1), (32, .invokevirtual 441, 3), (35, .iload_n 2, 1), (36, .ifCond .eq 20, 3), (39, .iload_n 2, 1), (40, .iconst 1, 1), (41, .if_icmp .ne 10, 3), (44, .aload_n 0, 1), (45, .invokevirtual 341, 3), (48, .goto 7, 3), (51, .aload_n 0, 1), (52, .getfield 284, 3), (55, .ireturn, 1), (56, .iconst 0, 1), (57, .istore_n 3, 1), (58, .iconst 0, 1), (59, .istore 4, 2), (61, .iload 4, 2), (63, .aload_n 0, 1), (64, .getfield 9, 3), (67, .iconst 5, 1), (68, .iaload, 1), (69, .if_icmp .ge 31, 3), (72, .iload_n 3, 1), (73, .aload_n 0, 1), (74, .getfield 43, 3), (77, .iload 4, 2), (79, .iaload, 1), (80, .iconst (-1), 1), (81, .if_icmp .ne 7, 3), (84, .iconst 0, 1), (85, .goto 7, 3), (88, .iconst 1, 1), (89, .iload 4, 2), (91, .ishl, 1), (92, .ior, 1), (93, .istore_n 3, 1), (94, .iinc 4 1, 3), (97, .goto (-36), 3), (100, .iload_n 3, 1), (101, .ireturn, 1)]
def bd0_170 : kBd := (cd_X10_drawn, [(1, [94])], [], [])
theorem ok0_170 : kbody (kEof k0_tt k_aty k0_ct ow0_SilenceMatchModel 5 (some .int) ct0_170) bd0_170 100000 = true := by decide +kernel
def cd_X10_luck : kCd := [(0, .iload_n 1, 1), (1, .invokestatic 438, 3), (4, .ifCond .eq 23, 3), (7, .iload_n 2, 1), (8, .i2l, 1), (9, .lconst 1, 1), (10, .ldc2_w 445, 3), (13, .invokestatic 79, 3), (16, .ifCond .eq 11, 3), (19, .aload_n 0, 1), (20, .iload_n 3, 1), (21, .invokevirtual 312, 3), (24, .ifCond .ne 6, 3), (27, .bipush (-2), 2), (29, .ireturn, 1), (30, .iconst 0, 1), (31, .istore 4, 2), (33, .iconst 0, 1), (34, .istore 5, 2), (36, .iload 5, 2), (38, .iload_n 2, 1), (39, .if_icmp .ge 39, 3), (42, .aload_n 0, 1), (43, .iload_n 1, 1), (44, .i2l, 1), (45, .iload 5, 2), (47, .i2l, 1), (48, .ladd, 1), (49, .invokevirtual 441, 3), (52, .iload 4, 2), (54, .aload_n 0, 1), (55, .getfield 43, 3), (58, .iload_n 3, 1), (59, .iaload, 1), (60, .iconst (-1), 1), (61, .if_icmp .ne 7, 3), (64, .iconst 1, 1), (65, .goto 4, 3), (68, .iconst 0, 1), (69, .iadd, 1), (70, .istore 4, 2), (72, .iinc 5 1, 3), (75, .goto (-39), 3), (78, .iload 4, 2), (80, .ireturn, 1)]
def bd0_171 : kBd := (cd_X10_luck, [(1, [91]), (13, [88]), (21, [97])], [], [])
theorem ok0_171 : kbody (kEof k0_tt k_aty k0_ct ow0_SilenceMatchModel 6 (some .int) ct0_171) bd0_171 100000 = true := by decide +kernel
def cd_X10_bell : kCd := [(0, .aload_n 0, 1), (1, .invokevirtual 221, 3), (4, .ifCond .eq 15, 3), (7, .iload_n 1, 1), (8, .i2l, 1), (9, .lconst 1, 1), (10, .ldc2_w 234, 3), (13, .invokestatic 79, 3), (16, .ifCond .ne 6, 3), (19, .bipush (-2), 2), (21, .ireturn, 1), (22, .aload_n 0, 1), (23, .getfield 9, 3), (26, .bipush 9, 2), (28, .iaload, 1), (29, .ifCond .le 6, 3), (32, .bipush (-5), 2), (34, .ireturn, 1), (35, .aload_n 0, 1), (36, .getfield 9, 3), (39, .iconst 2, 1), (40, .iaload, 1), (41, .istore_n 2, 1), (42, .aload_n 0, 1), (43, .getfield 9, 3), (46, .iconst 2, 1), (47, .iload_n 1, 1), (48, .iastore, 1), (49, .iload_n 2, 1), (50, .ireturn, 1)]
def bd0_172 : kBd := (cd_X10_bell, [(1, [94])], [], [])
theorem ok0_172 : kbody (kEof k0_tt k_aty k0_ct ow0_SilenceMatchModel 3 (some .int) ct0_172) bd0_172 100000 = true := by decide +kernel
def cd_X10_count : kCd := [(0, .iload_n 1, 1), (1, .i2l, 1), (2, .lconst 0, 1), (3, .ldc2_w 318, 3), (6, .invokestatic 79, 3), (9, .ifCond .eq 10, 3), (12, .aload_n 0, 1), (13, .getfield 9, 3), (16, .iload_n 1, 1), (17, .iaload, 1), (18, .ireturn, 1), (19, .iload_n 1, 1), (20, .iconst 5, 1), (21, .if_icmp .ne 8, 3), (24, .aload_n 0, 1), (25, .invokevirtual 83, 3), (28, .ireturn, 1), (29, .iload_n 1, 1), (30, .i2l, 1), (31, .ldc2_w 447, 3), (34, .ldc2_w 449, 3), (37, .invokestatic 79, 3), (40, .ifCond .eq 12, 3), (43, .aload_n 0, 1), (44, .getfield 9, 3), (47, .iload_n 1, 1), (48, .iconst 1, 1), (49, .isub, 1), (50, .iaload, 1), (51, .ireturn, 1), (52, .iload_n 1, 1), (53, .bipush 12, 2), (55, .if_icmp .ne 8, 3), (58, .aload_n 0, 1), (59, .getfield 87, 3), (62, .ireturn, 1), (63, .iload_n 1, 1), (64, .bipush 13, 2), (66, .if_icmp .eq 5, 3), (69, .iconst (-1), 1), (70, .ireturn, 1), (71, .iconst 0, 1), (72, .istore_n 2, 1), (73, .iconst 0, 1), (74, .istore_n 3, 1), (75, .iload_n 3, 1), (76, .iconst 4, 1), (77, .if_icmp .ge 27, 3), (80, .iload_n 2, 1), (81, .aload_n 0, 1), (82, .getfield 61, 3), (85, .iload_n 3, 1), (86, .iaload, 1), (87, .iconst (-1), 1), (88, .if_icmp .ne 7, 3), (91, .iconst 0, 1), (92, .goto 4, 3), (95, .iconst 1, 1), (96, .iadd, 1), (97, .istore_n 2, 1), (98, .iinc 3 1, 3), (101, .goto (-26), 3), (104, .iload_n 2, 1), (105, .ireturn, 1)]
def bd0_173 : kBd := (cd_X10_count, [(6, [88]), (25, [95]), (37, [88])], [], [(75, (([((.ofNat 13), (.ofNat 13)), ((.ofNat 0), (.ofNat 0)), ((.ofNat 0), (.ofNat 4))], [36], [(0, (.inr (.inr (.inl 0)))), (1, (.inl ([(0, (.ofNat 1))], (.ofNat 0)))), (2, (.inl ([(1, (.ofNat 1))], (.ofNat 0)))), (3, (.inl ([(2, (.ofNat 1))], (.ofNat 0))))], [], [], []), [(0, 2, ([], (.ofNat 0)), (.ofNat 1), (.ofNat 0)), (0, 3, ([], (.ofNat 0)), (.ofNat 1), (.ofNat 0))]), ([(2, (.negSucc 0))], (.ofNat 4)))])
theorem ok0_173 : kbody (kEof k0_tt k_aty k0_ct ow0_SilenceMatchModel 4 (some .int) ct0_173) bd0_173 100000 = true := by decide +kernel
def cd_X10_back : kCd := [(0, .iload_n 1, 1), (1, .i2l, 1), (2, .lconst 0, 1), (3, .ldc2_w 77, 3), (6, .invokestatic 79, 3), (9, .ifCond .ne 6, 3), (12, .bipush (-2), 2), (14, .ireturn, 1), (15, .aload_n 0, 1), (16, .getfield 16, 3), (19, .iload_n 1, 1), (20, .baload, 1), (21, .ifCond .ne 6, 3), (24, .bipush (-6), 2), (26, .ireturn, 1), (27, .iconst 0, 1), (28, .istore_n 2, 1), (29, .iload_n 2, 1), (30, .bipush 115, 2), (32, .if_icmp .ge 26, 3), (35, .aload_n 0, 1), (36, .getfield 9, 3), (39, .iload_n 2, 1), (40, .aload_n 0, 1), (41, .getfield 13, 3), (44, .bipush 115, 2), (46, .iload_n 1, 1), (47, .imul, 1), (48, .iload_n 2, 1), (49, .iadd, 1), (50, .iaload, 1), (51, .iastore, 1), (52, .iinc 2 1, 3), (55, .goto (-26), 3), (58, .iconst 0, 1), (59, .ireturn, 1)]
def bd0_174 : kBd := (cd_X10_back, [(6, [88])], [], [])
theorem ok0_174 : kbody (kEof k0_tt k_aty k0_ct ow0_SilenceMatchModel 3 (some .int) ct0_174) bd0_174 100000 = true := by decide +kernel
def cd_X10_write : kCd := [(0, .iload_n 1, 1), (1, .invokestatic 393, 3), (4, .ifCond .ne 6, 3), (7, .bipush (-2), 2), (9, .ireturn, 1), (10, .aload_n 0, 1), (11, .getfield 61, 3), (14, .iload_n 1, 1), (15, .iaload, 1), (16, .iconst (-1), 1), (17, .if_icmp .ne 6, 3), (20, .bipush (-6), 2), (22, .ireturn, 1), (23, .iload_n 2, 1), (24, .i2l, 1), (25, .lconst 0, 1), (26, .aload_n 0, 1), (27, .getfield 61, 3), (30, .iload_n 1, 1), (31, .iaload, 1), (32, .iconst 1, 1), (33, .isub, 1), (34, .i2l, 1), (35, .invokestatic 79, 3), (38, .ifCond .ne 6, 3), (41, .bipush (-7), 2), (43, .ireturn, 1), (44, .aload_n 0, 1), (45, .getfield 67, 3), (48, .bipush 60, 2), (50, .iload_n 1, 1), (51, .imul, 1), (52, .iload_n 2, 1), (53, .iadd, 1), (54, .lload_n 3, 1), (55, .aload_n 0, 1), (56, .getfield 64, 3), (59, .iload_n 1, 1), (60, .iaload, 1), (61, .invokestatic 453, 3), (64, .lastore, 1), (65, .iconst 0, 1), (66, .ireturn, 1)]
def bd0_175 : kBd := (cd_X10_write, [(1, [90])], [], [])
theorem ok0_175 : kbody (kEof k0_tt k_aty k0_ct ow0_SilenceMatchModel 5 (some .int) ct0_175) bd0_175 100000 = true := by decide +kernel
def cd_X10_paste : kCd := [(0, .iload_n 1, 1), (1, .invokestatic 393, 3), (4, .ifCond .eq 10, 3), (7, .iload_n 3, 1), (8, .invokestatic 393, 3), (11, .ifCond .ne 6, 3), (14, .bipush (-2), 2), (16, .ireturn, 1), (17, .aload_n 0, 1), (18, .getfield 61, 3), (21, .iload_n 1, 1), (22, .iaload, 1), (23, .iconst (-1), 1), (24, .if_icmp .eq 13, 3), (27, .aload_n 0, 1), (28, .getfield 61, 3), (31, .iload_n 3, 1), (32, .iaload, 1), (33, .iconst (-1), 1), (34, .if_icmp .ne 6, 3), (37, .bipush (-6), 2), (39, .ireturn, 1), (40, .aload_n 0, 1), (41, .getfield 64, 3), (44, .iload_n 1, 1), (45, .iaload, 1), (46, .aload_n 0, 1), (47, .getfield 64, 3), (50, .iload_n 3, 1), (51, .iaload, 1), (52, .if_icmp .eq 6, 3), (55, .bipush (-8), 2), (57, .ireturn, 1), (58, .iload_n 2, 1), (59, .ifCond .lt 48, 3), (62, .iload 4, 2), (64, .ifCond .lt 43, 3), (67, .iload 5, 2), (69, .ifCond .lt 38, 3), (72, .iload_n 2, 1), (73, .i2l, 1), (74, .iload 5, 2), (76, .i2l, 1), (77, .ladd, 1), (78, .aload_n 0, 1), (79, .getfield 61, 3), (82, .iload_n 1, 1), (83, .iaload, 1), (84, .i2l, 1), (85, .lcmp, 1), (86, .ifCond .gt 21, 3), (89, .iload 4, 2), (91, .i2l, 1), (92, .iload 5, 2), (94, .i2l, 1), (95, .ladd, 1), (96, .aload_n 0, 1), (97, .getfield 61, 3), (100, .iload_n 3, 1), (101, .iaload, 1), (102, .i2l, 1), (103, .lcmp, 1), (104, .ifCond .le 6, 3), (107, .bipush (-7), 2), (109, .ireturn, 1), (110, .iconst 0, 1), (111, .istore 6, 2), (113, .iload 6, 2), (115, .iload 5, 2), (117, .if_icmp .ge 30, 3), (120, .aload_n 0, 1), (121, .getfield 71, 3), (124, .iload 6, 2), (126, .aload_n 0, 1), (127, .getfield 67, 3), (130, .bipush 60, 2), (132, .iload_n 1, 1), (133, .imul, 1), (134, .iload_n 2, 1), (135, .iadd, 1), (136, .iload 6, 2), (138, .iadd, 1), (139, .laload, 1), (140, .lastore, 1), (141, .iinc 6 1, 3), (144, .goto (-31), 3), (147, .iconst 0, 1), (148, .istore 6, 2), (150, .iload 6, 2), (152, .iload 5, 2), (154, .if_icmp .ge 31, 3), (157, .aload_n 0, 1), (158, .getfield 67, 3), (161, .bipush 60, 2), (163, .iload_n 3, 1), (164, .imul, 1), (165, .iload 4, 2), (167, .iadd, 1), (168, .iload 6, 2), (170, .iadd, 1), (171, .aload_n 0, 1), (172, .getfield 71, 3), (175, .iload 6, 2), (177, .laload, 1), (178, .lastore, 1), (179, .iinc 6 1, 3), (182, .goto (-32), 3), (185, .iconst 0, 1), (186, .ireturn, 1)]
def bd0_176 : kBd := (cd_X10_paste, [(1, [90]), (8, [90])], [], [])
theorem ok0_176 : kbody (kEof k0_tt k_aty k0_ct ow0_SilenceMatchModel 7 (some .int) ct0_176) bd0_176 100000 = true := by decide +kernel
end
section
/-! TABLES 1 (printed by wip/p1/gen): types of cells, contracts, pools -/
def k1_tt : List kT := [(9, 13, [(0, 1, 1, (.inr (.inr 1))), (1, 1, 1, (.inr (.inr 3))), (2, 1, 1, (.inr (.inr 4))), (3, 1, 1, (.inr (.inr 4))), (4, 1, 1, (.inr (.inr 4))), (5, 1, 1, (.inr (.inr 60))), (6, 1, 1, (.inr (.inr 19))), (7, 1, 1, (.inr (.inr 25))), (8, 1, 1, (.inr (.inr 28))), (9, 1, 1, (.inr (.inr 32))), (10, 1, 1, (.inr (.inr 33))), (11, 1, 1, (.inr (.inr 34))), (12, 1, 1, (.inr (.inr 35)))], []), (8, 2, [(0, 1, 1, (.inr (.inr 2))), (1, 1, 1, (.inl [((.ofNat 0), (.ofNat 900))]))], []), (100, 900, [(0, 1, 900, (.inl [((.ofNat 0), (.ofNat 255))]))], []), (6, 6, [(0, 1, 1, (.inl [((.ofNat 0), (.ofNat 0))])), (1, 1, 1, (.inl [((.negSucc 0), (.negSucc 0))])), (2, 1, 1, (.inr (.inr 1))), (3, 1, 1, (.inl [((.ofNat 0), (.ofNat 0))])), (4, 1, 1, (.inl [((.ofNat 0), (.ofNat 0))])), (5, 1, 1, (.inl [((.ofNat 0), (.ofNat 0))]))], []), (3, 20, [(0, 1, 1, (.inl [((.ofNat 0), (.ofNat 0))])), (1, 1, 1, (.inl [((.ofNat 0), (.ofNat 0))])), (2, 1, 1, (.inl [((.ofNat 0), (.ofNat 0))])), (3, 1, 1, (.inl [((.ofNat 0), (.ofNat 0))])), (4, 1, 1, (.inl [((.ofNat 0), (.ofNat 0))])), (5, 1, 1, (.inl [((.ofNat 0), (.ofNat 0))])), (6, 1, 1, (.inl [((.ofNat 0), (.ofNat 0))])), (7, 1, 1, (.inl [((.ofNat 0), (.ofNat 0))])), (8, 1, 1, (.inl [((.ofNat 0), (.ofNat 0))])), (9, 1, 1, (.inl [((.ofNat 0), (.ofNat 0))])), (10, 1, 1, (.inr (.inr 5))), (11, 1, 1, (.inr (.inr 6))), (12, 1, 1, (.inr (.inr 7))), (13, 1, 1, (.inr (.inr 8))), (14, 1, 1, (.inr (.inr 9))), (15, 1, 1, (.inr (.inr 10))), (16, 1, 1, (.inr (.inr 11))), (17, 1, 1, (.inr (.inr 16))), (18, 1, 1, (.inr (.inr 17))), (19, 1, 1, (.inr (.inr 18)))], []), (100, 8, [(0, 1, 8, (.inl [((.ofNat 0), (.ofNat 0))]))], []), (100, 8, [(0, 1, 8, (.inl [((.ofNat 0), (.ofNat 0))]))], []), (100, 8, [(0, 1, 8, (.inl [((.ofNat 0), (.ofNat 0))]))], []), (100, 8, [(0, 1, 8, (.inl [((.ofNat 0), (.ofNat 0))]))], []), (100, 4, [(0, 1, 4, (.inl [((.ofNat 0), (.ofNat 0))]))], []), (100, 4, [(0, 1, 4, (.inl [((.ofNat 0), (.ofNat 0))]))], []), (100, 3, [(0, 1, 3, (.inl [((.ofNat 0), (.ofNat 0))]))], []), (100, 1, [(0, 1, 1, (.inl [((.ofNat 0), (.ofNat 0))]))], []), (100, 1, [(0, 1, 1, (.inl [((.ofNat 0), (.ofNat 0))]))], []), (100, 1, [(0, 1, 1, (.inl [((.ofNat 0), (.ofNat 0))]))], []), (100, 1, [(0, 1, 1, (.inl [((.ofNat 0), (.ofNat 0))]))], []), (100, 3, [(0, 1, 3, (.inl [((.ofNat 0), (.ofNat 0))]))], []), (100, 9, [(0, 1, 9, (.inl [((.ofNat 0), (.ofNat 0))]))], []), (100, 9, [(0, 1, 9, (.inl [((.ofNat 0), (.ofNat 0))]))], []), (5, 9, [(0, 1, 1, (.inr (.inr 20))), (1, 1, 1, (.inr (.inr 21))), (2, 1, 1, (.inr (.inr 22))), (3, 1, 1, (.inr (.inr 23))), (4, 1, 1, (.inr (.inr 24))), (5, 1, 1, (.inl [((.ofNat 0), (.ofNat 0))])), (6, 1, 1, (.inl [((.ofNat 0), (.ofNat 0))])), (7, 1, 1, (.inl [((.ofNat 0), (.ofNat 0))])), (8, 1, 1, (.inl [((.ofNat 0), (.ofNat 0))]))], []), (100, 61, [(0, 1, 61, (.inl [((.ofNat 0), (.ofNat 0))]))], []), (101, 61, [(0, 1, 61, (.inl [((.ofNat 0), (.ofNat 0))]))], []), (100, 61, [(0, 1, 61, (.inl [((.ofNat 0), (.ofNat 0))]))], []), (100, 61, [(0, 1, 61, (.inl [((.ofNat 0), (.ofNat 0))]))], []), (2, 4, [(0, 1, 1, (.inl [((.ofNat 0), (.ofNat 0))])), (1, 1, 1, (.inl [((.ofNat 0), (.ofNat 0))])), (2, 1, 1, (.inr (.inl [((.ofNat 0), (.ofNat 0))]))), (3, 1, 1, (.inl [((.ofNat 0), (.ofNat 0))]))], []), (1, 5, [(0, 1, 1, (.inr (.inr 26))), (1, 1, 1, (.inl [((.ofNat 0), (.ofNat 0))])), (2, 1, 1, (.inr (.inr 27))), (3, 1, 1, (.inl [((.ofNat 0), (.ofNat 0))])), (4, 1, 1, (.inl [((.ofNat 0), (.ofNat 0))]))], []), (100, 20, [(0, 1, 20, (.inl [((.ofNat 0), (.ofNat 0))]))], []), (100, 20, [(0, 1, 20, (.inl [((.ofNat 0), (.ofNat 0))]))], []), (4, 1, [(0, 1, 1, (.inr (.inr 29)))], []), (100, 13, [(0, 1, 13, (.inl [((.ofNat 0), (.ofNat 0))]))], []), (7, 3, [(0, 1, 1, (.inl [((.negSucc 0), (.ofNat 3))])), (1, 1, 1, (.inl [((.ofNat 0), (.ofNat 60))])), (2, 1, 1, (.inr (.inr 31)))], []), (103, 60, [(0, 1, 60, (.inr (.inl [((.ofNat 0), (.ofNat 0))])))], []), (104, 4, [(0, 1, 4, (.inr (.inr 30)))], []), (105, 3, [(0, 1, 3, (.inr (.inr 4)))], []), (106, 3, [(0, 1, 3, (.inr (.inr 60)))], []), (101, 3, [(0, 1, 3, (.inl [((.ofNat 0), (.ofNat 1))]))], []), (10, 38, [(0, 1, 1, (.inl [((.ofNat 0), (.ofNat 0))])), (1, 1, 1, (.inr (.inr 37))), (2, 1, 1, (.inr (.inr 38))), (3, 1, 1, (.inr (.inr 39))), (4, 1, 1, (.inr (.inr 40))), (5, 1, 1, (.inl [((.ofNat 0), (.ofNat 900))])), (6, 1, 1, (.inr (.inr 41))), (7, 1, 1, (.inl [((.ofNat 0), (.ofNat 0))])), (8, 1, 1, (.inl [((.ofNat 0), (.ofNat 0))])), (9, 1, 1, (.inl [((.ofNat 0), (.ofNat 0))])), (10, 1, 1, (.inl [((.ofNat 0), (.ofNat 0))])), (11, 1, 1, (.inl [((.ofNat 0), (.ofNat 0))])), (12, 1, 1, (.inl [((.ofNat 0), (.ofNat 0))])), (13, 1, 1, (.inl [((.negSucc 0), (.negSucc 0))])), (14, 1, 1, (.inr (.inr 42))), (15, 1, 1, (.inl [((.negSucc 0), (.negSucc 0))])), (16, 1, 1, (.inr (.inr 43))), (17, 1, 1, (.inr (.inr 44))), (18, 1, 1, (.inr (.inr 45))), (19, 1, 1, (.inr (.inr 46))), (20, 1, 1, (.inl [((.ofNat 0), (.ofNat 0))])), (21, 1, 1, (.inl [((.negSucc 0), (.ofNat 0))])), (22, 1, 1, (.inl [((.ofNat 0), (.ofNat 0))])), (23, 1, 1, (.inr (.inl [((.ofNat 0), (.ofNat 0))]))), (24, 1, 1, (.inl [((.ofNat 0), (.ofNat 0))])), (25, 1, 1, (.inl [((.ofNat 0), (.ofNat 0))])), (26, 1, 1, (.inl [((.ofNat 0), (.ofNat 0))])), (27, 1, 1, (.inl [((.ofNat 0), (.ofNat 0))])), (28, 1, 1, (.inr (.inr 47))), (29, 1, 1, (.inr (.inr 48))), (30, 1, 1, (.inr (.inr 49))), (31, 1, 1, (.inr (.inr 50))), (32, 1, 1, (.inl [((.ofNat 0), (.ofNat 0))])), (33, 1, 1, (.inl [((.ofNat 0), (.ofNat 0))])), (34, 1, 1, (.inr (.inr 51))), (35, 1, 1, (.inr (.inr 52))), (36, 1, 1, (.inr (.inr 53))), (37, 1, 1, (.inr (.inr 54)))], []), (100, 115, [(0, 1, 115, (.inl [((.ofNat 0), (.ofNat 0))]))], []), (100, 345, [(0, 1, 345, (.inl [((.ofNat 0), (.ofNat 0))]))], []), (101, 3, [(0, 1, 3, (.inl [((.ofNat 0), (.ofNat 1))]))], []), (102, 900, [(0, 1, 900, (.inl [((.negSucc 127), (.ofNat 127))]))], []), (100, 5, [(0, 1, 5, (.inl [((.negSucc 2147483647), (.ofNat 2147483647))]))], []), (100, 115, [(0, 1, 115, (.inl [((.ofNat 0), (.ofNat 0))]))], []), (100, 8, [(0, 1, 8, (.inl [((.ofNat 0), (.ofNat 0))]))], []), (100, 8, [(0, 1, 8, (.inl [((.ofNat 0), (.ofNat 0))]))], []), (100, 8, [(0, 1, 8, (.inl [((.negSucc 0), (.ofNat 0))]))], []), (100, 8, [(0, 1, 8, (.inl [((.negSucc 0), (.ofNat 0))]))], []), (100, 20, [(0, 1, 20, (.inl [((.ofNat 0), (.ofNat 0))]))], []), (100, 20, [(0, 1, 20, (.inl [((.ofNat 0), (.ofNat 0))]))], []), (100, 21, [(0, 1, 21, (.inl [((.ofNat 0), (.ofNat 0))]))], []), (100, 240, [(0, 1, 240, (.inl [((.ofNat 0), (.ofNat 0))]))], []), (100, 4, [(0, 1, 4, (.inl [((.negSucc 0), (.ofNat 60))]))], []), (100, 4, [(0, 1, 4, (.inl [((.ofNat 0), (.ofNat 3))]))], []), (103, 240, [(0, 1, 240, (.inr (.inl [((.ofNat 0), (.ofNat 0))])))], []), (103, 60, [(0, 1, 60, (.inr (.inl [((.ofNat 0), (.ofNat 0))])))], []), (100, 1, [(0, 1, 1, (.inl [((.ofNat 0), (.ofNat 0))]))], []), (100, 1, [(0, 1, 1, (.inl [((.ofNat 0), (.ofNat 0))]))], []), (100, 1, [(0, 1, 1, (.inl [((.ofNat 0), (.ofNat 0))]))], []), (100, 1, [(0, 1, 1, (.inl [((.ofNat 0), (.ofNat 0))]))], []), (100, 1, [(0, 1, 1, (.inl [((.ofNat 0), (.ofNat 0))]))], []), (0, 4, [(0, 1, 1, (.inl [((.ofNat 0), (.ofNat 0))])), (1, 1, 1, (.inr (.inr 61))), (2, 1, 1, (.inr (.inr 62))), (3, 1, 1, (.inr (.inr 63)))], []), (101, 40, [(0, 1, 40, (.inl [((.ofNat 0), (.ofNat 0))]))], []), (100, 40, [(0, 1, 40, (.inl [((.ofNat 0), (.ofNat 0))]))], []), (100, 40, [(0, 1, 40, (.inl [((.ofNat 0), (.ofNat 0))]))], [])]
def ct1_0 : kCt := (0, ([((.negSucc 2147483647), (.ofNat 2147483647))], [], [(0, (.inl ([(0, (.ofNat 1))], (.ofNat 0))))], [], [], []), [(0, 0, ([], (.ofNat 0)), (.ofNat 1), (.ofNat 0))], [([], [], some (.inl ([], (.ofNat 0))), [], [([(0, (.negSucc 0))], (.negSucc 0))], []), ([], [], some (.inl ([], (.ofNat 0))), [], [([(0, (.ofNat 1))], (.negSucc 3))], []), ([], [], some (.inl ([], (.ofNat 1))), [], [([(0, (.ofNat 1))], (.ofNat 0)), ([(0, (.negSucc 0))], (.ofNat 3))], [])], [], 0)
def ct1_1 : kCt := (1, ([((.negSucc 2147483647), (.ofNat 2147483647))], [], [(0, (.inl ([(0, (.ofNat 1))], (.ofNat 0))))], [], [], []), [(0, 0, ([], (.ofNat 0)), (.ofNat 1), (.ofNat 0))], [([], [], some (.inl ([], (.ofNat 0))), [], [([(0, (.negSucc 0))], (.negSucc 0))], []), ([], [], some (.inl ([], (.ofNat 0))), [], [([(0, (.ofNat 1))], (.negSucc 2))], []), ([], [], some (.inl ([], (.ofNat 1))), [], [([(0, (.ofNat 1))], (.ofNat 0)), ([(0, (.negSucc 0))], (.ofNat 2))], [])], [], 0)
def ct1_2 : kCt := (2, ([], [4, 4], [(0, (.inr (.inr (.inl 0)))), (1, (.inr (.inr (.inl 1))))], [], [], []), [(0, 0, ([], (.ofNat 0)), (.ofNat 1), (.ofNat 0)), (0, 1, ([], (.ofNat 0)), (.ofNat 1), (.ofNat 0))], [([], [], none, [], [], [])], [(4, some 0), (4, some 1), (4, some 2), (4, some 3), (4, some 4), (4, some 5), (4, some 6), (4, some 7), (4, some 8), (4, some 9), (5, none), (6, none), (7, none), (8, none), (9, none), (10, none), (11, none), (16, none), (17, none), (18, none)], 1)
def ct1_3 : kCt := (3, ([], [60, 60], [(0, (.inr (.inr (.inl 0)))), (1, (.inr (.inr (.inl 1))))], [], [], []), [(0, 0, ([], (.ofNat 0)), (.ofNat 1), (.ofNat 0)), (0, 1, ([], (.ofNat 0)), (.ofNat 1), (.ofNat 0))], [([], [], none, [], [], [])], [(60, some 0), (61, none), (62, none), (63, none)], 1)
def ct1_4 : kCt := (4, ([((.ofNat 0), (.ofNat 3)), ((.ofNat 0), (.ofNat 60))], [30], [(0, (.inr (.inr (.inl 0)))), (1, (.inl ([(0, (.ofNat 1))], (.ofNat 0)))), (2, (.inl ([(1, (.ofNat 1))], (.ofNat 0))))], [], [], []), [(0, 0, ([], (.ofNat 0)), (.ofNat 1), (.ofNat 0)), (0, 1, ([], (.ofNat 0)), (.ofNat 1), (.ofNat 0)), (0, 2, ([], (.ofNat 0)), (.ofNat 1), (.ofNat 0))], [([], [], none, [], [], [])], [(30, some 0), (30, some 1), (31, none)], 0)
def ct1_5 : kCt := (5, ([((.negSucc 2147483647), (.ofNat 2147483647))], [1], [(0, (.inr (.inr (.inl 0)))), (1, (.inl ([(0, (.ofNat 1))], (.ofNat 0))))], [], [(0, ([], (.ofNat 1)), (.inl ([], (.ofNat 16))))], []), [(0, 0, ([], (.ofNat 0)), (.ofNat 1), (.ofNat 0)), (0, 1, ([], (.ofNat 0)), (.ofNat 1), (.ofNat 0))], [([], [], none, [(0, ([], (.ofNat 1)), (.inl ([], (.ofNat 20))))], [], [])], [(1, some 1), (2, none)], 0)
def ct1_6 : kCt := (5, ([((.negSucc 2147483647), (.ofNat 2147483647))], [1], [(0, (.inr (.inr (.inl 0)))), (1, (.inl ([(0, (.ofNat 1))], (.ofNat 0))))], [], [(0, ([], (.ofNat 1)), (.inl ([], (.ofNat 12))))], []), [(0, 0, ([], (.ofNat 0)), (.ofNat 1), (.ofNat 0)), (0, 1, ([], (.ofNat 0)), (.ofNat 1), (.ofNat 0))], [([], [], none, [(0, ([], (.ofNat 1)), (.inl ([], (.ofNat 16))))], [], [])], [(1, some 1), (2, none)], 0)
def ct1_7 : kCt := (5, ([((.negSucc 2147483647), (.ofNat 2147483647))], [1], [(0, (.inr (.inr (.inl 0)))), (1, (.inl ([(0, (.ofNat 1))], (.ofNat 0))))], [], [(0, ([], (.ofNat 1)), (.inl ([], (.ofNat 8))))], []), [(0, 0, ([], (.ofNat 0)), (.ofNat 1), (.ofNat 0)), (0, 1, ([], (.ofNat 0)), (.ofNat 1), (.ofNat 0))], [([], [], none, [(0, ([], (.ofNat 1)), (.inl ([], (.ofNat 12))))], [], [])], [(1, some 1), (2, none)], 0)
def ct1_8 : kCt := (5, ([((.negSucc 2147483647), (.ofNat 2147483647))], [1], [(0, (.inr (.inr (.inl 0)))), (1, (.inl ([(0, (.ofNat 1))], (.ofNat 0))))], [], [(0, ([], (.ofNat 1)), (.inl ([], (.ofNat 4))))], []), [(0, 0, ([], (.ofNat 0)), (.ofNat 1), (.ofNat 0)), (0, 1, ([], (.ofNat 0)), (.ofNat 1), (.ofNat 0))], [([], [], none, [(0, ([], (.ofNat 1)), (.inl ([], (.ofNat 8))))], [], [])], [(1, some 1), (2, none)], 0)
def ct1_9 : kCt := (5, ([((.negSucc 2147483647), (.ofNat 2147483647))], [1], [(0, (.inr (.inr (.inl 0)))), (1, (.inl ([(0, (.ofNat 1))], (.ofNat 0))))], [], [(0, ([], (.ofNat 1)), (.inl ([], (.ofNat 0))))], []), [(0, 0, ([], (.ofNat 0)), (.ofNat 1), (.ofNat 0)), (0, 1, ([], (.ofNat 0)), (.ofNat 1), (.ofNat 0))], [([], [], none, [(0, ([], (.ofNat 1)), (.inl ([], (.ofNat 4))))], [], [])], [(1, some 1), (2, none)], 0)
def ct1_10 : kCt := (6, ([((.negSucc 2147483647), (.ofNat 2147483647)), ((.negSucc 2147483647), (.ofNat 2147483647)), ((.negSucc 2147483647), (.ofNat 2147483647)), ((.negSucc 2147483647), (.ofNat 2147483647)), ((.negSucc 2147483647), (.ofNat 2147483647))], [0, 1], [(0, (.inr (.inr (.inl 0)))), (1, (.inl ([(0, (.ofNat 1))], (.ofNat 0)))), (2, (.inl ([(1, (.ofNat 1))], (.ofNat 0)))), (3, (.inl ([(2, (.ofNat 1))], (.ofNat 0)))), (4, (.inl ([(3, (.ofNat 1))], (.ofNat 0)))), (5, (.inl ([(4, (.ofNat 1))], (.ofNat 0))))], [], [(0, ([], (.ofNat 0)), (.inr (.inr (.inl 1)))), (1, ([], (.ofNat 1)), (.inl ([], (.ofNat 0))))], []), [(0, 0, ([], (.ofNat 0)), (.ofNat 1), (.ofNat 0)), (0, 1, ([], (.ofNat 0)), (.ofNat 1), (.ofNat 0)), (0, 2, ([], (.ofNat 0)), (.ofNat 1), (.ofNat 0)), (0, 3, ([], (.ofNat 0)), (.ofNat 1), (.ofNat 0)), (0, 4, ([], (.ofNat 0)), (.ofNat 1), (.ofNat 0)), (0, 5, ([], (.ofNat 0)), (.ofNat 1), (.ofNat 0)), (2, 0, ([], (.ofNat 0)), (.ofNat 1), (.ofNat 0))], [([], [], some (.inl ([], (.ofNat 20))), [], [], [])], [(1, some 1), (2, none)], 1)
def ct1_11 : kCt := (7, ([((.negSucc 2147483647), (.ofNat 2147483647))], [0], [(0, (.inr (.inr (.inl 0)))), (1, (.inl ([(0, (.ofNat 1))], (.ofNat 0))))], [], [], []), [(0, 0, ([], (.ofNat 0)), (.ofNat 1), (.ofNat 0)), (0, 1, ([], (.ofNat 0)), (.ofNat 1), (.ofNat 0))], [([], [], some (.inl ([], (.negSucc 1))), [], [([(0, (.negSucc 0))], (.negSucc 0))], []), ([], [], some (.inl ([], (.negSucc 1))), [], [([(0, (.ofNat 1))], (.negSucc 2))], []), ([], [], some (.inl ([], (.ofNat 0))), [], [([(0, (.ofNat 1))], (.ofNat 0)), ([(0, (.negSucc 0))], (.ofNat 2))], [])], [(4, some 0), (4, some 1), (4, some 2), (4, some 3), (4, some 4), (4, some 5), (4, some 6), (4, some 7), (4, some 8), (4, some 9), (5, none), (6, none), (7, none), (8, none), (9, none), (10, none), (11, none), (16, none), (17, none), (18, none), (35, none), (60, some 0), (61, none), (62, none), (63, none)], 2)
def ct1_12 : kCt := (8, ([((.negSucc 2147483647), (.ofNat 2147483647)), ((.negSucc 2147483647), (.ofNat 2147483647)), ((.negSucc 2147483647), (.ofNat 2147483647))], [0], [(0, (.inr (.inr (.inl 0)))), (1, (.inl ([(0, (.ofNat 1))], (.ofNat 0)))), (2, (.inl ([(1, (.ofNat 1))], (.ofNat 0)))), (3, (.inl ([(2, (.ofNat 1))], (.ofNat 0))))], [], [], []), [(0, 0, ([], (.ofNat 0)), (.ofNat 1), (.ofNat 0)), (0, 1, ([], (.ofNat 0)), (.ofNat 1), (.ofNat 0)), (0, 2, ([], (.ofNat 0)), (.ofNat 1), (.ofNat 0)), (0, 3, ([], (.ofNat 0)), (.ofNat 1), (.ofNat 0))], [([], [], some (.inl ([], (.negSucc 1))), [], [([(0, (.negSucc 0))], (.negSucc 0))], []), ([], [], some (.inl ([], (.negSucc 1))), [], [([(0, (.ofNat 1))], (.negSucc 3))], []), ([], [], some (.inl ([], (.negSucc 1))), [], [([(0, (.ofNat 1))], (.ofNat 0)), ([(0, (.negSucc 0))], (.ofNat 3)), ([(1, (.negSucc 0))], (.negSucc 0))], []), ([], [], some (.inl ([], (.negSucc 1))), [], [([(0, (.ofNat 1))], (.ofNat 0)), ([(0, (.negSucc 0))], (.ofNat 3)), ([(1, (.ofNat 1))], (.negSucc 3))], []), ([], [], some (.inl ([], (.ofNat 0))), [], [([(0, (.ofNat 1))], (.ofNat 0)), ([(0, (.negSucc 0))], (.ofNat 3)), ([(1, (.ofNat 1))], (.ofNat 0)), ([(1, (.negSucc 0))], (.ofNat 3)), ([(2, (.ofNat 1))], (.ofNat 0)), ([(2, (.negSucc 0))], (.ofNat 60))], []), ([], [], some (.inl ([], (.negSucc 2))), [], [([(0, (.ofNat 1))], (.ofNat 0)), ([(0, (.negSucc 0))], (.ofNat 3)), ([(1, (.ofNat 1))], (.ofNat 0)), ([(1, (.negSucc 0))], (.ofNat 3)), ([(2, (.negSucc 0))], (.negSucc 0))], []), ([], [], some (.inl ([], (.negSucc 1))), [], [([(0, (.ofNat 1))], (.ofNat 0)), ([(0, (.negSucc 0))], (.ofNat 3)), ([(1, (.ofNat 1))], (.ofNat 0)), ([(1, (.negSucc 0))], (.ofNat 3)), ([(2, (.ofNat 1))], (.negSucc 60))], [])], [(30, some 0), (30, some 1), (31, none)], 1)
def ct1_13 : kCt := (9, ([((.negSucc 9223372036854775807), (.ofNat 9223372036854775807)), ((.negSucc 9223372036854775807), (.ofNat 9223372036854775807)), ((.negSucc 9223372036854775807), (.ofNat 9223372036854775807))], [], [(0, (.inr (.inl ([(0, (.ofNat 1))], (.ofNat 0))))), (2, (.inr (.inl ([(1, (.ofNat 1))], (.ofNat 0))))), (4, (.inr (.inl ([(2, (.ofNat 1))], (.ofNat 0)))))], [], [], []), [(0, 0, ([], (.ofNat 0)), (.ofNat 1), (.ofNat 0)), (0, 2, ([], (.ofNat 0)), (.ofNat 1), (.ofNat 0)), (0, 4, ([], (.ofNat 0)), (.ofNat 1), (.ofNat 0))], [([], [], some (.inl ([], (.ofNat 0))), [], [([(0, (.negSucc 0))], (.ofNat 9223372036854775806)), ([(1, (.ofNat 1))], (.ofNat 9223372036854775807)), ([(0, (.negSucc 0)), (1, (.ofNat 1))], (.negSucc 0))], []), ([], [], some (.inl ([], (.ofNat 0))), [], [([(0, (.ofNat 1))], (.ofNat 9223372036854775807)), ([(2, (.negSucc 0))], (.ofNat 9223372036854775806)), ([(0, (.ofNat 1)), (2, (.negSucc 0))], (.negSucc 0)), ([(0, (.ofNat 1)), (1, (.negSucc 0))], (.ofNat 0))], []), ([], [], some (.inl ([], (.ofNat 1))), [], [([(0, (.negSucc 0)), (2, (.ofNat 1))], (.ofNat 0)), ([(0, (.ofNat 1)), (1, (.negSucc 0))], (.ofNat 0))], [])], [], 0)
def ct1_14 : kCt := (10, ([((.negSucc 2147483647), (.ofNat 2147483647))], [], [(0, (.inl ([(0, (.ofNat 1))], (.ofNat 0))))], [], [], []), [(0, 0, ([], (.ofNat 0)), (.ofNat 1), (.ofNat 0))], [([], [], some (.inl ([], (.ofNat 0))), [], [([(0, (.negSucc 0))], (.negSucc 0))], []), ([], [], some (.inl ([], (.ofNat 0))), [], [([(0, (.ofNat 1))], (.negSucc 3))], []), ([], [], some (.inl ([], (.ofNat 1))), [], [([(0, (.ofNat 1))], (.ofNat 0)), ([(0, (.negSucc 0))], (.ofNat 3))], [])], [], 1)
def ct1_15 : kCt := (11, ([((.negSucc 2147483647), (.ofNat 2147483647)), ((.negSucc 2147483647), (.ofNat 2147483647)), ((.negSucc 2147483647), (.ofNat 2147483647)), ((.negSucc 2147483647), (.ofNat 2147483647)), ((.negSucc 2147483647), (.ofNat 2147483647))], [36], [(0, (.inr (.inr (.inl 0)))), (1, (.inl ([(0, (.ofNat 1))], (.ofNat 0)))), (2, (.inl ([(1, (.ofNat 1))], (.ofNat 0)))), (3, (.inl ([(2, (.ofNat 1))], (.ofNat 0)))), (4, (.inl ([(3, (.ofNat 1))], (.ofNat 0)))), (5, (.inl ([(4, (.ofNat 1))], (.ofNat 0))))], [], [(0, ([], (.ofNat 5)), (.inl ([], (.ofNat 0))))], []), [(0, 0, ([], (.ofNat 0)), (.ofNat 1), (.ofNat 0)), (0, 1, ([], (.ofNat 0)), (.ofNat 1), (.ofNat 0)), (0, 2, ([], (.ofNat 0)), (.ofNat 1), (.ofNat 0)), (0, 3, ([], (.ofNat 0)), (.ofNat 1), (.ofNat 0)), (0, 4, ([], (.ofNat 0)), (.ofNat 1), (.ofNat 0)), (0, 5, ([], (.ofNat 0)), (.ofNat 1), (.ofNat 0))], [([], [], some (.inl ([], (.ofNat 20))), [], [], [])], [(36, some 5), (40, none), (41, none)], 0)
def ct1_16 : kCt := (12, ([((.negSucc 2147483647), (.ofNat 2147483647))], [36], [(0, (.inr (.inr (.inl 0)))), (1, (.inl ([(0, (.ofNat 1))], (.ofNat 0))))], [], [], []), [(0, 0, ([], (.ofNat 0)), (.ofNat 1), (.ofNat 0)), (0, 1, ([], (.ofNat 0)), (.ofNat 1), (.ofNat 0))], [([], [], some (.inl ([], (.negSucc 1))), [], [([(0, (.negSucc 0))], (.negSucc 0))], []), ([], [], some (.inl ([], (.negSucc 1))), [], [([(0, (.ofNat 1))], (.negSucc 2))], []), ([], [], some (.inl ([], (.ofNat 0))), [], [([(0, (.ofNat 1))], (.ofNat 0)), ([(0, (.negSucc 0))], (.ofNat 2))], [])], [(38, none), (39, none)], 1)
def ct1_17 : kCt := (13, ([((.negSucc 2147483647), (.ofNat 2147483647)), ((.negSucc 2147483647), (.ofNat 2147483647)), ((.negSucc 2147483647), (.ofNat 2147483647))], [36], [(0, (.inr (.inr (.inl 0)))), (1, (.inl ([(0, (.ofNat 1))], (.ofNat 0)))), (2, (.inl ([(1, (.ofNat 1))], (.ofNat 0)))), (3, (.inl ([(2, (.ofNat 1))], (.ofNat 0))))], [], [], []), [(0, 0, ([], (.ofNat 0)), (.ofNat 1), (.ofNat 0)), (0, 1, ([], (.ofNat 0)), (.ofNat 1), (.ofNat 0)), (0, 2, ([], (.ofNat 0)), (.ofNat 1), (.ofNat 0)), (0, 3, ([], (.ofNat 0)), (.ofNat 1), (.ofNat 0))], [([], [], some (.inl ([], (.negSucc 1))), [], [([(0, (.negSucc 0))], (.negSucc 0))], []), ([], [], some (.inl ([], (.negSucc 1))), [], [([(0, (.ofNat 1))], (.negSucc 3))], []), ([], [], some (.inl ([], (.negSucc 1))), [], [([(0, (.ofNat 1))], (.ofNat 0)), ([(0, (.negSucc 0))], (.ofNat 3)), ([(1, (.negSucc 0))], (.negSucc 0))], []), ([], [], some (.inl ([], (.negSucc 1))), [], [([(0, (.ofNat 1))], (.ofNat 0)), ([(0, (.negSucc 0))], (.ofNat 3)), ([(1, (.ofNat 1))], (.negSucc 3))], []), ([], [], some (.inl ([], (.negSucc 2))), [], [([(0, (.ofNat 1))], (.ofNat 0)), ([(0, (.negSucc 0))], (.ofNat 3)), ([(1, (.ofNat 1))], (.ofNat 0)), ([(1, (.negSucc 0))], (.ofNat 3)), ([(2, (.negSucc 0))], (.negSucc 0))], []), ([], [], some (.inl ([], (.negSucc 1))), [], [([(0, (.ofNat 1))], (.ofNat 0)), ([(0, (.negSucc 0))], (.ofNat 3)), ([(1, (.ofNat 1))], (.ofNat 0)), ([(1, (.negSucc 0))], (.ofNat 3)), ([(2, (.ofNat 1))], (.negSucc 60))], []), ([], [], some (.inl ([], (.ofNat 0))), [], [([(0, (.ofNat 1))], (.ofNat 0)), ([(0, (.negSucc 0))], (.ofNat 3)), ([(1, (.ofNat 1))], (.ofNat 0)), ([(1, (.negSucc 0))], (.ofNat 3)), ([(2, (.ofNat 1))], (.ofNat 0)), ([(2, (.negSucc 0))], (.ofNat 60))], [])], [(51, none), (52, none), (53, none)], 2)
def k1_ct0 : List kCt := [ct1_0, ct1_1, ct1_2, ct1_3, ct1_4, ct1_5, ct1_6, ct1_7, ct1_8, ct1_9, ct1_10, ct1_11, ct1_12, ct1_13, ct1_14, ct1_15, ct1_16, ct1_17]
def k1_ct : List kCt := k1_ct0
def ow1_SilenceMatch : kOw := ([(10, 9, 0, 3), (28, 9, 2, 3), (41, 9, 5, 3), (68, 9, 9, 3), (73, 9, 10, 3), (77, 9, 11, 3), (81, 9, 12, 3), (85, 8, 1, 0)], [], [], [], [(89, 5, 1, 8, 2), (100, 2, 1, 3, 2), (353, 1, 1, 100, 1), (356, 3, 1, 0, 2), (359, 0, 1, 100, 1), (362, 4, 2, 7, 3)])
def ow1_SilenceMatch_Green : kOw := ([(9, 3, 10, 3), (15, 3, 11, 3), (18, 3, 12, 3), (21, 3, 13, 3), (24, 3, 14, 3), (27, 3, 15, 3), (30, 3, 16, 3), (33, 3, 17, 3), (36, 3, 18, 3), (39, 3, 19, 3), (42, 3, 0, 0), (46, 3, 1, 0), (49, 3, 2, 0), (52, 3, 3, 0), (55, 3, 4, 0), (58, 3, 5, 0), (61, 3, 6, 0), (64, 3, 7, 0), (67, 3, 8, 0), (70, 3, 9, 0)], [], [], [], [(73, 0, 5, 102, 0)])
def ow1_SilenceMatch_Acts : kOw := ([(9, 0, 1, 3), (15, 0, 2, 3), (19, 0, 3, 3), (22, 0, 0, 0)], [], [], [], [(34, 0, 5, 102, 0)])
def ow1_SilenceMatch_Row : kOw := ([(9, 7, 0, 0), (15, 7, 2, 3), (19, 7, 1, 0)], [], [], [], [])
def ow1_SilenceMatch_Tape : kOw := ([(9, 8, 0, 3), (15, 8, 1, 0)], [], [], [], [])
def ow1_SilenceMatchModel : kOw := ([(9, 10, 1, 3), (13, 10, 2, 3), (16, 10, 3, 3), (20, 10, 4, 3), (24, 10, 6, 3), (61, 10, 34, 3), (64, 10, 35, 3), (67, 10, 36, 3), (87, 10, 5, 0)], [], [(77, (.ofNat 2)), (451, (.ofNat 3))], [], [(79, 9, 3, 100, 6), (393, 10, 1, 100, 1)])
end
section
/-! BODIES 1 -/
def bd1_0 : kBd := (cd_X9_isSlot, [], [], [])
theorem ok1_0 : kbody (kEof k1_tt k_aty k1_ct ow1_SilenceMatch 1 (some .boolean) ct1_0) bd1_0 100000 = true := by decide +kernel
def bd1_1 : kBd := (cd_X9_isImage, [], [], [])
theorem ok1_1 : kbody (kEof k1_tt k_aty k1_ct ow1_SilenceMatch 1 (some .boolean) ct1_1) bd1_1 100000 = true := by decide +kernel
def bd1_2 : kBd := (cd_X3_copyFrom, [], [], [])
theorem ok1_2 : kbody (kEof k1_tt k_aty k1_ct ow1_SilenceMatch_Green 2 none ct1_2) bd1_2 100000 = true := by decide +kernel
def cd_X0_copyFrom : kCd := [(0, .aload_n 0, 1), (1, .aload_n 1, 1), (2, .getfield 22, 3), (5, .putfield 22, 3), (8, .aload_n 1, 1), (9, .getfield 9, 3), (12, .iconst 0, 1), (13, .aload_n 0, 1), (14, .getfield 9, 3), (17, .iconst 0, 1), (18, .bipush 40, 2), (20, .invokestatic 34, 3), (23, .aload_n 1, 1), (24, .getfield 15, 3), (27, .iconst 0, 1), (28, .aload_n 0, 1), (29, .getfield 15, 3), (32, .iconst 0, 1), (33, .bipush 40, 2), (35, .invokestatic 34, 3), (38, .aload_n 1, 1), (39, .getfield 19, 3), (42, .iconst 0, 1), (43, .aload_n 0, 1), (44, .getfield 19, 3), (47, .iconst 0, 1), (48, .bipush 40, 2), (50, .invokestatic 34, 3), (53, .return_, 1)]
def bd1_3 : kBd := (cd_X0_copyFrom, [], [], [])
theorem ok1_3 : kbody (kEof k1_tt k_aty k1_ct ow1_SilenceMatch_Acts 2 none ct1_3) bd1_3 100000 = true := by decide +kernel
def cd_X7_renew : kCd := [(0, .aload_n 0, 1), (1, .iload_n 1, 1), (2, .putfield 9, 3), (5, .aload_n 0, 1), (6, .iload_n 2, 1), (7, .putfield 19, 3), (10, .iconst 0, 1), (11, .istore_n 3, 1), (12, .iload_n 3, 1), (13, .bipush 60, 2), (15, .if_icmp .ge 16, 3), (18, .aload_n 0, 1), (19, .getfield 15, 3), (22, .iload_n 3, 1), (23, .lconst 0, 1), (24, .lastore, 1), (25, .iinc 3 1, 3), (28, .goto (-16), 3), (31, .return_, 1)]
def bd1_4 : kBd := (cd_X7_renew, [], [], [(12, (([((.ofNat 0), (.ofNat 3)), ((.ofNat 0), (.ofNat 60)), ((.ofNat 0), (.ofNat 60))], [30], [(0, (.inr (.inr (.inl 0)))), (1, (.inl ([(0, (.ofNat 1))], (.ofNat 0)))), (2, (.inl ([(1, (.ofNat 1))], (.ofNat 0)))), (3, (.inl ([(2, (.ofNat 1))], (.ofNat 0))))], [], [], []), [(0, 3, ([], (.ofNat 0)), (.ofNat 1), (.ofNat 0))]), ([(2, (.negSucc 0))], (.ofNat 60)))])
theorem ok1_4 : kbody (kEof k1_tt k_aty k1_ct ow1_SilenceMatch_Row 4 none ct1_4) bd1_4 100000 = true := by decide +kernel
def cd_X8_put : kCd := [(0, .bipush 24, 2), (2, .istore_n 2, 1), (3, .iload_n 2, 1), (4, .ifCond .lt 45, 3), (7, .aload_n 0, 1), (8, .getfield 15, 3), (11, .sipush 900, 3), (14, .if_icmp .ge 29, 3), (17, .aload_n 0, 1), (18, .getfield 9, 3), (21, .aload_n 0, 1), (22, .getfield 15, 3), (25, .iload_n 1, 1), (26, .iload_n 2, 1), (27, .ishr, 1), (28, .sipush 255, 3), (31, .iand, 1), (32, .iastore, 1), (33, .aload_n 0, 1), (34, .dup, 1), (35, .getfield 15, 3), (38, .iconst 1, 1), (39, .iadd, 1), (40, .putfield 15, 3), (43, .iinc 2 (-8), 3), (46, .goto (-43), 3), (49, .return_, 1)]
def bd1_5 : kBd := (cd_X8_put, [], [], [])
theorem ok1_5 : kbody (kEof k1_tt k_aty k1_ct ow1_SilenceMatch_Tape 3 none ct1_5) bd1_5 100000 = true := by decide +kernel
def bd1_6 : kBd := (cd_X8_put, [], [], [])
theorem ok1_6 : kbody (kEof k1_tt k_aty k1_ct ow1_SilenceMatch_Tape 3 none ct1_6) bd1_6 100000 = true := by decide +kernel
def bd1_7 : kBd := (cd_X8_put, [], [], [])
theorem ok1_7 : kbody (kEof k1_tt k_aty k1_ct ow1_SilenceMatch_Tape 3 none ct1_7) bd1_7 100000 = true := by decide +kernel
def bd1_8 : kBd := (cd_X8_put, [], [], [])
theorem ok1_8 : kbody (kEof k1_tt k_aty k1_ct ow1_SilenceMatch_Tape 3 none ct1_8) bd1_8 100000 = true := by decide +kernel
def bd1_9 : kBd := (cd_X8_put, [], [], [])
theorem ok1_9 : kbody (kEof k1_tt k_aty k1_ct ow1_SilenceMatch_Tape 3 none ct1_9) bd1_9 100000 = true := by decide +kernel
def cd_X9_feed : kCd := [(0, .aload_n 0, 1), (1, .getfield 10, 3), (4, .getfield 85, 3), (7, .bipush 20, 2), (9, .iadd, 1), (10, .sipush 900, 3), (13, .if_icmp .le 5, 3), (16, .iconst (-1), 1), (17, .ireturn, 1), (18, .aload_n 0, 1), (19, .getfield 10, 3), (22, .iload_n 1, 1), (23, .invokevirtual 89, 3), (26, .aload_n 0, 1), (27, .getfield 10, 3), (30, .iload_n 2, 1), (31, .invokevirtual 89, 3), (34, .aload_n 0, 1), (35, .getfield 10, 3), (38, .iload_n 3, 1), (39, .invokevirtual 89, 3), (42, .aload_n 0, 1), (43, .getfield 10, 3), (46, .iload 4, 2), (48, .invokevirtual 89, 3), (51, .aload_n 0, 1), (52, .getfield 10, 3), (55, .iload 5, 2), (57, .invokevirtual 89, 3), (60, .aload_n 0, 1), (61, .getfield 10, 3), (64, .getfield 85, 3), (67, .ireturn, 1)]
def bd1_10 : kBd := (cd_X9_feed, [(23, [9]), (31, [8]), (39, [7]), (48, [6]), (57, [5])], [], [])
theorem ok1_10 : kbody (kEof k1_tt k_aty k1_ct ow1_SilenceMatch 6 (some .int) ct1_10) bd1_10 100000 = true := by decide +kernel
def cd_X9_image : kCd := [(0, .iload_n 1, 1), (1, .invokestatic 353, 3), (4, .ifCond .ne 6, 3), (7, .bipush (-2), 2), (9, .ireturn, 1), (10, .aload_n 0, 1), (11, .getfield 73, 3), (14, .iload_n 1, 1), (15, .aaload, 1), (16, .aload_n 0, 1), (17, .getfield 28, 3), (20, .invokevirtual 100, 3), (23, .aload_n 0, 1), (24, .getfield 77, 3), (27, .iload_n 1, 1), (28, .aaload, 1), (29, .aload_n 0, 1), (30, .getfield 41, 3), (33, .invokevirtual 356, 3), (36, .aload_n 0, 1), (37, .getfield 81, 3), (40, .iload_n 1, 1), (41, .iconst 1, 1), (42, .bastore, 1), (43, .iconst 0, 1), (44, .ireturn, 1)]
def bd1_11 : kBd := (cd_X9_image, [(1, [1]), (20, [2]), (33, [3])], [], [])
theorem ok1_11 : kbody (kEof k1_tt k_aty k1_ct ow1_SilenceMatch 2 (some .int) ct1_11) bd1_11 100000 = true := by decide +kernel
def cd_X9_row : kCd := [(0, .iload_n 1, 1), (1, .invokestatic 359, 3), (4, .ifCond .eq 18, 3), (7, .iload_n 2, 1), (8, .ifCond .lt 14, 3), (11, .iload_n 2, 1), (12, .iconst 3, 1), (13, .if_icmp .gt 9, 3), (16, .iload_n 3, 1), (17, .bipush 60, 2), (19, .if_icmp .le 6, 3), (22, .bipush (-2), 2), (24, .ireturn, 1), (25, .iload_n 3, 1), (26, .ifCond .ge 6, 3), (29, .bipush (-3), 2), (31, .ireturn, 1), (32, .aload_n 0, 1), (33, .getfield 68, 3), (36, .iload_n 1, 1), (37, .aaload, 1), (38, .iload_n 2, 1), (39, .iload_n 3, 1), (40, .invokevirtual 362, 3), (43, .iconst 0, 1), (44, .ireturn, 1)]
def bd1_12 : kBd := (cd_X9_row, [(1, [0]), (40, [4])], [], [])
theorem ok1_12 : kbody (kEof k1_tt k_aty k1_ct ow1_SilenceMatch 4 (some .int) ct1_12) bd1_12 100000 = true := by decide +kernel
def bd1_13 : kBd := (cd_X10_in, [], [], [])
theorem ok1_13 : kbody (kEof k1_tt k_aty k1_ct ow1_SilenceMatchModel 6 (some .boolean) ct1_13) bd1_13 100000 = true := by decide +kernel
def bd1_14 : kBd := (cd_X10_isSlot, [(6, [13])], [], [])
theorem ok1_14 : kbody (kEof k1_tt k_aty k1_ct ow1_SilenceMatchModel 1 (some .boolean) ct1_14) bd1_14 100000 = true := by decide +kernel
def cd_X10_feed : kCd := [(0, .aload_n 0, 1), (1, .getfield 87, 3), (4, .bipush 20, 2), (6, .iadd, 1), (7, .sipush 900, 3), (10, .if_icmp .le 5, 3), (13, .iconst (-1), 1), (14, .ireturn, 1), (15, .aload_n 0, 1), (16, .getfield 24, 3), (19, .iconst 0, 1), (20, .iload_n 1, 1), (21, .iastore, 1), (22, .aload_n 0, 1), (23, .getfield 24, 3), (26, .iconst 1, 1), (27, .iload_n 2, 1), (28, .iastore, 1), (29, .aload_n 0, 1), (30, .getfield 24, 3), (33, .iconst 2, 1), (34, .iload_n 3, 1), (35, .iastore, 1), (36, .aload_n 0, 1), (37, .getfield 24, 3), (40, .iconst 3, 1), (41, .iload 4, 2), (43, .iastore, 1), (44, .aload_n 0, 1), (45, .getfield 24, 3), (48, .iconst 4, 1), (49, .iload 5, 2), (51, .iastore, 1), (52, .iconst 0, 1), (53, .istore 6, 2), (55, .iload 6, 2), (57, .bipush 20, 2), (59, .if_icmp .ge 42, 3), (62, .aload_n 0, 1), (63, .getfield 20, 3), (66, .aload_n 0, 1), (67, .getfield 87, 3), (70, .iload 6, 2), (72, .iadd, 1), (73, .aload_n 0, 1), (74, .getfield 24, 3), (77, .iload 6, 2), (79, .iconst 4, 1), (80, .idiv, 1), (81, .iaload, 1), (82, .bipush 24, 2), (84, .bipush 8, 2), (86, .iload 6, 2), (88, .iconst 4, 1), (89, .irem, 1), (90, .imul, 1), (91, .isub, 1), (92, .ishr, 1), (93, .i2b, 1), (94, .bastore, 1), (95, .iinc 6 1, 3), (98, .goto (-43), 3), (101, .aload_n 0, 1), (102, .dup, 1), (103, .getfield 87, 3), (106, .bipush 20, 2), (108, .iadd, 1), (109, .putfield 87, 3), (112, .aload_n 0, 1), (113, .getfield 87, 3), (116, .ireturn, 1)]
def bd1_15 : kBd := (cd_X10_feed, [], [], [])
theorem ok1_15 : kbody (kEof k1_tt k_aty k1_ct ow1_SilenceMatchModel 7 (some .int) ct1_15) bd1_15 100000 = true := by decide +kernel
def cd_X10_image : kCd := [(0, .iload_n 1, 1), (1, .i2l, 1), (2, .lconst 0, 1), (3, .ldc2_w 77, 3), (6, .invokestatic 79, 3), (9, .ifCond .ne 6, 3), (12, .bipush (-2), 2), (14, .ireturn, 1), (15, .iconst 0, 1), (16, .istore_n 2, 1), (17, .iload_n 2, 1), (18, .bipush 115, 2), (20, .if_icmp .ge 26, 3), (23, .aload_n 0, 1), (24, .getfield 13, 3), (27, .bipush 115, 2), (29, .iload_n 1, 1), (30, .imul, 1), (31, .iload_n 2, 1), (32, .iadd, 1), (33, .aload_n 0, 1), (34, .getfield 9, 3), (37, .iload_n 2, 1), (38, .iaload, 1), (39, .iastore, 1), (40, .iinc 2 1, 3), (43, .goto (-26), 3), (46, .aload_n 0, 1), (47, .getfield 16, 3), (50, .iload_n 1, 1), (51, .iconst 1, 1), (52, .bastore, 1), (53, .iconst 0, 1), (54, .ireturn, 1)]
def bd1_16 : kBd := (cd_X10_image, [(6, [13])], [], [(17, (([((.ofNat 0), (.ofNat 2)), ((.ofNat 0), (.ofNat 115))], [36], [(0, (.inr (.inr (.inl 0)))), (1, (.inl ([(0, (.ofNat 1))], (.ofNat 0)))), (2, (.inl ([(1, (.ofNat 1))], (.ofNat 0))))], [], [], []), [(0, 2, ([], (.ofNat 0)), (.ofNat 1), (.ofNat 0))]), ([(1, (.negSucc 0))], (.ofNat 115)))])
theorem ok1_16 : kbody (kEof k1_tt k_aty k1_ct ow1_SilenceMatchModel 3 (some .int) ct1_16) bd1_16 100000 = true := by decide +kernel
def cd_X10_row : kCd := [(0, .iload_n 1, 1), (1, .invokestatic 393, 3), (4, .ifCond .eq 21, 3), (7, .iload_n 2, 1), (8, .i2l, 1), (9, .lconst 0, 1), (10, .ldc2_w 451, 3), (13, .invokestatic 79, 3), (16, .ifCond .eq 9, 3), (19, .iload_n 3, 1), (20, .bipush 60, 2), (22, .if_icmp .le 6, 3), (25, .bipush (-2), 2), (27, .ireturn, 1), (28, .iload_n 3, 1), (29, .ifCond .ge 6, 3), (32, .bipush (-3), 2), (34, .ireturn, 1), (35, .aload_n 0, 1), (36, .getfield 61, 3), (39, .iload_n 1, 1), (40, .iload_n 3, 1), (41, .iastore, 1), (42, .aload_n 0, 1), (43, .getfield 64, 3), (46, .iload_n 1, 1), (47, .iload_n 2, 1), (48, .iastore, 1), (49, .iconst 0, 1), (50, .istore 4, 2), (52, .iload 4, 2), (54, .bipush 60, 2), (56, .if_icmp .ge 22, 3), (59, .aload_n 0, 1), (60, .getfield 67, 3), (63, .bipush 60, 2), (65, .iload_n 1, 1), (66, .imul, 1), (67, .iload 4, 2), (69, .iadd, 1), (70, .lconst 0, 1), (71, .lastore, 1), (72, .iinc 4 1, 3), (75, .goto (-23), 3), (78, .iconst 0, 1), (79, .ireturn, 1)]
def bd1_17 : kBd := (cd_X10_row, [(1, [14]), (13, [13])], [], [(52, (([((.ofNat 0), (.ofNat 3)), ((.ofNat 0), (.ofNat 3)), ((.ofNat 0), (.ofNat 60)), ((.ofNat 0), (.ofNat 60))], [36], [(0, (.inr (.inr (.inl 0)))), (1, (.inl ([(0, (.ofNat 1))], (.ofNat 0)))), (2, (.inl ([(1, (.ofNat 1))], (.ofNat 0)))), (3, (.inl ([(2, (.ofNat 1))], (.ofNat 0)))), (4, (.inl ([(3, (.ofNat 1))], (.ofNat 0))))], [], [], []), [(0, 4, ([], (.ofNat 0)), (.ofNat 1), (.ofNat 0))]), ([(3, (.negSucc 0))], (.ofNat 60)))])
theorem ok1_17 : kbody (kEof k1_tt k_aty k1_ct ow1_SilenceMatchModel 5 (some .int) ct1_17) bd1_17 100000 = true := by decide +kernel
end
section
/-! WORDS 0 -/
/-! names and fields of the classes -/
def kC0 : String := "SilenceMatch$Acts"
def kF0 : u_T := fun k => match k with
  | 0 => ("SilenceMatch$Acts", "count", "I", false)
  | 1 => ("SilenceMatch$Acts", "ofLoud", "[Z", true)
  | 2 => ("SilenceMatch$Acts", "player", "[I", true)
  | _ => ("SilenceMatch$Acts", "was", "[I", true)
def kC1 : String := "SilenceMatch$Cover"
def kF1 : u_T := fun k => match k with
  | 0 => ("SilenceMatch$Cover", "chosen", "[I", true)
  | 1 => ("SilenceMatch$Cover", "size", "I", false)
  | 2 => ("SilenceMatch$Cover", "ball", "[I", true)
  | 3 => ("SilenceMatch$Cover", "all", "I", false)
  | _ => ("SilenceMatch$Cover", "largest", "I", false)
def kC2 : String := "SilenceMatch$Draws"
def kF2 : u_T := fun k => match k with
  | 0 => ("SilenceMatch$Draws", "count", "I", false)
  | 1 => ("SilenceMatch$Draws", "running", "Z", false)
  | 2 => ("SilenceMatch$Draws", "x", "J", false)
  | _ => ("SilenceMatch$Draws", "odds", "I", false)
def kC3 : String := "SilenceMatch$Green"
def kF3 : u_T := fun k => match k with
  | 0 => ("SilenceMatch$Green", "lines", "I", false)
  | 1 => ("SilenceMatch$Green", "wide", "I", false)
  | 2 => ("SilenceMatch$Green", "high", "I", false)
  | 3 => ("SilenceMatch$Green", "bell", "I", false)
  | 4 => ("SilenceMatch$Green", "laugh", "I", false)
  | 5 => ("SilenceMatch$Green", "odds", "I", false)
  | 6 => ("SilenceMatch$Green", "players", "I", false)
  | 7 => ("SilenceMatch$Green", "umpires", "I", false)
  | 8 => ("SilenceMatch$Green", "winds", "I", false)
  | 9 => ("SilenceMatch$Green", "pairs", "I", false)
  | 10 => ("SilenceMatch$Green", "side", "[I", true)
  | 11 => ("SilenceMatch$Green", "cell", "[I", true)
  | 12 => ("SilenceMatch$Green", "loud", "[I", true)
  | 13 => ("SilenceMatch$Green", "every", "[I", true)
  | 14 => ("SilenceMatch$Green", "post", "[I", true)
  | 15 => ("SilenceMatch$Green", "deaf", "[I", true)
  | 16 => ("SilenceMatch$Green", "from", "[I", true)
  | 17 => ("SilenceMatch$Green", "to", "[I", true)
  | 18 => ("SilenceMatch$Green", "one", "[I", true)
  | _ => ("SilenceMatch$Green", "two", "[I", true)
def kC4 : String := "SilenceMatch$Heard"
def kF4 : u_T := fun k => match k with
  | _ => ("SilenceMatch$Heard", "fitting", "[I", true)
def kC5 : String := "SilenceMatch$Match"
def kF5 : u_T := fun k => match k with
  | 0 => ("SilenceMatch$Match", "coughing", "[I", true)
  | 1 => ("SilenceMatch$Match", "windy", "[Z", true)
  | 2 => ("SilenceMatch$Match", "still", "[I", true)
  | 3 => ("SilenceMatch$Match", "laughing", "[I", true)
  | 4 => ("SilenceMatch$Match", "draws", "LSilenceMatch$Draws;", true)
  | 5 => ("SilenceMatch$Match", "played", "I", false)
  | 6 => ("SilenceMatch$Match", "resting", "I", false)
  | 7 => ("SilenceMatch$Match", "fired", "I", false)
  | _ => ("SilenceMatch$Match", "parted", "I", false)
def kC6 : String := "SilenceMatch$Reader"
def kF6 : u_T := fun k => match k with
  | 0 => ("SilenceMatch$Reader", "fault", "I", false)
  | 1 => ("SilenceMatch$Reader", "faultPlace", "I", false)
  | 2 => ("SilenceMatch$Reader", "source", "LSilenceMatch$Tape;", true)
  | 3 => ("SilenceMatch$Reader", "kind", "I", false)
  | 4 => ("SilenceMatch$Reader", "place", "I", false)
  | _ => ("SilenceMatch$Reader", "stop", "I", false)
def kC7 : String := "SilenceMatch$Row"
def kF7 : u_T := fun k => match k with
  | 0 => ("SilenceMatch$Row", "width", "I", false)
  | 1 => ("SilenceMatch$Row", "size", "I", false)
  | _ => ("SilenceMatch$Row", "numbers", "[J", true)
def kC8 : String := "SilenceMatch$Tape"
def kF8 : u_T := fun k => match k with
  | 0 => ("SilenceMatch$Tape", "bytes", "[I", true)
  | _ => ("SilenceMatch$Tape", "size", "I", false)
def kC9 : String := "SilenceMatch"
def kF9 : u_T := fun k => match k with
  | 0 => ("SilenceMatch", "tape", "LSilenceMatch$Tape;", true)
  | 1 => ("SilenceMatch", "reader", "LSilenceMatch$Reader;", true)
  | 2 => ("SilenceMatch", "green", "LSilenceMatch$Green;", true)
  | 3 => ("SilenceMatch", "draft", "LSilenceMatch$Green;", true)
  | 4 => ("SilenceMatch", "trial", "LSilenceMatch$Green;", true)
  | 5 => ("SilenceMatch", "acts", "LSilenceMatch$Acts;", true)
  | 6 => ("SilenceMatch", "match", "LSilenceMatch$Match;", true)
  | 7 => ("SilenceMatch", "cover", "LSilenceMatch$Cover;", true)
  | 8 => ("SilenceMatch", "heard", "LSilenceMatch$Heard;", true)
  | 9 => ("SilenceMatch", "rows", "[LSilenceMatch$Row;", true)
  | 10 => ("SilenceMatch", "imageGreens", "[LSilenceMatch$Green;", true)
  | 11 => ("SilenceMatch", "imageActs", "[LSilenceMatch$Acts;", true)
  | _ => ("SilenceMatch", "imageKept", "[Z", true)
def kC10 : String := "SilenceMatchModel"
def kF10 : u_T := fun k => match k with
  | 0 => ("SilenceMatchModel", "thrown", "I", false)
  | 1 => ("SilenceMatchModel", "world", "[I", true)
  | 2 => ("SilenceMatchModel", "images", "[I", true)
  | 3 => ("SilenceMatchModel", "hasImage", "[Z", true)
  | 4 => ("SilenceMatchModel", "tape", "[B", true)
  | 5 => ("SilenceMatchModel", "taped", "I", false)
  | 6 => ("SilenceMatchModel", "five", "[I", true)
  | 7 => ("SilenceMatchModel", "size", "I", false)
  | 8 => ("SilenceMatchModel", "at", "I", false)
  | 9 => ("SilenceMatchModel", "from", "I", false)
  | 10 => ("SilenceMatchModel", "token", "I", false)
  | 11 => ("SilenceMatchModel", "value", "I", false)
  | 12 => ("SilenceMatchModel", "faultKind", "I", false)
  | 13 => ("SilenceMatchModel", "faultPlace", "I", false)
  | 14 => ("SilenceMatchModel", "fresh", "[I", true)
  | 15 => ("SilenceMatchModel", "firedUmpire", "I", false)
  | 16 => ("SilenceMatchModel", "cellOf", "[I", true)
  | 17 => ("SilenceMatchModel", "loudOf", "[I", true)
  | 18 => ("SilenceMatchModel", "outIn", "[I", true)
  | 19 => ("SilenceMatchModel", "finger", "[I", true)
  | 20 => ("SilenceMatchModel", "resting", "I", false)
  | 21 => ("SilenceMatchModel", "parted", "I", false)
  | 22 => ("SilenceMatchModel", "bellAt", "I", false)
  | 23 => ("SilenceMatchModel", "drawX", "J", false)
  | 24 => ("SilenceMatchModel", "isDrawn", "Z", false)
  | 25 => ("SilenceMatchModel", "drawMany", "I", false)
  | 26 => ("SilenceMatchModel", "lastsMost", "I", false)
  | 27 => ("SilenceMatchModel", "gainsMost", "I", false)
  | 28 => ("SilenceMatchModel", "covered", "[I", true)
  | 29 => ("SilenceMatchModel", "picks", "[I", true)
  | 30 => ("SilenceMatchModel", "coveredBy", "[I", true)
  | 31 => ("SilenceMatchModel", "sounds", "[I", true)
  | 32 => ("SilenceMatchModel", "soundMany", "I", false)
  | 33 => ("SilenceMatchModel", "askWorst", "I", false)
  | 34 => ("SilenceMatchModel", "many", "[I", true)
  | 35 => ("SilenceMatchModel", "width", "[I", true)
  | 36 => ("SilenceMatchModel", "numbers", "[J", true)
  | _ => ("SilenceMatchModel", "moving", "[J", true)
def k_cl : List vw_C := [(kC0, kF0, 4), (kC1, kF1, 5), (kC2, kF2, 4), (kC3, kF3, 20), (kC4, kF4, 1), (kC5, kF5, 9), (kC6, kF6, 6), (kC7, kF7, 3), (kC8, kF8, 2), (kC9, kF9, 13), (kC10, kF10, 38)]
theorem kcl_0 : kclb (kC0, kF0, 4) [297, 299, 301, 303] = true := by decide +kernel
theorem kcl_1 : kclb (kC1, kF1, 5) [379, 381, 383, 385, 387] = true := by decide +kernel
theorem kcl_2 : kclb (kC2, kF2, 4) [324, 326, 328, 330] = true := by decide +kernel
theorem kcl_3 : kclb (kC3, kF3, 20) [245, 247, 249, 251, 253, 255, 257, 259, 261, 263, 265, 267, 269, 271, 273, 275, 277, 279, 281, 283] = true := by decide +kernel
theorem kcl_4 : kclb (kC4, kF4, 1) [397] = true := by decide +kernel
theorem kcl_5 : kclb (kC5, kF5, 9) [347, 349, 351, 353, 355, 357, 359, 361, 363] = true := by decide +kernel
theorem kcl_6 : kclb (kC6, kF6, 6) [155, 157, 159, 161, 163, 165] = true := by decide +kernel
theorem kcl_7 : kclb (kC7, kF7, 3) [413, 415, 417] = true := by decide +kernel
theorem kcl_8 : kclb (kC8, kF8, 2) [135, 137] = true := by decide +kernel
theorem kcl_9 : kclb (kC9, kF9, 13) [436, 438, 440, 442, 444, 446, 448, 450, 452, 454, 456, 458, 460] = true := by decide +kernel
theorem kcl_10 : kclb (kC10, kF10, 38) [1259, 1261, 1263, 1265, 1267, 1269, 1271, 1273, 1275, 1277, 1279, 1281, 1283, 1285, 1287, 1289, 1291, 1293, 1295, 1297, 1299, 1301, 1303, 1305, 1307, 1309, 1311, 1313, 1315, 1317, 1319, 1321, 1323, 1325, 1327, 1329, 1331, 1333] = true := by decide +kernel
theorem k_clok : kclok k_cl k_lg := kclok_of (List.forall_mem_cons.mpr ⟨⟨_, kcl_0⟩, List.forall_mem_cons.mpr ⟨⟨_, kcl_1⟩, List.forall_mem_cons.mpr ⟨⟨_, kcl_2⟩, List.forall_mem_cons.mpr ⟨⟨_, kcl_3⟩, List.forall_mem_cons.mpr ⟨⟨_, kcl_4⟩, List.forall_mem_cons.mpr ⟨⟨_, kcl_5⟩, List.forall_mem_cons.mpr ⟨⟨_, kcl_6⟩, List.forall_mem_cons.mpr ⟨⟨_, kcl_7⟩, List.forall_mem_cons.mpr ⟨⟨_, kcl_8⟩, List.forall_mem_cons.mpr ⟨⟨_, kcl_9⟩, List.forall_mem_cons.mpr ⟨⟨_, kcl_10⟩, fun _ h => absurd h List.not_mem_nil⟩⟩⟩⟩⟩⟩⟩⟩⟩⟩⟩)
theorem k_cpw : Cond.native arraycopyName ∈ k_lg ∧ Cond.static arraycopyName ∈ k_lg ∧ Cond.initialized "java/lang/System" ∈ k_lg := ⟨kwd_ok (p := 635) (by decide +kernel), kwd_ok (p := 634) (by decide +kernel), kwd_ok (p := 115) (by decide +kernel)⟩
theorem k_tok : ktok k0_tt k_cl := ktokb_ok (by decide +kernel)
def mw0_0 : kMd × Nat × Nat := ((⟨"SilenceMatch$Green", "exists", "()Z"⟩, prog_5_method_4_code, 1, some .boolean), 0, 3)
theorem mo0_0 : kMw k_cl mw0_0 := kMwb_ok (p1 := 102) (p2 := 683) (p3 := 684) (by decide +kernel) (kwd_ok (p := 685) (by decide +kernel))
def mw0_1 : kMd × Nat × Nat := ((⟨"SilenceMatch$Green", "cells", "()I"⟩, prog_5_method_5_code, 1, some .int), 0, 3)
theorem mo0_1 : kMw k_cl mw0_1 := kMwb_ok (p1 := 102) (p2 := 602) (p3 := 603) (by decide +kernel) (kwd_ok (p := 604) (by decide +kernel))
def mw0_2 : kMd × Nat × Nat := ((⟨"SilenceMatch$Green", "hasCell", "(I)Z"⟩, prog_5_method_6_code, 2, some .boolean), 1, 3)
theorem mo0_2 : kMw k_cl mw0_2 := kMwb_ok (p1 := 102) (p2 := 670) (p3 := 671) (by decide +kernel) (kwd_ok (p := 672) (by decide +kernel))
def mw0_3 : kMd × Nat × Nat := ((⟨"SilenceMatch$Green", "hasPlayer", "(I)Z"⟩, prog_5_method_7_code, 2, some .boolean), 1, 3)
theorem mo0_3 : kMw k_cl mw0_3 := kMwb_ok (p1 := 102) (p2 := 650) (p3 := 651) (by decide +kernel) (kwd_ok (p := 652) (by decide +kernel))
def mw0_4 : kMd × Nat × Nat := ((⟨"SilenceMatch$Green", "hasUmpire", "(I)Z"⟩, prog_5_method_8_code, 2, some .boolean), 1, 3)
theorem mo0_4 : kMw k_cl mw0_4 := kMwb_ok (p1 := 102) (p2 := 662) (p3 := 663) (by decide +kernel) (kwd_ok (p := 664) (by decide +kernel))
def mw0_5 : kMd × Nat × Nat := ((⟨"SilenceMatch", "isSlot", "(I)Z"⟩, prog_1_method_72_code, 1, some .boolean), 1, 100)
theorem mo0_5 : kMw k_cl mw0_5 := kMwb_ok (p1 := 99) (p2 := 1035) (p3 := 0) (by decide +kernel) (kwd_ok (p := 1036) (by decide +kernel))
def mw0_6 : kMd × Nat × Nat := ((⟨"SilenceMatch", "isImage", "(I)Z"⟩, prog_1_method_73_code, 1, some .boolean), 1, 100)
theorem mo0_6 : kMw k_cl mw0_6 := kMwb_ok (p1 := 99) (p2 := 1180) (p3 := 0) (by decide +kernel) (kwd_ok (p := 1181) (by decide +kernel))
def mw0_7 : kMd × Nat × Nat := ((⟨"SilenceMatch", "isLoudness", "(I)Z"⟩, prog_1_method_71_code, 1, some .boolean), 1, 100)
theorem mo0_7 : kMw k_cl mw0_7 := kMwb_ok (p1 := 99) (p2 := 691) (p3 := 0) (by decide +kernel) (kwd_ok (p := 692) (by decide +kernel))
def mw0_8 : kMd × Nat × Nat := ((⟨"SilenceMatch", "isSide", "(I)Z"⟩, prog_1_method_74_code, 2, some .boolean), 1, 9)
theorem mo0_8 : kMw k_cl mw0_8 := kMwb_ok (p1 := 99) (p2 := 812) (p3 := 20) (by decide +kernel) (kwd_ok (p := 813) (by decide +kernel))
def mw0_9 : kMd × Nat × Nat := ((⟨"SilenceMatch", "isMinute", "(I)Z"⟩, prog_1_method_75_code, 2, some .boolean), 1, 9)
theorem mo0_9 : kMw k_cl mw0_9 := kMwb_ok (p1 := 99) (p2 := 721) (p3 := 15) (by decide +kernel) (kwd_ok (p := 722) (by decide +kernel))
def mw0_10 : kMd × Nat × Nat := ((⟨"SilenceMatch", "areCoverTerms", "(II)Z"⟩, prog_1_method_76_code, 3, some .boolean), 2, 9)
theorem mo0_10 : kMw k_cl mw0_10 := kMwb_ok (p1 := 99) (p2 := 967) (p3 := 29) (by decide +kernel) (kwd_ok (p := 968) (by decide +kernel))
def mw0_11 : kMd × Nat × Nat := ((⟨"SilenceMatch", "bitsBelow", "(I)I"⟩, prog_1_method_77_code, 1, some .int), 1, 100)
theorem mo0_11 : kMw k_cl mw0_11 := kMwb_ok (p1 := 99) (p2 := 704) (p3 := 0) (by decide +kernel) (kwd_ok (p := 705) (by decide +kernel))
def mw0_12 : kMd × Nat × Nat := ((⟨"SilenceMatch", "listen", "(I)I"⟩, prog_1_method_88_code, 3, some .int), 1, 9)
theorem mo0_12 : kMw k_cl mw0_12 := kMwb_ok (p1 := 99) (p2 := 1032) (p3 := 32) (by decide +kernel) (kwd_ok (p := 1033) (by decide +kernel))
def mw0_13 : kMd × Nat × Nat := ((⟨"SilenceMatch", "filledSlots", "()I"⟩, prog_1_method_91_code, 3, some .int), 0, 9)
theorem mo0_13 : kMw k_cl mw0_13 := kMwb_ok (p1 := 99) (p2 := 1173) (p3 := 35) (by decide +kernel) (kwd_ok (p := 1174) (by decide +kernel))
def mw0_14 : kMd × Nat × Nat := ((⟨"SilenceMatch$Green", "clear", "()V"⟩, prog_5_method_2_code, 1, none), 0, 3)
theorem mo0_14 : kMw k_cl mw0_14 := kMwb_ok (p1 := 102) (p2 := 484) (p3 := 485) (by decide +kernel) (kwd_ok (p := 486) (by decide +kernel))
def mw0_15 : kMd × Nat × Nat := ((⟨"SilenceMatch$Green", "copyFrom", "(LSilenceMatch$Green;)V"⟩, prog_5_method_3_code, 2, none), 1, 3)
theorem mo0_15 : kMw k_cl mw0_15 := kMwb_ok (p1 := 102) (p2 := 630) (p3 := 631) (by decide +kernel) (kwd_ok (p := 632) (by decide +kernel))
def mw0_16 : kMd × Nat × Nat := ((⟨"SilenceMatch$Tape", "byteAt", "(I)I"⟩, prog_10_method_3_code, 2, some .int), 1, 8)
theorem mo0_16 : kMw k_cl mw0_16 := kMwb_ok (p1 := 100) (p2 := 492) (p3 := 493) (by decide +kernel) (kwd_ok (p := 494) (by decide +kernel))
def mw0_17 : kMd × Nat × Nat := ((⟨"SilenceMatch$Reader", "isBlank", "(I)Z"⟩, prog_8_method_18_code, 1, some .boolean), 1, 100)
theorem mo0_17 : kMw k_cl mw0_17 := kMwb_ok (p1 := 101) (p2 := 496) (p3 := 0) (by decide +kernel) (kwd_ok (p := 497) (by decide +kernel))
def mw0_18 : kMd × Nat × Nat := ((⟨"SilenceMatch$Reader", "kindOf", "(I)I"⟩, prog_8_method_19_code, 1, some .int), 1, 100)
theorem mo0_18 : kMw k_cl mw0_18 := kMwb_ok (p1 := 101) (p2 := 499) (p3 := 0) (by decide +kernel) (kwd_ok (p := 500) (by decide +kernel))
def mw0_19 : kMd × Nat × Nat := ((⟨"SilenceMatch$Reader", "advance", "()V"⟩, prog_8_method_17_code, 2, none), 0, 6)
theorem mo0_19 : kMw k_cl mw0_19 := kMwb_ok (p1 := 101) (p2 := 489) (p3 := 0) (by decide +kernel) (kwd_ok (p := 490) (by decide +kernel))
def mw0_20 : kMd × Nat × Nat := ((⟨"SilenceMatch$Reader", "readGreen", "(LSilenceMatch$Green;)V"⟩, prog_8_method_2_code, 3, none), 1, 6)
theorem mo0_20 : kMw k_cl mw0_20 := kMwb_ok (p1 := 101) (p2 := 480) (p3 := 481) (by decide +kernel) (kwd_ok (p := 482) (by decide +kernel))
def mw0_21 : kMd × Nat × Nat := ((⟨"SilenceMatch$Match", "learn", "(LSilenceMatch$Green;)V"⟩, prog_7_method_2_code, 4, none), 1, 5)
theorem mo0_21 : kMw k_cl mw0_21 := kMwb_ok (p1 := 104) (p2 := 637) (p3 := 638) (by decide +kernel) (kwd_ok (p := 639) (by decide +kernel))
def mw0_22 : kMd × Nat × Nat := ((⟨"SilenceMatch", "end", "(I)I"⟩, prog_1_method_3_code, 2, some .int), 1, 9)
theorem mo0_22 : kMw k_cl mw0_22 := kMwb_ok (p1 := 99) (p2 := 472) (p3 := 473) (by decide +kernel) (kwd_ok (p := 474) (by decide +kernel))
def mw0_23 : kMd × Nat × Nat := ((⟨"SilenceMatch", "green", "()I"⟩, prog_1_method_4_code, 1, some .int), 0, 9)
theorem mo0_23 : kMw k_cl mw0_23 := kMwb_ok (p1 := 99) (p2 := 476) (p3 := 477) (by decide +kernel) (kwd_ok (p := 478) (by decide +kernel))
def mw0_24 : kMd × Nat × Nat := ((⟨"SilenceMatch", "fault", "(I)I"⟩, prog_1_method_5_code, 2, some .int), 1, 9)
theorem mo0_24 : kMw k_cl mw0_24 := kMwb_ok (p1 := 99) (p2 := 642) (p3 := 643) (by decide +kernel) (kwd_ok (p := 644) (by decide +kernel))
def mw0_25 : kMd × Nat × Nat := ((⟨"SilenceMatch", "player", "(II)I"⟩, prog_1_method_6_code, 3, some .int), 2, 9)
theorem mo0_25 : kMw k_cl mw0_25 := kMwb_ok (p1 := 99) (p2 := 646) (p3 := 647) (by decide +kernel) (kwd_ok (p := 648) (by decide +kernel))
def mw0_26 : kMd × Nat × Nat := ((⟨"SilenceMatch", "umpire", "(II)I"⟩, prog_1_method_7_code, 3, some .int), 2, 9)
theorem mo0_26 : kMw k_cl mw0_26 := kMwb_ok (p1 := 99) (p2 := 658) (p3 := 659) (by decide +kernel) (kwd_ok (p := 660) (by decide +kernel))
def mw0_27 : kMd × Nat × Nat := ((⟨"SilenceMatch", "far", "(II)I"⟩, prog_1_method_8_code, 3, some .int), 2, 9)
theorem mo0_27 : kMw k_cl mw0_27 := kMwb_ok (p1 := 99) (p2 := 666) (p3 := 667) (by decide +kernel) (kwd_ok (p := 668) (by decide +kernel))
def mw0_28 : kMd × Nat × Nat := ((⟨"SilenceMatch", "wind", "(I)I"⟩, prog_1_method_9_code, 2, some .int), 1, 9)
theorem mo0_28 : kMw k_cl mw0_28 := kMwb_ok (p1 := 99) (p2 := 679) (p3 := 680) (by decide +kernel) (kwd_ok (p := 681) (by decide +kernel))
def mw0_29 : kMd × Nat × Nat := ((⟨"SilenceMatch", "ears", "(II)I"⟩, prog_1_method_10_code, 3, some .int), 2, 9)
theorem mo0_29 : kMw k_cl mw0_29 := kMwb_ok (p1 := 99) (p2 := 687) (p3 := 688) (by decide +kernel) (kwd_ok (p := 689) (by decide +kernel))
def mw0_30 : kMd × Nat × Nat := ((⟨"SilenceMatch", "dead", "(I)I"⟩, prog_1_method_11_code, 2, some .int), 1, 9)
theorem mo0_30 : kMw k_cl mw0_30 := kMwb_ok (p1 := 99) (p2 := 699) (p3 := 700) (by decide +kernel) (kwd_ok (p := 701) (by decide +kernel))
def mw0_31 : kMd × Nat × Nat := ((⟨"SilenceMatch", "quiet", "(I)I"⟩, prog_1_method_12_code, 3, some .int), 1, 9)
theorem mo0_31 : kMw k_cl mw0_31 := kMwb_ok (p1 := 99) (p2 := 712) (p3 := 713) (by decide +kernel) (kwd_ok (p := 714) (by decide +kernel))
def mw0_32 : kMd × Nat × Nat := ((⟨"SilenceMatch", "coughs", "(I)I"⟩, prog_1_method_13_code, 2, some .int), 1, 9)
theorem mo0_32 : kMw k_cl mw0_32 := kMwb_ok (p1 := 99) (p2 := 716) (p3 := 717) (by decide +kernel) (kwd_ok (p := 718) (by decide +kernel))
def mw0_33 : kMd × Nat × Nat := ((⟨"SilenceMatch", "out", "(I)I"⟩, prog_1_method_16_code, 2, some .int), 1, 9)
theorem mo0_33 : kMw k_cl mw0_33 := kMwb_ok (p1 := 99) (p2 := 732) (p3 := 733) (by decide +kernel) (kwd_ok (p := 734) (by decide +kernel))
def mw0_34 : kMd × Nat × Nat := ((⟨"SilenceMatch", "outs", "(I)I"⟩, prog_1_method_17_code, 2, some .int), 1, 9)
theorem mo0_34 : kMw k_cl mw0_34 := kMwb_ok (p1 := 99) (p2 := 781) (p3 := 782) (by decide +kernel) (kwd_ok (p := 783) (by decide +kernel))
def mw0_35 : kMd × Nat × Nat := ((⟨"SilenceMatch", "laughs", "(I)I"⟩, prog_1_method_18_code, 2, some .int), 1, 9)
theorem mo0_35 : kMw k_cl mw0_35 := kMwb_ok (p1 := 99) (p2 := 786) (p3 := 787) (by decide +kernel) (kwd_ok (p := 788) (by decide +kernel))
def mw0_36 : kMd × Nat × Nat := ((⟨"SilenceMatch", "finger", "(I)I"⟩, prog_1_method_19_code, 2, some .int), 1, 9)
theorem mo0_36 : kMw k_cl mw0_36 := kMwb_ok (p1 := 99) (p2 := 790) (p3 := 791) (by decide +kernel) (kwd_ok (p := 792) (by decide +kernel))
def mw0_37 : kMd × Nat × Nat := ((⟨"SilenceMatch", "fingers", "(I)I"⟩, prog_1_method_20_code, 4, some .int), 1, 9)
theorem mo0_37 : kMw k_cl mw0_37 := kMwb_ok (p1 := 99) (p2 := 803) (p3 := 804) (by decide +kernel) (kwd_ok (p := 805) (by decide +kernel))
def mw0_38 : kMd × Nat × Nat := ((⟨"SilenceMatch", "score", "(II)I"⟩, prog_1_method_21_code, 3, some .int), 2, 9)
theorem mo0_38 : kMw k_cl mw0_38 := kMwb_ok (p1 := 99) (p2 := 807) (p3 := 808) (by decide +kernel) (kwd_ok (p := 809) (by decide +kernel))
def mw0_39 : kMd × Nat × Nat := ((⟨"SilenceMatch", "wins", "()I"⟩, prog_1_method_22_code, 1, some .int), 0, 9)
theorem mo0_39 : kMw k_cl mw0_39 := kMwb_ok (p1 := 99) (p2 := 829) (p3 := 830) (by decide +kernel) (kwd_ok (p := 831) (by decide +kernel))
def mw0_40 : kMd × Nat × Nat := ((⟨"SilenceMatch", "leads", "()I"⟩, prog_1_method_23_code, 3, some .int), 0, 9)
theorem mo0_40 : kMw k_cl mw0_40 := kMwb_ok (p1 := 99) (p2 := 842) (p3 := 843) (by decide +kernel) (kwd_ok (p := 844) (by decide +kernel))
def mw0_41 : kMd × Nat × Nat := ((⟨"SilenceMatch", "last", "()I"⟩, prog_1_method_24_code, 3, some .int), 0, 9)
theorem mo0_41 : kMw k_cl mw0_41 := kMwb_ok (p1 := 99) (p2 := 846) (p3 := 847) (by decide +kernel) (kwd_ok (p := 848) (by decide +kernel))
def mw0_42 : kMd × Nat × Nat := ((⟨"SilenceMatch", "tries", "(I)I"⟩, prog_1_method_25_code, 2, some .int), 1, 9)
theorem mo0_42 : kMw k_cl mw0_42 := kMwb_ok (p1 := 99) (p2 := 850) (p3 := 851) (by decide +kernel) (kwd_ok (p := 852) (by decide +kernel))
def mw0_43 : kMd × Nat × Nat := ((⟨"SilenceMatch", "crowd", "(I)I"⟩, prog_1_method_14_code, 4, some .int), 1, 9)
theorem mo0_43 : kMw k_cl mw0_43 := kMwb_ok (p1 := 99) (p2 := 724) (p3 := 725) (by decide +kernel) (kwd_ok (p := 726) (by decide +kernel))
def mw0_44 : kMd × Nat × Nat := ((⟨"SilenceMatch", "near", "(I)I"⟩, prog_1_method_15_code, 6, some .int), 1, 9)
theorem mo0_44 : kMw k_cl mw0_44 := kMwb_ok (p1 := 99) (p2 := 728) (p3 := 729) (by decide +kernel) (kwd_ok (p := 730) (by decide +kernel))
def mw0_45 : kMd × Nat × Nat := ((⟨"SilenceMatch", "gone", "(I)I"⟩, prog_1_method_26_code, 3, some .int), 1, 9)
theorem mo0_45 : kMw k_cl mw0_45 := kMwb_ok (p1 := 99) (p2 := 854) (p3 := 855) (by decide +kernel) (kwd_ok (p := 856) (by decide +kernel))
def mw0_46 : kMd × Nat × Nat := ((⟨"SilenceMatch", "calm", "()I"⟩, prog_1_method_27_code, 4, some .int), 0, 9)
theorem mo0_46 : kMw k_cl mw0_46 := kMwb_ok (p1 := 99) (p2 := 858) (p3 := 859) (by decide +kernel) (kwd_ok (p := 860) (by decide +kernel))
def mw0_47 : kMd × Nat × Nat := ((⟨"SilenceMatch", "chain", "()I"⟩, prog_1_method_28_code, 4, some .int), 0, 9)
theorem mo0_47 : kMw k_cl mw0_47 := kMwb_ok (p1 := 99) (p2 := 865) (p3 := 866) (by decide +kernel) (kwd_ok (p := 867) (by decide +kernel))
def mw0_48 : kMd × Nat × Nat := ((⟨"SilenceMatch", "bells", "(I)I"⟩, prog_1_method_29_code, 3, some .int), 1, 9)
theorem mo0_48 : kMw k_cl mw0_48 := kMwb_ok (p1 := 99) (p2 := 869) (p3 := 870) (by decide +kernel) (kwd_ok (p := 871) (by decide +kernel))
def mw0_49 : kMd × Nat × Nat := ((⟨"SilenceMatch", "fire", "()I"⟩, prog_1_method_30_code, 5, some .int), 0, 9)
theorem mo0_49 : kMw k_cl mw0_49 := kMwb_ok (p1 := 99) (p2 := 873) (p3 := 874) (by decide +kernel) (kwd_ok (p := 875) (by decide +kernel))
def mw0_50 : kMd × Nat × Nat := ((⟨"SilenceMatch", "swap", "(I)I"⟩, prog_1_method_32_code, 7, some .int), 1, 9)
theorem mo0_50 : kMw k_cl mw0_50 := kMwb_ok (p1 := 99) (p2 := 894) (p3 := 895) (by decide +kernel) (kwd_ok (p := 896) (by decide +kernel))
def mw0_51 : kMd × Nat × Nat := ((⟨"SilenceMatch", "groups", "()I"⟩, prog_1_method_46_code, 4, some .int), 0, 9)
theorem mo0_51 : kMw k_cl mw0_51 := kMwb_ok (p1 := 99) (p2 := 1002) (p3 := 1003) (by decide +kernel) (kwd_ok (p := 1004) (by decide +kernel))
def mw0_52 : kMd × Nat × Nat := ((⟨"SilenceMatch", "safe", "(I)I"⟩, prog_1_method_33_code, 4, some .int), 1, 9)
theorem mo0_52 : kMw k_cl mw0_52 := kMwb_ok (p1 := 99) (p2 := 902) (p3 := 903) (by decide +kernel) (kwd_ok (p := 904) (by decide +kernel))
def mw0_53 : kMd × Nat × Nat := ((⟨"SilenceMatch", "place", "(I)I"⟩, prog_1_method_34_code, 2, some .int), 1, 9)
theorem mo0_53 : kMw k_cl mw0_53 := kMwb_ok (p1 := 99) (p2 := 910) (p3 := 911) (by decide +kernel) (kwd_ok (p := 912) (by decide +kernel))
def mw0_54 : kMd × Nat × Nat := ((⟨"SilenceMatch", "lasts", "(I)I"⟩, prog_1_method_35_code, 2, some .int), 1, 9)
theorem mo0_54 : kMw k_cl mw0_54 := kMwb_ok (p1 := 99) (p2 := 918) (p3 := 919) (by decide +kernel) (kwd_ok (p := 920) (by decide +kernel))
def mw0_55 : kMd × Nat × Nat := ((⟨"SilenceMatch", "best", "(I)I"⟩, prog_1_method_36_code, 2, some .int), 1, 9)
theorem mo0_55 : kMw k_cl mw0_55 := kMwb_ok (p1 := 99) (p2 := 922) (p3 := 923) (by decide +kernel) (kwd_ok (p := 924) (by decide +kernel))
def mw0_56 : kMd × Nat × Nat := ((⟨"SilenceMatch", "gains", "(I)I"⟩, prog_1_method_37_code, 2, some .int), 1, 9)
theorem mo0_56 : kMw k_cl mw0_56 := kMwb_ok (p1 := 99) (p2 := 930) (p3 := 931) (by decide +kernel) (kwd_ok (p := 932) (by decide +kernel))
def mw0_57 : kMd × Nat × Nat := ((⟨"SilenceMatch", "hush", "(I)I"⟩, prog_1_method_38_code, 3, some .int), 1, 9)
theorem mo0_57 : kMw k_cl mw0_57 := kMwb_ok (p1 := 99) (p2 := 934) (p3 := 935) (by decide +kernel) (kwd_ok (p := 936) (by decide +kernel))
def mw0_58 : kMd × Nat × Nat := ((⟨"SilenceMatch", "cover", "(II)I"⟩, prog_1_method_43_code, 3, some .int), 2, 9)
theorem mo0_58 : kMw k_cl mw0_58 := kMwb_ok (p1 := 99) (p2 := 962) (p3 := 963) (by decide +kernel) (kwd_ok (p := 964) (by decide +kernel))
def mw0_59 : kMd × Nat × Nat := ((⟨"SilenceMatch", "covers", "(III)I"⟩, prog_1_method_44_code, 4, some .int), 3, 9)
theorem mo0_59 : kMw k_cl mw0_59 := kMwb_ok (p1 := 99) (p2 := 993) (p3 := 994) (by decide +kernel) (kwd_ok (p := 995) (by decide +kernel))
def mw0_60 : kMd × Nat × Nat := ((⟨"SilenceMatch", "more", "(II)I"⟩, prog_1_method_45_code, 8, some .int), 2, 9)
theorem mo0_60 : kMw k_cl mw0_60 := kMwb_ok (p1 := 99) (p2 := 997) (p3 := 998) (by decide +kernel) (kwd_ok (p := 999) (by decide +kernel))
def mw0_61 : kMd × Nat × Nat := ((⟨"SilenceMatch", "spread", "(I)I"⟩, prog_1_method_47_code, 2, some .int), 1, 9)
theorem mo0_61 : kMw k_cl mw0_61 := kMwb_ok (p1 := 99) (p2 := 1011) (p3 := 1012) (by decide +kernel) (kwd_ok (p := 1013) (by decide +kernel))
def mw0_62 : kMd × Nat × Nat := ((⟨"SilenceMatch", "part", "(II)I"⟩, prog_1_method_48_code, 3, some .int), 2, 9)
theorem mo0_62 : kMw k_cl mw0_62 := kMwb_ok (p1 := 99) (p2 := 1015) (p3 := 1016) (by decide +kernel) (kwd_ok (p := 1017) (by decide +kernel))
def mw0_63 : kMd × Nat × Nat := ((⟨"SilenceMatch", "parts", "(II)I"⟩, prog_1_method_49_code, 3, some .int), 2, 9)
theorem mo0_63 : kMw k_cl mw0_63 := kMwb_ok (p1 := 99) (p2 := 1023) (p3 := 1024) (by decide +kernel) (kwd_ok (p := 1025) (by decide +kernel))
def mw0_64 : kMd × Nat × Nat := ((⟨"SilenceMatch", "grudge", "()I"⟩, prog_1_method_31_code, 5, some .int), 0, 9)
theorem mo0_64 : kMw k_cl mw0_64 := kMwb_ok (p1 := 99) (p2 := 890) (p3 := 891) (by decide +kernel) (kwd_ok (p := 892) (by decide +kernel))
def mw0_65 : kMd × Nat × Nat := ((⟨"SilenceMatch", "fits", "(I)I"⟩, prog_1_method_50_code, 3, some .int), 1, 9)
theorem mo0_65 : kMw k_cl mw0_65 := kMwb_ok (p1 := 99) (p2 := 1027) (p3 := 1028) (by decide +kernel) (kwd_ok (p := 1029) (by decide +kernel))
def mw0_66 : kMd × Nat × Nat := ((⟨"SilenceMatch", "spots", "(I)I"⟩, prog_1_method_51_code, 3, some .int), 1, 9)
theorem mo0_66 : kMw k_cl mw0_66 := kMwb_ok (p1 := 99) (p2 := 1057) (p3 := 1058) (by decide +kernel) (kwd_ok (p := 1059) (by decide +kernel))
def mw0_67 : kMd × Nat × Nat := ((⟨"SilenceMatch", "who", "(I)I"⟩, prog_1_method_52_code, 3, some .int), 1, 9)
theorem mo0_67 : kMw k_cl mw0_67 := kMwb_ok (p1 := 99) (p2 := 1065) (p3 := 1066) (by decide +kernel) (kwd_ok (p := 1067) (by decide +kernel))
def mw0_68 : kMd × Nat × Nat := ((⟨"SilenceMatch", "ask", "(I)I"⟩, prog_1_method_53_code, 3, some .int), 1, 9)
theorem mo0_68 : kMw k_cl mw0_68 := kMwb_ok (p1 := 99) (p2 := 1073) (p3 := 1074) (by decide +kernel) (kwd_ok (p := 1075) (by decide +kernel))
def mw0_69 : kMd × Nat × Nat := ((⟨"SilenceMatch", "leaves", "(I)I"⟩, prog_1_method_54_code, 4, some .int), 1, 9)
theorem mo0_69 : kMw k_cl mw0_69 := kMwb_ok (p1 := 99) (p2 := 1088) (p3 := 1089) (by decide +kernel) (kwd_ok (p := 1090) (by decide +kernel))
def mw0_70 : kMd × Nat × Nat := ((⟨"SilenceMatch", "even", "()I"⟩, prog_1_method_39_code, 1, some .int), 0, 9)
theorem mo0_70 : kMw k_cl mw0_70 := kMwb_ok (p1 := 99) (p2 := 938) (p3 := 939) (by decide +kernel) (kwd_ok (p := 940) (by decide +kernel))
def mw0_71 : kMd × Nat × Nat := ((⟨"SilenceMatch", "evens", "()I"⟩, prog_1_method_40_code, 1, some .int), 0, 9)
theorem mo0_71 : kMw k_cl mw0_71 := kMwb_ok (p1 := 99) (p2 := 950) (p3 := 951) (by decide +kernel) (kwd_ok (p := 952) (by decide +kernel))
def mw0_72 : kMd × Nat × Nat := ((⟨"SilenceMatch", "without", "(II)I"⟩, prog_1_method_41_code, 3, some .int), 2, 9)
theorem mo0_72 : kMw k_cl mw0_72 := kMwb_ok (p1 := 99) (p2 := 954) (p3 := 955) (by decide +kernel) (kwd_ok (p := 956) (by decide +kernel))
def mw0_73 : kMd × Nat × Nat := ((⟨"SilenceMatch", "drop", "(I)I"⟩, prog_1_method_42_code, 6, some .int), 1, 9)
theorem mo0_73 : kMw k_cl mw0_73 := kMwb_ok (p1 := 99) (p2 := 958) (p3 := 959) (by decide +kernel) (kwd_ok (p := 960) (by decide +kernel))
def mw0_74 : kMd × Nat × Nat := ((⟨"SilenceMatch", "chance", "(II)J"⟩, prog_1_method_55_code, 6, some .long), 2, 9)
theorem mo0_74 : kMw k_cl mw0_74 := kMwb_ok (p1 := 99) (p2 := 1093) (p3 := 1094) (by decide +kernel) (kwd_ok (p := 1095) (by decide +kernel))
def mw0_75 : kMd × Nat × Nat := ((⟨"SilenceMatch", "surest", "(I)I"⟩, prog_1_method_56_code, 5, some .int), 1, 9)
theorem mo0_75 : kMw k_cl mw0_75 := kMwb_ok (p1 := 99) (p2 := 1105) (p3 := 1106) (by decide +kernel) (kwd_ok (p := 1107) (by decide +kernel))
def mw0_76 : kMd × Nat × Nat := ((⟨"SilenceMatch", "sure", "(II)I"⟩, prog_1_method_57_code, 4, some .int), 2, 9)
theorem mo0_76 : kMw k_cl mw0_76 := kMwb_ok (p1 := 99) (p2 := 1114) (p3 := 1115) (by decide +kernel) (kwd_ok (p := 1116) (by decide +kernel))
def mw0_77 : kMd × Nat × Nat := ((⟨"SilenceMatch", "move", "(II)I"⟩, prog_1_method_58_code, 4, some .int), 2, 9)
theorem mo0_77 : kMw k_cl mw0_77 := kMwb_ok (p1 := 99) (p2 := 1123) (p3 := 1124) (by decide +kernel) (kwd_ok (p := 1125) (by decide +kernel))
def mw0_78 : kMd × Nat × Nat := ((⟨"SilenceMatch", "lozenge", "(II)I"⟩, prog_1_method_59_code, 4, some .int), 2, 9)
theorem mo0_78 : kMw k_cl mw0_78 := kMwb_ok (p1 := 99) (p2 := 1131) (p3 := 1132) (by decide +kernel) (kwd_ok (p := 1133) (by decide +kernel))
def mw0_79 : kMd × Nat × Nat := ((⟨"SilenceMatch", "undo", "()I"⟩, prog_1_method_60_code, 1, some .int), 0, 9)
theorem mo0_79 : kMw k_cl mw0_79 := kMwb_ok (p1 := 99) (p2 := 1135) (p3 := 1136) (by decide +kernel) (kwd_ok (p := 1137) (by decide +kernel))
def mw0_80 : kMd × Nat × Nat := ((⟨"SilenceMatch", "anew", "()I"⟩, prog_1_method_61_code, 3, some .int), 0, 9)
theorem mo0_80 : kMw k_cl mw0_80 := kMwb_ok (p1 := 99) (p2 := 1143) (p3 := 1144) (by decide +kernel) (kwd_ok (p := 1145) (by decide +kernel))
def mw0_81 : kMd × Nat × Nat := ((⟨"SilenceMatch", "drawn", "(II)I"⟩, prog_1_method_63_code, 3, some .int), 2, 9)
theorem mo0_81 : kMw k_cl mw0_81 := kMwb_ok (p1 := 99) (p2 := 1151) (p3 := 1152) (by decide +kernel) (kwd_ok (p := 1153) (by decide +kernel))
def mw0_82 : kMd × Nat × Nat := ((⟨"SilenceMatch", "luck", "(III)I"⟩, prog_1_method_64_code, 6, some .int), 3, 9)
theorem mo0_82 : kMw k_cl mw0_82 := kMwb_ok (p1 := 99) (p2 := 1164) (p3 := 1165) (by decide +kernel) (kwd_ok (p := 1166) (by decide +kernel))
def mw0_83 : kMd × Nat × Nat := ((⟨"SilenceMatch", "bell", "(I)I"⟩, prog_1_method_62_code, 3, some .int), 1, 9)
theorem mo0_83 : kMw k_cl mw0_83 := kMwb_ok (p1 := 99) (p2 := 1147) (p3 := 1148) (by decide +kernel) (kwd_ok (p := 1149) (by decide +kernel))
def mw0_84 : kMd × Nat × Nat := ((⟨"SilenceMatch", "count", "(I)I"⟩, prog_1_method_65_code, 2, some .int), 1, 9)
theorem mo0_84 : kMw k_cl mw0_84 := kMwb_ok (p1 := 99) (p2 := 1168) (p3 := 1169) (by decide +kernel) (kwd_ok (p := 1170) (by decide +kernel))
def mw0_85 : kMd × Nat × Nat := ((⟨"SilenceMatch", "back", "(I)I"⟩, prog_1_method_67_code, 2, some .int), 1, 9)
theorem mo0_85 : kMw k_cl mw0_85 := kMwb_ok (p1 := 99) (p2 := 1188) (p3 := 1189) (by decide +kernel) (kwd_ok (p := 1190) (by decide +kernel))
def mw0_86 : kMd × Nat × Nat := ((⟨"SilenceMatch", "write", "(IIJ)I"⟩, prog_1_method_69_code, 6, some .int), 3, 9)
theorem mo0_86 : kMw k_cl mw0_86 := kMwb_ok (p1 := 99) (p2 := 1200) (p3 := 1201) (by decide +kernel) (kwd_ok (p := 1202) (by decide +kernel))
def mw0_87 : kMd × Nat × Nat := ((⟨"SilenceMatch", "paste", "(IIIII)I"⟩, prog_1_method_70_code, 8, some .int), 5, 9)
theorem mo0_87 : kMw k_cl mw0_87 := kMwb_ok (p1 := 99) (p2 := 1208) (p3 := 1209) (by decide +kernel) (kwd_ok (p := 1210) (by decide +kernel))
def mw0_88 : kMd × Nat × Nat := ((⟨"SilenceMatchModel", "in", "(JJJ)Z"⟩, prog_12_method_3_code, 6, some .boolean), 3, 100)
theorem mo0_88 : kMw k_cl mw0_88 := kMwb_ok (p1 := 109) (p2 := 1342) (p3 := 0) (by decide +kernel) (kwd_ok (p := 1343) (by decide +kernel))
def mw0_89 : kMd × Nat × Nat := ((⟨"SilenceMatchModel", "isSide", "(I)Z"⟩, prog_12_method_55_code, 1, some .boolean), 1, 100)
theorem mo0_89 : kMw k_cl mw0_89 := kMwb_ok (p1 := 109) (p2 := 1624) (p3 := 0) (by decide +kernel) (kwd_ok (p := 1625) (by decide +kernel))
def mw0_90 : kMd × Nat × Nat := ((⟨"SilenceMatchModel", "isSlot", "(I)Z"⟩, prog_12_method_138_code, 1, some .boolean), 1, 100)
theorem mo0_90 : kMw k_cl mw0_90 := kMwb_ok (p1 := 109) (p2 := 1797) (p3 := 0) (by decide +kernel) (kwd_ok (p := 1798) (by decide +kernel))
def mw0_91 : kMd × Nat × Nat := ((⟨"SilenceMatchModel", "isSeed", "(I)Z"⟩, prog_12_method_133_code, 1, some .boolean), 1, 100)
theorem mo0_91 : kMw k_cl mw0_91 := kMwb_ok (p1 := 109) (p2 := 1897) (p3 := 0) (by decide +kernel) (kwd_ok (p := 1898) (by decide +kernel))
def mw0_92 : kMd × Nat × Nat := ((⟨"SilenceMatchModel", "bit", "(II)I"⟩, prog_12_method_5_code, 2, some .int), 2, 100)
theorem mo0_92 : kMw k_cl mw0_92 := kMwb_ok (p1 := 109) (p2 := 1547) (p3 := 0) (by decide +kernel) (kwd_ok (p := 1548) (by decide +kernel))
def mw0_93 : kMd × Nat × Nat := ((⟨"SilenceMatchModel", "bits", "(I)I"⟩, prog_12_method_4_code, 3, some .int), 1, 100)
theorem mo0_93 : kMw k_cl mw0_93 := kMwb_ok (p1 := 109) (p2 := 1754) (p3 := 0) (by decide +kernel) (kwd_ok (p := 1755) (by decide +kernel))
def mw0_94 : kMd × Nat × Nat := ((⟨"SilenceMatchModel", "isGreen", "()Z"⟩, prog_12_method_8_code, 1, some .boolean), 0, 10)
theorem mo0_94 : kMw k_cl mw0_94 := kMwb_ok (p1 := 109) (p2 := 1482) (p3 := 55) (by decide +kernel) (kwd_ok (p := 1483) (by decide +kernel))
def mw0_95 : kMd × Nat × Nat := ((⟨"SilenceMatchModel", "cellMany", "()I"⟩, prog_12_method_9_code, 1, some .int), 0, 10)
theorem mo0_95 : kMw k_cl mw0_95 := kMwb_ok (p1 := 109) (p2 := 1467) (p3 := 53) (by decide +kernel) (kwd_ok (p := 1468) (by decide +kernel))
def mw0_96 : kMd × Nat × Nat := ((⟨"SilenceMatchModel", "isCell", "(I)Z"⟩, prog_12_method_10_code, 2, some .boolean), 1, 10)
theorem mo0_96 : kMw k_cl mw0_96 := kMwb_ok (p1 := 109) (p2 := 1463) (p3 := 52) (by decide +kernel) (kwd_ok (p := 1464) (by decide +kernel))
def mw0_97 : kMd × Nat × Nat := ((⟨"SilenceMatchModel", "isPlayer", "(I)Z"⟩, prog_12_method_11_code, 2, some .boolean), 1, 10)
theorem mo0_97 : kMw k_cl mw0_97 := kMwb_ok (p1 := 109) (p2 := 1572) (p3 := 71) (by decide +kernel) (kwd_ok (p := 1573) (by decide +kernel))
def mw0_98 : kMd × Nat × Nat := ((⟨"SilenceMatchModel", "isUmpire", "(J)Z"⟩, prog_12_method_12_code, 3, some .boolean), 1, 10)
theorem mo0_98 : kMw k_cl mw0_98 := kMwb_ok (p1 := 109) (p2 := 1455) (p3 := 51) (by decide +kernel) (kwd_ok (p := 1456) (by decide +kernel))
def mw0_99 : kMd × Nat × Nat := ((⟨"SilenceMatchModel", "isLoud", "(II)Z"⟩, prog_12_method_36_code, 3, some .boolean), 2, 10)
theorem mo0_99 : kMw k_cl mw0_99 := kMwb_ok (p1 := 109) (p2 := 1495) (p3 := 57) (by decide +kernel) (kwd_ok (p := 1496) (by decide +kernel))
def mw0_100 : kMd × Nat × Nat := ((⟨"SilenceMatchModel", "isEar", "(II)Z"⟩, prog_12_method_97_code, 3, some .boolean), 2, 10)
theorem mo0_100 : kMw k_cl mw0_100 := kMwb_ok (p1 := 109) (p2 := 1742) (p3 := 85) (by decide +kernel) (kwd_ok (p := 1743) (by decide +kernel))
def mw0_101 : kMd × Nat × Nat := ((⟨"SilenceMatchModel", "of", "(II)I"⟩, prog_12_method_13_code, 3, some .int), 2, 10)
theorem mo0_101 : kMw k_cl mw0_101 := kMwb_ok (p1 := 109) (p2 := 1532) (p3 := 63) (by decide +kernel) (kwd_ok (p := 1533) (by decide +kernel))
def mw0_102 : kMd × Nat × Nat := ((⟨"SilenceMatchModel", "see", "(I)I"⟩, prog_12_method_16_code, 2, some .int), 1, 10)
theorem mo0_102 : kMw k_cl mw0_102 := kMwb_ok (p1 := 109) (p2 := 1370) (p3 := 37) (by decide +kernel) (kwd_ok (p := 1371) (by decide +kernel))
def mw0_103 : kMd × Nat × Nat := ((⟨"SilenceMatchModel", "good", "()Z"⟩, prog_12_method_18_code, 1, some .boolean), 0, 10)
theorem mo0_103 : kMw k_cl mw0_103 := kMwb_ok (p1 := 109) (p2 := 1380) (p3 := 38) (by decide +kernel) (kwd_ok (p := 1381) (by decide +kernel))
def mw0_104 : kMd × Nat × Nat := ((⟨"SilenceMatchModel", "advance", "()V"⟩, prog_12_method_17_code, 2, none), 0, 10)
theorem mo0_104 : kMw k_cl mw0_104 := kMwb_ok (p1 := 109) (p2 := 1366) (p3 := 36) (by decide +kernel) (kwd_ok (p := 1367) (by decide +kernel))
def mw0_105 : kMd × Nat × Nat := ((⟨"SilenceMatchModel", "asItIs", "()V"⟩, prog_12_method_44_code, 3, none), 0, 10)
theorem mo0_105 : kMw k_cl mw0_105 := kMwb_ok (p1 := 109) (p2 := 1528) (p3 := 62) (by decide +kernel) (kwd_ok (p := 1529) (by decide +kernel))
def mw0_106 : kMd × Nat × Nat := ((⟨"SilenceMatchModel", "goMatch", "()V"⟩, prog_12_method_51_code, 2, none), 0, 10)
theorem mo0_106 : kMw k_cl mw0_106 := kMwb_ok (p1 := 109) (p2 := 1536) (p3 := 64) (by decide +kernel) (kwd_ok (p := 1537) (by decide +kernel))
def mw0_107 : kMd × Nat × Nat := ((⟨"SilenceMatchModel", "asksGreen", "()Z"⟩, prog_12_method_52_code, 1, some .boolean), 0, 10)
theorem mo0_107 : kMw k_cl mw0_107 := kMwb_ok (p1 := 109) (p2 := 1524) (p3 := 61) (by decide +kernel) (kwd_ok (p := 1525) (by decide +kernel))
def mw0_108 : kMd × Nat × Nat := ((⟨"SilenceMatchModel", "asksPlayer", "(I)Z"⟩, prog_12_method_53_code, 2, some .boolean), 1, 10)
theorem mo0_108 : kMw k_cl mw0_108 := kMwb_ok (p1 := 109) (p2 := 1520) (p3 := 60) (by decide +kernel) (kwd_ok (p := 1521) (by decide +kernel))
def mw0_109 : kMd × Nat × Nat := ((⟨"SilenceMatchModel", "asksMinute", "(II)Z"⟩, prog_12_method_54_code, 3, some .boolean), 2, 10)
theorem mo0_109 : kMw k_cl mw0_109 := kMwb_ok (p1 := 109) (p2 := 1585) (p3 := 73) (by decide +kernel) (kwd_ok (p := 1586) (by decide +kernel))
def mw0_110 : kMd × Nat × Nat := ((⟨"SilenceMatchModel", "laySounds", "(I)I"⟩, prog_12_method_108_code, 7, some .int), 1, 10)
theorem mo0_110 : kMw k_cl mw0_110 := kMwb_ok (p1 := 109) (p2 := 1794) (p3 := 90) (by decide +kernel) (kwd_ok (p := 1795) (by decide +kernel))
def mw0_111 : kMd × Nat × Nat := ((⟨"SilenceMatchModel", "end", "(I)I"⟩, prog_12_method_15_code, 2, some .int), 1, 10)
theorem mo0_111 : kMw k_cl mw0_111 := kMwb_ok (p1 := 109) (p2 := 1353) (p3 := 1354) (by decide +kernel) (kwd_ok (p := 1355) (by decide +kernel))
def mw0_112 : kMd × Nat × Nat := ((⟨"SilenceMatchModel", "green", "()I"⟩, prog_12_method_32_code, 2, some .int), 0, 10)
theorem mo0_112 : kMw k_cl mw0_112 := kMwb_ok (p1 := 109) (p2 := 1361) (p3 := 1362) (by decide +kernel) (kwd_ok (p := 1363) (by decide +kernel))
def mw0_113 : kMd × Nat × Nat := ((⟨"SilenceMatchModel", "fault", "(I)I"⟩, prog_12_method_25_code, 2, some .int), 1, 10)
theorem mo0_113 : kMw k_cl mw0_113 := kMwb_ok (p1 := 109) (p2 := 1357) (p3 := 1358) (by decide +kernel) (kwd_ok (p := 1359) (by decide +kernel))
def mw0_114 : kMd × Nat × Nat := ((⟨"SilenceMatchModel", "player", "(II)I"⟩, prog_12_method_57_code, 3, some .int), 2, 10)
theorem mo0_114 : kMw k_cl mw0_114 := kMwb_ok (p1 := 109) (p2 := 1515) (p3 := 1516) (by decide +kernel) (kwd_ok (p := 1517) (by decide +kernel))
def mw0_115 : kMd × Nat × Nat := ((⟨"SilenceMatchModel", "umpire", "(II)I"⟩, prog_12_method_37_code, 3, some .int), 2, 10)
theorem mo0_115 : kMw k_cl mw0_115 := kMwb_ok (p1 := 109) (p2 := 1450) (p3 := 1451) (by decide +kernel) (kwd_ok (p := 1452) (by decide +kernel))
def mw0_116 : kMd × Nat × Nat := ((⟨"SilenceMatchModel", "far", "(II)I"⟩, prog_12_method_38_code, 3, some .int), 2, 10)
theorem mo0_116 : kMw k_cl mw0_116 := kMwb_ok (p1 := 109) (p2 := 1458) (p3 := 1459) (by decide +kernel) (kwd_ok (p := 1460) (by decide +kernel))
def mw0_117 : kMd × Nat × Nat := ((⟨"SilenceMatchModel", "wind", "(I)I"⟩, prog_12_method_39_code, 2, some .int), 1, 10)
theorem mo0_117 : kMw k_cl mw0_117 := kMwb_ok (p1 := 109) (p2 := 1477) (p3 := 1478) (by decide +kernel) (kwd_ok (p := 1479) (by decide +kernel))
def mw0_118 : kMd × Nat × Nat := ((⟨"SilenceMatchModel", "ears", "(II)I"⟩, prog_12_method_40_code, 3, some .int), 2, 10)
theorem mo0_118 : kMw k_cl mw0_118 := kMwb_ok (p1 := 109) (p2 := 1490) (p3 := 1491) (by decide +kernel) (kwd_ok (p := 1492) (by decide +kernel))
def mw0_119 : kMd × Nat × Nat := ((⟨"SilenceMatchModel", "dead", "(I)I"⟩, prog_12_method_42_code, 2, some .int), 1, 10)
theorem mo0_119 : kMw k_cl mw0_119 := kMwb_ok (p1 := 109) (p2 := 1503) (p3 := 1504) (by decide +kernel) (kwd_ok (p := 1505) (by decide +kernel))
def mw0_120 : kMd × Nat × Nat := ((⟨"SilenceMatchModel", "quiet", "(I)I"⟩, prog_12_method_43_code, 3, some .int), 1, 10)
theorem mo0_120 : kMw k_cl mw0_120 := kMwb_ok (p1 := 109) (p2 := 1511) (p3 := 1512) (by decide +kernel) (kwd_ok (p := 1513) (by decide +kernel))
def mw0_121 : kMd × Nat × Nat := ((⟨"SilenceMatchModel", "coughs", "(I)I"⟩, prog_12_method_58_code, 4, some .int), 1, 10)
theorem mo0_121 : kMw k_cl mw0_121 := kMwb_ok (p1 := 109) (p2 := 1580) (p3 := 1581) (by decide +kernel) (kwd_ok (p := 1582) (by decide +kernel))
def mw0_122 : kMd × Nat × Nat := ((⟨"SilenceMatchModel", "out", "(I)I"⟩, prog_12_method_60_code, 2, some .int), 1, 10)
theorem mo0_122 : kMw k_cl mw0_122 := kMwb_ok (p1 := 109) (p2 := 1592) (p3 := 1593) (by decide +kernel) (kwd_ok (p := 1594) (by decide +kernel))
def mw0_123 : kMd × Nat × Nat := ((⟨"SilenceMatchModel", "outs", "(I)I"⟩, prog_12_method_62_code, 2, some .int), 1, 10)
theorem mo0_123 : kMw k_cl mw0_123 := kMwb_ok (p1 := 109) (p2 := 1596) (p3 := 1597) (by decide +kernel) (kwd_ok (p := 1598) (by decide +kernel))
def mw0_124 : kMd × Nat × Nat := ((⟨"SilenceMatchModel", "laughs", "(I)I"⟩, prog_12_method_64_code, 2, some .int), 1, 10)
theorem mo0_124 : kMw k_cl mw0_124 := kMwb_ok (p1 := 109) (p2 := 1604) (p3 := 1605) (by decide +kernel) (kwd_ok (p := 1606) (by decide +kernel))
def mw0_125 : kMd × Nat × Nat := ((⟨"SilenceMatchModel", "finger", "(I)I"⟩, prog_12_method_65_code, 2, some .int), 1, 10)
theorem mo0_125 : kMw k_cl mw0_125 := kMwb_ok (p1 := 109) (p2 := 1612) (p3 := 1613) (by decide +kernel) (kwd_ok (p := 1614) (by decide +kernel))
def mw0_126 : kMd × Nat × Nat := ((⟨"SilenceMatchModel", "fingers", "(I)I"⟩, prog_12_method_66_code, 4, some .int), 1, 10)
theorem mo0_126 : kMw k_cl mw0_126 := kMwb_ok (p1 := 109) (p2 := 1616) (p3 := 1617) (by decide +kernel) (kwd_ok (p := 1618) (by decide +kernel))
def mw0_127 : kMd × Nat × Nat := ((⟨"SilenceMatchModel", "score", "(II)I"⟩, prog_12_method_68_code, 3, some .int), 2, 10)
theorem mo0_127 : kMw k_cl mw0_127 := kMwb_ok (p1 := 109) (p2 := 1620) (p3 := 1621) (by decide +kernel) (kwd_ok (p := 1622) (by decide +kernel))
def mw0_128 : kMd × Nat × Nat := ((⟨"SilenceMatchModel", "wins", "()I"⟩, prog_12_method_71_code, 1, some .int), 0, 10)
theorem mo0_128 : kMw k_cl mw0_128 := kMwb_ok (p1 := 109) (p2 := 1631) (p3 := 1632) (by decide +kernel) (kwd_ok (p := 1633) (by decide +kernel))
def mw0_129 : kMd × Nat × Nat := ((⟨"SilenceMatchModel", "leads", "()I"⟩, prog_12_method_72_code, 3, some .int), 0, 10)
theorem mo0_129 : kMw k_cl mw0_129 := kMwb_ok (p1 := 109) (p2 := 1643) (p3 := 1644) (by decide +kernel) (kwd_ok (p := 1645) (by decide +kernel))
def mw0_130 : kMd × Nat × Nat := ((⟨"SilenceMatchModel", "last", "()I"⟩, prog_12_method_73_code, 3, some .int), 0, 10)
theorem mo0_130 : kMw k_cl mw0_130 := kMwb_ok (p1 := 109) (p2 := 1647) (p3 := 1648) (by decide +kernel) (kwd_ok (p := 1649) (by decide +kernel))
def mw0_131 : kMd × Nat × Nat := ((⟨"SilenceMatchModel", "tries", "(I)I"⟩, prog_12_method_59_code, 4, some .int), 1, 10)
theorem mo0_131 : kMw k_cl mw0_131 := kMwb_ok (p1 := 109) (p2 := 1588) (p3 := 1589) (by decide +kernel) (kwd_ok (p := 1590) (by decide +kernel))
def mw0_132 : kMd × Nat × Nat := ((⟨"SilenceMatchModel", "crowd", "(I)I"⟩, prog_12_method_74_code, 4, some .int), 1, 10)
theorem mo0_132 : kMw k_cl mw0_132 := kMwb_ok (p1 := 109) (p2 := 1652) (p3 := 1653) (by decide +kernel) (kwd_ok (p := 1654) (by decide +kernel))
def mw0_133 : kMd × Nat × Nat := ((⟨"SilenceMatchModel", "near", "(I)I"⟩, prog_12_method_75_code, 4, some .int), 1, 10)
theorem mo0_133 : kMw k_cl mw0_133 := kMwb_ok (p1 := 109) (p2 := 1656) (p3 := 1657) (by decide +kernel) (kwd_ok (p := 1658) (by decide +kernel))
def mw0_134 : kMd × Nat × Nat := ((⟨"SilenceMatchModel", "gone", "(I)I"⟩, prog_12_method_76_code, 3, some .int), 1, 10)
theorem mo0_134 : kMw k_cl mw0_134 := kMwb_ok (p1 := 109) (p2 := 1660) (p3 := 1661) (by decide +kernel) (kwd_ok (p := 1662) (by decide +kernel))
def mw0_135 : kMd × Nat × Nat := ((⟨"SilenceMatchModel", "calm", "()I"⟩, prog_12_method_77_code, 4, some .int), 0, 10)
theorem mo0_135 : kMw k_cl mw0_135 := kMwb_ok (p1 := 109) (p2 := 1664) (p3 := 1665) (by decide +kernel) (kwd_ok (p := 1666) (by decide +kernel))
def mw0_136 : kMd × Nat × Nat := ((⟨"SilenceMatchModel", "chain", "()I"⟩, prog_12_method_78_code, 4, some .int), 0, 10)
theorem mo0_136 : kMw k_cl mw0_136 := kMwb_ok (p1 := 109) (p2 := 1668) (p3 := 1669) (by decide +kernel) (kwd_ok (p := 1670) (by decide +kernel))
def mw0_137 : kMd × Nat × Nat := ((⟨"SilenceMatchModel", "bells", "(I)I"⟩, prog_12_method_79_code, 3, some .int), 1, 10)
theorem mo0_137 : kMw k_cl mw0_137 := kMwb_ok (p1 := 109) (p2 := 1672) (p3 := 1673) (by decide +kernel) (kwd_ok (p := 1674) (by decide +kernel))
def mw0_138 : kMd × Nat × Nat := ((⟨"SilenceMatchModel", "fire", "()I"⟩, prog_12_method_81_code, 4, some .int), 0, 10)
theorem mo0_138 : kMw k_cl mw0_138 := kMwb_ok (p1 := 109) (p2 := 1676) (p3 := 1677) (by decide +kernel) (kwd_ok (p := 1678) (by decide +kernel))
def mw0_139 : kMd × Nat × Nat := ((⟨"SilenceMatchModel", "swap", "(I)I"⟩, prog_12_method_83_code, 6, some .int), 1, 10)
theorem mo0_139 : kMw k_cl mw0_139 := kMwb_ok (p1 := 109) (p2 := 1684) (p3 := 1685) (by decide +kernel) (kwd_ok (p := 1686) (by decide +kernel))
def mw0_140 : kMd × Nat × Nat := ((⟨"SilenceMatchModel", "groups", "()I"⟩, prog_12_method_84_code, 4, some .int), 0, 10)
theorem mo0_140 : kMw k_cl mw0_140 := kMwb_ok (p1 := 109) (p2 := 1692) (p3 := 1693) (by decide +kernel) (kwd_ok (p := 1694) (by decide +kernel))
def mw0_141 : kMd × Nat × Nat := ((⟨"SilenceMatchModel", "safe", "(I)I"⟩, prog_12_method_86_code, 4, some .int), 1, 10)
theorem mo0_141 : kMw k_cl mw0_141 := kMwb_ok (p1 := 109) (p2 := 1700) (p3 := 1701) (by decide +kernel) (kwd_ok (p := 1702) (by decide +kernel))
def mw0_142 : kMd × Nat × Nat := ((⟨"SilenceMatchModel", "place", "(I)I"⟩, prog_12_method_88_code, 2, some .int), 1, 10)
theorem mo0_142 : kMw k_cl mw0_142 := kMwb_ok (p1 := 109) (p2 := 1709) (p3 := 1710) (by decide +kernel) (kwd_ok (p := 1711) (by decide +kernel))
def mw0_143 : kMd × Nat × Nat := ((⟨"SilenceMatchModel", "lasts", "(I)I"⟩, prog_12_method_89_code, 2, some .int), 1, 10)
theorem mo0_143 : kMw k_cl mw0_143 := kMwb_ok (p1 := 109) (p2 := 1717) (p3 := 1718) (by decide +kernel) (kwd_ok (p := 1719) (by decide +kernel))
def mw0_144 : kMd × Nat × Nat := ((⟨"SilenceMatchModel", "best", "(I)I"⟩, prog_12_method_91_code, 2, some .int), 1, 10)
theorem mo0_144 : kMw k_cl mw0_144 := kMwb_ok (p1 := 109) (p2 := 1721) (p3 := 1722) (by decide +kernel) (kwd_ok (p := 1723) (by decide +kernel))
def mw0_145 : kMd × Nat × Nat := ((⟨"SilenceMatchModel", "gains", "(I)I"⟩, prog_12_method_92_code, 2, some .int), 1, 10)
theorem mo0_145 : kMw k_cl mw0_145 := kMwb_ok (p1 := 109) (p2 := 1729) (p3 := 1730) (by decide +kernel) (kwd_ok (p := 1731) (by decide +kernel))
def mw0_146 : kMd × Nat × Nat := ((⟨"SilenceMatchModel", "hush", "(I)I"⟩, prog_12_method_93_code, 3, some .int), 1, 10)
theorem mo0_146 : kMw k_cl mw0_146 := kMwb_ok (p1 := 109) (p2 := 1733) (p3 := 1734) (by decide +kernel) (kwd_ok (p := 1735) (by decide +kernel))
def mw0_147 : kMd × Nat × Nat := ((⟨"SilenceMatchModel", "cover", "(II)I"⟩, prog_12_method_98_code, 3, some .int), 2, 10)
theorem mo0_147 : kMw k_cl mw0_147 := kMwb_ok (p1 := 109) (p2 := 1737) (p3 := 1738) (by decide +kernel) (kwd_ok (p := 1739) (by decide +kernel))
def mw0_148 : kMd × Nat × Nat := ((⟨"SilenceMatchModel", "covers", "(III)I"⟩, prog_12_method_99_code, 4, some .int), 3, 10)
theorem mo0_148 : kMw k_cl mw0_148 := kMwb_ok (p1 := 109) (p2 := 1761) (p3 := 1762) (by decide +kernel) (kwd_ok (p := 1763) (by decide +kernel))
def mw0_149 : kMd × Nat × Nat := ((⟨"SilenceMatchModel", "more", "(II)I"⟩, prog_12_method_100_code, 7, some .int), 2, 10)
theorem mo0_149 : kMw k_cl mw0_149 := kMwb_ok (p1 := 109) (p2 := 1765) (p3 := 1766) (by decide +kernel) (kwd_ok (p := 1767) (by decide +kernel))
def mw0_150 : kMd × Nat × Nat := ((⟨"SilenceMatchModel", "spread", "(I)I"⟩, prog_12_method_102_code, 2, some .int), 1, 10)
theorem mo0_150 : kMw k_cl mw0_150 := kMwb_ok (p1 := 109) (p2 := 1769) (p3 := 1770) (by decide +kernel) (kwd_ok (p := 1771) (by decide +kernel))
def mw0_151 : kMd × Nat × Nat := ((⟨"SilenceMatchModel", "part", "(II)I"⟩, prog_12_method_104_code, 4, some .int), 2, 10)
theorem mo0_151 : kMw k_cl mw0_151 := kMwb_ok (p1 := 109) (p2 := 1773) (p3 := 1774) (by decide +kernel) (kwd_ok (p := 1775) (by decide +kernel))
def mw0_152 : kMd × Nat × Nat := ((⟨"SilenceMatchModel", "parts", "(II)I"⟩, prog_12_method_105_code, 3, some .int), 2, 10)
theorem mo0_152 : kMw k_cl mw0_152 := kMwb_ok (p1 := 109) (p2 := 1781) (p3 := 1782) (by decide +kernel) (kwd_ok (p := 1783) (by decide +kernel))
def mw0_153 : kMd × Nat × Nat := ((⟨"SilenceMatchModel", "grudge", "()I"⟩, prog_12_method_106_code, 4, some .int), 0, 10)
theorem mo0_153 : kMw k_cl mw0_153 := kMwb_ok (p1 := 109) (p2 := 1785) (p3 := 1786) (by decide +kernel) (kwd_ok (p := 1787) (by decide +kernel))
def mw0_154 : kMd × Nat × Nat := ((⟨"SilenceMatchModel", "fits", "(I)I"⟩, prog_12_method_109_code, 3, some .int), 1, 10)
theorem mo0_154 : kMw k_cl mw0_154 := kMwb_ok (p1 := 109) (p2 := 1789) (p3 := 1790) (by decide +kernel) (kwd_ok (p := 1791) (by decide +kernel))
def mw0_155 : kMd × Nat × Nat := ((⟨"SilenceMatchModel", "spots", "(I)I"⟩, prog_12_method_110_code, 5, some .int), 1, 10)
theorem mo0_155 : kMw k_cl mw0_155 := kMwb_ok (p1 := 109) (p2 := 1805) (p3 := 1806) (by decide +kernel) (kwd_ok (p := 1807) (by decide +kernel))
def mw0_156 : kMd × Nat × Nat := ((⟨"SilenceMatchModel", "who", "(I)I"⟩, prog_12_method_111_code, 6, some .int), 1, 10)
theorem mo0_156 : kMw k_cl mw0_156 := kMwb_ok (p1 := 109) (p2 := 1809) (p3 := 1810) (by decide +kernel) (kwd_ok (p := 1811) (by decide +kernel))
def mw0_157 : kMd × Nat × Nat := ((⟨"SilenceMatchModel", "ask", "(I)I"⟩, prog_12_method_113_code, 3, some .int), 1, 10)
theorem mo0_157 : kMw k_cl mw0_157 := kMwb_ok (p1 := 109) (p2 := 1813) (p3 := 1814) (by decide +kernel) (kwd_ok (p := 1815) (by decide +kernel))
def mw0_158 : kMd × Nat × Nat := ((⟨"SilenceMatchModel", "leaves", "(I)I"⟩, prog_12_method_114_code, 3, some .int), 1, 10)
theorem mo0_158 : kMw k_cl mw0_158 := kMwb_ok (p1 := 109) (p2 := 1821) (p3 := 1822) (by decide +kernel) (kwd_ok (p := 1823) (by decide +kernel))
def mw0_159 : kMd × Nat × Nat := ((⟨"SilenceMatchModel", "even", "()I"⟩, prog_12_method_116_code, 1, some .int), 0, 10)
theorem mo0_159 : kMw k_cl mw0_159 := kMwb_ok (p1 := 109) (p2 := 1825) (p3 := 1826) (by decide +kernel) (kwd_ok (p := 1827) (by decide +kernel))
def mw0_160 : kMd × Nat × Nat := ((⟨"SilenceMatchModel", "evens", "()I"⟩, prog_12_method_117_code, 1, some .int), 0, 10)
theorem mo0_160 : kMw k_cl mw0_160 := kMwb_ok (p1 := 109) (p2 := 1833) (p3 := 1834) (by decide +kernel) (kwd_ok (p := 1835) (by decide +kernel))
def mw0_161 : kMd × Nat × Nat := ((⟨"SilenceMatchModel", "without", "(II)I"⟩, prog_12_method_118_code, 3, some .int), 2, 10)
theorem mo0_161 : kMw k_cl mw0_161 := kMwb_ok (p1 := 109) (p2 := 1837) (p3 := 1838) (by decide +kernel) (kwd_ok (p := 1839) (by decide +kernel))
def mw0_162 : kMd × Nat × Nat := ((⟨"SilenceMatchModel", "drop", "(I)I"⟩, prog_12_method_119_code, 5, some .int), 1, 10)
theorem mo0_162 : kMw k_cl mw0_162 := kMwb_ok (p1 := 109) (p2 := 1841) (p3 := 1842) (by decide +kernel) (kwd_ok (p := 1843) (by decide +kernel))
def mw0_163 : kMd × Nat × Nat := ((⟨"SilenceMatchModel", "chance", "(II)J"⟩, prog_12_method_123_code, 8, some .long), 2, 10)
theorem mo0_163 : kMw k_cl mw0_163 := kMwb_ok (p1 := 109) (p2 := 1845) (p3 := 1846) (by decide +kernel) (kwd_ok (p := 1847) (by decide +kernel))
def mw0_164 : kMd × Nat × Nat := ((⟨"SilenceMatchModel", "surest", "(I)I"⟩, prog_12_method_124_code, 4, some .int), 1, 10)
theorem mo0_164 : kMw k_cl mw0_164 := kMwb_ok (p1 := 109) (p2 := 1860) (p3 := 1861) (by decide +kernel) (kwd_ok (p := 1862) (by decide +kernel))
def mw0_165 : kMd × Nat × Nat := ((⟨"SilenceMatchModel", "sure", "(II)I"⟩, prog_12_method_126_code, 4, some .int), 2, 10)
theorem mo0_165 : kMw k_cl mw0_165 := kMwb_ok (p1 := 109) (p2 := 1868) (p3 := 1869) (by decide +kernel) (kwd_ok (p := 1870) (by decide +kernel))
def mw0_166 : kMd × Nat × Nat := ((⟨"SilenceMatchModel", "move", "(II)I"⟩, prog_12_method_128_code, 3, some .int), 2, 10)
theorem mo0_166 : kMw k_cl mw0_166 := kMwb_ok (p1 := 109) (p2 := 1873) (p3 := 1874) (by decide +kernel) (kwd_ok (p := 1875) (by decide +kernel))
def mw0_167 : kMd × Nat × Nat := ((⟨"SilenceMatchModel", "lozenge", "(II)I"⟩, prog_12_method_129_code, 3, some .int), 2, 10)
theorem mo0_167 : kMw k_cl mw0_167 := kMwb_ok (p1 := 109) (p2 := 1881) (p3 := 1882) (by decide +kernel) (kwd_ok (p := 1883) (by decide +kernel))
def mw0_168 : kMd × Nat × Nat := ((⟨"SilenceMatchModel", "undo", "()I"⟩, prog_12_method_130_code, 1, some .int), 0, 10)
theorem mo0_168 : kMw k_cl mw0_168 := kMwb_ok (p1 := 109) (p2 := 1885) (p3 := 1886) (by decide +kernel) (kwd_ok (p := 1887) (by decide +kernel))
def mw0_169 : kMd × Nat × Nat := ((⟨"SilenceMatchModel", "anew", "()I"⟩, prog_12_method_131_code, 2, some .int), 0, 10)
theorem mo0_169 : kMw k_cl mw0_169 := kMwb_ok (p1 := 109) (p2 := 1889) (p3 := 1890) (by decide +kernel) (kwd_ok (p := 1891) (by decide +kernel))
def mw0_170 : kMd × Nat × Nat := ((⟨"SilenceMatchModel", "drawn", "(II)I"⟩, prog_12_method_134_code, 5, some .int), 2, 10)
theorem mo0_170 : kMw k_cl mw0_170 := kMwb_ok (p1 := 109) (p2 := 1893) (p3 := 1894) (by decide +kernel) (kwd_ok (p := 1895) (by decide +kernel))
def mw0_171 : kMd × Nat × Nat := ((⟨"SilenceMatchModel", "luck", "(III)I"⟩, prog_12_method_135_code, 6, some .int), 3, 10)
theorem mo0_171 : kMw k_cl mw0_171 := kMwb_ok (p1 := 109) (p2 := 1905) (p3 := 1906) (by decide +kernel) (kwd_ok (p := 1907) (by decide +kernel))
def mw0_172 : kMd × Nat × Nat := ((⟨"SilenceMatchModel", "bell", "(I)I"⟩, prog_12_method_136_code, 3, some .int), 1, 10)
theorem mo0_172 : kMw k_cl mw0_172 := kMwb_ok (p1 := 109) (p2 := 1910) (p3 := 1911) (by decide +kernel) (kwd_ok (p := 1912) (by decide +kernel))
def mw0_173 : kMd × Nat × Nat := ((⟨"SilenceMatchModel", "count", "(I)I"⟩, prog_12_method_137_code, 4, some .int), 1, 10)
theorem mo0_173 : kMw k_cl mw0_173 := kMwb_ok (p1 := 109) (p2 := 1914) (p3 := 1915) (by decide +kernel) (kwd_ok (p := 1916) (by decide +kernel))
def mw0_174 : kMd × Nat × Nat := ((⟨"SilenceMatchModel", "back", "(I)I"⟩, prog_12_method_7_code, 3, some .int), 1, 10)
theorem mo0_174 : kMw k_cl mw0_174 := kMwb_ok (p1 := 109) (p2 := 1345) (p3 := 1346) (by decide +kernel) (kwd_ok (p := 1347) (by decide +kernel))
def mw0_175 : kMd × Nat × Nat := ((⟨"SilenceMatchModel", "write", "(IIJ)I"⟩, prog_12_method_141_code, 5, some .int), 3, 10)
theorem mo0_175 : kMw k_cl mw0_175 := kMwb_ok (p1 := 109) (p2 := 1924) (p3 := 1925) (by decide +kernel) (kwd_ok (p := 1926) (by decide +kernel))
def mw0_176 : kMd × Nat × Nat := ((⟨"SilenceMatchModel", "paste", "(IIIII)I"⟩, prog_12_method_142_code, 7, some .int), 5, 10)
theorem mo0_176 : kMw k_cl mw0_176 := kMwb_ok (p1 := 109) (p2 := 1931) (p3 := 1932) (by decide +kernel) (kwd_ok (p := 1933) (by decide +kernel))
end
section
/-! WORDS 0, of the lists -/
def mw0_c0 : List (kMd × Nat × Nat) := [mw0_0, mw0_1, mw0_2, mw0_3, mw0_4, mw0_5, mw0_6, mw0_7, mw0_8, mw0_9, mw0_10, mw0_11, mw0_12, mw0_13, mw0_14, mw0_15, mw0_16, mw0_17, mw0_18, mw0_19, mw0_20, mw0_21, mw0_22, mw0_23, mw0_24, mw0_25, mw0_26, mw0_27, mw0_28, mw0_29]
theorem mo0_c0 : ∀ x ∈ mw0_c0, kMw k_cl x := List.forall_mem_cons.mpr ⟨mo0_0, List.forall_mem_cons.mpr ⟨mo0_1, List.forall_mem_cons.mpr ⟨mo0_2, List.forall_mem_cons.mpr ⟨mo0_3, List.forall_mem_cons.mpr ⟨mo0_4, List.forall_mem_cons.mpr ⟨mo0_5, List.forall_mem_cons.mpr ⟨mo0_6, List.forall_mem_cons.mpr ⟨mo0_7, List.forall_mem_cons.mpr ⟨mo0_8, List.forall_mem_cons.mpr ⟨mo0_9, List.forall_mem_cons.mpr ⟨mo0_10, List.forall_mem_cons.mpr ⟨mo0_11, List.forall_mem_cons.mpr ⟨mo0_12, List.forall_mem_cons.mpr ⟨mo0_13, List.forall_mem_cons.mpr ⟨mo0_14, List.forall_mem_cons.mpr ⟨mo0_15, List.forall_mem_cons.mpr ⟨mo0_16, List.forall_mem_cons.mpr ⟨mo0_17, List.forall_mem_cons.mpr ⟨mo0_18, List.forall_mem_cons.mpr ⟨mo0_19, List.forall_mem_cons.mpr ⟨mo0_20, List.forall_mem_cons.mpr ⟨mo0_21, List.forall_mem_cons.mpr ⟨mo0_22, List.forall_mem_cons.mpr ⟨mo0_23, List.forall_mem_cons.mpr ⟨mo0_24, List.forall_mem_cons.mpr ⟨mo0_25, List.forall_mem_cons.mpr ⟨mo0_26, List.forall_mem_cons.mpr ⟨mo0_27, List.forall_mem_cons.mpr ⟨mo0_28, List.forall_mem_cons.mpr ⟨mo0_29, fun _ h => absurd h List.not_mem_nil⟩⟩⟩⟩⟩⟩⟩⟩⟩⟩⟩⟩⟩⟩⟩⟩⟩⟩⟩⟩⟩⟩⟩⟩⟩⟩⟩⟩⟩⟩
def mw0_c1 : List (kMd × Nat × Nat) := [mw0_30, mw0_31, mw0_32, mw0_33, mw0_34, mw0_35, mw0_36, mw0_37, mw0_38, mw0_39, mw0_40, mw0_41, mw0_42, mw0_43, mw0_44, mw0_45, mw0_46, mw0_47, mw0_48, mw0_49, mw0_50, mw0_51, mw0_52, mw0_53, mw0_54, mw0_55, mw0_56, mw0_57, mw0_58, mw0_59]
theorem mo0_c1 : ∀ x ∈ mw0_c1, kMw k_cl x := List.forall_mem_cons.mpr ⟨mo0_30, List.forall_mem_cons.mpr ⟨mo0_31, List.forall_mem_cons.mpr ⟨mo0_32, List.forall_mem_cons.mpr ⟨mo0_33, List.forall_mem_cons.mpr ⟨mo0_34, List.forall_mem_cons.mpr ⟨mo0_35, List.forall_mem_cons.mpr ⟨mo0_36, List.forall_mem_cons.mpr ⟨mo0_37, List.forall_mem_cons.mpr ⟨mo0_38, List.forall_mem_cons.mpr ⟨mo0_39, List.forall_mem_cons.mpr ⟨mo0_40, List.forall_mem_cons.mpr ⟨mo0_41, List.forall_mem_cons.mpr ⟨mo0_42, List.forall_mem_cons.mpr ⟨mo0_43, List.forall_mem_cons.mpr ⟨mo0_44, List.forall_mem_cons.mpr ⟨mo0_45, List.forall_mem_cons.mpr ⟨mo0_46, List.forall_mem_cons.mpr ⟨mo0_47, List.forall_mem_cons.mpr ⟨mo0_48, List.forall_mem_cons.mpr ⟨mo0_49, List.forall_mem_cons.mpr ⟨mo0_50, List.forall_mem_cons.mpr ⟨mo0_51, List.forall_mem_cons.mpr ⟨mo0_52, List.forall_mem_cons.mpr ⟨mo0_53, List.forall_mem_cons.mpr ⟨mo0_54, List.forall_mem_cons.mpr ⟨mo0_55, List.forall_mem_cons.mpr ⟨mo0_56, List.forall_mem_cons.mpr ⟨mo0_57, List.forall_mem_cons.mpr ⟨mo0_58, List.forall_mem_cons.mpr ⟨mo0_59, fun _ h => absurd h List.not_mem_nil⟩⟩⟩⟩⟩⟩⟩⟩⟩⟩⟩⟩⟩⟩⟩⟩⟩⟩⟩⟩⟩⟩⟩⟩⟩⟩⟩⟩⟩⟩
def mw0_c2 : List (kMd × Nat × Nat) := [mw0_60, mw0_61, mw0_62, mw0_63, mw0_64, mw0_65, mw0_66, mw0_67, mw0_68, mw0_69, mw0_70, mw0_71, mw0_72, mw0_73, mw0_74, mw0_75, mw0_76, mw0_77, mw0_78, mw0_79, mw0_80, mw0_81, mw0_82, mw0_83, mw0_84, mw0_85, mw0_86, mw0_87, mw0_88, mw0_89]
theorem mo0_c2 : ∀ x ∈ mw0_c2, kMw k_cl x := List.forall_mem_cons.mpr ⟨mo0_60, List.forall_mem_cons.mpr ⟨mo0_61, List.forall_mem_cons.mpr ⟨mo0_62, List.forall_mem_cons.mpr ⟨mo0_63, List.forall_mem_cons.mpr ⟨mo0_64, List.forall_mem_cons.mpr ⟨mo0_65, List.forall_mem_cons.mpr ⟨mo0_66, List.forall_mem_cons.mpr ⟨mo0_67, List.forall_mem_cons.mpr ⟨mo0_68, List.forall_mem_cons.mpr ⟨mo0_69, List.forall_mem_cons.mpr ⟨mo0_70, List.forall_mem_cons.mpr ⟨mo0_71, List.forall_mem_cons.mpr ⟨mo0_72, List.forall_mem_cons.mpr ⟨mo0_73, List.forall_mem_cons.mpr ⟨mo0_74, List.forall_mem_cons.mpr ⟨mo0_75, List.forall_mem_cons.mpr ⟨mo0_76, List.forall_mem_cons.mpr ⟨mo0_77, List.forall_mem_cons.mpr ⟨mo0_78, List.forall_mem_cons.mpr ⟨mo0_79, List.forall_mem_cons.mpr ⟨mo0_80, List.forall_mem_cons.mpr ⟨mo0_81, List.forall_mem_cons.mpr ⟨mo0_82, List.forall_mem_cons.mpr ⟨mo0_83, List.forall_mem_cons.mpr ⟨mo0_84, List.forall_mem_cons.mpr ⟨mo0_85, List.forall_mem_cons.mpr ⟨mo0_86, List.forall_mem_cons.mpr ⟨mo0_87, List.forall_mem_cons.mpr ⟨mo0_88, List.forall_mem_cons.mpr ⟨mo0_89, fun _ h => absurd h List.not_mem_nil⟩⟩⟩⟩⟩⟩⟩⟩⟩⟩⟩⟩⟩⟩⟩⟩⟩⟩⟩⟩⟩⟩⟩⟩⟩⟩⟩⟩⟩⟩
def mw0_c3 : List (kMd × Nat × Nat) := [mw0_90, mw0_91, mw0_92, mw0_93, mw0_94, mw0_95, mw0_96, mw0_97, mw0_98, mw0_99, mw0_100, mw0_101, mw0_102, mw0_103, mw0_104, mw0_105, mw0_106, mw0_107, mw0_108, mw0_109, mw0_110, mw0_111, mw0_112, mw0_113, mw0_114, mw0_115, mw0_116, mw0_117, mw0_118, mw0_119]
theorem mo0_c3 : ∀ x ∈ mw0_c3, kMw k_cl x := List.forall_mem_cons.mpr ⟨mo0_90, List.forall_mem_cons.mpr ⟨mo0_91, List.forall_mem_cons.mpr ⟨mo0_92, List.forall_mem_cons.mpr ⟨mo0_93, List.forall_mem_cons.mpr ⟨mo0_94, List.forall_mem_cons.mpr ⟨mo0_95, List.forall_mem_cons.mpr ⟨mo0_96, List.forall_mem_cons.mpr ⟨mo0_97, List.forall_mem_cons.mpr ⟨mo0_98, List.forall_mem_cons.mpr ⟨mo0_99, List.forall_mem_cons.mpr ⟨mo0_100, List.forall_mem_cons.mpr ⟨mo0_101, List.forall_mem_cons.mpr ⟨mo0_102, List.forall_mem_cons.mpr ⟨mo0_103, List.forall_mem_cons.mpr ⟨mo0_104, List.forall_mem_cons.mpr ⟨mo0_105, List.forall_mem_cons.mpr ⟨mo0_106, List.forall_mem_cons.mpr ⟨mo0_107, List.forall_mem_cons.mpr ⟨mo0_108, List.forall_mem_cons.mpr ⟨mo0_109, List.forall_mem_cons.mpr ⟨mo0_110, List.forall_mem_cons.mpr ⟨mo0_111, List.forall_mem_cons.mpr ⟨mo0_112, List.forall_mem_cons.mpr ⟨mo0_113, List.forall_mem_cons.mpr ⟨mo0_114, List.forall_mem_cons.mpr ⟨mo0_115, List.forall_mem_cons.mpr ⟨mo0_116, List.forall_mem_cons.mpr ⟨mo0_117, List.forall_mem_cons.mpr ⟨mo0_118, List.forall_mem_cons.mpr ⟨mo0_119, fun _ h => absurd h List.not_mem_nil⟩⟩⟩⟩⟩⟩⟩⟩⟩⟩⟩⟩⟩⟩⟩⟩⟩⟩⟩⟩⟩⟩⟩⟩⟩⟩⟩⟩⟩⟩
def mw0_c4 : List (kMd × Nat × Nat) := [mw0_120, mw0_121, mw0_122, mw0_123, mw0_124, mw0_125, mw0_126, mw0_127, mw0_128, mw0_129, mw0_130, mw0_131, mw0_132, mw0_133, mw0_134, mw0_135, mw0_136, mw0_137, mw0_138, mw0_139, mw0_140, mw0_141, mw0_142, mw0_143, mw0_144, mw0_145, mw0_146, mw0_147, mw0_148, mw0_149]
theorem mo0_c4 : ∀ x ∈ mw0_c4, kMw k_cl x := List.forall_mem_cons.mpr ⟨mo0_120, List.forall_mem_cons.mpr ⟨mo0_121, List.forall_mem_cons.mpr ⟨mo0_122, List.forall_mem_cons.mpr ⟨mo0_123, List.forall_mem_cons.mpr ⟨mo0_124, List.forall_mem_cons.mpr ⟨mo0_125, List.forall_mem_cons.mpr ⟨mo0_126, List.forall_mem_cons.mpr ⟨mo0_127, List.forall_mem_cons.mpr ⟨mo0_128, List.forall_mem_cons.mpr ⟨mo0_129, List.forall_mem_cons.mpr ⟨mo0_130, List.forall_mem_cons.mpr ⟨mo0_131, List.forall_mem_cons.mpr ⟨mo0_132, List.forall_mem_cons.mpr ⟨mo0_133, List.forall_mem_cons.mpr ⟨mo0_134, List.forall_mem_cons.mpr ⟨mo0_135, List.forall_mem_cons.mpr ⟨mo0_136, List.forall_mem_cons.mpr ⟨mo0_137, List.forall_mem_cons.mpr ⟨mo0_138, List.forall_mem_cons.mpr ⟨mo0_139, List.forall_mem_cons.mpr ⟨mo0_140, List.forall_mem_cons.mpr ⟨mo0_141, List.forall_mem_cons.mpr ⟨mo0_142, List.forall_mem_cons.mpr ⟨mo0_143, List.forall_mem_cons.mpr ⟨mo0_144, List.forall_mem_cons.mpr ⟨mo0_145, List.forall_mem_cons.mpr ⟨mo0_146, List.forall_mem_cons.mpr ⟨mo0_147, List.forall_mem_cons.mpr ⟨mo0_148, List.forall_mem_cons.mpr ⟨mo0_149, fun _ h => absurd h List.not_mem_nil⟩⟩⟩⟩⟩⟩⟩⟩⟩⟩⟩⟩⟩⟩⟩⟩⟩⟩⟩⟩⟩⟩⟩⟩⟩⟩⟩⟩⟩⟩
def mw0_c5 : List (kMd × Nat × Nat) := [mw0_150, mw0_151, mw0_152, mw0_153, mw0_154, mw0_155, mw0_156, mw0_157, mw0_158, mw0_159, mw0_160, mw0_161, mw0_162, mw0_163, mw0_164, mw0_165, mw0_166, mw0_167, mw0_168, mw0_169, mw0_170, mw0_171, mw0_172, mw0_173, mw0_174, mw0_175, mw0_176]
theorem mo0_c5 : ∀ x ∈ mw0_c5, kMw k_cl x := List.forall_mem_cons.mpr ⟨mo0_150, List.forall_mem_cons.mpr ⟨mo0_151, List.forall_mem_cons.mpr ⟨mo0_152, List.forall_mem_cons.mpr ⟨mo0_153, List.forall_mem_cons.mpr ⟨mo0_154, List.forall_mem_cons.mpr ⟨mo0_155, List.forall_mem_cons.mpr ⟨mo0_156, List.forall_mem_cons.mpr ⟨mo0_157, List.forall_mem_cons.mpr ⟨mo0_158, List.forall_mem_cons.mpr ⟨mo0_159, List.forall_mem_cons.mpr ⟨mo0_160, List.forall_mem_cons.mpr ⟨mo0_161, List.forall_mem_cons.mpr ⟨mo0_162, List.forall_mem_cons.mpr ⟨mo0_163, List.forall_mem_cons.mpr ⟨mo0_164, List.forall_mem_cons.mpr ⟨mo0_165, List.forall_mem_cons.mpr ⟨mo0_166, List.forall_mem_cons.mpr ⟨mo0_167, List.forall_mem_cons.mpr ⟨mo0_168, List.forall_mem_cons.mpr ⟨mo0_169, List.forall_mem_cons.mpr ⟨mo0_170, List.forall_mem_cons.mpr ⟨mo0_171, List.forall_mem_cons.mpr ⟨mo0_172, List.forall_mem_cons.mpr ⟨mo0_173, List.forall_mem_cons.mpr ⟨mo0_174, List.forall_mem_cons.mpr ⟨mo0_175, List.forall_mem_cons.mpr ⟨mo0_176, fun _ h => absurd h List.not_mem_nil⟩⟩⟩⟩⟩⟩⟩⟩⟩⟩⟩⟩⟩⟩⟩⟩⟩⟩⟩⟩⟩⟩⟩⟩⟩⟩⟩
def mw0 : List (kMd × Nat × Nat) := mw0_c0 ++ (mw0_c1 ++ (mw0_c2 ++ (mw0_c3 ++ (mw0_c4 ++ (mw0_c5)))))
theorem mo0 : ∀ x ∈ mw0, kMw k_cl x := List.forall_mem_append.mpr ⟨mo0_c0, List.forall_mem_append.mpr ⟨mo0_c1, List.forall_mem_append.mpr ⟨mo0_c2, List.forall_mem_append.mpr ⟨mo0_c3, List.forall_mem_append.mpr ⟨mo0_c4, mo0_c5⟩⟩⟩⟩⟩
theorem wc0_SilenceMatch_Green : kOwC "SilenceMatch$Green" ow0_SilenceMatch_Green k_lg [] := kOwCb_ok (ps := []) (ps2 := []) (by decide +kernel)
theorem wf0_SilenceMatch_Green : kOwF "SilenceMatch$Green" ow0_SilenceMatch_Green k_cl k_lg := kOwFb_ok (ps := [210, 213, 219, 225, 229, 232, 235, 238, 241, 243, 174, 177, 180, 183, 187, 191, 195, 200, 203, 207]) (by decide +kernel)
theorem wm0_SilenceMatch_Green : kOwM "SilenceMatch$Green" ow0_SilenceMatch_Green k_cl (mw0.map (fun x => x.1)) k_lg [] := kOwMb_ok mo0 k_cpw (ps := [633, 673]) (by decide +kernel)
theorem wc0_SilenceMatch : kOwC "SilenceMatch" ow0_SilenceMatch k_lg [] := kOwCb_ok (ps := []) (ps2 := [1096]) (by decide +kernel)
theorem wf0_SilenceMatch : kOwF "SilenceMatch" ow0_SilenceMatch k_cl k_lg := kOwFb_ok (ps := [423, 424, 425, 426, 428, 429, 432, 435, 132, 148, 293, 176, 150, 199, 202, 186, 209, 194, 179, 182, 190, 206, 408]) (by decide +kernel)
theorem wm0_SilenceMatch : kOwM "SilenceMatch" ow0_SilenceMatch k_cl (mw0.map (fun x => x.1)) k_lg [] := kOwMb_ok mo0 k_cpw (ps := [479, 629, 636, 649, 661, 669, 682, 702, 719, 810, 965, 1030, 1171, 1179, 1034]) (by decide +kernel)
theorem wc0_SilenceMatch_Tape : kOwC "SilenceMatch$Tape" ow0_SilenceMatch_Tape k_lg [] := kOwCb_ok (ps := []) (ps2 := []) (by decide +kernel)
theorem wf0_SilenceMatch_Tape : kOwF "SilenceMatch$Tape" ow0_SilenceMatch_Tape k_cl k_lg := kOwFb_ok (ps := [133]) (by decide +kernel)
theorem wm0_SilenceMatch_Tape : kOwM "SilenceMatch$Tape" ow0_SilenceMatch_Tape k_cl (mw0.map (fun x => x.1)) k_lg [] := kOwMb_ok mo0 k_cpw (ps := []) (by decide +kernel)
theorem wc0_SilenceMatch_Reader : kOwC "SilenceMatch$Reader" ow0_SilenceMatch_Reader k_lg [] := kOwCb_ok (ps := []) (ps2 := []) (by decide +kernel)
theorem wf0_SilenceMatch_Reader : kOwF "SilenceMatch$Reader" ow0_SilenceMatch_Reader k_cl k_lg := kOwFb_ok (ps := [147, 149, 152, 153, 154, 151, 134]) (by decide +kernel)
theorem wm0_SilenceMatch_Reader : kOwM "SilenceMatch$Reader" ow0_SilenceMatch_Reader k_cl (mw0.map (fun x => x.1)) k_lg [] := kOwMb_ok mo0 k_cpw (ps := [483, 487]) (by decide +kernel)
theorem wc0_SilenceMatch_Match : kOwC "SilenceMatch$Match" ow0_SilenceMatch_Match k_lg [] := kOwCb_ok (ps := []) (ps2 := []) (by decide +kernel)
theorem wf0_SilenceMatch_Match : kOwF "SilenceMatch$Match" ow0_SilenceMatch_Match k_cl k_lg := kOwFb_ok (ps := [333, 335, 196, 204]) (by decide +kernel)
theorem wm0_SilenceMatch_Match : kOwM "SilenceMatch$Match" ow0_SilenceMatch_Match k_cl (mw0.map (fun x => x.1)) k_lg [] := kOwMb_ok mo0 k_cpw (ps := []) (by decide +kernel)
theorem wc0_SilenceMatchModel : kOwC "SilenceMatchModel" ow0_SilenceMatchModel k_lg [] := kOwCb_ok (ps := []) (ps2 := [1340, 1574, 1744, 1848, 1899, 1908, 1917, 1918, 1799]) (by decide +kernel)
theorem wf0_SilenceMatchModel : kOwF "SilenceMatchModel" ow0_SilenceMatchModel k_cl k_lg := kOwFb_ok (ps := [1222, 1224, 1234, 1235, 1236, 1237, 1238, 1239, 1240, 1255, 1226, 1228, 1229, 1230, 1231, 1233, 1241, 1242, 1243]) (by decide +kernel)
theorem wm0_SilenceMatchModel : kOwM "SilenceMatchModel" ow0_SilenceMatchModel k_cl (mw0.map (fun x => x.1)) k_lg [] := kOwMb_ok mo0 k_cpw (ps := [1341, 1465, 1368, 1378, 1364, 1480, 1453, 1461, 1493, 1530, 1526, 1534, 1522, 1570, 1518, 1583, 1740, 1796, 1792, 1896]) (by decide +kernel)
end
section
/-! EVERY CONTRACT 0 IS KEPT -/
theorem dc0_X3_exists : ∀ q ∈ cd_X3_exists, decode prog_5_method_4_code q.1 = .ok (q.2.1, q.2.2) := by decide +kernel
theorem dc0_X3_cells : ∀ q ∈ cd_X3_cells, decode prog_5_method_5_code q.1 = .ok (q.2.1, q.2.2) := by decide +kernel
theorem dc0_X3_hasCell : ∀ q ∈ cd_X3_hasCell, decode prog_5_method_6_code q.1 = .ok (q.2.1, q.2.2) := by decide +kernel
theorem dc0_X3_hasPlayer : ∀ q ∈ cd_X3_hasPlayer, decode prog_5_method_7_code q.1 = .ok (q.2.1, q.2.2) := by decide +kernel
theorem dc0_X3_hasUmpire : ∀ q ∈ cd_X3_hasUmpire, decode prog_5_method_8_code q.1 = .ok (q.2.1, q.2.2) := by decide +kernel
theorem dc0_X9_isSlot : ∀ q ∈ cd_X9_isSlot, decode prog_1_method_72_code q.1 = .ok (q.2.1, q.2.2) := by decide +kernel
theorem dc0_X9_isImage : ∀ q ∈ cd_X9_isImage, decode prog_1_method_73_code q.1 = .ok (q.2.1, q.2.2) := by decide +kernel
theorem dc0_X9_isLoudness : ∀ q ∈ cd_X9_isLoudness, decode prog_1_method_71_code q.1 = .ok (q.2.1, q.2.2) := by decide +kernel
theorem dc0_X9_isSide : ∀ q ∈ cd_X9_isSide, decode prog_1_method_74_code q.1 = .ok (q.2.1, q.2.2) := by decide +kernel
theorem dc0_X9_isMinute : ∀ q ∈ cd_X9_isMinute, decode prog_1_method_75_code q.1 = .ok (q.2.1, q.2.2) := by decide +kernel
theorem dc0_X9_areCoverTerms : ∀ q ∈ cd_X9_areCoverTerms, decode prog_1_method_76_code q.1 = .ok (q.2.1, q.2.2) := by decide +kernel
theorem dc0_X9_bitsBelow : ∀ q ∈ cd_X9_bitsBelow, decode prog_1_method_77_code q.1 = .ok (q.2.1, q.2.2) := by decide +kernel
theorem dc0_X9_listen : ∀ q ∈ cd_X9_listen, decode prog_1_method_88_code q.1 = .ok (q.2.1, q.2.2) := by decide +kernel
theorem dc0_X9_filledSlots : ∀ q ∈ cd_X9_filledSlots, decode prog_1_method_91_code q.1 = .ok (q.2.1, q.2.2) := by decide +kernel
theorem dc0_X3_clear : ∀ q ∈ cd_X3_clear, decode prog_5_method_2_code q.1 = .ok (q.2.1, q.2.2) := by decide +kernel
theorem dc0_X3_copyFrom : ∀ q ∈ cd_X3_copyFrom, decode prog_5_method_3_code q.1 = .ok (q.2.1, q.2.2) := by decide +kernel
theorem dc0_X8_byteAt : ∀ q ∈ cd_X8_byteAt, decode prog_10_method_3_code q.1 = .ok (q.2.1, q.2.2) := by decide +kernel
theorem dc0_X6_isBlank : ∀ q ∈ cd_X6_isBlank, decode prog_8_method_18_code q.1 = .ok (q.2.1, q.2.2) := by decide +kernel
theorem dc0_X6_kindOf : ∀ q ∈ cd_X6_kindOf, decode prog_8_method_19_code q.1 = .ok (q.2.1, q.2.2) := by decide +kernel
theorem dc0_X6_advance : ∀ q ∈ cd_X6_advance, decode prog_8_method_17_code q.1 = .ok (q.2.1, q.2.2) := by decide +kernel
theorem dc0_X6_readGreen : ∀ q ∈ cd_X6_readGreen, decode prog_8_method_2_code q.1 = .ok (q.2.1, q.2.2) := by decide +kernel
theorem dc0_X5_learn : ∀ q ∈ cd_X5_learn, decode prog_7_method_2_code q.1 = .ok (q.2.1, q.2.2) := by decide +kernel
theorem dc0_X9_end : ∀ q ∈ cd_X9_end, decode prog_1_method_3_code q.1 = .ok (q.2.1, q.2.2) := by decide +kernel
theorem dc0_X9_green : ∀ q ∈ cd_X9_green, decode prog_1_method_4_code q.1 = .ok (q.2.1, q.2.2) := by decide +kernel
theorem dc0_X9_fault : ∀ q ∈ cd_X9_fault, decode prog_1_method_5_code q.1 = .ok (q.2.1, q.2.2) := by decide +kernel
theorem dc0_X9_player : ∀ q ∈ cd_X9_player, decode prog_1_method_6_code q.1 = .ok (q.2.1, q.2.2) := by decide +kernel
theorem dc0_X9_umpire : ∀ q ∈ cd_X9_umpire, decode prog_1_method_7_code q.1 = .ok (q.2.1, q.2.2) := by decide +kernel
theorem dc0_X9_far : ∀ q ∈ cd_X9_far, decode prog_1_method_8_code q.1 = .ok (q.2.1, q.2.2) := by decide +kernel
theorem dc0_X9_wind : ∀ q ∈ cd_X9_wind, decode prog_1_method_9_code q.1 = .ok (q.2.1, q.2.2) := by decide +kernel
theorem dc0_X9_ears : ∀ q ∈ cd_X9_ears, decode prog_1_method_10_code q.1 = .ok (q.2.1, q.2.2) := by decide +kernel
theorem dc0_X9_dead : ∀ q ∈ cd_X9_dead, decode prog_1_method_11_code q.1 = .ok (q.2.1, q.2.2) := by decide +kernel
theorem dc0_X9_quiet : ∀ q ∈ cd_X9_quiet, decode prog_1_method_12_code q.1 = .ok (q.2.1, q.2.2) := by decide +kernel
theorem dc0_X9_coughs : ∀ q ∈ cd_X9_coughs, decode prog_1_method_13_code q.1 = .ok (q.2.1, q.2.2) := by decide +kernel
theorem dc0_X9_out : ∀ q ∈ cd_X9_out, decode prog_1_method_16_code q.1 = .ok (q.2.1, q.2.2) := by decide +kernel
theorem dc0_X9_outs : ∀ q ∈ cd_X9_outs, decode prog_1_method_17_code q.1 = .ok (q.2.1, q.2.2) := by decide +kernel
theorem dc0_X9_laughs : ∀ q ∈ cd_X9_laughs, decode prog_1_method_18_code q.1 = .ok (q.2.1, q.2.2) := by decide +kernel
theorem dc0_X9_finger : ∀ q ∈ cd_X9_finger, decode prog_1_method_19_code q.1 = .ok (q.2.1, q.2.2) := by decide +kernel
theorem dc0_X9_fingers : ∀ q ∈ cd_X9_fingers, decode prog_1_method_20_code q.1 = .ok (q.2.1, q.2.2) := by decide +kernel
theorem dc0_X9_score : ∀ q ∈ cd_X9_score, decode prog_1_method_21_code q.1 = .ok (q.2.1, q.2.2) := by decide +kernel
theorem dc0_X9_wins : ∀ q ∈ cd_X9_wins, decode prog_1_method_22_code q.1 = .ok (q.2.1, q.2.2) := by decide +kernel
theorem dc0_X9_leads : ∀ q ∈ cd_X9_leads, decode prog_1_method_23_code q.1 = .ok (q.2.1, q.2.2) := by decide +kernel
theorem dc0_X9_last : ∀ q ∈ cd_X9_last, decode prog_1_method_24_code q.1 = .ok (q.2.1, q.2.2) := by decide +kernel
theorem dc0_X9_tries : ∀ q ∈ cd_X9_tries, decode prog_1_method_25_code q.1 = .ok (q.2.1, q.2.2) := by decide +kernel
theorem dc0_X9_crowd : ∀ q ∈ cd_X9_crowd, decode prog_1_method_14_code q.1 = .ok (q.2.1, q.2.2) := by decide +kernel
theorem dc0_X9_near : ∀ q ∈ cd_X9_near, decode prog_1_method_15_code q.1 = .ok (q.2.1, q.2.2) := by decide +kernel
theorem dc0_X9_gone : ∀ q ∈ cd_X9_gone, decode prog_1_method_26_code q.1 = .ok (q.2.1, q.2.2) := by decide +kernel
theorem dc0_X9_calm : ∀ q ∈ cd_X9_calm, decode prog_1_method_27_code q.1 = .ok (q.2.1, q.2.2) := by decide +kernel
theorem dc0_X9_chain : ∀ q ∈ cd_X9_chain, decode prog_1_method_28_code q.1 = .ok (q.2.1, q.2.2) := by decide +kernel
theorem dc0_X9_bells : ∀ q ∈ cd_X9_bells, decode prog_1_method_29_code q.1 = .ok (q.2.1, q.2.2) := by decide +kernel
theorem dc0_X9_fire : ∀ q ∈ cd_X9_fire, decode prog_1_method_30_code q.1 = .ok (q.2.1, q.2.2) := by decide +kernel
theorem dc0_X9_swap : ∀ q ∈ cd_X9_swap, decode prog_1_method_32_code q.1 = .ok (q.2.1, q.2.2) := by decide +kernel
theorem dc0_X9_groups : ∀ q ∈ cd_X9_groups, decode prog_1_method_46_code q.1 = .ok (q.2.1, q.2.2) := by decide +kernel
theorem dc0_X9_safe : ∀ q ∈ cd_X9_safe, decode prog_1_method_33_code q.1 = .ok (q.2.1, q.2.2) := by decide +kernel
theorem dc0_X9_place : ∀ q ∈ cd_X9_place, decode prog_1_method_34_code q.1 = .ok (q.2.1, q.2.2) := by decide +kernel
theorem dc0_X9_lasts : ∀ q ∈ cd_X9_lasts, decode prog_1_method_35_code q.1 = .ok (q.2.1, q.2.2) := by decide +kernel
theorem dc0_X9_best : ∀ q ∈ cd_X9_best, decode prog_1_method_36_code q.1 = .ok (q.2.1, q.2.2) := by decide +kernel
theorem dc0_X9_gains : ∀ q ∈ cd_X9_gains, decode prog_1_method_37_code q.1 = .ok (q.2.1, q.2.2) := by decide +kernel
theorem dc0_X9_hush : ∀ q ∈ cd_X9_hush, decode prog_1_method_38_code q.1 = .ok (q.2.1, q.2.2) := by decide +kernel
theorem dc0_X9_cover : ∀ q ∈ cd_X9_cover, decode prog_1_method_43_code q.1 = .ok (q.2.1, q.2.2) := by decide +kernel
theorem dc0_X9_covers : ∀ q ∈ cd_X9_covers, decode prog_1_method_44_code q.1 = .ok (q.2.1, q.2.2) := by decide +kernel
theorem dc0_X9_more : ∀ q ∈ cd_X9_more, decode prog_1_method_45_code q.1 = .ok (q.2.1, q.2.2) := by decide +kernel
theorem dc0_X9_spread : ∀ q ∈ cd_X9_spread, decode prog_1_method_47_code q.1 = .ok (q.2.1, q.2.2) := by decide +kernel
theorem dc0_X9_part : ∀ q ∈ cd_X9_part, decode prog_1_method_48_code q.1 = .ok (q.2.1, q.2.2) := by decide +kernel
theorem dc0_X9_parts : ∀ q ∈ cd_X9_parts, decode prog_1_method_49_code q.1 = .ok (q.2.1, q.2.2) := by decide +kernel
theorem dc0_X9_grudge : ∀ q ∈ cd_X9_grudge, decode prog_1_method_31_code q.1 = .ok (q.2.1, q.2.2) := by decide +kernel
theorem dc0_X9_fits : ∀ q ∈ cd_X9_fits, decode prog_1_method_50_code q.1 = .ok (q.2.1, q.2.2) := by decide +kernel
theorem dc0_X9_spots : ∀ q ∈ cd_X9_spots, decode prog_1_method_51_code q.1 = .ok (q.2.1, q.2.2) := by decide +kernel
theorem dc0_X9_who : ∀ q ∈ cd_X9_who, decode prog_1_method_52_code q.1 = .ok (q.2.1, q.2.2) := by decide +kernel
theorem dc0_X9_ask : ∀ q ∈ cd_X9_ask, decode prog_1_method_53_code q.1 = .ok (q.2.1, q.2.2) := by decide +kernel
theorem dc0_X9_leaves : ∀ q ∈ cd_X9_leaves, decode prog_1_method_54_code q.1 = .ok (q.2.1, q.2.2) := by decide +kernel
theorem dc0_X9_even : ∀ q ∈ cd_X9_even, decode prog_1_method_39_code q.1 = .ok (q.2.1, q.2.2) := by decide +kernel
theorem dc0_X9_evens : ∀ q ∈ cd_X9_evens, decode prog_1_method_40_code q.1 = .ok (q.2.1, q.2.2) := by decide +kernel
theorem dc0_X9_without : ∀ q ∈ cd_X9_without, decode prog_1_method_41_code q.1 = .ok (q.2.1, q.2.2) := by decide +kernel
theorem dc0_X9_drop : ∀ q ∈ cd_X9_drop, decode prog_1_method_42_code q.1 = .ok (q.2.1, q.2.2) := by decide +kernel
theorem dc0_X9_chance : ∀ q ∈ cd_X9_chance, decode prog_1_method_55_code q.1 = .ok (q.2.1, q.2.2) := by decide +kernel
theorem dc0_X9_surest : ∀ q ∈ cd_X9_surest, decode prog_1_method_56_code q.1 = .ok (q.2.1, q.2.2) := by decide +kernel
theorem dc0_X9_sure : ∀ q ∈ cd_X9_sure, decode prog_1_method_57_code q.1 = .ok (q.2.1, q.2.2) := by decide +kernel
theorem dc0_X9_move : ∀ q ∈ cd_X9_move, decode prog_1_method_58_code q.1 = .ok (q.2.1, q.2.2) := by decide +kernel
theorem dc0_X9_lozenge : ∀ q ∈ cd_X9_lozenge, decode prog_1_method_59_code q.1 = .ok (q.2.1, q.2.2) := by decide +kernel
theorem dc0_X9_undo : ∀ q ∈ cd_X9_undo, decode prog_1_method_60_code q.1 = .ok (q.2.1, q.2.2) := by decide +kernel
theorem dc0_X9_anew : ∀ q ∈ cd_X9_anew, decode prog_1_method_61_code q.1 = .ok (q.2.1, q.2.2) := by decide +kernel
theorem dc0_X9_drawn : ∀ q ∈ cd_X9_drawn, decode prog_1_method_63_code q.1 = .ok (q.2.1, q.2.2) := by decide +kernel
theorem dc0_X9_luck : ∀ q ∈ cd_X9_luck, decode prog_1_method_64_code q.1 = .ok (q.2.1, q.2.2) := by decide +kernel
theorem dc0_X9_bell : ∀ q ∈ cd_X9_bell, decode prog_1_method_62_code q.1 = .ok (q.2.1, q.2.2) := by decide +kernel
theorem dc0_X9_count : ∀ q ∈ cd_X9_count, decode prog_1_method_65_code q.1 = .ok (q.2.1, q.2.2) := by decide +kernel
theorem dc0_X9_back : ∀ q ∈ cd_X9_back, decode prog_1_method_67_code q.1 = .ok (q.2.1, q.2.2) := by decide +kernel
theorem dc0_X9_write : ∀ q ∈ cd_X9_write, decode prog_1_method_69_code q.1 = .ok (q.2.1, q.2.2) := by decide +kernel
theorem dc0_X9_paste : ∀ q ∈ cd_X9_paste, decode prog_1_method_70_code q.1 = .ok (q.2.1, q.2.2) := by decide +kernel
theorem dc0_X10_in : ∀ q ∈ cd_X10_in, decode prog_12_method_3_code q.1 = .ok (q.2.1, q.2.2) := by decide +kernel
theorem dc0_X10_isSide : ∀ q ∈ cd_X10_isSide, decode prog_12_method_55_code q.1 = .ok (q.2.1, q.2.2) := by decide +kernel
theorem dc0_X10_isSlot : ∀ q ∈ cd_X10_isSlot, decode prog_12_method_138_code q.1 = .ok (q.2.1, q.2.2) := by decide +kernel
theorem dc0_X10_isSeed : ∀ q ∈ cd_X10_isSeed, decode prog_12_method_133_code q.1 = .ok (q.2.1, q.2.2) := by decide +kernel
theorem dc0_X10_bit : ∀ q ∈ cd_X10_bit, decode prog_12_method_5_code q.1 = .ok (q.2.1, q.2.2) := by decide +kernel
theorem dc0_X10_bits : ∀ q ∈ cd_X10_bits, decode prog_12_method_4_code q.1 = .ok (q.2.1, q.2.2) := by decide +kernel
theorem dc0_X10_isGreen : ∀ q ∈ cd_X10_isGreen, decode prog_12_method_8_code q.1 = .ok (q.2.1, q.2.2) := by decide +kernel
theorem dc0_X10_cellMany : ∀ q ∈ cd_X10_cellMany, decode prog_12_method_9_code q.1 = .ok (q.2.1, q.2.2) := by decide +kernel
theorem dc0_X10_isCell : ∀ q ∈ cd_X10_isCell, decode prog_12_method_10_code q.1 = .ok (q.2.1, q.2.2) := by decide +kernel
theorem dc0_X10_isPlayer : ∀ q ∈ cd_X10_isPlayer, decode prog_12_method_11_code q.1 = .ok (q.2.1, q.2.2) := by decide +kernel
theorem dc0_X10_isUmpire : ∀ q ∈ cd_X10_isUmpire, decode prog_12_method_12_code q.1 = .ok (q.2.1, q.2.2) := by decide +kernel
theorem dc0_X10_isLoud : ∀ q ∈ cd_X10_isLoud, decode prog_12_method_36_code q.1 = .ok (q.2.1, q.2.2) := by decide +kernel
theorem dc0_X10_isEar : ∀ q ∈ cd_X10_isEar, decode prog_12_method_97_code q.1 = .ok (q.2.1, q.2.2) := by decide +kernel
theorem dc0_X10_of : ∀ q ∈ cd_X10_of, decode prog_12_method_13_code q.1 = .ok (q.2.1, q.2.2) := by decide +kernel
theorem dc0_X10_see : ∀ q ∈ cd_X10_see, decode prog_12_method_16_code q.1 = .ok (q.2.1, q.2.2) := by decide +kernel
theorem dc0_X10_good : ∀ q ∈ cd_X10_good, decode prog_12_method_18_code q.1 = .ok (q.2.1, q.2.2) := by decide +kernel
theorem dc0_X10_advance : ∀ q ∈ cd_X10_advance, decode prog_12_method_17_code q.1 = .ok (q.2.1, q.2.2) := by decide +kernel
theorem dc0_X10_asItIs : ∀ q ∈ cd_X10_asItIs, decode prog_12_method_44_code q.1 = .ok (q.2.1, q.2.2) := by decide +kernel
theorem dc0_X10_goMatch : ∀ q ∈ cd_X10_goMatch, decode prog_12_method_51_code q.1 = .ok (q.2.1, q.2.2) := by decide +kernel
theorem dc0_X10_asksGreen : ∀ q ∈ cd_X10_asksGreen, decode prog_12_method_52_code q.1 = .ok (q.2.1, q.2.2) := by decide +kernel
theorem dc0_X10_asksPlayer : ∀ q ∈ cd_X10_asksPlayer, decode prog_12_method_53_code q.1 = .ok (q.2.1, q.2.2) := by decide +kernel
theorem dc0_X10_asksMinute : ∀ q ∈ cd_X10_asksMinute, decode prog_12_method_54_code q.1 = .ok (q.2.1, q.2.2) := by decide +kernel
theorem dc0_X10_laySounds : ∀ q ∈ cd_X10_laySounds, decode prog_12_method_108_code q.1 = .ok (q.2.1, q.2.2) := by decide +kernel
theorem dc0_X10_end : ∀ q ∈ cd_X10_end, decode prog_12_method_15_code q.1 = .ok (q.2.1, q.2.2) := by decide +kernel
theorem dc0_X10_green : ∀ q ∈ cd_X10_green, decode prog_12_method_32_code q.1 = .ok (q.2.1, q.2.2) := by decide +kernel
theorem dc0_X10_fault : ∀ q ∈ cd_X10_fault, decode prog_12_method_25_code q.1 = .ok (q.2.1, q.2.2) := by decide +kernel
theorem dc0_X10_player : ∀ q ∈ cd_X10_player, decode prog_12_method_57_code q.1 = .ok (q.2.1, q.2.2) := by decide +kernel
theorem dc0_X10_umpire : ∀ q ∈ cd_X10_umpire, decode prog_12_method_37_code q.1 = .ok (q.2.1, q.2.2) := by decide +kernel
theorem dc0_X10_far : ∀ q ∈ cd_X10_far, decode prog_12_method_38_code q.1 = .ok (q.2.1, q.2.2) := by decide +kernel
theorem dc0_X10_wind : ∀ q ∈ cd_X10_wind, decode prog_12_method_39_code q.1 = .ok (q.2.1, q.2.2) := by decide +kernel
theorem dc0_X10_ears : ∀ q ∈ cd_X10_ears, decode prog_12_method_40_code q.1 = .ok (q.2.1, q.2.2) := by decide +kernel
theorem dc0_X10_dead : ∀ q ∈ cd_X10_dead, decode prog_12_method_42_code q.1 = .ok (q.2.1, q.2.2) := by decide +kernel
theorem dc0_X10_quiet : ∀ q ∈ cd_X10_quiet, decode prog_12_method_43_code q.1 = .ok (q.2.1, q.2.2) := by decide +kernel
theorem dc0_X10_coughs : ∀ q ∈ cd_X10_coughs, decode prog_12_method_58_code q.1 = .ok (q.2.1, q.2.2) := by decide +kernel
theorem dc0_X10_out : ∀ q ∈ cd_X10_out, decode prog_12_method_60_code q.1 = .ok (q.2.1, q.2.2) := by decide +kernel
theorem dc0_X10_outs : ∀ q ∈ cd_X10_outs, decode prog_12_method_62_code q.1 = .ok (q.2.1, q.2.2) := by decide +kernel
theorem dc0_X10_laughs : ∀ q ∈ cd_X10_laughs, decode prog_12_method_64_code q.1 = .ok (q.2.1, q.2.2) := by decide +kernel
theorem dc0_X10_finger : ∀ q ∈ cd_X10_finger, decode prog_12_method_65_code q.1 = .ok (q.2.1, q.2.2) := by decide +kernel
theorem dc0_X10_fingers : ∀ q ∈ cd_X10_fingers, decode prog_12_method_66_code q.1 = .ok (q.2.1, q.2.2) := by decide +kernel
theorem dc0_X10_score : ∀ q ∈ cd_X10_score, decode prog_12_method_68_code q.1 = .ok (q.2.1, q.2.2) := by decide +kernel
theorem dc0_X10_wins : ∀ q ∈ cd_X10_wins, decode prog_12_method_71_code q.1 = .ok (q.2.1, q.2.2) := by decide +kernel
theorem dc0_X10_leads : ∀ q ∈ cd_X10_leads, decode prog_12_method_72_code q.1 = .ok (q.2.1, q.2.2) := by decide +kernel
theorem dc0_X10_last : ∀ q ∈ cd_X10_last, decode prog_12_method_73_code q.1 = .ok (q.2.1, q.2.2) := by decide +kernel
theorem dc0_X10_tries : ∀ q ∈ cd_X10_tries, decode prog_12_method_59_code q.1 = .ok (q.2.1, q.2.2) := by decide +kernel
theorem dc0_X10_crowd : ∀ q ∈ cd_X10_crowd, decode prog_12_method_74_code q.1 = .ok (q.2.1, q.2.2) := by decide +kernel
theorem dc0_X10_near : ∀ q ∈ cd_X10_near, decode prog_12_method_75_code q.1 = .ok (q.2.1, q.2.2) := by decide +kernel
theorem dc0_X10_gone : ∀ q ∈ cd_X10_gone, decode prog_12_method_76_code q.1 = .ok (q.2.1, q.2.2) := by decide +kernel
theorem dc0_X10_calm : ∀ q ∈ cd_X10_calm, decode prog_12_method_77_code q.1 = .ok (q.2.1, q.2.2) := by decide +kernel
theorem dc0_X10_chain : ∀ q ∈ cd_X10_chain, decode prog_12_method_78_code q.1 = .ok (q.2.1, q.2.2) := by decide +kernel
theorem dc0_X10_bells : ∀ q ∈ cd_X10_bells, decode prog_12_method_79_code q.1 = .ok (q.2.1, q.2.2) := by decide +kernel
theorem dc0_X10_fire : ∀ q ∈ cd_X10_fire, decode prog_12_method_81_code q.1 = .ok (q.2.1, q.2.2) := by decide +kernel
theorem dc0_X10_swap : ∀ q ∈ cd_X10_swap, decode prog_12_method_83_code q.1 = .ok (q.2.1, q.2.2) := by decide +kernel
theorem dc0_X10_groups : ∀ q ∈ cd_X10_groups, decode prog_12_method_84_code q.1 = .ok (q.2.1, q.2.2) := by decide +kernel
theorem dc0_X10_safe : ∀ q ∈ cd_X10_safe, decode prog_12_method_86_code q.1 = .ok (q.2.1, q.2.2) := by decide +kernel
theorem dc0_X10_place : ∀ q ∈ cd_X10_place, decode prog_12_method_88_code q.1 = .ok (q.2.1, q.2.2) := by decide +kernel
theorem dc0_X10_lasts : ∀ q ∈ cd_X10_lasts, decode prog_12_method_89_code q.1 = .ok (q.2.1, q.2.2) := by decide +kernel
theorem dc0_X10_best : ∀ q ∈ cd_X10_best, decode prog_12_method_91_code q.1 = .ok (q.2.1, q.2.2) := by decide +kernel
theorem dc0_X10_gains : ∀ q ∈ cd_X10_gains, decode prog_12_method_92_code q.1 = .ok (q.2.1, q.2.2) := by decide +kernel
theorem dc0_X10_hush : ∀ q ∈ cd_X10_hush, decode prog_12_method_93_code q.1 = .ok (q.2.1, q.2.2) := by decide +kernel
theorem dc0_X10_cover : ∀ q ∈ cd_X10_cover, decode prog_12_method_98_code q.1 = .ok (q.2.1, q.2.2) := by decide +kernel
theorem dc0_X10_covers : ∀ q ∈ cd_X10_covers, decode prog_12_method_99_code q.1 = .ok (q.2.1, q.2.2) := by decide +kernel
theorem dc0_X10_more : ∀ q ∈ cd_X10_more, decode prog_12_method_100_code q.1 = .ok (q.2.1, q.2.2) := by decide +kernel
theorem dc0_X10_spread : ∀ q ∈ cd_X10_spread, decode prog_12_method_102_code q.1 = .ok (q.2.1, q.2.2) := by decide +kernel
theorem dc0_X10_part : ∀ q ∈ cd_X10_part, decode prog_12_method_104_code q.1 = .ok (q.2.1, q.2.2) := by decide +kernel
theorem dc0_X10_parts : ∀ q ∈ cd_X10_parts, decode prog_12_method_105_code q.1 = .ok (q.2.1, q.2.2) := by decide +kernel
theorem dc0_X10_grudge : ∀ q ∈ cd_X10_grudge, decode prog_12_method_106_code q.1 = .ok (q.2.1, q.2.2) := by decide +kernel
theorem dc0_X10_fits : ∀ q ∈ cd_X10_fits, decode prog_12_method_109_code q.1 = .ok (q.2.1, q.2.2) := by decide +kernel
theorem dc0_X10_spots : ∀ q ∈ cd_X10_spots, decode prog_12_method_110_code q.1 = .ok (q.2.1, q.2.2) := by decide +kernel
theorem dc0_X10_who : ∀ q ∈ cd_X10_who, decode prog_12_method_111_code q.1 = .ok (q.2.1, q.2.2) := by decide +kernel
theorem dc0_X10_ask : ∀ q ∈ cd_X10_ask, decode prog_12_method_113_code q.1 = .ok (q.2.1, q.2.2) := by decide +kernel
theorem dc0_X10_leaves : ∀ q ∈ cd_X10_leaves, decode prog_12_method_114_code q.1 = .ok (q.2.1, q.2.2) := by decide +kernel
theorem dc0_X10_even : ∀ q ∈ cd_X10_even, decode prog_12_method_116_code q.1 = .ok (q.2.1, q.2.2) := by decide +kernel
theorem dc0_X10_evens : ∀ q ∈ cd_X10_evens, decode prog_12_method_117_code q.1 = .ok (q.2.1, q.2.2) := by decide +kernel
theorem dc0_X10_without : ∀ q ∈ cd_X10_without, decode prog_12_method_118_code q.1 = .ok (q.2.1, q.2.2) := by decide +kernel
theorem dc0_X10_drop : ∀ q ∈ cd_X10_drop, decode prog_12_method_119_code q.1 = .ok (q.2.1, q.2.2) := by decide +kernel
theorem dc0_X10_chance : ∀ q ∈ cd_X10_chance, decode prog_12_method_123_code q.1 = .ok (q.2.1, q.2.2) := by decide +kernel
theorem dc0_X10_surest : ∀ q ∈ cd_X10_surest, decode prog_12_method_124_code q.1 = .ok (q.2.1, q.2.2) := by decide +kernel
theorem dc0_X10_sure : ∀ q ∈ cd_X10_sure, decode prog_12_method_126_code q.1 = .ok (q.2.1, q.2.2) := by decide +kernel
theorem dc0_X10_move : ∀ q ∈ cd_X10_move, decode prog_12_method_128_code q.1 = .ok (q.2.1, q.2.2) := by decide +kernel
theorem dc0_X10_lozenge : ∀ q ∈ cd_X10_lozenge, decode prog_12_method_129_code q.1 = .ok (q.2.1, q.2.2) := by decide +kernel
theorem dc0_X10_undo : ∀ q ∈ cd_X10_undo, decode prog_12_method_130_code q.1 = .ok (q.2.1, q.2.2) := by decide +kernel
theorem dc0_X10_anew : ∀ q ∈ cd_X10_anew, decode prog_12_method_131_code q.1 = .ok (q.2.1, q.2.2) := by decide +kernel
theorem dc0_X10_drawn : ∀ q ∈ cd_X10_drawn, decode prog_12_method_134_code q.1 = .ok (q.2.1, q.2.2) := by decide +kernel
theorem dc0_X10_luck : ∀ q ∈ cd_X10_luck, decode prog_12_method_135_code q.1 = .ok (q.2.1, q.2.2) := by decide +kernel
theorem dc0_X10_bell : ∀ q ∈ cd_X10_bell, decode prog_12_method_136_code q.1 = .ok (q.2.1, q.2.2) := by decide +kernel
theorem dc0_X10_count : ∀ q ∈ cd_X10_count, decode prog_12_method_137_code q.1 = .ok (q.2.1, q.2.2) := by decide +kernel
theorem dc0_X10_back : ∀ q ∈ cd_X10_back, decode prog_12_method_7_code q.1 = .ok (q.2.1, q.2.2) := by decide +kernel
theorem dc0_X10_write : ∀ q ∈ cd_X10_write, decode prog_12_method_141_code q.1 = .ok (q.2.1, q.2.2) := by decide +kernel
theorem dc0_X10_paste : ∀ q ∈ cd_X10_paste, decode prog_12_method_142_code q.1 = .ok (q.2.1, q.2.2) := by decide +kernel
section KEPT0
variable {l : Launch} {D : va_G} {cA aS : Nat → Nat} {Ty : Nat → Nat → Prop} {lo : Nat} {X : State → Heap → Prop}
theorem go0_0 (hX : kXok X lo) (hT : kTyp k0_tt Ty) : kGo l k_cl k_aty mw0 D cA aS k0_tt Ty lo X k0_ct ct0_0 := fun h => kbody_met (by decide +kernel) rfl (kRest_of wc0_SilenceMatch_Green wf0_SilenceMatch_Green wm0_SilenceMatch_Green k_clok k_tok hX hT h) dc0_X3_exists rfl ok0_0
theorem go0_1 (hX : kXok X lo) (hT : kTyp k0_tt Ty) : kGo l k_cl k_aty mw0 D cA aS k0_tt Ty lo X k0_ct ct0_1 := fun h => kbody_met (by decide +kernel) rfl (kRest_of wc0_SilenceMatch_Green wf0_SilenceMatch_Green wm0_SilenceMatch_Green k_clok k_tok hX hT h) dc0_X3_cells rfl ok0_1
theorem go0_2 (hX : kXok X lo) (hT : kTyp k0_tt Ty) : kGo l k_cl k_aty mw0 D cA aS k0_tt Ty lo X k0_ct ct0_2 := fun h => kbody_met (by decide +kernel) rfl (kRest_of wc0_SilenceMatch_Green wf0_SilenceMatch_Green wm0_SilenceMatch_Green k_clok k_tok hX hT h) dc0_X3_hasCell rfl ok0_2
theorem go0_3 (hX : kXok X lo) (hT : kTyp k0_tt Ty) : kGo l k_cl k_aty mw0 D cA aS k0_tt Ty lo X k0_ct ct0_3 := fun h => kbody_met (by decide +kernel) rfl (kRest_of wc0_SilenceMatch_Green wf0_SilenceMatch_Green wm0_SilenceMatch_Green k_clok k_tok hX hT h) dc0_X3_hasPlayer rfl ok0_3
theorem go0_4 (hX : kXok X lo) (hT : kTyp k0_tt Ty) : kGo l k_cl k_aty mw0 D cA aS k0_tt Ty lo X k0_ct ct0_4 := fun h => kbody_met (by decide +kernel) rfl (kRest_of wc0_SilenceMatch_Green wf0_SilenceMatch_Green wm0_SilenceMatch_Green k_clok k_tok hX hT h) dc0_X3_hasUmpire rfl ok0_4
theorem go0_5 (hX : kXok X lo) (hT : kTyp k0_tt Ty) : kGo l k_cl k_aty mw0 D cA aS k0_tt Ty lo X k0_ct ct0_5 := fun h => kbody_met (by decide +kernel) rfl (kRest_of wc0_SilenceMatch wf0_SilenceMatch wm0_SilenceMatch k_clok k_tok hX hT h) dc0_X9_isSlot rfl ok0_5
theorem go0_6 (hX : kXok X lo) (hT : kTyp k0_tt Ty) : kGo l k_cl k_aty mw0 D cA aS k0_tt Ty lo X k0_ct ct0_6 := fun h => kbody_met (by decide +kernel) rfl (kRest_of wc0_SilenceMatch wf0_SilenceMatch wm0_SilenceMatch k_clok k_tok hX hT h) dc0_X9_isImage rfl ok0_6
theorem go0_7 (hX : kXok X lo) (hT : kTyp k0_tt Ty) : kGo l k_cl k_aty mw0 D cA aS k0_tt Ty lo X k0_ct ct0_7 := fun h => kbody_met (by decide +kernel) rfl (kRest_of wc0_SilenceMatch wf0_SilenceMatch wm0_SilenceMatch k_clok k_tok hX hT h) dc0_X9_isLoudness rfl ok0_7
theorem go0_8 (hX : kXok X lo) (hT : kTyp k0_tt Ty) : kGo l k_cl k_aty mw0 D cA aS k0_tt Ty lo X k0_ct ct0_8 := fun h => kbody_met (by decide +kernel) rfl (kRest_of wc0_SilenceMatch wf0_SilenceMatch wm0_SilenceMatch k_clok k_tok hX hT h) dc0_X9_isSide rfl ok0_8
theorem go0_9 (hX : kXok X lo) (hT : kTyp k0_tt Ty) : kGo l k_cl k_aty mw0 D cA aS k0_tt Ty lo X k0_ct ct0_9 := fun h => kbody_met (by decide +kernel) rfl (kRest_of wc0_SilenceMatch wf0_SilenceMatch wm0_SilenceMatch k_clok k_tok hX hT h) dc0_X9_isMinute rfl ok0_9
theorem go0_10 (hX : kXok X lo) (hT : kTyp k0_tt Ty) : kGo l k_cl k_aty mw0 D cA aS k0_tt Ty lo X k0_ct ct0_10 := fun h => kbody_met (by decide +kernel) rfl (kRest_of wc0_SilenceMatch wf0_SilenceMatch wm0_SilenceMatch k_clok k_tok hX hT h) dc0_X9_areCoverTerms rfl ok0_10
theorem go0_11 (hX : kXok X lo) (hT : kTyp k0_tt Ty) : kGo l k_cl k_aty mw0 D cA aS k0_tt Ty lo X k0_ct ct0_11 := fun h => kbody_met (by decide +kernel) rfl (kRest_of wc0_SilenceMatch wf0_SilenceMatch wm0_SilenceMatch k_clok k_tok hX hT h) dc0_X9_bitsBelow rfl ok0_11
theorem go0_12 (hX : kXok X lo) (hT : kTyp k0_tt Ty) : kGo l k_cl k_aty mw0 D cA aS k0_tt Ty lo X k0_ct ct0_12 := fun h => kbody_met (by decide +kernel) rfl (kRest_of wc0_SilenceMatch wf0_SilenceMatch wm0_SilenceMatch k_clok k_tok hX hT h) dc0_X9_listen rfl ok0_12
theorem go0_13 (hX : kXok X lo) (hT : kTyp k0_tt Ty) : kGo l k_cl k_aty mw0 D cA aS k0_tt Ty lo X k0_ct ct0_13 := fun h => kbody_met (by decide +kernel) rfl (kRest_of wc0_SilenceMatch wf0_SilenceMatch wm0_SilenceMatch k_clok k_tok hX hT h) dc0_X9_filledSlots rfl ok0_13
theorem go0_14 (hX : kXok X lo) (hT : kTyp k0_tt Ty) : kGo l k_cl k_aty mw0 D cA aS k0_tt Ty lo X k0_ct ct0_14 := fun h => kbody_met (by decide +kernel) rfl (kRest_of wc0_SilenceMatch_Green wf0_SilenceMatch_Green wm0_SilenceMatch_Green k_clok k_tok hX hT h) dc0_X3_clear rfl ok0_14
theorem go0_15 (hX : kXok X lo) (hT : kTyp k0_tt Ty) : kGo l k_cl k_aty mw0 D cA aS k0_tt Ty lo X k0_ct ct0_15 := fun h => kbody_met (by decide +kernel) rfl (kRest_of wc0_SilenceMatch_Green wf0_SilenceMatch_Green wm0_SilenceMatch_Green k_clok k_tok hX hT h) dc0_X3_copyFrom rfl ok0_15
theorem go0_16 (hX : kXok X lo) (hT : kTyp k0_tt Ty) : kGo l k_cl k_aty mw0 D cA aS k0_tt Ty lo X k0_ct ct0_16 := fun h => kbody_met (by decide +kernel) rfl (kRest_of wc0_SilenceMatch_Tape wf0_SilenceMatch_Tape wm0_SilenceMatch_Tape k_clok k_tok hX hT h) dc0_X8_byteAt rfl ok0_16
theorem go0_17 (hX : kXok X lo) (hT : kTyp k0_tt Ty) : kGo l k_cl k_aty mw0 D cA aS k0_tt Ty lo X k0_ct ct0_17 := fun h => kbody_met (by decide +kernel) rfl (kRest_of wc0_SilenceMatch_Reader wf0_SilenceMatch_Reader wm0_SilenceMatch_Reader k_clok k_tok hX hT h) dc0_X6_isBlank rfl ok0_17
theorem go0_18 (hX : kXok X lo) (hT : kTyp k0_tt Ty) : kGo l k_cl k_aty mw0 D cA aS k0_tt Ty lo X k0_ct ct0_18 := fun h => kbody_met (by decide +kernel) rfl (kRest_of wc0_SilenceMatch_Reader wf0_SilenceMatch_Reader wm0_SilenceMatch_Reader k_clok k_tok hX hT h) dc0_X6_kindOf rfl ok0_18
theorem go0_19 (hX : kXok X lo) (hT : kTyp k0_tt Ty) : kGo l k_cl k_aty mw0 D cA aS k0_tt Ty lo X k0_ct ct0_19 := fun h => kbody_met (by decide +kernel) rfl (kRest_of wc0_SilenceMatch_Reader wf0_SilenceMatch_Reader wm0_SilenceMatch_Reader k_clok k_tok hX hT h) dc0_X6_advance rfl ok0_19
theorem go0_20 (hX : kXok X lo) (hT : kTyp k0_tt Ty) : kGo l k_cl k_aty mw0 D cA aS k0_tt Ty lo X k0_ct ct0_20 := fun h => kbody_met (by decide +kernel) rfl (kRest_of wc0_SilenceMatch_Reader wf0_SilenceMatch_Reader wm0_SilenceMatch_Reader k_clok k_tok hX hT h) dc0_X6_readGreen rfl ok0_20
theorem go0_21 (hX : kXok X lo) (hT : kTyp k0_tt Ty) : kGo l k_cl k_aty mw0 D cA aS k0_tt Ty lo X k0_ct ct0_21 := fun h => kbody_met (by decide +kernel) rfl (kRest_of wc0_SilenceMatch_Match wf0_SilenceMatch_Match wm0_SilenceMatch_Match k_clok k_tok hX hT h) dc0_X5_learn rfl ok0_21
theorem go0_22 (hX : kXok X lo) (hT : kTyp k0_tt Ty) : kGo l k_cl k_aty mw0 D cA aS k0_tt Ty lo X k0_ct ct0_22 := fun h => kbody_met (by decide +kernel) rfl (kRest_of wc0_SilenceMatch wf0_SilenceMatch wm0_SilenceMatch k_clok k_tok hX hT h) dc0_X9_end rfl ok0_22
theorem go0_23 (hX : kXok X lo) (hT : kTyp k0_tt Ty) : kGo l k_cl k_aty mw0 D cA aS k0_tt Ty lo X k0_ct ct0_23 := fun h => kbody_met (by decide +kernel) rfl (kRest_of wc0_SilenceMatch wf0_SilenceMatch wm0_SilenceMatch k_clok k_tok hX hT h) dc0_X9_green rfl ok0_23
theorem go0_24 (hX : kXok X lo) (hT : kTyp k0_tt Ty) : kGo l k_cl k_aty mw0 D cA aS k0_tt Ty lo X k0_ct ct0_24 := fun h => kbody_met (by decide +kernel) rfl (kRest_of wc0_SilenceMatch wf0_SilenceMatch wm0_SilenceMatch k_clok k_tok hX hT h) dc0_X9_fault rfl ok0_24
theorem go0_25 (hX : kXok X lo) (hT : kTyp k0_tt Ty) : kGo l k_cl k_aty mw0 D cA aS k0_tt Ty lo X k0_ct ct0_25 := fun h => kbody_met (by decide +kernel) rfl (kRest_of wc0_SilenceMatch wf0_SilenceMatch wm0_SilenceMatch k_clok k_tok hX hT h) dc0_X9_player rfl ok0_25
theorem go0_26 (hX : kXok X lo) (hT : kTyp k0_tt Ty) : kGo l k_cl k_aty mw0 D cA aS k0_tt Ty lo X k0_ct ct0_26 := fun h => kbody_met (by decide +kernel) rfl (kRest_of wc0_SilenceMatch wf0_SilenceMatch wm0_SilenceMatch k_clok k_tok hX hT h) dc0_X9_umpire rfl ok0_26
theorem go0_27 (hX : kXok X lo) (hT : kTyp k0_tt Ty) : kGo l k_cl k_aty mw0 D cA aS k0_tt Ty lo X k0_ct ct0_27 := fun h => kbody_met (by decide +kernel) rfl (kRest_of wc0_SilenceMatch wf0_SilenceMatch wm0_SilenceMatch k_clok k_tok hX hT h) dc0_X9_far rfl ok0_27
theorem go0_28 (hX : kXok X lo) (hT : kTyp k0_tt Ty) : kGo l k_cl k_aty mw0 D cA aS k0_tt Ty lo X k0_ct ct0_28 := fun h => kbody_met (by decide +kernel) rfl (kRest_of wc0_SilenceMatch wf0_SilenceMatch wm0_SilenceMatch k_clok k_tok hX hT h) dc0_X9_wind rfl ok0_28
theorem go0_29 (hX : kXok X lo) (hT : kTyp k0_tt Ty) : kGo l k_cl k_aty mw0 D cA aS k0_tt Ty lo X k0_ct ct0_29 := fun h => kbody_met (by decide +kernel) rfl (kRest_of wc0_SilenceMatch wf0_SilenceMatch wm0_SilenceMatch k_clok k_tok hX hT h) dc0_X9_ears rfl ok0_29
theorem go0_30 (hX : kXok X lo) (hT : kTyp k0_tt Ty) : kGo l k_cl k_aty mw0 D cA aS k0_tt Ty lo X k0_ct ct0_30 := fun h => kbody_met (by decide +kernel) rfl (kRest_of wc0_SilenceMatch wf0_SilenceMatch wm0_SilenceMatch k_clok k_tok hX hT h) dc0_X9_dead rfl ok0_30
theorem go0_31 (hX : kXok X lo) (hT : kTyp k0_tt Ty) : kGo l k_cl k_aty mw0 D cA aS k0_tt Ty lo X k0_ct ct0_31 := fun h => kbody_met (by decide +kernel) rfl (kRest_of wc0_SilenceMatch wf0_SilenceMatch wm0_SilenceMatch k_clok k_tok hX hT h) dc0_X9_quiet rfl ok0_31
theorem go0_32 (hX : kXok X lo) (hT : kTyp k0_tt Ty) : kGo l k_cl k_aty mw0 D cA aS k0_tt Ty lo X k0_ct ct0_32 := fun h => kbody_met (by decide +kernel) rfl (kRest_of wc0_SilenceMatch wf0_SilenceMatch wm0_SilenceMatch k_clok k_tok hX hT h) dc0_X9_coughs rfl ok0_32
theorem go0_33 (hX : kXok X lo) (hT : kTyp k0_tt Ty) : kGo l k_cl k_aty mw0 D cA aS k0_tt Ty lo X k0_ct ct0_33 := fun h => kbody_met (by decide +kernel) rfl (kRest_of wc0_SilenceMatch wf0_SilenceMatch wm0_SilenceMatch k_clok k_tok hX hT h) dc0_X9_out rfl ok0_33
theorem go0_34 (hX : kXok X lo) (hT : kTyp k0_tt Ty) : kGo l k_cl k_aty mw0 D cA aS k0_tt Ty lo X k0_ct ct0_34 := fun h => kbody_met (by decide +kernel) rfl (kRest_of wc0_SilenceMatch wf0_SilenceMatch wm0_SilenceMatch k_clok k_tok hX hT h) dc0_X9_outs rfl ok0_34
theorem go0_35 (hX : kXok X lo) (hT : kTyp k0_tt Ty) : kGo l k_cl k_aty mw0 D cA aS k0_tt Ty lo X k0_ct ct0_35 := fun h => kbody_met (by decide +kernel) rfl (kRest_of wc0_SilenceMatch wf0_SilenceMatch wm0_SilenceMatch k_clok k_tok hX hT h) dc0_X9_laughs rfl ok0_35
theorem go0_36 (hX : kXok X lo) (hT : kTyp k0_tt Ty) : kGo l k_cl k_aty mw0 D cA aS k0_tt Ty lo X k0_ct ct0_36 := fun h => kbody_met (by decide +kernel) rfl (kRest_of wc0_SilenceMatch wf0_SilenceMatch wm0_SilenceMatch k_clok k_tok hX hT h) dc0_X9_finger rfl ok0_36
theorem go0_37 (hX : kXok X lo) (hT : kTyp k0_tt Ty) : kGo l k_cl k_aty mw0 D cA aS k0_tt Ty lo X k0_ct ct0_37 := fun h => kbody_met (by decide +kernel) rfl (kRest_of wc0_SilenceMatch wf0_SilenceMatch wm0_SilenceMatch k_clok k_tok hX hT h) dc0_X9_fingers rfl ok0_37
theorem go0_38 (hX : kXok X lo) (hT : kTyp k0_tt Ty) : kGo l k_cl k_aty mw0 D cA aS k0_tt Ty lo X k0_ct ct0_38 := fun h => kbody_met (by decide +kernel) rfl (kRest_of wc0_SilenceMatch wf0_SilenceMatch wm0_SilenceMatch k_clok k_tok hX hT h) dc0_X9_score rfl ok0_38
theorem go0_39 (hX : kXok X lo) (hT : kTyp k0_tt Ty) : kGo l k_cl k_aty mw0 D cA aS k0_tt Ty lo X k0_ct ct0_39 := fun h => kbody_met (by decide +kernel) rfl (kRest_of wc0_SilenceMatch wf0_SilenceMatch wm0_SilenceMatch k_clok k_tok hX hT h) dc0_X9_wins rfl ok0_39
theorem go0_40 (hX : kXok X lo) (hT : kTyp k0_tt Ty) : kGo l k_cl k_aty mw0 D cA aS k0_tt Ty lo X k0_ct ct0_40 := fun h => kbody_met (by decide +kernel) rfl (kRest_of wc0_SilenceMatch wf0_SilenceMatch wm0_SilenceMatch k_clok k_tok hX hT h) dc0_X9_leads rfl ok0_40
theorem go0_41 (hX : kXok X lo) (hT : kTyp k0_tt Ty) : kGo l k_cl k_aty mw0 D cA aS k0_tt Ty lo X k0_ct ct0_41 := fun h => kbody_met (by decide +kernel) rfl (kRest_of wc0_SilenceMatch wf0_SilenceMatch wm0_SilenceMatch k_clok k_tok hX hT h) dc0_X9_last rfl ok0_41
theorem go0_42 (hX : kXok X lo) (hT : kTyp k0_tt Ty) : kGo l k_cl k_aty mw0 D cA aS k0_tt Ty lo X k0_ct ct0_42 := fun h => kbody_met (by decide +kernel) rfl (kRest_of wc0_SilenceMatch wf0_SilenceMatch wm0_SilenceMatch k_clok k_tok hX hT h) dc0_X9_tries rfl ok0_42
theorem go0_43 (hX : kXok X lo) (hT : kTyp k0_tt Ty) : kGo l k_cl k_aty mw0 D cA aS k0_tt Ty lo X k0_ct ct0_43 := fun h => kbody_met (by decide +kernel) rfl (kRest_of wc0_SilenceMatch wf0_SilenceMatch wm0_SilenceMatch k_clok k_tok hX hT h) dc0_X9_crowd rfl ok0_43
theorem go0_44 (hX : kXok X lo) (hT : kTyp k0_tt Ty) : kGo l k_cl k_aty mw0 D cA aS k0_tt Ty lo X k0_ct ct0_44 := fun h => kbody_met (by decide +kernel) rfl (kRest_of wc0_SilenceMatch wf0_SilenceMatch wm0_SilenceMatch k_clok k_tok hX hT h) dc0_X9_near rfl ok0_44
theorem go0_45 (hX : kXok X lo) (hT : kTyp k0_tt Ty) : kGo l k_cl k_aty mw0 D cA aS k0_tt Ty lo X k0_ct ct0_45 := fun h => kbody_met (by decide +kernel) rfl (kRest_of wc0_SilenceMatch wf0_SilenceMatch wm0_SilenceMatch k_clok k_tok hX hT h) dc0_X9_gone rfl ok0_45
theorem go0_46 (hX : kXok X lo) (hT : kTyp k0_tt Ty) : kGo l k_cl k_aty mw0 D cA aS k0_tt Ty lo X k0_ct ct0_46 := fun h => kbody_met (by decide +kernel) rfl (kRest_of wc0_SilenceMatch wf0_SilenceMatch wm0_SilenceMatch k_clok k_tok hX hT h) dc0_X9_calm rfl ok0_46
theorem go0_47 (hX : kXok X lo) (hT : kTyp k0_tt Ty) : kGo l k_cl k_aty mw0 D cA aS k0_tt Ty lo X k0_ct ct0_47 := fun h => kbody_met (by decide +kernel) rfl (kRest_of wc0_SilenceMatch wf0_SilenceMatch wm0_SilenceMatch k_clok k_tok hX hT h) dc0_X9_chain rfl ok0_47
theorem go0_48 (hX : kXok X lo) (hT : kTyp k0_tt Ty) : kGo l k_cl k_aty mw0 D cA aS k0_tt Ty lo X k0_ct ct0_48 := fun h => kbody_met (by decide +kernel) rfl (kRest_of wc0_SilenceMatch wf0_SilenceMatch wm0_SilenceMatch k_clok k_tok hX hT h) dc0_X9_bells rfl ok0_48
theorem go0_49 (hX : kXok X lo) (hT : kTyp k0_tt Ty) : kGo l k_cl k_aty mw0 D cA aS k0_tt Ty lo X k0_ct ct0_49 := fun h => kbody_met (by decide +kernel) rfl (kRest_of wc0_SilenceMatch wf0_SilenceMatch wm0_SilenceMatch k_clok k_tok hX hT h) dc0_X9_fire rfl ok0_49
theorem go0_50 (hX : kXok X lo) (hT : kTyp k0_tt Ty) : kGo l k_cl k_aty mw0 D cA aS k0_tt Ty lo X k0_ct ct0_50 := fun h => kbody_met (by decide +kernel) rfl (kRest_of wc0_SilenceMatch wf0_SilenceMatch wm0_SilenceMatch k_clok k_tok hX hT h) dc0_X9_swap rfl ok0_50
theorem go0_51 (hX : kXok X lo) (hT : kTyp k0_tt Ty) : kGo l k_cl k_aty mw0 D cA aS k0_tt Ty lo X k0_ct ct0_51 := fun h => kbody_met (by decide +kernel) rfl (kRest_of wc0_SilenceMatch wf0_SilenceMatch wm0_SilenceMatch k_clok k_tok hX hT h) dc0_X9_groups rfl ok0_51
theorem go0_52 (hX : kXok X lo) (hT : kTyp k0_tt Ty) : kGo l k_cl k_aty mw0 D cA aS k0_tt Ty lo X k0_ct ct0_52 := fun h => kbody_met (by decide +kernel) rfl (kRest_of wc0_SilenceMatch wf0_SilenceMatch wm0_SilenceMatch k_clok k_tok hX hT h) dc0_X9_safe rfl ok0_52
theorem go0_53 (hX : kXok X lo) (hT : kTyp k0_tt Ty) : kGo l k_cl k_aty mw0 D cA aS k0_tt Ty lo X k0_ct ct0_53 := fun h => kbody_met (by decide +kernel) rfl (kRest_of wc0_SilenceMatch wf0_SilenceMatch wm0_SilenceMatch k_clok k_tok hX hT h) dc0_X9_place rfl ok0_53
theorem go0_54 (hX : kXok X lo) (hT : kTyp k0_tt Ty) : kGo l k_cl k_aty mw0 D cA aS k0_tt Ty lo X k0_ct ct0_54 := fun h => kbody_met (by decide +kernel) rfl (kRest_of wc0_SilenceMatch wf0_SilenceMatch wm0_SilenceMatch k_clok k_tok hX hT h) dc0_X9_lasts rfl ok0_54
theorem go0_55 (hX : kXok X lo) (hT : kTyp k0_tt Ty) : kGo l k_cl k_aty mw0 D cA aS k0_tt Ty lo X k0_ct ct0_55 := fun h => kbody_met (by decide +kernel) rfl (kRest_of wc0_SilenceMatch wf0_SilenceMatch wm0_SilenceMatch k_clok k_tok hX hT h) dc0_X9_best rfl ok0_55
theorem go0_56 (hX : kXok X lo) (hT : kTyp k0_tt Ty) : kGo l k_cl k_aty mw0 D cA aS k0_tt Ty lo X k0_ct ct0_56 := fun h => kbody_met (by decide +kernel) rfl (kRest_of wc0_SilenceMatch wf0_SilenceMatch wm0_SilenceMatch k_clok k_tok hX hT h) dc0_X9_gains rfl ok0_56
theorem go0_57 (hX : kXok X lo) (hT : kTyp k0_tt Ty) : kGo l k_cl k_aty mw0 D cA aS k0_tt Ty lo X k0_ct ct0_57 := fun h => kbody_met (by decide +kernel) rfl (kRest_of wc0_SilenceMatch wf0_SilenceMatch wm0_SilenceMatch k_clok k_tok hX hT h) dc0_X9_hush rfl ok0_57
theorem go0_58 (hX : kXok X lo) (hT : kTyp k0_tt Ty) : kGo l k_cl k_aty mw0 D cA aS k0_tt Ty lo X k0_ct ct0_58 := fun h => kbody_met (by decide +kernel) rfl (kRest_of wc0_SilenceMatch wf0_SilenceMatch wm0_SilenceMatch k_clok k_tok hX hT h) dc0_X9_cover rfl ok0_58
theorem go0_59 (hX : kXok X lo) (hT : kTyp k0_tt Ty) : kGo l k_cl k_aty mw0 D cA aS k0_tt Ty lo X k0_ct ct0_59 := fun h => kbody_met (by decide +kernel) rfl (kRest_of wc0_SilenceMatch wf0_SilenceMatch wm0_SilenceMatch k_clok k_tok hX hT h) dc0_X9_covers rfl ok0_59
theorem go0_60 (hX : kXok X lo) (hT : kTyp k0_tt Ty) : kGo l k_cl k_aty mw0 D cA aS k0_tt Ty lo X k0_ct ct0_60 := fun h => kbody_met (by decide +kernel) rfl (kRest_of wc0_SilenceMatch wf0_SilenceMatch wm0_SilenceMatch k_clok k_tok hX hT h) dc0_X9_more rfl ok0_60
theorem go0_61 (hX : kXok X lo) (hT : kTyp k0_tt Ty) : kGo l k_cl k_aty mw0 D cA aS k0_tt Ty lo X k0_ct ct0_61 := fun h => kbody_met (by decide +kernel) rfl (kRest_of wc0_SilenceMatch wf0_SilenceMatch wm0_SilenceMatch k_clok k_tok hX hT h) dc0_X9_spread rfl ok0_61
theorem go0_62 (hX : kXok X lo) (hT : kTyp k0_tt Ty) : kGo l k_cl k_aty mw0 D cA aS k0_tt Ty lo X k0_ct ct0_62 := fun h => kbody_met (by decide +kernel) rfl (kRest_of wc0_SilenceMatch wf0_SilenceMatch wm0_SilenceMatch k_clok k_tok hX hT h) dc0_X9_part rfl ok0_62
theorem go0_63 (hX : kXok X lo) (hT : kTyp k0_tt Ty) : kGo l k_cl k_aty mw0 D cA aS k0_tt Ty lo X k0_ct ct0_63 := fun h => kbody_met (by decide +kernel) rfl (kRest_of wc0_SilenceMatch wf0_SilenceMatch wm0_SilenceMatch k_clok k_tok hX hT h) dc0_X9_parts rfl ok0_63
theorem go0_64 (hX : kXok X lo) (hT : kTyp k0_tt Ty) : kGo l k_cl k_aty mw0 D cA aS k0_tt Ty lo X k0_ct ct0_64 := fun h => kbody_met (by decide +kernel) rfl (kRest_of wc0_SilenceMatch wf0_SilenceMatch wm0_SilenceMatch k_clok k_tok hX hT h) dc0_X9_grudge rfl ok0_64
theorem go0_65 (hX : kXok X lo) (hT : kTyp k0_tt Ty) : kGo l k_cl k_aty mw0 D cA aS k0_tt Ty lo X k0_ct ct0_65 := fun h => kbody_met (by decide +kernel) rfl (kRest_of wc0_SilenceMatch wf0_SilenceMatch wm0_SilenceMatch k_clok k_tok hX hT h) dc0_X9_fits rfl ok0_65
theorem go0_66 (hX : kXok X lo) (hT : kTyp k0_tt Ty) : kGo l k_cl k_aty mw0 D cA aS k0_tt Ty lo X k0_ct ct0_66 := fun h => kbody_met (by decide +kernel) rfl (kRest_of wc0_SilenceMatch wf0_SilenceMatch wm0_SilenceMatch k_clok k_tok hX hT h) dc0_X9_spots rfl ok0_66
theorem go0_67 (hX : kXok X lo) (hT : kTyp k0_tt Ty) : kGo l k_cl k_aty mw0 D cA aS k0_tt Ty lo X k0_ct ct0_67 := fun h => kbody_met (by decide +kernel) rfl (kRest_of wc0_SilenceMatch wf0_SilenceMatch wm0_SilenceMatch k_clok k_tok hX hT h) dc0_X9_who rfl ok0_67
theorem go0_68 (hX : kXok X lo) (hT : kTyp k0_tt Ty) : kGo l k_cl k_aty mw0 D cA aS k0_tt Ty lo X k0_ct ct0_68 := fun h => kbody_met (by decide +kernel) rfl (kRest_of wc0_SilenceMatch wf0_SilenceMatch wm0_SilenceMatch k_clok k_tok hX hT h) dc0_X9_ask rfl ok0_68
theorem go0_69 (hX : kXok X lo) (hT : kTyp k0_tt Ty) : kGo l k_cl k_aty mw0 D cA aS k0_tt Ty lo X k0_ct ct0_69 := fun h => kbody_met (by decide +kernel) rfl (kRest_of wc0_SilenceMatch wf0_SilenceMatch wm0_SilenceMatch k_clok k_tok hX hT h) dc0_X9_leaves rfl ok0_69
theorem go0_70 (hX : kXok X lo) (hT : kTyp k0_tt Ty) : kGo l k_cl k_aty mw0 D cA aS k0_tt Ty lo X k0_ct ct0_70 := fun h => kbody_met (by decide +kernel) rfl (kRest_of wc0_SilenceMatch wf0_SilenceMatch wm0_SilenceMatch k_clok k_tok hX hT h) dc0_X9_even rfl ok0_70
theorem go0_71 (hX : kXok X lo) (hT : kTyp k0_tt Ty) : kGo l k_cl k_aty mw0 D cA aS k0_tt Ty lo X k0_ct ct0_71 := fun h => kbody_met (by decide +kernel) rfl (kRest_of wc0_SilenceMatch wf0_SilenceMatch wm0_SilenceMatch k_clok k_tok hX hT h) dc0_X9_evens rfl ok0_71
theorem go0_72 (hX : kXok X lo) (hT : kTyp k0_tt Ty) : kGo l k_cl k_aty mw0 D cA aS k0_tt Ty lo X k0_ct ct0_72 := fun h => kbody_met (by decide +kernel) rfl (kRest_of wc0_SilenceMatch wf0_SilenceMatch wm0_SilenceMatch k_clok k_tok hX hT h) dc0_X9_without rfl ok0_72
theorem go0_73 (hX : kXok X lo) (hT : kTyp k0_tt Ty) : kGo l k_cl k_aty mw0 D cA aS k0_tt Ty lo X k0_ct ct0_73 := fun h => kbody_met (by decide +kernel) rfl (kRest_of wc0_SilenceMatch wf0_SilenceMatch wm0_SilenceMatch k_clok k_tok hX hT h) dc0_X9_drop rfl ok0_73
theorem go0_74 (hX : kXok X lo) (hT : kTyp k0_tt Ty) : kGo l k_cl k_aty mw0 D cA aS k0_tt Ty lo X k0_ct ct0_74 := fun h => kbody_met (by decide +kernel) rfl (kRest_of wc0_SilenceMatch wf0_SilenceMatch wm0_SilenceMatch k_clok k_tok hX hT h) dc0_X9_chance rfl ok0_74
theorem go0_75 (hX : kXok X lo) (hT : kTyp k0_tt Ty) : kGo l k_cl k_aty mw0 D cA aS k0_tt Ty lo X k0_ct ct0_75 := fun h => kbody_met (by decide +kernel) rfl (kRest_of wc0_SilenceMatch wf0_SilenceMatch wm0_SilenceMatch k_clok k_tok hX hT h) dc0_X9_surest rfl ok0_75
theorem go0_76 (hX : kXok X lo) (hT : kTyp k0_tt Ty) : kGo l k_cl k_aty mw0 D cA aS k0_tt Ty lo X k0_ct ct0_76 := fun h => kbody_met (by decide +kernel) rfl (kRest_of wc0_SilenceMatch wf0_SilenceMatch wm0_SilenceMatch k_clok k_tok hX hT h) dc0_X9_sure rfl ok0_76
theorem go0_77 (hX : kXok X lo) (hT : kTyp k0_tt Ty) : kGo l k_cl k_aty mw0 D cA aS k0_tt Ty lo X k0_ct ct0_77 := fun h => kbody_met (by decide +kernel) rfl (kRest_of wc0_SilenceMatch wf0_SilenceMatch wm0_SilenceMatch k_clok k_tok hX hT h) dc0_X9_move rfl ok0_77
theorem go0_78 (hX : kXok X lo) (hT : kTyp k0_tt Ty) : kGo l k_cl k_aty mw0 D cA aS k0_tt Ty lo X k0_ct ct0_78 := fun h => kbody_met (by decide +kernel) rfl (kRest_of wc0_SilenceMatch wf0_SilenceMatch wm0_SilenceMatch k_clok k_tok hX hT h) dc0_X9_lozenge rfl ok0_78
theorem go0_79 (hX : kXok X lo) (hT : kTyp k0_tt Ty) : kGo l k_cl k_aty mw0 D cA aS k0_tt Ty lo X k0_ct ct0_79 := fun h => kbody_met (by decide +kernel) rfl (kRest_of wc0_SilenceMatch wf0_SilenceMatch wm0_SilenceMatch k_clok k_tok hX hT h) dc0_X9_undo rfl ok0_79
theorem go0_80 (hX : kXok X lo) (hT : kTyp k0_tt Ty) : kGo l k_cl k_aty mw0 D cA aS k0_tt Ty lo X k0_ct ct0_80 := fun h => kbody_met (by decide +kernel) rfl (kRest_of wc0_SilenceMatch wf0_SilenceMatch wm0_SilenceMatch k_clok k_tok hX hT h) dc0_X9_anew rfl ok0_80
theorem go0_81 (hX : kXok X lo) (hT : kTyp k0_tt Ty) : kGo l k_cl k_aty mw0 D cA aS k0_tt Ty lo X k0_ct ct0_81 := fun h => kbody_met (by decide +kernel) rfl (kRest_of wc0_SilenceMatch wf0_SilenceMatch wm0_SilenceMatch k_clok k_tok hX hT h) dc0_X9_drawn rfl ok0_81
theorem go0_82 (hX : kXok X lo) (hT : kTyp k0_tt Ty) : kGo l k_cl k_aty mw0 D cA aS k0_tt Ty lo X k0_ct ct0_82 := fun h => kbody_met (by decide +kernel) rfl (kRest_of wc0_SilenceMatch wf0_SilenceMatch wm0_SilenceMatch k_clok k_tok hX hT h) dc0_X9_luck rfl ok0_82
theorem go0_83 (hX : kXok X lo) (hT : kTyp k0_tt Ty) : kGo l k_cl k_aty mw0 D cA aS k0_tt Ty lo X k0_ct ct0_83 := fun h => kbody_met (by decide +kernel) rfl (kRest_of wc0_SilenceMatch wf0_SilenceMatch wm0_SilenceMatch k_clok k_tok hX hT h) dc0_X9_bell rfl ok0_83
theorem go0_84 (hX : kXok X lo) (hT : kTyp k0_tt Ty) : kGo l k_cl k_aty mw0 D cA aS k0_tt Ty lo X k0_ct ct0_84 := fun h => kbody_met (by decide +kernel) rfl (kRest_of wc0_SilenceMatch wf0_SilenceMatch wm0_SilenceMatch k_clok k_tok hX hT h) dc0_X9_count rfl ok0_84
theorem go0_85 (hX : kXok X lo) (hT : kTyp k0_tt Ty) : kGo l k_cl k_aty mw0 D cA aS k0_tt Ty lo X k0_ct ct0_85 := fun h => kbody_met (by decide +kernel) rfl (kRest_of wc0_SilenceMatch wf0_SilenceMatch wm0_SilenceMatch k_clok k_tok hX hT h) dc0_X9_back rfl ok0_85
theorem go0_86 (hX : kXok X lo) (hT : kTyp k0_tt Ty) : kGo l k_cl k_aty mw0 D cA aS k0_tt Ty lo X k0_ct ct0_86 := fun h => kbody_met (by decide +kernel) rfl (kRest_of wc0_SilenceMatch wf0_SilenceMatch wm0_SilenceMatch k_clok k_tok hX hT h) dc0_X9_write rfl ok0_86
theorem go0_87 (hX : kXok X lo) (hT : kTyp k0_tt Ty) : kGo l k_cl k_aty mw0 D cA aS k0_tt Ty lo X k0_ct ct0_87 := fun h => kbody_met (by decide +kernel) rfl (kRest_of wc0_SilenceMatch wf0_SilenceMatch wm0_SilenceMatch k_clok k_tok hX hT h) dc0_X9_paste rfl ok0_87
theorem go0_88 (hX : kXok X lo) (hT : kTyp k0_tt Ty) : kGo l k_cl k_aty mw0 D cA aS k0_tt Ty lo X k0_ct ct0_88 := fun h => kbody_met (by decide +kernel) rfl (kRest_of wc0_SilenceMatchModel wf0_SilenceMatchModel wm0_SilenceMatchModel k_clok k_tok hX hT h) dc0_X10_in rfl ok0_88
theorem go0_89 (hX : kXok X lo) (hT : kTyp k0_tt Ty) : kGo l k_cl k_aty mw0 D cA aS k0_tt Ty lo X k0_ct ct0_89 := fun h => kbody_met (by decide +kernel) rfl (kRest_of wc0_SilenceMatchModel wf0_SilenceMatchModel wm0_SilenceMatchModel k_clok k_tok hX hT h) dc0_X10_isSide rfl ok0_89
theorem go0_90 (hX : kXok X lo) (hT : kTyp k0_tt Ty) : kGo l k_cl k_aty mw0 D cA aS k0_tt Ty lo X k0_ct ct0_90 := fun h => kbody_met (by decide +kernel) rfl (kRest_of wc0_SilenceMatchModel wf0_SilenceMatchModel wm0_SilenceMatchModel k_clok k_tok hX hT h) dc0_X10_isSlot rfl ok0_90
theorem go0_91 (hX : kXok X lo) (hT : kTyp k0_tt Ty) : kGo l k_cl k_aty mw0 D cA aS k0_tt Ty lo X k0_ct ct0_91 := fun h => kbody_met (by decide +kernel) rfl (kRest_of wc0_SilenceMatchModel wf0_SilenceMatchModel wm0_SilenceMatchModel k_clok k_tok hX hT h) dc0_X10_isSeed rfl ok0_91
theorem go0_92 (hX : kXok X lo) (hT : kTyp k0_tt Ty) : kGo l k_cl k_aty mw0 D cA aS k0_tt Ty lo X k0_ct ct0_92 := fun h => kbody_met (by decide +kernel) rfl (kRest_of wc0_SilenceMatchModel wf0_SilenceMatchModel wm0_SilenceMatchModel k_clok k_tok hX hT h) dc0_X10_bit rfl ok0_92
theorem go0_93 (hX : kXok X lo) (hT : kTyp k0_tt Ty) : kGo l k_cl k_aty mw0 D cA aS k0_tt Ty lo X k0_ct ct0_93 := fun h => kbody_met (by decide +kernel) rfl (kRest_of wc0_SilenceMatchModel wf0_SilenceMatchModel wm0_SilenceMatchModel k_clok k_tok hX hT h) dc0_X10_bits rfl ok0_93
theorem go0_94 (hX : kXok X lo) (hT : kTyp k0_tt Ty) : kGo l k_cl k_aty mw0 D cA aS k0_tt Ty lo X k0_ct ct0_94 := fun h => kbody_met (by decide +kernel) rfl (kRest_of wc0_SilenceMatchModel wf0_SilenceMatchModel wm0_SilenceMatchModel k_clok k_tok hX hT h) dc0_X10_isGreen rfl ok0_94
theorem go0_95 (hX : kXok X lo) (hT : kTyp k0_tt Ty) : kGo l k_cl k_aty mw0 D cA aS k0_tt Ty lo X k0_ct ct0_95 := fun h => kbody_met (by decide +kernel) rfl (kRest_of wc0_SilenceMatchModel wf0_SilenceMatchModel wm0_SilenceMatchModel k_clok k_tok hX hT h) dc0_X10_cellMany rfl ok0_95
theorem go0_96 (hX : kXok X lo) (hT : kTyp k0_tt Ty) : kGo l k_cl k_aty mw0 D cA aS k0_tt Ty lo X k0_ct ct0_96 := fun h => kbody_met (by decide +kernel) rfl (kRest_of wc0_SilenceMatchModel wf0_SilenceMatchModel wm0_SilenceMatchModel k_clok k_tok hX hT h) dc0_X10_isCell rfl ok0_96
theorem go0_97 (hX : kXok X lo) (hT : kTyp k0_tt Ty) : kGo l k_cl k_aty mw0 D cA aS k0_tt Ty lo X k0_ct ct0_97 := fun h => kbody_met (by decide +kernel) rfl (kRest_of wc0_SilenceMatchModel wf0_SilenceMatchModel wm0_SilenceMatchModel k_clok k_tok hX hT h) dc0_X10_isPlayer rfl ok0_97
theorem go0_98 (hX : kXok X lo) (hT : kTyp k0_tt Ty) : kGo l k_cl k_aty mw0 D cA aS k0_tt Ty lo X k0_ct ct0_98 := fun h => kbody_met (by decide +kernel) rfl (kRest_of wc0_SilenceMatchModel wf0_SilenceMatchModel wm0_SilenceMatchModel k_clok k_tok hX hT h) dc0_X10_isUmpire rfl ok0_98
theorem go0_99 (hX : kXok X lo) (hT : kTyp k0_tt Ty) : kGo l k_cl k_aty mw0 D cA aS k0_tt Ty lo X k0_ct ct0_99 := fun h => kbody_met (by decide +kernel) rfl (kRest_of wc0_SilenceMatchModel wf0_SilenceMatchModel wm0_SilenceMatchModel k_clok k_tok hX hT h) dc0_X10_isLoud rfl ok0_99
theorem go0_100 (hX : kXok X lo) (hT : kTyp k0_tt Ty) : kGo l k_cl k_aty mw0 D cA aS k0_tt Ty lo X k0_ct ct0_100 := fun h => kbody_met (by decide +kernel) rfl (kRest_of wc0_SilenceMatchModel wf0_SilenceMatchModel wm0_SilenceMatchModel k_clok k_tok hX hT h) dc0_X10_isEar rfl ok0_100
theorem go0_101 (hX : kXok X lo) (hT : kTyp k0_tt Ty) : kGo l k_cl k_aty mw0 D cA aS k0_tt Ty lo X k0_ct ct0_101 := fun h => kbody_met (by decide +kernel) rfl (kRest_of wc0_SilenceMatchModel wf0_SilenceMatchModel wm0_SilenceMatchModel k_clok k_tok hX hT h) dc0_X10_of rfl ok0_101
theorem go0_102 (hX : kXok X lo) (hT : kTyp k0_tt Ty) : kGo l k_cl k_aty mw0 D cA aS k0_tt Ty lo X k0_ct ct0_102 := fun h => kbody_met (by decide +kernel) rfl (kRest_of wc0_SilenceMatchModel wf0_SilenceMatchModel wm0_SilenceMatchModel k_clok k_tok hX hT h) dc0_X10_see rfl ok0_102
theorem go0_103 (hX : kXok X lo) (hT : kTyp k0_tt Ty) : kGo l k_cl k_aty mw0 D cA aS k0_tt Ty lo X k0_ct ct0_103 := fun h => kbody_met (by decide +kernel) rfl (kRest_of wc0_SilenceMatchModel wf0_SilenceMatchModel wm0_SilenceMatchModel k_clok k_tok hX hT h) dc0_X10_good rfl ok0_103
theorem go0_104 (hX : kXok X lo) (hT : kTyp k0_tt Ty) : kGo l k_cl k_aty mw0 D cA aS k0_tt Ty lo X k0_ct ct0_104 := fun h => kbody_met (by decide +kernel) rfl (kRest_of wc0_SilenceMatchModel wf0_SilenceMatchModel wm0_SilenceMatchModel k_clok k_tok hX hT h) dc0_X10_advance rfl ok0_104
theorem go0_105 (hX : kXok X lo) (hT : kTyp k0_tt Ty) : kGo l k_cl k_aty mw0 D cA aS k0_tt Ty lo X k0_ct ct0_105 := fun h => kbody_met (by decide +kernel) rfl (kRest_of wc0_SilenceMatchModel wf0_SilenceMatchModel wm0_SilenceMatchModel k_clok k_tok hX hT h) dc0_X10_asItIs rfl ok0_105
theorem go0_106 (hX : kXok X lo) (hT : kTyp k0_tt Ty) : kGo l k_cl k_aty mw0 D cA aS k0_tt Ty lo X k0_ct ct0_106 := fun h => kbody_met (by decide +kernel) rfl (kRest_of wc0_SilenceMatchModel wf0_SilenceMatchModel wm0_SilenceMatchModel k_clok k_tok hX hT h) dc0_X10_goMatch rfl ok0_106
theorem go0_107 (hX : kXok X lo) (hT : kTyp k0_tt Ty) : kGo l k_cl k_aty mw0 D cA aS k0_tt Ty lo X k0_ct ct0_107 := fun h => kbody_met (by decide +kernel) rfl (kRest_of wc0_SilenceMatchModel wf0_SilenceMatchModel wm0_SilenceMatchModel k_clok k_tok hX hT h) dc0_X10_asksGreen rfl ok0_107
theorem go0_108 (hX : kXok X lo) (hT : kTyp k0_tt Ty) : kGo l k_cl k_aty mw0 D cA aS k0_tt Ty lo X k0_ct ct0_108 := fun h => kbody_met (by decide +kernel) rfl (kRest_of wc0_SilenceMatchModel wf0_SilenceMatchModel wm0_SilenceMatchModel k_clok k_tok hX hT h) dc0_X10_asksPlayer rfl ok0_108
theorem go0_109 (hX : kXok X lo) (hT : kTyp k0_tt Ty) : kGo l k_cl k_aty mw0 D cA aS k0_tt Ty lo X k0_ct ct0_109 := fun h => kbody_met (by decide +kernel) rfl (kRest_of wc0_SilenceMatchModel wf0_SilenceMatchModel wm0_SilenceMatchModel k_clok k_tok hX hT h) dc0_X10_asksMinute rfl ok0_109
theorem go0_110 (hX : kXok X lo) (hT : kTyp k0_tt Ty) : kGo l k_cl k_aty mw0 D cA aS k0_tt Ty lo X k0_ct ct0_110 := fun h => kbody_met (by decide +kernel) rfl (kRest_of wc0_SilenceMatchModel wf0_SilenceMatchModel wm0_SilenceMatchModel k_clok k_tok hX hT h) dc0_X10_laySounds rfl ok0_110
theorem go0_111 (hX : kXok X lo) (hT : kTyp k0_tt Ty) : kGo l k_cl k_aty mw0 D cA aS k0_tt Ty lo X k0_ct ct0_111 := fun h => kbody_met (by decide +kernel) rfl (kRest_of wc0_SilenceMatchModel wf0_SilenceMatchModel wm0_SilenceMatchModel k_clok k_tok hX hT h) dc0_X10_end rfl ok0_111
theorem go0_112 (hX : kXok X lo) (hT : kTyp k0_tt Ty) : kGo l k_cl k_aty mw0 D cA aS k0_tt Ty lo X k0_ct ct0_112 := fun h => kbody_met (by decide +kernel) rfl (kRest_of wc0_SilenceMatchModel wf0_SilenceMatchModel wm0_SilenceMatchModel k_clok k_tok hX hT h) dc0_X10_green rfl ok0_112
theorem go0_113 (hX : kXok X lo) (hT : kTyp k0_tt Ty) : kGo l k_cl k_aty mw0 D cA aS k0_tt Ty lo X k0_ct ct0_113 := fun h => kbody_met (by decide +kernel) rfl (kRest_of wc0_SilenceMatchModel wf0_SilenceMatchModel wm0_SilenceMatchModel k_clok k_tok hX hT h) dc0_X10_fault rfl ok0_113
theorem go0_114 (hX : kXok X lo) (hT : kTyp k0_tt Ty) : kGo l k_cl k_aty mw0 D cA aS k0_tt Ty lo X k0_ct ct0_114 := fun h => kbody_met (by decide +kernel) rfl (kRest_of wc0_SilenceMatchModel wf0_SilenceMatchModel wm0_SilenceMatchModel k_clok k_tok hX hT h) dc0_X10_player rfl ok0_114
theorem go0_115 (hX : kXok X lo) (hT : kTyp k0_tt Ty) : kGo l k_cl k_aty mw0 D cA aS k0_tt Ty lo X k0_ct ct0_115 := fun h => kbody_met (by decide +kernel) rfl (kRest_of wc0_SilenceMatchModel wf0_SilenceMatchModel wm0_SilenceMatchModel k_clok k_tok hX hT h) dc0_X10_umpire rfl ok0_115
theorem go0_116 (hX : kXok X lo) (hT : kTyp k0_tt Ty) : kGo l k_cl k_aty mw0 D cA aS k0_tt Ty lo X k0_ct ct0_116 := fun h => kbody_met (by decide +kernel) rfl (kRest_of wc0_SilenceMatchModel wf0_SilenceMatchModel wm0_SilenceMatchModel k_clok k_tok hX hT h) dc0_X10_far rfl ok0_116
theorem go0_117 (hX : kXok X lo) (hT : kTyp k0_tt Ty) : kGo l k_cl k_aty mw0 D cA aS k0_tt Ty lo X k0_ct ct0_117 := fun h => kbody_met (by decide +kernel) rfl (kRest_of wc0_SilenceMatchModel wf0_SilenceMatchModel wm0_SilenceMatchModel k_clok k_tok hX hT h) dc0_X10_wind rfl ok0_117
theorem go0_118 (hX : kXok X lo) (hT : kTyp k0_tt Ty) : kGo l k_cl k_aty mw0 D cA aS k0_tt Ty lo X k0_ct ct0_118 := fun h => kbody_met (by decide +kernel) rfl (kRest_of wc0_SilenceMatchModel wf0_SilenceMatchModel wm0_SilenceMatchModel k_clok k_tok hX hT h) dc0_X10_ears rfl ok0_118
theorem go0_119 (hX : kXok X lo) (hT : kTyp k0_tt Ty) : kGo l k_cl k_aty mw0 D cA aS k0_tt Ty lo X k0_ct ct0_119 := fun h => kbody_met (by decide +kernel) rfl (kRest_of wc0_SilenceMatchModel wf0_SilenceMatchModel wm0_SilenceMatchModel k_clok k_tok hX hT h) dc0_X10_dead rfl ok0_119
theorem go0_120 (hX : kXok X lo) (hT : kTyp k0_tt Ty) : kGo l k_cl k_aty mw0 D cA aS k0_tt Ty lo X k0_ct ct0_120 := fun h => kbody_met (by decide +kernel) rfl (kRest_of wc0_SilenceMatchModel wf0_SilenceMatchModel wm0_SilenceMatchModel k_clok k_tok hX hT h) dc0_X10_quiet rfl ok0_120
theorem go0_121 (hX : kXok X lo) (hT : kTyp k0_tt Ty) : kGo l k_cl k_aty mw0 D cA aS k0_tt Ty lo X k0_ct ct0_121 := fun h => kbody_met (by decide +kernel) rfl (kRest_of wc0_SilenceMatchModel wf0_SilenceMatchModel wm0_SilenceMatchModel k_clok k_tok hX hT h) dc0_X10_coughs rfl ok0_121
theorem go0_122 (hX : kXok X lo) (hT : kTyp k0_tt Ty) : kGo l k_cl k_aty mw0 D cA aS k0_tt Ty lo X k0_ct ct0_122 := fun h => kbody_met (by decide +kernel) rfl (kRest_of wc0_SilenceMatchModel wf0_SilenceMatchModel wm0_SilenceMatchModel k_clok k_tok hX hT h) dc0_X10_out rfl ok0_122
theorem go0_123 (hX : kXok X lo) (hT : kTyp k0_tt Ty) : kGo l k_cl k_aty mw0 D cA aS k0_tt Ty lo X k0_ct ct0_123 := fun h => kbody_met (by decide +kernel) rfl (kRest_of wc0_SilenceMatchModel wf0_SilenceMatchModel wm0_SilenceMatchModel k_clok k_tok hX hT h) dc0_X10_outs rfl ok0_123
theorem go0_124 (hX : kXok X lo) (hT : kTyp k0_tt Ty) : kGo l k_cl k_aty mw0 D cA aS k0_tt Ty lo X k0_ct ct0_124 := fun h => kbody_met (by decide +kernel) rfl (kRest_of wc0_SilenceMatchModel wf0_SilenceMatchModel wm0_SilenceMatchModel k_clok k_tok hX hT h) dc0_X10_laughs rfl ok0_124
theorem go0_125 (hX : kXok X lo) (hT : kTyp k0_tt Ty) : kGo l k_cl k_aty mw0 D cA aS k0_tt Ty lo X k0_ct ct0_125 := fun h => kbody_met (by decide +kernel) rfl (kRest_of wc0_SilenceMatchModel wf0_SilenceMatchModel wm0_SilenceMatchModel k_clok k_tok hX hT h) dc0_X10_finger rfl ok0_125
theorem go0_126 (hX : kXok X lo) (hT : kTyp k0_tt Ty) : kGo l k_cl k_aty mw0 D cA aS k0_tt Ty lo X k0_ct ct0_126 := fun h => kbody_met (by decide +kernel) rfl (kRest_of wc0_SilenceMatchModel wf0_SilenceMatchModel wm0_SilenceMatchModel k_clok k_tok hX hT h) dc0_X10_fingers rfl ok0_126
theorem go0_127 (hX : kXok X lo) (hT : kTyp k0_tt Ty) : kGo l k_cl k_aty mw0 D cA aS k0_tt Ty lo X k0_ct ct0_127 := fun h => kbody_met (by decide +kernel) rfl (kRest_of wc0_SilenceMatchModel wf0_SilenceMatchModel wm0_SilenceMatchModel k_clok k_tok hX hT h) dc0_X10_score rfl ok0_127
theorem go0_128 (hX : kXok X lo) (hT : kTyp k0_tt Ty) : kGo l k_cl k_aty mw0 D cA aS k0_tt Ty lo X k0_ct ct0_128 := fun h => kbody_met (by decide +kernel) rfl (kRest_of wc0_SilenceMatchModel wf0_SilenceMatchModel wm0_SilenceMatchModel k_clok k_tok hX hT h) dc0_X10_wins rfl ok0_128
theorem go0_129 (hX : kXok X lo) (hT : kTyp k0_tt Ty) : kGo l k_cl k_aty mw0 D cA aS k0_tt Ty lo X k0_ct ct0_129 := fun h => kbody_met (by decide +kernel) rfl (kRest_of wc0_SilenceMatchModel wf0_SilenceMatchModel wm0_SilenceMatchModel k_clok k_tok hX hT h) dc0_X10_leads rfl ok0_129
theorem go0_130 (hX : kXok X lo) (hT : kTyp k0_tt Ty) : kGo l k_cl k_aty mw0 D cA aS k0_tt Ty lo X k0_ct ct0_130 := fun h => kbody_met (by decide +kernel) rfl (kRest_of wc0_SilenceMatchModel wf0_SilenceMatchModel wm0_SilenceMatchModel k_clok k_tok hX hT h) dc0_X10_last rfl ok0_130
theorem go0_131 (hX : kXok X lo) (hT : kTyp k0_tt Ty) : kGo l k_cl k_aty mw0 D cA aS k0_tt Ty lo X k0_ct ct0_131 := fun h => kbody_met (by decide +kernel) rfl (kRest_of wc0_SilenceMatchModel wf0_SilenceMatchModel wm0_SilenceMatchModel k_clok k_tok hX hT h) dc0_X10_tries rfl ok0_131
theorem go0_132 (hX : kXok X lo) (hT : kTyp k0_tt Ty) : kGo l k_cl k_aty mw0 D cA aS k0_tt Ty lo X k0_ct ct0_132 := fun h => kbody_met (by decide +kernel) rfl (kRest_of wc0_SilenceMatchModel wf0_SilenceMatchModel wm0_SilenceMatchModel k_clok k_tok hX hT h) dc0_X10_crowd rfl ok0_132
theorem go0_133 (hX : kXok X lo) (hT : kTyp k0_tt Ty) : kGo l k_cl k_aty mw0 D cA aS k0_tt Ty lo X k0_ct ct0_133 := fun h => kbody_met (by decide +kernel) rfl (kRest_of wc0_SilenceMatchModel wf0_SilenceMatchModel wm0_SilenceMatchModel k_clok k_tok hX hT h) dc0_X10_near rfl ok0_133
theorem go0_134 (hX : kXok X lo) (hT : kTyp k0_tt Ty) : kGo l k_cl k_aty mw0 D cA aS k0_tt Ty lo X k0_ct ct0_134 := fun h => kbody_met (by decide +kernel) rfl (kRest_of wc0_SilenceMatchModel wf0_SilenceMatchModel wm0_SilenceMatchModel k_clok k_tok hX hT h) dc0_X10_gone rfl ok0_134
theorem go0_135 (hX : kXok X lo) (hT : kTyp k0_tt Ty) : kGo l k_cl k_aty mw0 D cA aS k0_tt Ty lo X k0_ct ct0_135 := fun h => kbody_met (by decide +kernel) rfl (kRest_of wc0_SilenceMatchModel wf0_SilenceMatchModel wm0_SilenceMatchModel k_clok k_tok hX hT h) dc0_X10_calm rfl ok0_135
theorem go0_136 (hX : kXok X lo) (hT : kTyp k0_tt Ty) : kGo l k_cl k_aty mw0 D cA aS k0_tt Ty lo X k0_ct ct0_136 := fun h => kbody_met (by decide +kernel) rfl (kRest_of wc0_SilenceMatchModel wf0_SilenceMatchModel wm0_SilenceMatchModel k_clok k_tok hX hT h) dc0_X10_chain rfl ok0_136
theorem go0_137 (hX : kXok X lo) (hT : kTyp k0_tt Ty) : kGo l k_cl k_aty mw0 D cA aS k0_tt Ty lo X k0_ct ct0_137 := fun h => kbody_met (by decide +kernel) rfl (kRest_of wc0_SilenceMatchModel wf0_SilenceMatchModel wm0_SilenceMatchModel k_clok k_tok hX hT h) dc0_X10_bells rfl ok0_137
theorem go0_138 (hX : kXok X lo) (hT : kTyp k0_tt Ty) : kGo l k_cl k_aty mw0 D cA aS k0_tt Ty lo X k0_ct ct0_138 := fun h => kbody_met (by decide +kernel) rfl (kRest_of wc0_SilenceMatchModel wf0_SilenceMatchModel wm0_SilenceMatchModel k_clok k_tok hX hT h) dc0_X10_fire rfl ok0_138
theorem go0_139 (hX : kXok X lo) (hT : kTyp k0_tt Ty) : kGo l k_cl k_aty mw0 D cA aS k0_tt Ty lo X k0_ct ct0_139 := fun h => kbody_met (by decide +kernel) rfl (kRest_of wc0_SilenceMatchModel wf0_SilenceMatchModel wm0_SilenceMatchModel k_clok k_tok hX hT h) dc0_X10_swap rfl ok0_139
theorem go0_140 (hX : kXok X lo) (hT : kTyp k0_tt Ty) : kGo l k_cl k_aty mw0 D cA aS k0_tt Ty lo X k0_ct ct0_140 := fun h => kbody_met (by decide +kernel) rfl (kRest_of wc0_SilenceMatchModel wf0_SilenceMatchModel wm0_SilenceMatchModel k_clok k_tok hX hT h) dc0_X10_groups rfl ok0_140
theorem go0_141 (hX : kXok X lo) (hT : kTyp k0_tt Ty) : kGo l k_cl k_aty mw0 D cA aS k0_tt Ty lo X k0_ct ct0_141 := fun h => kbody_met (by decide +kernel) rfl (kRest_of wc0_SilenceMatchModel wf0_SilenceMatchModel wm0_SilenceMatchModel k_clok k_tok hX hT h) dc0_X10_safe rfl ok0_141
theorem go0_142 (hX : kXok X lo) (hT : kTyp k0_tt Ty) : kGo l k_cl k_aty mw0 D cA aS k0_tt Ty lo X k0_ct ct0_142 := fun h => kbody_met (by decide +kernel) rfl (kRest_of wc0_SilenceMatchModel wf0_SilenceMatchModel wm0_SilenceMatchModel k_clok k_tok hX hT h) dc0_X10_place rfl ok0_142
theorem go0_143 (hX : kXok X lo) (hT : kTyp k0_tt Ty) : kGo l k_cl k_aty mw0 D cA aS k0_tt Ty lo X k0_ct ct0_143 := fun h => kbody_met (by decide +kernel) rfl (kRest_of wc0_SilenceMatchModel wf0_SilenceMatchModel wm0_SilenceMatchModel k_clok k_tok hX hT h) dc0_X10_lasts rfl ok0_143
theorem go0_144 (hX : kXok X lo) (hT : kTyp k0_tt Ty) : kGo l k_cl k_aty mw0 D cA aS k0_tt Ty lo X k0_ct ct0_144 := fun h => kbody_met (by decide +kernel) rfl (kRest_of wc0_SilenceMatchModel wf0_SilenceMatchModel wm0_SilenceMatchModel k_clok k_tok hX hT h) dc0_X10_best rfl ok0_144
theorem go0_145 (hX : kXok X lo) (hT : kTyp k0_tt Ty) : kGo l k_cl k_aty mw0 D cA aS k0_tt Ty lo X k0_ct ct0_145 := fun h => kbody_met (by decide +kernel) rfl (kRest_of wc0_SilenceMatchModel wf0_SilenceMatchModel wm0_SilenceMatchModel k_clok k_tok hX hT h) dc0_X10_gains rfl ok0_145
theorem go0_146 (hX : kXok X lo) (hT : kTyp k0_tt Ty) : kGo l k_cl k_aty mw0 D cA aS k0_tt Ty lo X k0_ct ct0_146 := fun h => kbody_met (by decide +kernel) rfl (kRest_of wc0_SilenceMatchModel wf0_SilenceMatchModel wm0_SilenceMatchModel k_clok k_tok hX hT h) dc0_X10_hush rfl ok0_146
theorem go0_147 (hX : kXok X lo) (hT : kTyp k0_tt Ty) : kGo l k_cl k_aty mw0 D cA aS k0_tt Ty lo X k0_ct ct0_147 := fun h => kbody_met (by decide +kernel) rfl (kRest_of wc0_SilenceMatchModel wf0_SilenceMatchModel wm0_SilenceMatchModel k_clok k_tok hX hT h) dc0_X10_cover rfl ok0_147
theorem go0_148 (hX : kXok X lo) (hT : kTyp k0_tt Ty) : kGo l k_cl k_aty mw0 D cA aS k0_tt Ty lo X k0_ct ct0_148 := fun h => kbody_met (by decide +kernel) rfl (kRest_of wc0_SilenceMatchModel wf0_SilenceMatchModel wm0_SilenceMatchModel k_clok k_tok hX hT h) dc0_X10_covers rfl ok0_148
theorem go0_149 (hX : kXok X lo) (hT : kTyp k0_tt Ty) : kGo l k_cl k_aty mw0 D cA aS k0_tt Ty lo X k0_ct ct0_149 := fun h => kbody_met (by decide +kernel) rfl (kRest_of wc0_SilenceMatchModel wf0_SilenceMatchModel wm0_SilenceMatchModel k_clok k_tok hX hT h) dc0_X10_more rfl ok0_149
theorem go0_150 (hX : kXok X lo) (hT : kTyp k0_tt Ty) : kGo l k_cl k_aty mw0 D cA aS k0_tt Ty lo X k0_ct ct0_150 := fun h => kbody_met (by decide +kernel) rfl (kRest_of wc0_SilenceMatchModel wf0_SilenceMatchModel wm0_SilenceMatchModel k_clok k_tok hX hT h) dc0_X10_spread rfl ok0_150
theorem go0_151 (hX : kXok X lo) (hT : kTyp k0_tt Ty) : kGo l k_cl k_aty mw0 D cA aS k0_tt Ty lo X k0_ct ct0_151 := fun h => kbody_met (by decide +kernel) rfl (kRest_of wc0_SilenceMatchModel wf0_SilenceMatchModel wm0_SilenceMatchModel k_clok k_tok hX hT h) dc0_X10_part rfl ok0_151
theorem go0_152 (hX : kXok X lo) (hT : kTyp k0_tt Ty) : kGo l k_cl k_aty mw0 D cA aS k0_tt Ty lo X k0_ct ct0_152 := fun h => kbody_met (by decide +kernel) rfl (kRest_of wc0_SilenceMatchModel wf0_SilenceMatchModel wm0_SilenceMatchModel k_clok k_tok hX hT h) dc0_X10_parts rfl ok0_152
theorem go0_153 (hX : kXok X lo) (hT : kTyp k0_tt Ty) : kGo l k_cl k_aty mw0 D cA aS k0_tt Ty lo X k0_ct ct0_153 := fun h => kbody_met (by decide +kernel) rfl (kRest_of wc0_SilenceMatchModel wf0_SilenceMatchModel wm0_SilenceMatchModel k_clok k_tok hX hT h) dc0_X10_grudge rfl ok0_153
theorem go0_154 (hX : kXok X lo) (hT : kTyp k0_tt Ty) : kGo l k_cl k_aty mw0 D cA aS k0_tt Ty lo X k0_ct ct0_154 := fun h => kbody_met (by decide +kernel) rfl (kRest_of wc0_SilenceMatchModel wf0_SilenceMatchModel wm0_SilenceMatchModel k_clok k_tok hX hT h) dc0_X10_fits rfl ok0_154
theorem go0_155 (hX : kXok X lo) (hT : kTyp k0_tt Ty) : kGo l k_cl k_aty mw0 D cA aS k0_tt Ty lo X k0_ct ct0_155 := fun h => kbody_met (by decide +kernel) rfl (kRest_of wc0_SilenceMatchModel wf0_SilenceMatchModel wm0_SilenceMatchModel k_clok k_tok hX hT h) dc0_X10_spots rfl ok0_155
theorem go0_156 (hX : kXok X lo) (hT : kTyp k0_tt Ty) : kGo l k_cl k_aty mw0 D cA aS k0_tt Ty lo X k0_ct ct0_156 := fun h => kbody_met (by decide +kernel) rfl (kRest_of wc0_SilenceMatchModel wf0_SilenceMatchModel wm0_SilenceMatchModel k_clok k_tok hX hT h) dc0_X10_who rfl ok0_156
theorem go0_157 (hX : kXok X lo) (hT : kTyp k0_tt Ty) : kGo l k_cl k_aty mw0 D cA aS k0_tt Ty lo X k0_ct ct0_157 := fun h => kbody_met (by decide +kernel) rfl (kRest_of wc0_SilenceMatchModel wf0_SilenceMatchModel wm0_SilenceMatchModel k_clok k_tok hX hT h) dc0_X10_ask rfl ok0_157
theorem go0_158 (hX : kXok X lo) (hT : kTyp k0_tt Ty) : kGo l k_cl k_aty mw0 D cA aS k0_tt Ty lo X k0_ct ct0_158 := fun h => kbody_met (by decide +kernel) rfl (kRest_of wc0_SilenceMatchModel wf0_SilenceMatchModel wm0_SilenceMatchModel k_clok k_tok hX hT h) dc0_X10_leaves rfl ok0_158
theorem go0_159 (hX : kXok X lo) (hT : kTyp k0_tt Ty) : kGo l k_cl k_aty mw0 D cA aS k0_tt Ty lo X k0_ct ct0_159 := fun h => kbody_met (by decide +kernel) rfl (kRest_of wc0_SilenceMatchModel wf0_SilenceMatchModel wm0_SilenceMatchModel k_clok k_tok hX hT h) dc0_X10_even rfl ok0_159
theorem go0_160 (hX : kXok X lo) (hT : kTyp k0_tt Ty) : kGo l k_cl k_aty mw0 D cA aS k0_tt Ty lo X k0_ct ct0_160 := fun h => kbody_met (by decide +kernel) rfl (kRest_of wc0_SilenceMatchModel wf0_SilenceMatchModel wm0_SilenceMatchModel k_clok k_tok hX hT h) dc0_X10_evens rfl ok0_160
theorem go0_161 (hX : kXok X lo) (hT : kTyp k0_tt Ty) : kGo l k_cl k_aty mw0 D cA aS k0_tt Ty lo X k0_ct ct0_161 := fun h => kbody_met (by decide +kernel) rfl (kRest_of wc0_SilenceMatchModel wf0_SilenceMatchModel wm0_SilenceMatchModel k_clok k_tok hX hT h) dc0_X10_without rfl ok0_161
theorem go0_162 (hX : kXok X lo) (hT : kTyp k0_tt Ty) : kGo l k_cl k_aty mw0 D cA aS k0_tt Ty lo X k0_ct ct0_162 := fun h => kbody_met (by decide +kernel) rfl (kRest_of wc0_SilenceMatchModel wf0_SilenceMatchModel wm0_SilenceMatchModel k_clok k_tok hX hT h) dc0_X10_drop rfl ok0_162
theorem go0_163 (hX : kXok X lo) (hT : kTyp k0_tt Ty) : kGo l k_cl k_aty mw0 D cA aS k0_tt Ty lo X k0_ct ct0_163 := fun h => kbody_met (by decide +kernel) rfl (kRest_of wc0_SilenceMatchModel wf0_SilenceMatchModel wm0_SilenceMatchModel k_clok k_tok hX hT h) dc0_X10_chance rfl ok0_163
theorem go0_164 (hX : kXok X lo) (hT : kTyp k0_tt Ty) : kGo l k_cl k_aty mw0 D cA aS k0_tt Ty lo X k0_ct ct0_164 := fun h => kbody_met (by decide +kernel) rfl (kRest_of wc0_SilenceMatchModel wf0_SilenceMatchModel wm0_SilenceMatchModel k_clok k_tok hX hT h) dc0_X10_surest rfl ok0_164
theorem go0_165 (hX : kXok X lo) (hT : kTyp k0_tt Ty) : kGo l k_cl k_aty mw0 D cA aS k0_tt Ty lo X k0_ct ct0_165 := fun h => kbody_met (by decide +kernel) rfl (kRest_of wc0_SilenceMatchModel wf0_SilenceMatchModel wm0_SilenceMatchModel k_clok k_tok hX hT h) dc0_X10_sure rfl ok0_165
theorem go0_166 (hX : kXok X lo) (hT : kTyp k0_tt Ty) : kGo l k_cl k_aty mw0 D cA aS k0_tt Ty lo X k0_ct ct0_166 := fun h => kbody_met (by decide +kernel) rfl (kRest_of wc0_SilenceMatchModel wf0_SilenceMatchModel wm0_SilenceMatchModel k_clok k_tok hX hT h) dc0_X10_move rfl ok0_166
theorem go0_167 (hX : kXok X lo) (hT : kTyp k0_tt Ty) : kGo l k_cl k_aty mw0 D cA aS k0_tt Ty lo X k0_ct ct0_167 := fun h => kbody_met (by decide +kernel) rfl (kRest_of wc0_SilenceMatchModel wf0_SilenceMatchModel wm0_SilenceMatchModel k_clok k_tok hX hT h) dc0_X10_lozenge rfl ok0_167
theorem go0_168 (hX : kXok X lo) (hT : kTyp k0_tt Ty) : kGo l k_cl k_aty mw0 D cA aS k0_tt Ty lo X k0_ct ct0_168 := fun h => kbody_met (by decide +kernel) rfl (kRest_of wc0_SilenceMatchModel wf0_SilenceMatchModel wm0_SilenceMatchModel k_clok k_tok hX hT h) dc0_X10_undo rfl ok0_168
theorem go0_169 (hX : kXok X lo) (hT : kTyp k0_tt Ty) : kGo l k_cl k_aty mw0 D cA aS k0_tt Ty lo X k0_ct ct0_169 := fun h => kbody_met (by decide +kernel) rfl (kRest_of wc0_SilenceMatchModel wf0_SilenceMatchModel wm0_SilenceMatchModel k_clok k_tok hX hT h) dc0_X10_anew rfl ok0_169
theorem go0_170 (hX : kXok X lo) (hT : kTyp k0_tt Ty) : kGo l k_cl k_aty mw0 D cA aS k0_tt Ty lo X k0_ct ct0_170 := fun h => kbody_met (by decide +kernel) rfl (kRest_of wc0_SilenceMatchModel wf0_SilenceMatchModel wm0_SilenceMatchModel k_clok k_tok hX hT h) dc0_X10_drawn rfl ok0_170
theorem go0_171 (hX : kXok X lo) (hT : kTyp k0_tt Ty) : kGo l k_cl k_aty mw0 D cA aS k0_tt Ty lo X k0_ct ct0_171 := fun h => kbody_met (by decide +kernel) rfl (kRest_of wc0_SilenceMatchModel wf0_SilenceMatchModel wm0_SilenceMatchModel k_clok k_tok hX hT h) dc0_X10_luck rfl ok0_171
theorem go0_172 (hX : kXok X lo) (hT : kTyp k0_tt Ty) : kGo l k_cl k_aty mw0 D cA aS k0_tt Ty lo X k0_ct ct0_172 := fun h => kbody_met (by decide +kernel) rfl (kRest_of wc0_SilenceMatchModel wf0_SilenceMatchModel wm0_SilenceMatchModel k_clok k_tok hX hT h) dc0_X10_bell rfl ok0_172
theorem go0_173 (hX : kXok X lo) (hT : kTyp k0_tt Ty) : kGo l k_cl k_aty mw0 D cA aS k0_tt Ty lo X k0_ct ct0_173 := fun h => kbody_met (by decide +kernel) rfl (kRest_of wc0_SilenceMatchModel wf0_SilenceMatchModel wm0_SilenceMatchModel k_clok k_tok hX hT h) dc0_X10_count rfl ok0_173
theorem go0_174 (hX : kXok X lo) (hT : kTyp k0_tt Ty) : kGo l k_cl k_aty mw0 D cA aS k0_tt Ty lo X k0_ct ct0_174 := fun h => kbody_met (by decide +kernel) rfl (kRest_of wc0_SilenceMatchModel wf0_SilenceMatchModel wm0_SilenceMatchModel k_clok k_tok hX hT h) dc0_X10_back rfl ok0_174
theorem go0_175 (hX : kXok X lo) (hT : kTyp k0_tt Ty) : kGo l k_cl k_aty mw0 D cA aS k0_tt Ty lo X k0_ct ct0_175 := fun h => kbody_met (by decide +kernel) rfl (kRest_of wc0_SilenceMatchModel wf0_SilenceMatchModel wm0_SilenceMatchModel k_clok k_tok hX hT h) dc0_X10_write rfl ok0_175
theorem go0_176 (hX : kXok X lo) (hT : kTyp k0_tt Ty) : kGo l k_cl k_aty mw0 D cA aS k0_tt Ty lo X k0_ct ct0_176 := fun h => kbody_met (by decide +kernel) rfl (kRest_of wc0_SilenceMatchModel wf0_SilenceMatchModel wm0_SilenceMatchModel k_clok k_tok hX hT h) dc0_X10_paste rfl ok0_176
theorem gs0_0 (hX : kXok X lo) (hT : kTyp k0_tt Ty) : ∀ C ∈ k0_ct0, kGo l k_cl k_aty mw0 D cA aS k0_tt Ty lo X k0_ct C := List.forall_mem_cons.mpr ⟨go0_0 hX hT, List.forall_mem_cons.mpr ⟨go0_1 hX hT, List.forall_mem_cons.mpr ⟨go0_2 hX hT, List.forall_mem_cons.mpr ⟨go0_3 hX hT, List.forall_mem_cons.mpr ⟨go0_4 hX hT, List.forall_mem_cons.mpr ⟨go0_5 hX hT, List.forall_mem_cons.mpr ⟨go0_6 hX hT, List.forall_mem_cons.mpr ⟨go0_7 hX hT, List.forall_mem_cons.mpr ⟨go0_8 hX hT, List.forall_mem_cons.mpr ⟨go0_9 hX hT, List.forall_mem_cons.mpr ⟨go0_10 hX hT, List.forall_mem_cons.mpr ⟨go0_11 hX hT, List.forall_mem_cons.mpr ⟨go0_12 hX hT, List.forall_mem_cons.mpr ⟨go0_13 hX hT, List.forall_mem_cons.mpr ⟨go0_14 hX hT, List.forall_mem_cons.mpr ⟨go0_15 hX hT, List.forall_mem_cons.mpr ⟨go0_16 hX hT, List.forall_mem_cons.mpr ⟨go0_17 hX hT, List.forall_mem_cons.mpr ⟨go0_18 hX hT, List.forall_mem_cons.mpr ⟨go0_19 hX hT, List.forall_mem_cons.mpr ⟨go0_20 hX hT, List.forall_mem_cons.mpr ⟨go0_21 hX hT, List.forall_mem_cons.mpr ⟨go0_22 hX hT, List.forall_mem_cons.mpr ⟨go0_23 hX hT, List.forall_mem_cons.mpr ⟨go0_24 hX hT, List.forall_mem_cons.mpr ⟨go0_25 hX hT, List.forall_mem_cons.mpr ⟨go0_26 hX hT, List.forall_mem_cons.mpr ⟨go0_27 hX hT, List.forall_mem_cons.mpr ⟨go0_28 hX hT, List.forall_mem_cons.mpr ⟨go0_29 hX hT, List.forall_mem_cons.mpr ⟨go0_30 hX hT, List.forall_mem_cons.mpr ⟨go0_31 hX hT, List.forall_mem_cons.mpr ⟨go0_32 hX hT, List.forall_mem_cons.mpr ⟨go0_33 hX hT, List.forall_mem_cons.mpr ⟨go0_34 hX hT, List.forall_mem_cons.mpr ⟨go0_35 hX hT, List.forall_mem_cons.mpr ⟨go0_36 hX hT, List.forall_mem_cons.mpr ⟨go0_37 hX hT, List.forall_mem_cons.mpr ⟨go0_38 hX hT, List.forall_mem_cons.mpr ⟨go0_39 hX hT, List.forall_mem_cons.mpr ⟨go0_40 hX hT, List.forall_mem_cons.mpr ⟨go0_41 hX hT, List.forall_mem_cons.mpr ⟨go0_42 hX hT, List.forall_mem_cons.mpr ⟨go0_43 hX hT, List.forall_mem_cons.mpr ⟨go0_44 hX hT, List.forall_mem_cons.mpr ⟨go0_45 hX hT, List.forall_mem_cons.mpr ⟨go0_46 hX hT, List.forall_mem_cons.mpr ⟨go0_47 hX hT, List.forall_mem_cons.mpr ⟨go0_48 hX hT, List.forall_mem_cons.mpr ⟨go0_49 hX hT, fun _ h => absurd h List.not_mem_nil⟩⟩⟩⟩⟩⟩⟩⟩⟩⟩⟩⟩⟩⟩⟩⟩⟩⟩⟩⟩⟩⟩⟩⟩⟩⟩⟩⟩⟩⟩⟩⟩⟩⟩⟩⟩⟩⟩⟩⟩⟩⟩⟩⟩⟩⟩⟩⟩⟩⟩
theorem gs0_1 (hX : kXok X lo) (hT : kTyp k0_tt Ty) : ∀ C ∈ k0_ct1, kGo l k_cl k_aty mw0 D cA aS k0_tt Ty lo X k0_ct C := List.forall_mem_cons.mpr ⟨go0_50 hX hT, List.forall_mem_cons.mpr ⟨go0_51 hX hT, List.forall_mem_cons.mpr ⟨go0_52 hX hT, List.forall_mem_cons.mpr ⟨go0_53 hX hT, List.forall_mem_cons.mpr ⟨go0_54 hX hT, List.forall_mem_cons.mpr ⟨go0_55 hX hT, List.forall_mem_cons.mpr ⟨go0_56 hX hT, List.forall_mem_cons.mpr ⟨go0_57 hX hT, List.forall_mem_cons.mpr ⟨go0_58 hX hT, List.forall_mem_cons.mpr ⟨go0_59 hX hT, List.forall_mem_cons.mpr ⟨go0_60 hX hT, List.forall_mem_cons.mpr ⟨go0_61 hX hT, List.forall_mem_cons.mpr ⟨go0_62 hX hT, List.forall_mem_cons.mpr ⟨go0_63 hX hT, List.forall_mem_cons.mpr ⟨go0_64 hX hT, List.forall_mem_cons.mpr ⟨go0_65 hX hT, List.forall_mem_cons.mpr ⟨go0_66 hX hT, List.forall_mem_cons.mpr ⟨go0_67 hX hT, List.forall_mem_cons.mpr ⟨go0_68 hX hT, List.forall_mem_cons.mpr ⟨go0_69 hX hT, List.forall_mem_cons.mpr ⟨go0_70 hX hT, List.forall_mem_cons.mpr ⟨go0_71 hX hT, List.forall_mem_cons.mpr ⟨go0_72 hX hT, List.forall_mem_cons.mpr ⟨go0_73 hX hT, List.forall_mem_cons.mpr ⟨go0_74 hX hT, List.forall_mem_cons.mpr ⟨go0_75 hX hT, List.forall_mem_cons.mpr ⟨go0_76 hX hT, List.forall_mem_cons.mpr ⟨go0_77 hX hT, List.forall_mem_cons.mpr ⟨go0_78 hX hT, List.forall_mem_cons.mpr ⟨go0_79 hX hT, List.forall_mem_cons.mpr ⟨go0_80 hX hT, List.forall_mem_cons.mpr ⟨go0_81 hX hT, List.forall_mem_cons.mpr ⟨go0_82 hX hT, List.forall_mem_cons.mpr ⟨go0_83 hX hT, List.forall_mem_cons.mpr ⟨go0_84 hX hT, List.forall_mem_cons.mpr ⟨go0_85 hX hT, List.forall_mem_cons.mpr ⟨go0_86 hX hT, List.forall_mem_cons.mpr ⟨go0_87 hX hT, List.forall_mem_cons.mpr ⟨go0_88 hX hT, List.forall_mem_cons.mpr ⟨go0_89 hX hT, List.forall_mem_cons.mpr ⟨go0_90 hX hT, List.forall_mem_cons.mpr ⟨go0_91 hX hT, List.forall_mem_cons.mpr ⟨go0_92 hX hT, List.forall_mem_cons.mpr ⟨go0_93 hX hT, List.forall_mem_cons.mpr ⟨go0_94 hX hT, List.forall_mem_cons.mpr ⟨go0_95 hX hT, List.forall_mem_cons.mpr ⟨go0_96 hX hT, List.forall_mem_cons.mpr ⟨go0_97 hX hT, List.forall_mem_cons.mpr ⟨go0_98 hX hT, List.forall_mem_cons.mpr ⟨go0_99 hX hT, fun _ h => absurd h List.not_mem_nil⟩⟩⟩⟩⟩⟩⟩⟩⟩⟩⟩⟩⟩⟩⟩⟩⟩⟩⟩⟩⟩⟩⟩⟩⟩⟩⟩⟩⟩⟩⟩⟩⟩⟩⟩⟩⟩⟩⟩⟩⟩⟩⟩⟩⟩⟩⟩⟩⟩⟩
theorem gs0_2 (hX : kXok X lo) (hT : kTyp k0_tt Ty) : ∀ C ∈ k0_ct2, kGo l k_cl k_aty mw0 D cA aS k0_tt Ty lo X k0_ct C := List.forall_mem_cons.mpr ⟨go0_100 hX hT, List.forall_mem_cons.mpr ⟨go0_101 hX hT, List.forall_mem_cons.mpr ⟨go0_102 hX hT, List.forall_mem_cons.mpr ⟨go0_103 hX hT, List.forall_mem_cons.mpr ⟨go0_104 hX hT, List.forall_mem_cons.mpr ⟨go0_105 hX hT, List.forall_mem_cons.mpr ⟨go0_106 hX hT, List.forall_mem_cons.mpr ⟨go0_107 hX hT, List.forall_mem_cons.mpr ⟨go0_108 hX hT, List.forall_mem_cons.mpr ⟨go0_109 hX hT, List.forall_mem_cons.mpr ⟨go0_110 hX hT, List.forall_mem_cons.mpr ⟨go0_111 hX hT, List.forall_mem_cons.mpr ⟨go0_112 hX hT, List.forall_mem_cons.mpr ⟨go0_113 hX hT, List.forall_mem_cons.mpr ⟨go0_114 hX hT, List.forall_mem_cons.mpr ⟨go0_115 hX hT, List.forall_mem_cons.mpr ⟨go0_116 hX hT, List.forall_mem_cons.mpr ⟨go0_117 hX hT, List.forall_mem_cons.mpr ⟨go0_118 hX hT, List.forall_mem_cons.mpr ⟨go0_119 hX hT, List.forall_mem_cons.mpr ⟨go0_120 hX hT, List.forall_mem_cons.mpr ⟨go0_121 hX hT, List.forall_mem_cons.mpr ⟨go0_122 hX hT, List.forall_mem_cons.mpr ⟨go0_123 hX hT, List.forall_mem_cons.mpr ⟨go0_124 hX hT, List.forall_mem_cons.mpr ⟨go0_125 hX hT, List.forall_mem_cons.mpr ⟨go0_126 hX hT, List.forall_mem_cons.mpr ⟨go0_127 hX hT, List.forall_mem_cons.mpr ⟨go0_128 hX hT, List.forall_mem_cons.mpr ⟨go0_129 hX hT, List.forall_mem_cons.mpr ⟨go0_130 hX hT, List.forall_mem_cons.mpr ⟨go0_131 hX hT, List.forall_mem_cons.mpr ⟨go0_132 hX hT, List.forall_mem_cons.mpr ⟨go0_133 hX hT, List.forall_mem_cons.mpr ⟨go0_134 hX hT, List.forall_mem_cons.mpr ⟨go0_135 hX hT, List.forall_mem_cons.mpr ⟨go0_136 hX hT, List.forall_mem_cons.mpr ⟨go0_137 hX hT, List.forall_mem_cons.mpr ⟨go0_138 hX hT, List.forall_mem_cons.mpr ⟨go0_139 hX hT, List.forall_mem_cons.mpr ⟨go0_140 hX hT, List.forall_mem_cons.mpr ⟨go0_141 hX hT, List.forall_mem_cons.mpr ⟨go0_142 hX hT, List.forall_mem_cons.mpr ⟨go0_143 hX hT, List.forall_mem_cons.mpr ⟨go0_144 hX hT, List.forall_mem_cons.mpr ⟨go0_145 hX hT, List.forall_mem_cons.mpr ⟨go0_146 hX hT, List.forall_mem_cons.mpr ⟨go0_147 hX hT, List.forall_mem_cons.mpr ⟨go0_148 hX hT, List.forall_mem_cons.mpr ⟨go0_149 hX hT, fun _ h => absurd h List.not_mem_nil⟩⟩⟩⟩⟩⟩⟩⟩⟩⟩⟩⟩⟩⟩⟩⟩⟩⟩⟩⟩⟩⟩⟩⟩⟩⟩⟩⟩⟩⟩⟩⟩⟩⟩⟩⟩⟩⟩⟩⟩⟩⟩⟩⟩⟩⟩⟩⟩⟩⟩
theorem gs0_3 (hX : kXok X lo) (hT : kTyp k0_tt Ty) : ∀ C ∈ k0_ct3, kGo l k_cl k_aty mw0 D cA aS k0_tt Ty lo X k0_ct C := List.forall_mem_cons.mpr ⟨go0_150 hX hT, List.forall_mem_cons.mpr ⟨go0_151 hX hT, List.forall_mem_cons.mpr ⟨go0_152 hX hT, List.forall_mem_cons.mpr ⟨go0_153 hX hT, List.forall_mem_cons.mpr ⟨go0_154 hX hT, List.forall_mem_cons.mpr ⟨go0_155 hX hT, List.forall_mem_cons.mpr ⟨go0_156 hX hT, List.forall_mem_cons.mpr ⟨go0_157 hX hT, List.forall_mem_cons.mpr ⟨go0_158 hX hT, List.forall_mem_cons.mpr ⟨go0_159 hX hT, List.forall_mem_cons.mpr ⟨go0_160 hX hT, List.forall_mem_cons.mpr ⟨go0_161 hX hT, List.forall_mem_cons.mpr ⟨go0_162 hX hT, List.forall_mem_cons.mpr ⟨go0_163 hX hT, List.forall_mem_cons.mpr ⟨go0_164 hX hT, List.forall_mem_cons.mpr ⟨go0_165 hX hT, List.forall_mem_cons.mpr ⟨go0_166 hX hT, List.forall_mem_cons.mpr ⟨go0_167 hX hT, List.forall_mem_cons.mpr ⟨go0_168 hX hT, List.forall_mem_cons.mpr ⟨go0_169 hX hT, List.forall_mem_cons.mpr ⟨go0_170 hX hT, List.forall_mem_cons.mpr ⟨go0_171 hX hT, List.forall_mem_cons.mpr ⟨go0_172 hX hT, List.forall_mem_cons.mpr ⟨go0_173 hX hT, List.forall_mem_cons.mpr ⟨go0_174 hX hT, List.forall_mem_cons.mpr ⟨go0_175 hX hT, List.forall_mem_cons.mpr ⟨go0_176 hX hT, fun _ h => absurd h List.not_mem_nil⟩⟩⟩⟩⟩⟩⟩⟩⟩⟩⟩⟩⟩⟩⟩⟩⟩⟩⟩⟩⟩⟩⟩⟩⟩⟩⟩
theorem kept0 (hX : kXok X lo) (hT : kTyp k0_tt Ty) : ∀ (i : Nat) (C : kCt), k0_ct[i]? = some C → kMet l k_cl k_aty k_lg [] [] (mw0.map (fun x => x.1)) D cA aS k0_tt Ty lo X C := kGo_all (List.forall_mem_append.mpr ⟨gs0_0 hX hT, List.forall_mem_append.mpr ⟨gs0_1 hX hT, List.forall_mem_append.mpr ⟨gs0_2 hX hT, gs0_3 hX hT⟩⟩⟩)
end KEPT0
end
section
/-! WORDS 1 -/
theorem k1_tok : ktok k1_tt k_cl := ktokb_ok (by decide +kernel)
def mw1_0 : kMd × Nat × Nat := ((⟨"SilenceMatch", "isSlot", "(I)Z"⟩, prog_1_method_72_code, 1, some .boolean), 1, 100)
theorem mo1_0 : kMw k_cl mw1_0 := kMwb_ok (p1 := 99) (p2 := 1035) (p3 := 0) (by decide +kernel) (kwd_ok (p := 1036) (by decide +kernel))
def mw1_1 : kMd × Nat × Nat := ((⟨"SilenceMatch", "isImage", "(I)Z"⟩, prog_1_method_73_code, 1, some .boolean), 1, 100)
theorem mo1_1 : kMw k_cl mw1_1 := kMwb_ok (p1 := 99) (p2 := 1180) (p3 := 0) (by decide +kernel) (kwd_ok (p := 1181) (by decide +kernel))
def mw1_2 : kMd × Nat × Nat := ((⟨"SilenceMatch$Green", "copyFrom", "(LSilenceMatch$Green;)V"⟩, prog_5_method_3_code, 2, none), 1, 3)
theorem mo1_2 : kMw k_cl mw1_2 := kMwb_ok (p1 := 102) (p2 := 630) (p3 := 631) (by decide +kernel) (kwd_ok (p := 632) (by decide +kernel))
def mw1_3 : kMd × Nat × Nat := ((⟨"SilenceMatch$Acts", "copyFrom", "(LSilenceMatch$Acts;)V"⟩, prog_2_method_4_code, 2, none), 1, 0)
theorem mo1_3 : kMw k_cl mw1_3 := kMwb_ok (p1 := 103) (p2 := 1183) (p3 := 1184) (by decide +kernel) (kwd_ok (p := 1185) (by decide +kernel))
def mw1_4 : kMd × Nat × Nat := ((⟨"SilenceMatch$Row", "renew", "(II)V"⟩, prog_9_method_2_code, 4, none), 2, 7)
theorem mo1_4 : kMw k_cl mw1_4 := kMwb_ok (p1 := 108) (p2 := 1196) (p3 := 1197) (by decide +kernel) (kwd_ok (p := 1198) (by decide +kernel))
def mw1_5 : kMd × Nat × Nat := ((⟨"SilenceMatch$Tape", "put", "(I)V"⟩, prog_10_method_2_code, 3, none), 1, 8)
theorem mo1_5 : kMw k_cl mw1_5 := kMwb_ok (p1 := 100) (p2 := 468) (p3 := 469) (by decide +kernel) (kwd_ok (p := 470) (by decide +kernel))
def mw1_6 : kMd × Nat × Nat := ((⟨"SilenceMatch", "feed", "(IIIII)I"⟩, prog_1_method_2_code, 6, some .int), 5, 9)
theorem mo1_6 : kMw k_cl mw1_6 := kMwb_ok (p1 := 99) (p2 := 464) (p3 := 465) (by decide +kernel) (kwd_ok (p := 466) (by decide +kernel))
def mw1_7 : kMd × Nat × Nat := ((⟨"SilenceMatch", "image", "(I)I"⟩, prog_1_method_66_code, 2, some .int), 1, 9)
theorem mo1_7 : kMw k_cl mw1_7 := kMwb_ok (p1 := 99) (p2 := 1176) (p3 := 1177) (by decide +kernel) (kwd_ok (p := 1178) (by decide +kernel))
def mw1_8 : kMd × Nat × Nat := ((⟨"SilenceMatch", "row", "(III)I"⟩, prog_1_method_68_code, 4, some .int), 3, 9)
theorem mo1_8 : kMw k_cl mw1_8 := kMwb_ok (p1 := 99) (p2 := 1192) (p3 := 1193) (by decide +kernel) (kwd_ok (p := 1194) (by decide +kernel))
def mw1_9 : kMd × Nat × Nat := ((⟨"SilenceMatchModel", "in", "(JJJ)Z"⟩, prog_12_method_3_code, 6, some .boolean), 3, 100)
theorem mo1_9 : kMw k_cl mw1_9 := kMwb_ok (p1 := 109) (p2 := 1342) (p3 := 0) (by decide +kernel) (kwd_ok (p := 1343) (by decide +kernel))
def mw1_10 : kMd × Nat × Nat := ((⟨"SilenceMatchModel", "isSlot", "(I)Z"⟩, prog_12_method_138_code, 1, some .boolean), 1, 100)
theorem mo1_10 : kMw k_cl mw1_10 := kMwb_ok (p1 := 109) (p2 := 1797) (p3 := 0) (by decide +kernel) (kwd_ok (p := 1798) (by decide +kernel))
def mw1_11 : kMd × Nat × Nat := ((⟨"SilenceMatchModel", "feed", "(IIIII)I"⟩, prog_12_method_14_code, 7, some .int), 5, 10)
theorem mo1_11 : kMw k_cl mw1_11 := kMwb_ok (p1 := 109) (p2 := 1349) (p3 := 1350) (by decide +kernel) (kwd_ok (p := 1351) (by decide +kernel))
def mw1_12 : kMd × Nat × Nat := ((⟨"SilenceMatchModel", "image", "(I)I"⟩, prog_12_method_6_code, 3, some .int), 1, 10)
theorem mo1_12 : kMw k_cl mw1_12 := kMwb_ok (p1 := 109) (p2 := 1337) (p3 := 1338) (by decide +kernel) (kwd_ok (p := 1339) (by decide +kernel))
def mw1_13 : kMd × Nat × Nat := ((⟨"SilenceMatchModel", "row", "(III)I"⟩, prog_12_method_140_code, 5, some .int), 3, 10)
theorem mo1_13 : kMw k_cl mw1_13 := kMwb_ok (p1 := 109) (p2 := 1920) (p3 := 1921) (by decide +kernel) (kwd_ok (p := 1922) (by decide +kernel))
end
section
/-! WORDS 1, of the lists -/
def mw1_c0 : List (kMd × Nat × Nat) := [mw1_0, mw1_1, mw1_2, mw1_3, mw1_4, mw1_5, mw1_6, mw1_7, mw1_8, mw1_9, mw1_10, mw1_11, mw1_12, mw1_13]
theorem mo1_c0 : ∀ x ∈ mw1_c0, kMw k_cl x := List.forall_mem_cons.mpr ⟨mo1_0, List.forall_mem_cons.mpr ⟨mo1_1, List.forall_mem_cons.mpr ⟨mo1_2, List.forall_mem_cons.mpr ⟨mo1_3, List.forall_mem_cons.mpr ⟨mo1_4, List.forall_mem_cons.mpr ⟨mo1_5, List.forall_mem_cons.mpr ⟨mo1_6, List.forall_mem_cons.mpr ⟨mo1_7, List.forall_mem_cons.mpr ⟨mo1_8, List.forall_mem_cons.mpr ⟨mo1_9, List.forall_mem_cons.mpr ⟨mo1_10, List.forall_mem_cons.mpr ⟨mo1_11, List.forall_mem_cons.mpr ⟨mo1_12, List.forall_mem_cons.mpr ⟨mo1_13, fun _ h => absurd h List.not_mem_nil⟩⟩⟩⟩⟩⟩⟩⟩⟩⟩⟩⟩⟩⟩
def mw1 : List (kMd × Nat × Nat) := mw1_c0
theorem mo1 : ∀ x ∈ mw1, kMw k_cl x := mo1_c0
theorem wc1_SilenceMatch : kOwC "SilenceMatch" ow1_SilenceMatch k_lg [] := kOwCb_ok (ps := []) (ps2 := []) (by decide +kernel)
theorem wf1_SilenceMatch : kOwF "SilenceMatch" ow1_SilenceMatch k_cl k_lg := kOwFb_ok (ps := [423, 425, 428, 432, 433, 434, 435, 132]) (by decide +kernel)
theorem wm1_SilenceMatch : kOwM "SilenceMatch" ow1_SilenceMatch k_cl (mw1.map (fun x => x.1)) k_lg [] := kOwMb_ok mo1 k_cpw (ps := [467, 629, 1179, 1182, 1034, 1195]) (by decide +kernel)
theorem wc1_SilenceMatch_Green : kOwC "SilenceMatch$Green" ow1_SilenceMatch_Green k_lg [] := kOwCb_ok (ps := []) (ps2 := []) (by decide +kernel)
theorem wf1_SilenceMatch_Green : kOwF "SilenceMatch$Green" ow1_SilenceMatch_Green k_cl k_lg := kOwFb_ok (ps := [210, 213, 219, 225, 229, 232, 235, 238, 241, 243, 174, 177, 180, 183, 187, 191, 195, 200, 203, 207]) (by decide +kernel)
theorem wm1_SilenceMatch_Green : kOwM "SilenceMatch$Green" ow1_SilenceMatch_Green k_cl (mw1.map (fun x => x.1)) k_lg [] := kOwMb_ok mo1 k_cpw (ps := [633]) (by decide +kernel)
theorem wc1_SilenceMatch_Acts : kOwC "SilenceMatch$Acts" ow1_SilenceMatch_Acts k_lg [] := kOwCb_ok (ps := []) (ps2 := []) (by decide +kernel)
theorem wf1_SilenceMatch_Acts : kOwF "SilenceMatch$Acts" ow1_SilenceMatch_Acts k_cl k_lg := kOwFb_ok (ps := [294, 295, 296, 292]) (by decide +kernel)
theorem wm1_SilenceMatch_Acts : kOwM "SilenceMatch$Acts" ow1_SilenceMatch_Acts k_cl (mw1.map (fun x => x.1)) k_lg [] := kOwMb_ok mo1 k_cpw (ps := [1186]) (by decide +kernel)
theorem wc1_SilenceMatch_Row : kOwC "SilenceMatch$Row" ow1_SilenceMatch_Row k_lg [] := kOwCb_ok (ps := []) (ps2 := []) (by decide +kernel)
theorem wf1_SilenceMatch_Row : kOwF "SilenceMatch$Row" ow1_SilenceMatch_Row k_cl k_lg := kOwFb_ok (ps := [407, 411, 409]) (by decide +kernel)
theorem wm1_SilenceMatch_Row : kOwM "SilenceMatch$Row" ow1_SilenceMatch_Row k_cl (mw1.map (fun x => x.1)) k_lg [] := kOwMb_ok mo1 k_cpw (ps := []) (by decide +kernel)
theorem wc1_SilenceMatch_Tape : kOwC "SilenceMatch$Tape" ow1_SilenceMatch_Tape k_lg [] := kOwCb_ok (ps := []) (ps2 := []) (by decide +kernel)
theorem wf1_SilenceMatch_Tape : kOwF "SilenceMatch$Tape" ow1_SilenceMatch_Tape k_cl k_lg := kOwFb_ok (ps := [131, 133]) (by decide +kernel)
theorem wm1_SilenceMatch_Tape : kOwM "SilenceMatch$Tape" ow1_SilenceMatch_Tape k_cl (mw1.map (fun x => x.1)) k_lg [] := kOwMb_ok mo1 k_cpw (ps := []) (by decide +kernel)
theorem wc1_SilenceMatchModel : kOwC "SilenceMatchModel" ow1_SilenceMatchModel k_lg [] := kOwCb_ok (ps := []) (ps2 := [1340, 1799]) (by decide +kernel)
theorem wf1_SilenceMatchModel : kOwF "SilenceMatchModel" ow1_SilenceMatchModel k_cl k_lg := kOwFb_ok (ps := [1222, 1223, 1224, 1225, 1227, 1255, 1256, 1257, 1226]) (by decide +kernel)
theorem wm1_SilenceMatchModel : kOwM "SilenceMatchModel" ow1_SilenceMatchModel k_cl (mw1.map (fun x => x.1)) k_lg [] := kOwMb_ok mo1 k_cpw (ps := [1341, 1796]) (by decide +kernel)
end
section
/-! EVERY CONTRACT 1 IS KEPT -/
theorem dc1_X9_isSlot : ∀ q ∈ cd_X9_isSlot, decode prog_1_method_72_code q.1 = .ok (q.2.1, q.2.2) := by decide +kernel
theorem dc1_X9_isImage : ∀ q ∈ cd_X9_isImage, decode prog_1_method_73_code q.1 = .ok (q.2.1, q.2.2) := by decide +kernel
theorem dc1_X3_copyFrom : ∀ q ∈ cd_X3_copyFrom, decode prog_5_method_3_code q.1 = .ok (q.2.1, q.2.2) := by decide +kernel
theorem dc1_X0_copyFrom : ∀ q ∈ cd_X0_copyFrom, decode prog_2_method_4_code q.1 = .ok (q.2.1, q.2.2) := by decide +kernel
theorem dc1_X7_renew : ∀ q ∈ cd_X7_renew, decode prog_9_method_2_code q.1 = .ok (q.2.1, q.2.2) := by decide +kernel
theorem dc1_X8_put : ∀ q ∈ cd_X8_put, decode prog_10_method_2_code q.1 = .ok (q.2.1, q.2.2) := by decide +kernel
theorem dc1_X9_feed : ∀ q ∈ cd_X9_feed, decode prog_1_method_2_code q.1 = .ok (q.2.1, q.2.2) := by decide +kernel
theorem dc1_X9_image : ∀ q ∈ cd_X9_image, decode prog_1_method_66_code q.1 = .ok (q.2.1, q.2.2) := by decide +kernel
theorem dc1_X9_row : ∀ q ∈ cd_X9_row, decode prog_1_method_68_code q.1 = .ok (q.2.1, q.2.2) := by decide +kernel
theorem dc1_X10_in : ∀ q ∈ cd_X10_in, decode prog_12_method_3_code q.1 = .ok (q.2.1, q.2.2) := by decide +kernel
theorem dc1_X10_isSlot : ∀ q ∈ cd_X10_isSlot, decode prog_12_method_138_code q.1 = .ok (q.2.1, q.2.2) := by decide +kernel
theorem dc1_X10_feed : ∀ q ∈ cd_X10_feed, decode prog_12_method_14_code q.1 = .ok (q.2.1, q.2.2) := by decide +kernel
theorem dc1_X10_image : ∀ q ∈ cd_X10_image, decode prog_12_method_6_code q.1 = .ok (q.2.1, q.2.2) := by decide +kernel
theorem dc1_X10_row : ∀ q ∈ cd_X10_row, decode prog_12_method_140_code q.1 = .ok (q.2.1, q.2.2) := by decide +kernel
section KEPT1
variable {l : Launch} {D : va_G} {cA aS : Nat → Nat} {Ty : Nat → Nat → Prop} {lo : Nat} {X : State → Heap → Prop}
theorem go1_0 (hX : kXok X lo) (hT : kTyp k1_tt Ty) : kGo l k_cl k_aty mw1 D cA aS k1_tt Ty lo X k1_ct ct1_0 := fun h => kbody_met (by decide +kernel) rfl (kRest_of wc1_SilenceMatch wf1_SilenceMatch wm1_SilenceMatch k_clok k1_tok hX hT h) dc1_X9_isSlot rfl ok1_0
theorem go1_1 (hX : kXok X lo) (hT : kTyp k1_tt Ty) : kGo l k_cl k_aty mw1 D cA aS k1_tt Ty lo X k1_ct ct1_1 := fun h => kbody_met (by decide +kernel) rfl (kRest_of wc1_SilenceMatch wf1_SilenceMatch wm1_SilenceMatch k_clok k1_tok hX hT h) dc1_X9_isImage rfl ok1_1
theorem go1_2 (hX : kXok X lo) (hT : kTyp k1_tt Ty) : kGo l k_cl k_aty mw1 D cA aS k1_tt Ty lo X k1_ct ct1_2 := fun h => kbody_met (by decide +kernel) rfl (kRest_of wc1_SilenceMatch_Green wf1_SilenceMatch_Green wm1_SilenceMatch_Green k_clok k1_tok hX hT h) dc1_X3_copyFrom rfl ok1_2
theorem go1_3 (hX : kXok X lo) (hT : kTyp k1_tt Ty) : kGo l k_cl k_aty mw1 D cA aS k1_tt Ty lo X k1_ct ct1_3 := fun h => kbody_met (by decide +kernel) rfl (kRest_of wc1_SilenceMatch_Acts wf1_SilenceMatch_Acts wm1_SilenceMatch_Acts k_clok k1_tok hX hT h) dc1_X0_copyFrom rfl ok1_3
theorem go1_4 (hX : kXok X lo) (hT : kTyp k1_tt Ty) : kGo l k_cl k_aty mw1 D cA aS k1_tt Ty lo X k1_ct ct1_4 := fun h => kbody_met (by decide +kernel) rfl (kRest_of wc1_SilenceMatch_Row wf1_SilenceMatch_Row wm1_SilenceMatch_Row k_clok k1_tok hX hT h) dc1_X7_renew rfl ok1_4
theorem go1_5 (hX : kXok X lo) (hT : kTyp k1_tt Ty) : kGo l k_cl k_aty mw1 D cA aS k1_tt Ty lo X k1_ct ct1_5 := fun h => kbody_met (by decide +kernel) rfl (kRest_of wc1_SilenceMatch_Tape wf1_SilenceMatch_Tape wm1_SilenceMatch_Tape k_clok k1_tok hX hT h) dc1_X8_put rfl ok1_5
theorem go1_6 (hX : kXok X lo) (hT : kTyp k1_tt Ty) : kGo l k_cl k_aty mw1 D cA aS k1_tt Ty lo X k1_ct ct1_6 := fun h => kbody_met (by decide +kernel) rfl (kRest_of wc1_SilenceMatch_Tape wf1_SilenceMatch_Tape wm1_SilenceMatch_Tape k_clok k1_tok hX hT h) dc1_X8_put rfl ok1_6
theorem go1_7 (hX : kXok X lo) (hT : kTyp k1_tt Ty) : kGo l k_cl k_aty mw1 D cA aS k1_tt Ty lo X k1_ct ct1_7 := fun h => kbody_met (by decide +kernel) rfl (kRest_of wc1_SilenceMatch_Tape wf1_SilenceMatch_Tape wm1_SilenceMatch_Tape k_clok k1_tok hX hT h) dc1_X8_put rfl ok1_7
theorem go1_8 (hX : kXok X lo) (hT : kTyp k1_tt Ty) : kGo l k_cl k_aty mw1 D cA aS k1_tt Ty lo X k1_ct ct1_8 := fun h => kbody_met (by decide +kernel) rfl (kRest_of wc1_SilenceMatch_Tape wf1_SilenceMatch_Tape wm1_SilenceMatch_Tape k_clok k1_tok hX hT h) dc1_X8_put rfl ok1_8
theorem go1_9 (hX : kXok X lo) (hT : kTyp k1_tt Ty) : kGo l k_cl k_aty mw1 D cA aS k1_tt Ty lo X k1_ct ct1_9 := fun h => kbody_met (by decide +kernel) rfl (kRest_of wc1_SilenceMatch_Tape wf1_SilenceMatch_Tape wm1_SilenceMatch_Tape k_clok k1_tok hX hT h) dc1_X8_put rfl ok1_9
theorem go1_10 (hX : kXok X lo) (hT : kTyp k1_tt Ty) : kGo l k_cl k_aty mw1 D cA aS k1_tt Ty lo X k1_ct ct1_10 := fun h => kbody_met (by decide +kernel) rfl (kRest_of wc1_SilenceMatch wf1_SilenceMatch wm1_SilenceMatch k_clok k1_tok hX hT h) dc1_X9_feed rfl ok1_10
theorem go1_11 (hX : kXok X lo) (hT : kTyp k1_tt Ty) : kGo l k_cl k_aty mw1 D cA aS k1_tt Ty lo X k1_ct ct1_11 := fun h => kbody_met (by decide +kernel) rfl (kRest_of wc1_SilenceMatch wf1_SilenceMatch wm1_SilenceMatch k_clok k1_tok hX hT h) dc1_X9_image rfl ok1_11
theorem go1_12 (hX : kXok X lo) (hT : kTyp k1_tt Ty) : kGo l k_cl k_aty mw1 D cA aS k1_tt Ty lo X k1_ct ct1_12 := fun h => kbody_met (by decide +kernel) rfl (kRest_of wc1_SilenceMatch wf1_SilenceMatch wm1_SilenceMatch k_clok k1_tok hX hT h) dc1_X9_row rfl ok1_12
theorem go1_13 (hX : kXok X lo) (hT : kTyp k1_tt Ty) : kGo l k_cl k_aty mw1 D cA aS k1_tt Ty lo X k1_ct ct1_13 := fun h => kbody_met (by decide +kernel) rfl (kRest_of wc1_SilenceMatchModel wf1_SilenceMatchModel wm1_SilenceMatchModel k_clok k1_tok hX hT h) dc1_X10_in rfl ok1_13
theorem go1_14 (hX : kXok X lo) (hT : kTyp k1_tt Ty) : kGo l k_cl k_aty mw1 D cA aS k1_tt Ty lo X k1_ct ct1_14 := fun h => kbody_met (by decide +kernel) rfl (kRest_of wc1_SilenceMatchModel wf1_SilenceMatchModel wm1_SilenceMatchModel k_clok k1_tok hX hT h) dc1_X10_isSlot rfl ok1_14
theorem go1_15 (hX : kXok X lo) (hT : kTyp k1_tt Ty) : kGo l k_cl k_aty mw1 D cA aS k1_tt Ty lo X k1_ct ct1_15 := fun h => kbody_met (by decide +kernel) rfl (kRest_of wc1_SilenceMatchModel wf1_SilenceMatchModel wm1_SilenceMatchModel k_clok k1_tok hX hT h) dc1_X10_feed rfl ok1_15
theorem go1_16 (hX : kXok X lo) (hT : kTyp k1_tt Ty) : kGo l k_cl k_aty mw1 D cA aS k1_tt Ty lo X k1_ct ct1_16 := fun h => kbody_met (by decide +kernel) rfl (kRest_of wc1_SilenceMatchModel wf1_SilenceMatchModel wm1_SilenceMatchModel k_clok k1_tok hX hT h) dc1_X10_image rfl ok1_16
theorem go1_17 (hX : kXok X lo) (hT : kTyp k1_tt Ty) : kGo l k_cl k_aty mw1 D cA aS k1_tt Ty lo X k1_ct ct1_17 := fun h => kbody_met (by decide +kernel) rfl (kRest_of wc1_SilenceMatchModel wf1_SilenceMatchModel wm1_SilenceMatchModel k_clok k1_tok hX hT h) dc1_X10_row rfl ok1_17
theorem gs1_0 (hX : kXok X lo) (hT : kTyp k1_tt Ty) : ∀ C ∈ k1_ct0, kGo l k_cl k_aty mw1 D cA aS k1_tt Ty lo X k1_ct C := List.forall_mem_cons.mpr ⟨go1_0 hX hT, List.forall_mem_cons.mpr ⟨go1_1 hX hT, List.forall_mem_cons.mpr ⟨go1_2 hX hT, List.forall_mem_cons.mpr ⟨go1_3 hX hT, List.forall_mem_cons.mpr ⟨go1_4 hX hT, List.forall_mem_cons.mpr ⟨go1_5 hX hT, List.forall_mem_cons.mpr ⟨go1_6 hX hT, List.forall_mem_cons.mpr ⟨go1_7 hX hT, List.forall_mem_cons.mpr ⟨go1_8 hX hT, List.forall_mem_cons.mpr ⟨go1_9 hX hT, List.forall_mem_cons.mpr ⟨go1_10 hX hT, List.forall_mem_cons.mpr ⟨go1_11 hX hT, List.forall_mem_cons.mpr ⟨go1_12 hX hT, List.forall_mem_cons.mpr ⟨go1_13 hX hT, List.forall_mem_cons.mpr ⟨go1_14 hX hT, List.forall_mem_cons.mpr ⟨go1_15 hX hT, List.forall_mem_cons.mpr ⟨go1_16 hX hT, List.forall_mem_cons.mpr ⟨go1_17 hX hT, fun _ h => absurd h List.not_mem_nil⟩⟩⟩⟩⟩⟩⟩⟩⟩⟩⟩⟩⟩⟩⟩⟩⟩⟩
theorem kept1 (hX : kXok X lo) (hT : kTyp k1_tt Ty) : ∀ (i : Nat) (C : kCt), k1_ct[i]? = some C → kMet l k_cl k_aty k_lg [] [] (mw1.map (fun x => x.1)) D cA aS k1_tt Ty lo X C := kGo_all (gs1_0 hX hT)
end KEPT1
end
section
/-! CONSTRUCTORS: rows over cells -/
section KCROW
variable {p : Program} {l : Launch} {e : Env} {R : Room} {s : State} {m : MethodId} {args : Array Value} {below : List Frame} {meth : Method} {c : Code} {H : Heap} {locs : List Loc} {cells slots : Nat} {Q : State → Prop}
variable {cc : ByteArray} {pc : Nat} {ls : Array Slot} {rest : List Value} {cl : List vw_C} {tys : List (ClassId × FieldType)} {lw : List Cond} {D : va_G} {cA : Nat → Nat} {a : Nat} {V : Nat → Value}
/-- a new object -/
theorem q_new (hexec : p.tables.exec = Jvm.exec) (hb : c.code = cc) {own C : String} {Tf : u_T} {N ci index : Nat} (hts : ∀ w ∈ lw, w.before args s = true) (hcl : kclok cl lw) (hown : s.vm.findClass own = some m.cls) (hlk : Cond.classLink own index C ∈ lw) (hin : Cond.instantiable C N ∈ lw) (hini : Cond.initialized C ∈ lw) (hK : va_K D cl tys s) (hc : cl[ci]? = some (C, Tf, N)) (h100 : Nat.blt ci 100 = true) (hcells : cells + 1 ≤ R.cells) (hslots : slots + N ≤ R.slots) (hdg : decode cc pc = .ok (.new index, 3))
    (kk : ∀ (H1 : Heap) (V : Nat → Value), kcell D cA (ci, N, [], []) H.size H1 V → (∀ j, j < N → ∃ ty, parseFieldDescriptor (Tf j).2.2.1 = some ty ∧ V j = defaultValue ty) → H1.size = H.size + 1 → (∀ q, q < H.size → H1[q]? = H[q]?) → W p l e R s m args below meth c H1 locs (cells + 1) (slots + N) Q (F0 m (pc + 3) ls (.ref H.size :: rest))) : W p l e R s m args below meth c H locs cells slots Q (F0 m pc ls rest) := by
  have hKn := hK.1 ci _ hc
  obtain ⟨⟨ty0, hty, -⟩, hin2⟩ := hcl _ _ _ _ hc
  refine W.newcK hexec hb hown (hts _ hlk) (hts _ hin) (hts _ hini) rfl hdg hcells hslots hKn.2.1 rfl fun H1 kC hkC e1 z1 o1 => ?_
  refine kk H1 (fun k => defaultValue (ty0 k)) ?_ (fun j hj => ⟨ty0 j, hty j hj, rfl⟩) z1 o1
  unfold kcell
  rw [h100]
  exact u_born ty0 hts hin2 hKn hkC e1 hty
/-- a new row of numbers -/
theorem q_newa (hexec : p.tables.exec = Jvm.exec) (hb : c.code = cc) {atype : ArrayType} {k N : Nat} {ty : FieldType} (hts : ∀ w ∈ lw, w.before args s = true) (hty : newarray.typeOf atype = ty) (hobj : ∀ C, ty ≠ .object C) (harr : Cond.arrayClass ty ∈ lw) (hK : va_K D cl tys s) (hk : tys[k]? = some (cA k, ty)) {n : Int32} (hn : n.toInt = (N : Int)) (hbytes : N * componentBytes ty ≤ 536870912) (hcells : cells + 1 ≤ R.cells) (hslots : slots + N ≤ R.slots) (hdg : decode cc pc = .ok (.newarray atype, 2))
    (kk : ∀ (H1 : Heap), kcell D cA (100 + k, N, [], []) H.size H1 (fun _ => defaultValue ty) → H1.size = H.size + 1 → (∀ q, q < H.size → H1[q]? = H[q]?) → W p l e R s m args below meth c H1 locs (cells + 1) (slots + N) Q (F0 m (pc + 2) ls (.ref H.size :: rest))) : W p l e R s m args below meth c H locs cells slots Q (F0 m pc ls (.int n :: rest)) := by
  subst hty
  have hN : n.toNatClampNeg = N := by
    show n.toInt.toNat = N
    rw [hn]; rfl
  refine va_newaK hexec hb (hts _ harr) rfl hdg rfl (by rw [Int32.lt_iff_toInt_lt, hn]; show ¬ ((N : Int) < 0); omega) hN hbytes hcells hslots rfl fun H1 cB e1 z1 o1 hAr hNm => ?_
  have hE : cB = cA k := by
    have h2 := (hK.2 k _ hk).2
    have h3 : s.vm.findClass ("[" ++ (newarray.typeOf atype).toString) = some (cA k) := by
      unfold va_RA at h2
      split at h2
      · rename_i C hC
        exact absurd hC (hobj C)
      · exact h2
    exact Option.some.inj (hNm.symm.trans h3)
  subst hE
  refine kk H1 ?_ z1 o1
  unfold kcell
  rw [show Nat.blt (100 + k) 100 = false from by
    cases hb2 : Nat.blt (100 + k) 100 with
    | false => rfl
    | true => have := Nat.blt_eq.mp hb2; omega]
  show H1[H.size]? = some (arrV (cA (100 + k - 100)) N _)
  rw [Nat.add_sub_cancel_left]
  exact e1
/-- a new row of references -/
theorem q_anew (hexec : p.tables.exec = Jvm.exec) (hb : c.code = cc) {own C : String} {index k N : Nat} (hts : ∀ w ∈ lw, w.before args s = true) (hown : s.vm.findClass own = some m.cls) (hlk : Cond.classLink own index C ∈ lw) (hover : va_AO C s) (hK : va_K D cl tys s) (hk : tys[k]? = some (cA k, .object C)) {n : Int32} (hn : n.toInt = (N : Int)) (hbytes : N * 4 ≤ 536870912) (hcells : cells + 1 ≤ R.cells) (hslots : slots + N ≤ R.slots) (hdg : decode cc pc = .ok (.anewarray index, 3))
    (kk : ∀ (H1 : Heap), kcell D cA (100 + k, N, [], []) H.size H1 (fun _ => .null) → H1.size = H.size + 1 → (∀ q, q < H.size → H1[q]? = H[q]?) → W p l e R s m args below meth c H1 locs (cells + 1) (slots + N) Q (F0 m (pc + 3) ls (.ref H.size :: rest))) : W p l e R s m args below meth c H locs cells slots Q (F0 m pc ls (.int n :: rest)) := by
  have hN : n.toNatClampNeg = N := by
    show n.toInt.toNat = N
    rw [hn]; rfl
  subst hN
  refine W.anew hexec hb hown (hts _ hlk) (va_AO.use hover) rfl hdg rfl (by rw [Int32.lt_iff_toInt_lt, hn]; show ¬ (((n.toNatClampNeg : Nat) : Int) < 0); omega) hbytes hcells hslots fun cB kA comp f1 f2 f3 f4 => ?_
  generalize hH1 : H.push ({ cls := cB, slots := Array.replicate n.toNatClampNeg .null, vm := .none } : Cell) = H1
  have z1 : H1.size = H.size + 1 := by rw [← hH1, Array.size_push]
  have e1 : H1[H.size]? = some (arrV cB n.toNatClampNeg (fun _ => .null)) := by rw [← hH1, Array.getElem?_push_size, ← arrV_new]
  have o1 : ∀ q : Nat, q < H.size → H1[q]? = H[q]? := fun q hq => by rw [← hH1, Array.getElem?_push, if_neg (Nat.ne_of_lt hq)]
  have hE : cB = cA k := by
    obtain ⟨-, -, -, -, -, h4⟩ := (hK.2 k _ hk).2
    exact Option.some.inj (f1.symm.trans h4)
  subst hE
  refine kk H1 ?_ z1 o1
  unfold kcell
  rw [show Nat.blt (100 + k) 100 = false from by
    cases hb2 : Nat.blt (100 + k) 100 with
    | false => rfl
    | true => have := Nat.blt_eq.mp hb2; omega]
  show H1[H.size]? = some (arrV (cA (100 + k - 100)) n.toNatClampNeg _)
  rw [Nat.add_sub_cancel_left]
  exact e1
/-- a final field in a constructor -/
theorem q_putF (hexec : p.tables.exec = Jvm.exec) (hb : c.code = cc) {own C : String} {Tf : u_T} {N ci index j : Nat} {ty : FieldType} {v : Value} (hts : ∀ w ∈ lw, w.before args s = true) (hcl : kclok cl lw) (hown : s.vm.findClass own = some m.cls) (hK : va_K D cl tys s) (hc : cl[ci]? = some (C, Tf, N)) (hk : Nat.blt ci 100 = true) (hj : j < N) (hlink : (Cond.fieldLink own index (Tf j).1 (Tf j).2.1 (Tf j).2.2.1).before args s = true) (hfin : (Tf j).2.2.2 = true) (hin2 : meth.name = "<init>") (hdecl : (Tf j).1 = own) (hd : parseFieldDescriptor (Tf j).2.2.1 = some ty) (hn : narrow ty v = v) (hfit : fits ty v = true) (hcell : kcell D cA (ci, N, [], []) a H V) (hdg : decode cc pc = .ok (.putfield index, 3))
    (kk : ∀ (H1 : Heap) (i : Nat), kcell D cA (ci, N, [], []) a H1 (updV V j v) → H1.size = H.size → (∀ q, q ≠ a → H1[q]? = H[q]?) → W p l e R s m args below meth c H1 (locs ++ [⟨a, i⟩]) cells slots Q (F0 m (pc + 3) ls rest)) : W p l e R s m args below meth c H locs cells slots Q (F0 m pc ls (v :: .ref a :: rest)) := by
  unfold kcell at hcell kk
  rw [show Nat.blt (ci, N, ([] : List kRun), ([] : List kSelf)).1 100 = true from hk] at hcell kk
  obtain ⟨cell, q1, q2, q3, q4⟩ := hcell
  obtain ⟨hS, hfc, kC, hkC, hkind⟩ := hK.1 ci _ hc
  obtain ⟨⟨ty0, hty, hnm⟩, hin⟩ := hcl _ _ _ _ hc
  have hap := va_apart (own := own) hts hin ty0 hty hnm hK hc
  obtain ⟨cf, kf, fi, f, hi, hsl⟩ := hS j hj
  have hlay := hts _ (hin _ (u_in_lay hj))
  unfold u_lay at hlay
  rw [if_pos hfin] at hlay
  have hst := (u_facts hfc hkC (u_lays hts hin hj) hi).1
  have hcf : m.cls = cf := by
    obtain ⟨_, _, c', _, _, _, -, -, hf', -, -, -, hown2, -⟩ := Cond.laysFinal_spec hlay
    have e1 : c' = cf := by have := hi.symm.trans hf'; simp at this; exact this.1.symm
    rw [hdecl] at hown2
    rw [← e1]; exact Option.some.inj (hown.symm.trans hown2)
  have h6 := u_fits hfc hkC hkind (Or.inr hlay) hi hd hn hfit
  refine W.putFinK hexec hb hown hlink hi hst hcf hin2 (by rw [q2]; exact h6) q1 q3 (by rw [hsl]; exact k2_hasslot (q4 j hj)) rfl rfl hdg fun H' e1 e2 e3 => ?_
  rw [hsl] at e1 ⊢
  exact kk H' _ ⟨_, e1, q2, q3, t_set q4 hap hj v⟩ e2 e3
/-- an object into a row of such -/
theorem q_aast (hexec : p.tables.exec = Jvm.exec) (hb : c.code = cc) {C : String} {Tf : u_T} {N N2 ci k n v z : Nat} {Vv : Nat → Value} (hK : va_K D cl tys s) (hk : tys[k]? = some (cA k, .object C)) (hc : cl[ci]? = some (C, Tf, N)) (h100 : Nat.blt ci 100 = true) (hv : kcell D cA (ci, N2, [], []) v H Vv) (hcell : kcell D cA (100 + k, n, [], []) a H V) {i : Int32} (hi : i.toInt = (z : Int)) (hz : z < n) (hdg : decode cc pc = .ok (.aastore, 1))
    (kk : ∀ (H1 : Heap) (i : Nat), kcell D cA (100 + k, n, [], []) a H1 (updV V z (.ref v)) → H1.size = H.size → (∀ q, q ≠ a → H1[q]? = H[q]?) → W p l e R s m args below meth c H1 (locs ++ [⟨a, i⟩]) cells slots Q (F0 m (pc + 1) ls rest)) : W p l e R s m args below meth c H locs cells slots Q (F0 m pc ls (.ref v :: .int i :: .ref a :: rest)) := by
  have hb1 : Nat.blt (100 + k) 100 = false := by
    cases hb2 : Nat.blt (100 + k) 100 with
    | false => rfl
    | true => have := Nat.blt_eq.mp hb2; omega
  unfold kcell at hv hcell kk
  rw [show Nat.blt (ci, N2, ([] : List kRun), ([] : List kSelf)).1 100 = true from h100] at hv
  rw [show Nat.blt (100 + k, n, ([] : List kRun), ([] : List kSelf)).1 100 = false from hb1] at hcell kk
  dsimp only at hcell kk
  rw [Nat.add_sub_cancel_left] at hcell kk
  obtain ⟨cellV, g1, g2, g3, -⟩ := hv
  have hN : i.toNatClampNeg = z := by
    show i.toInt.toNat = z
    rw [hi]; rfl
  have hcls := (hK.1 ci _ hc).2
  obtain ⟨kA, comp, k1, k2, k3, -⟩ := (hK.2 k _ hk).2
  have hcomp : comp = D.1 ci := Option.some.inj (k3.symm.trans hcls.1)
  subst hcomp
  obtain ⟨kC, hkC, -⟩ := hcls.2
  refine W.aast hexec hb hcell (fun q h => by cases h) (fun h => by cases h) k1 k2 rfl hkC ⟨by rw [Int32.lt_iff_toInt_lt, hi]; show ¬ ((z : Int) < 0); omega, by show _ < (arrV _ _ _).slots.size; rw [arrV_size, hN]; exact hz⟩ g1 (fun q h => by rw [g3] at h; cases h) (by rw [g2]; exact hkC) (by rw [g2]; exact va_assign hcls) rfl rfl hdg fun H1 e1 z1 o1 => ?_
  refine kk H1 _ ?_ z1 o1
  rw [e1, hN]
  rw [arrV_store]
end KCROW
end
section
/-! CONSTRUCTORS, run in the concrete. Values: (0, z) a number, (1, z) a long, (2, k) the new cell k, (3, _) null.
A cell: the number of its kind (of a class, or 100 + that of an array's type), its length, its values one by one (those that are not there: the second part) -/
abbrev cV : Type := Nat × Int
abbrev cCell : Type := Nat × Nat × List (Nat × cV) × cV
def cval (n : Nat) (v : cV) : Value := match v.1 with
  | 0 => .int (Int32.ofInt v.2)
  | 1 => .long (Int64.ofInt v.2)
  | 2 => .ref (n + v.2.toNat)
  | _ => .null
def cget (l : List (Nat × cV)) (d : cV) (j : Nat) : cV := match l with
  | [] => d
  | q :: t => match Nat.beq q.1 j with
    | true => q.2
    | false => cget t d j
def cVal (n : Nat) (c : cCell) (j : Nat) : Value := cval n (cget c.2.2.1 c.2.2.2 j)
/-- the heap is H0, and behind it the cells cs -/
def cHp (D : va_G) (cA : Nat → ClassId) (n : Nat) (H0 : Heap) (cs : List cCell) (H : Heap) : Prop := H.size = n + cs.length ∧ (∀ q, q < n → H[q]? = H0[q]?) ∧ ∀ (k : Nat) (c : cCell), cs[k]? = some c → kcell D cA (c.1, c.2.1, [], []) (n + k) H (cVal n c)
theorem cHp_push {D : va_G} {cA : Nat → ClassId} {n : Nat} {H0 H H1 : Heap} {cs : List cCell} {c : cCell} (h : cHp D cA n H0 cs H) (h1 : H1.size = H.size + 1) (h2 : ∀ q, q < H.size → H1[q]? = H[q]?) (h3 : kcell D cA (c.1, c.2.1, [], []) H.size H1 (cVal n c)) : cHp D cA n H0 (cs ++ [c]) H1 := by
  obtain ⟨a1, a2, a3⟩ := h
  refine ⟨by rw [h1, a1, List.length_append]; rfl, fun q hq => (h2 q (by omega)).trans (a2 q hq), fun k c' hk => ?_⟩
  by_cases hl : k < cs.length
  · rw [List.getElem?_append_left hl] at hk
    exact kcell_kept (a3 k c' hk) (h2 _ (by omega))
  · have hk' := (List.getElem?_eq_some_iff.mp hk).1
    have e : k = cs.length := by simp at hk'; omega
    subst e
    have e1 : c = c' := by simpa using hk
    subst e1
    rw [← a1]
    exact h3
/-- a cell set anew -/
theorem cHp_set {D : va_G} {cA : Nat → ClassId} {n k : Nat} {H0 H H1 : Heap} {cs : List cCell} {c : cCell} (h : cHp D cA n H0 cs H) (hk : k < cs.length) (h1 : H1.size = H.size) (h2 : ∀ q, q ≠ n + k → H1[q]? = H[q]?) (h3 : kcell D cA (c.1, c.2.1, [], []) (n + k) H1 (cVal n c)) : cHp D cA n H0 (cs.set k c) H1 := by
  obtain ⟨a1, a2, a3⟩ := h
  refine ⟨by rw [h1, a1, List.length_set], fun q hq => (h2 q (by omega)).trans (a2 q hq), fun j c' hj => ?_⟩
  by_cases e : k = j
  · subst e
    rw [List.getElem?_set_self hk] at hj
    obtain rfl := Option.some.inj hj
    exact h3
  · rw [List.getElem?_set_ne e] at hj
    exact kcell_kept (a3 j c' hj) (h2 _ (by omega))
theorem cget_upd {l : List (Nat × cV)} {d v : cV} {j i : Nat} : cget ((j, v) :: l) d i = if i = j then v else cget l d i := by
  show (match Nat.beq j i with
    | true => v
    | false => cget l d i) = _
  cases h : Nat.beq j i with
  | true => have := Nat.beq_eq.mp h; subst this; simp
  | false =>
    have : i ≠ j := fun e => by subst e; rw [Nat.beq_refl] at h; cases h
    simp [this]
theorem cVal_upd {n j : Nat} {c : cCell} {v : cV} : cVal n (c.1, c.2.1, (j, v) :: c.2.2.1, c.2.2.2) = updV (cVal n c) j (cval n v) := by
  funext i
  unfold cVal updV
  rw [cget_upd]
  split <;> rfl
/-- the first value of a field -/
def cdef (d : String) : cV := match parseFieldDescriptor d with
  | some ty => match ty with
    | .boolean => (0, 0)
    | .byte => (0, 0)
    | .short => (0, 0)
    | .char => (0, 0)
    | .int => (0, 0)
    | .long => (1, 0)
    | _ => (3, 0)
  | none => (3, 0)
/-- a state: cells, locals, stack, how many cells and slots were counted -/
abbrev cSt : Type := List cCell × List (Nat × cV) × List cV × Nat × Nat
end
section
/-! the executor. A pool: fields (place, class, field), classes to make (place, class), rows of references (place, type), constructors (place, 0: Object's, i + 1: the table's i) -/
abbrev cPl : Type := List (Nat × Nat × Nat) × List (Nat × Nat) × List (Nat × Nat) × List (Nat × Nat)
/-- a constructor: the method, its pool, its code, how many arguments, depth, budgets of cells and slots -/
abbrev cEn : Type := kMd × cPl × kCd × Nat × Nat × Nat × Nat
def cloc (l : List (Nat × cV)) (i : Nat) : Option cV := match l with
  | [] => none
  | q :: t => match Nat.beq q.1 i with
    | true => some q.2
    | false => cloc t i
def cfnd {α : Type} (l : List (Nat × α)) (i : Nat) : Option α := match l with
  | [] => none
  | q :: t => match Nat.beq q.1 i with
    | true => some q.2
    | false => cfnd t i
/-- the type of an array that newarray makes: its number, the first value -/
def caty (t : ArrayType) : Option (Nat × cV) := match t with
  | .int => some (0, (0, 0))
  | .boolean => some (1, (0, 0))
  | .byte => some (2, (0, 0))
  | .long => some (3, (1, 0))
  | _ => none
/-- a value that a field of the descriptor d takes as it is -/
def cfit (d : String) (v : cV) : Bool := match parseFieldDescriptor d with
  | some ty => match ty with
    | .int => Nat.beq v.1 0
    | .boolean => Nat.beq v.1 0 && (decide (v.2 = 0) || decide (v.2 = 1))
    | .array _ => Nat.beq v.1 2
    | .object _ => Nat.beq v.1 2
    | _ => false
  | none => false
def cnat (z : Int) : Option Nat := match z with
  | .ofNat k => some k
  | _ => none
/-- a plain instruction: the place behind it, the state -/
def cstep (cl : List vw_C) (P : cPl) (nL mc ms pc : Nat) (ins : Instr) (len : Nat) (S : cSt) : Option (Nat × cSt) := match ins with
  | .aload_n i => match cloc S.2.1 i with
    | some v => match Nat.beq v.1 2 with
      | true => some (pc + len, (S.1, S.2.1, v :: S.2.2.1, S.2.2.2))
      | false => none
    | none => none
  | .iload_n i => match cloc S.2.1 i with
    | some v => match Nat.beq v.1 0 with
      | true => some (pc + len, (S.1, S.2.1, v :: S.2.2.1, S.2.2.2))
      | false => none
    | none => none
  | .iconst z => some (pc + len, (S.1, S.2.1, (0, z) :: S.2.2.1, S.2.2.2))
  | .bipush z => match decide (-128 ≤ z ∧ z ≤ 127) with
    | true => some (pc + len, (S.1, S.2.1, (0, z) :: S.2.2.1, S.2.2.2))
    | false => none
  | .sipush z => match decide (-32768 ≤ z ∧ z ≤ 32767) with
    | true => some (pc + len, (S.1, S.2.1, (0, z) :: S.2.2.1, S.2.2.2))
    | false => none
  | .dup => match S.2.2.1 with
    | v :: st => match Nat.beq v.1 1 with
      | true => none
      | false => some (pc + len, (S.1, S.2.1, v :: v :: st, S.2.2.2))
    | [] => none
  | .istore_n i => match S.2.2.1 with
    | v :: st => match Nat.beq v.1 0 && Nat.blt i nL with
      | true => some (pc + len, (S.1, (i.val, v) :: S.2.1.filter (fun q => !Nat.beq q.1 i && !Nat.beq q.2.1 1), st, S.2.2.2))
      | false => none
    | [] => none
  | .goto off => match cnat ((pc : Int) + off) with
    | some t => some (t, S)
    | none => none
  | .if_icmp .ge off => match S.2.2.1 with
    | (0, y) :: (0, x) :: st => match decide (-1000 ≤ x ∧ x ≤ 1000 ∧ -1000 ≤ y ∧ y ≤ 1000) with
      | false => none
      | true => match cnat ((pc : Int) + off) with
        | none => none
        | some t => match decide (y ≤ x) with
          | true => some (t, (S.1, S.2.1, st, S.2.2.2))
          | false => some (pc + len, (S.1, S.2.1, st, S.2.2.2))
    | _ => none
  | .new idx => match cfnd P.2.1 idx with
    | some ci => match cl[ci]? with
      | some (_, Tf, N) => match Nat.ble (S.2.2.2.1 + 1) mc && Nat.ble (S.2.2.2.2 + N) ms with
        | true => some (pc + len, (S.1 ++ [(ci, N, (List.range N).map (fun j => (j, cdef (Tf j).2.2.1)), (3, 0))], S.2.1, (2, (S.1.length : Int)) :: S.2.2.1, S.2.2.2.1 + 1, S.2.2.2.2 + N))
        | false => none
      | none => none
    | none => none
  | .newarray t => match caty t, S.2.2.1 with
    | some q, (0, .ofNat N) :: st => match Nat.ble (S.2.2.2.1 + 1) mc && (Nat.ble (S.2.2.2.2 + N) ms && Nat.ble N 1000) with
      | true => some (pc + len, (S.1 ++ [(100 + q.1, N, [], q.2)], S.2.1, (2, (S.1.length : Int)) :: st, S.2.2.2.1 + 1, S.2.2.2.2 + N))
      | false => none
    | _, _ => none
  | .anewarray idx => match cfnd P.2.2.1 idx, S.2.2.1 with
    | some k, (0, .ofNat N) :: st => match Nat.ble (S.2.2.2.1 + 1) mc && (Nat.ble (S.2.2.2.2 + N) ms && Nat.ble N 1000) with
      | true => some (pc + len, (S.1 ++ [(100 + k, N, [], (3, 0))], S.2.1, (2, (S.1.length : Int)) :: st, S.2.2.2.1 + 1, S.2.2.2.2 + N))
      | false => none
    | _, _ => none
  | .getfield idx => match cfnd P.1 idx, S.2.2.1 with
    | some q, (2, .ofNat k) :: st => match S.1[k]? with
      | some c => match Nat.beq c.1 q.1 && Nat.blt q.2 c.2.1 with
        | true => some (pc + len, (S.1, S.2.1, cget c.2.2.1 c.2.2.2 q.2 :: st, S.2.2.2))
        | false => none
      | none => none
    | _, _ => none
  | .putfield idx => match cfnd P.1 idx, S.2.2.1 with
    | some q, v :: (2, .ofNat k) :: st => match S.1[k]?, cl[q.1]? with
      | some c, some (_, Tf, N) => match Nat.beq c.1 q.1 && (Nat.blt q.2 N && (Nat.beq c.2.1 N && cfit (Tf q.2).2.2.1 v)) with
        | true => some (pc + len, (S.1.set k (c.1, c.2.1, (q.2, v) :: c.2.2.1, c.2.2.2), S.2.1, st, S.2.2.2))
        | false => none
      | _, _ => none
    | _, _ => none
  | .iastore => match S.2.2.1 with
    | (0, z) :: (0, .ofNat i) :: (2, .ofNat k) :: st => match S.1[k]? with
      | some c => match Nat.beq c.1 100 && (Nat.blt i c.2.1 && Nat.ble i 1000) with
        | true => some (pc + len, (S.1.set k (c.1, c.2.1, (i, (0, z)) :: c.2.2.1, c.2.2.2), S.2.1, st, S.2.2.2))
        | false => none
      | none => none
    | _ => none
  | .aastore => match S.2.2.1 with
    | (2, .ofNat v) :: (0, .ofNat i) :: (2, .ofNat k) :: st => match S.1[k]?, S.1[v]? with
      | some c, some w => match Nat.blt i c.2.1 && (Nat.ble i 1000 && ((Nat.beq c.1 104 && Nat.beq w.1 7) || ((Nat.beq c.1 105 && Nat.beq w.1 3) || (Nat.beq c.1 106 && Nat.beq w.1 0)))) with
        | true => some (pc + len, (S.1.set k (c.1, c.2.1, (i, (2, .ofNat v)) :: c.2.2.1, c.2.2.2), S.2.1, st, S.2.2.2))
        | false => none
      | _, _ => none
    | _ => none
  | .iinc i z => match cloc S.2.1 i with
    | some (0, x) => match decide (-1000 ≤ x ∧ x ≤ 1000 ∧ -1000 ≤ z ∧ z ≤ 1000) && Nat.blt i nL with
      | true => some (pc + len, (S.1, (i, (0, x + z)) :: S.2.1.filter (fun q => !Nat.beq q.1 i && !Nat.beq q.2.1 1), S.2.2.1, S.2.2.2))
      | false => none
    | _ => none
  | _ => none
def cln (ins : Instr) : Nat := match ins with
  | .bipush _ => 2
  | .newarray _ => 2
  | .sipush _ => 3
  | .goto _ => 3
  | .if_icmp _ _ => 3
  | .new _ => 3
  | .anewarray _ => 3
  | .getfield _ => 3
  | .putfield _ => 3
  | .iinc _ _ => 3
  | .invokespecial _ => 3
  | _ => 1
def cbody (tab : List cEn) (cl : List vw_C) (call : Nat → List cCell → List cV → Option (List cCell)) (E : cEn) : Nat → Nat → cSt → Option (List cCell)
  | 0, _, _ => none
  | f + 1, pc, S => match cfnd E.2.2.1 pc with
    | none => none
    | some (ins, len) => match Nat.beq len (cln ins) with
      | false => none
      | true => match ins with
      | .return_ => match S.2.2.1 with
        | [] => match Nat.ble S.2.2.2.1 E.2.2.2.2.2.1 && Nat.ble S.2.2.2.2 E.2.2.2.2.2.2 with
          | true => some S.1
          | false => none
        | _ => none
      | .invokespecial idx => match cfnd E.2.1.2.2.2 idx with
        | some 0 => match S.2.2.1 with
          | (2, _) :: st => match Nat.ble st.length 4 with
            | true => cbody tab cl call E f (pc + 3) (S.1, S.2.1, st, S.2.2.2)
            | false => none
          | _ => none
        | some (i + 1) => match tab[i]? with
          | some C => match Nat.blt C.2.2.2.2.1 E.2.2.2.2.1 && (Nat.ble (S.2.2.2.1 + C.2.2.2.2.2.1) E.2.2.2.2.2.1 && (Nat.ble (S.2.2.2.2 + C.2.2.2.2.2.2) E.2.2.2.2.2.2 && Nat.ble S.2.2.1.length 5)) with
            | true => match C.2.2.2.1, S.2.2.1 with
              | 0, (2, k) :: st => match call i S.1 [(2, k)] with
                | some cs => cbody tab cl call E f (pc + 3) (cs, S.2.1, st, S.2.2.2.1 + C.2.2.2.2.2.1, S.2.2.2.2 + C.2.2.2.2.2.2)
                | none => none
              | 1, (2, j) :: (2, k) :: st => match call i S.1 [(2, k), (2, j)] with
                | some cs => cbody tab cl call E f (pc + 3) (cs, S.2.1, st, S.2.2.2.1 + C.2.2.2.2.2.1, S.2.2.2.2 + C.2.2.2.2.2.2)
                | none => none
              | _, _ => none
            | false => none
          | none => none
        | none => none
      | ins => match cstep cl E.2.1 E.1.2.2.1 E.2.2.2.2.2.1 E.2.2.2.2.2.2 pc ins len S with
        | some q => cbody tab cl call E f q.1 q.2
        | none => none
def cargs : Nat → List cV → List (Nat × cV)
  | _, [] => []
  | i, v :: t => (i, v) :: cargs (i + 1) t
/-- constructor i of the table, of depth below d -/
def cctor (tab : List cEn) (cl : List vw_C) : Nat → Nat → List cCell → List cV → Option (List cCell)
  | 0, _, _, _ => none
  | d + 1, i, cs, vs => match tab[i]? with
    | some E => match Nat.blt E.2.2.2.2.1 (d + 1) && (vs.all (fun v => Nat.beq v.1 2) && Nat.ble vs.length E.1.2.2.1) with
      | true => cbody tab cl (cctor tab cl d) E 600 0 (cs, cargs 0 vs, [], 0, 0)
      | false => none
    | none => none
end
section
/-! THE TABLE OF CONSTRUCTORS (printed by wip/p1/gen/ctab.py), in the order of the classes -/
def cx_0 : kCd := [(0, .aload_n 0, 1), (1, .invokespecial 3, 3), (4, .aload_n 0, 1), (5, .bipush 40, 2), (7, .newarray .boolean, 2), (9, .putfield 9, 3), (12, .aload_n 0, 1), (13, .bipush 40, 2), (15, .newarray .int, 2), (17, .putfield 15, 3), (20, .aload_n 0, 1), (21, .bipush 40, 2), (23, .newarray .int, 2), (25, .putfield 19, 3), (28, .return_, 1)]
def cp_0 : cPl := ([(9, 0, 1), (15, 0, 2), (19, 0, 3)], [], [], [(3, 0)])
def ce_0 : cEn := ((⟨"SilenceMatch$Acts", "<init>", "()V"⟩, prog_2_method_1_code, 1, none), cp_0, cx_0, 0, 0, 4, 200)
def cx_1 : kCd := [(0, .aload_n 0, 1), (1, .invokespecial 3, 3), (4, .aload_n 0, 1), (5, .bipush 20, 2), (7, .newarray .int, 2), (9, .putfield 9, 3), (12, .aload_n 0, 1), (13, .bipush 20, 2), (15, .newarray .int, 2), (17, .putfield 15, 3), (20, .return_, 1)]
def cp_1 : cPl := ([(9, 1, 0), (15, 1, 2)], [], [], [(3, 0)])
def ce_1 : cEn := ((⟨"SilenceMatch$Cover", "<init>", "()V"⟩, prog_3_method_1_code, 1, none), cp_1, cx_1, 0, 0, 4, 200)
def cx_2 : kCd := [(0, .aload_n 0, 1), (1, .invokespecial 3, 3), (4, .return_, 1)]
def cp_2 : cPl := ([], [], [], [(3, 0)])
def ce_2 : cEn := ((⟨"SilenceMatch$Draws", "<init>", "()V"⟩, prog_4_method_1_code, 1, none), cp_2, cx_2, 0, 0, 0, 0)
def cx_3 : kCd := [(0, .aload_n 0, 1), (1, .invokespecial 3, 3), (4, .aload_n 0, 1), (5, .bipush 8, 2), (7, .newarray .int, 2), (9, .putfield 9, 3), (12, .aload_n 0, 1), (13, .bipush 8, 2), (15, .newarray .int, 2), (17, .putfield 15, 3), (20, .aload_n 0, 1), (21, .bipush 8, 2), (23, .newarray .int, 2), (25, .putfield 18, 3), (28, .aload_n 0, 1), (29, .bipush 8, 2), (31, .newarray .int, 2), (33, .putfield 21, 3), (36, .aload_n 0, 1), (37, .iconst 4, 1), (38, .newarray .int, 2), (40, .putfield 24, 3), (43, .aload_n 0, 1), (44, .iconst 4, 1), (45, .newarray .int, 2), (47, .putfield 27, 3), (50, .aload_n 0, 1), (51, .iconst 3, 1), (52, .newarray .int, 2), (54, .putfield 30, 3), (57, .aload_n 0, 1), (58, .iconst 3, 1), (59, .newarray .int, 2), (61, .putfield 33, 3), (64, .aload_n 0, 1), (65, .bipush 9, 2), (67, .newarray .int, 2), (69, .putfield 36, 3), (72, .aload_n 0, 1), (73, .bipush 9, 2), (75, .newarray .int, 2), (77, .putfield 39, 3), (80, .return_, 1)]
def cp_3 : cPl := ([(9, 3, 10), (15, 3, 11), (18, 3, 12), (21, 3, 13), (24, 3, 14), (27, 3, 15), (30, 3, 16), (33, 3, 17), (36, 3, 18), (39, 3, 19)], [], [], [(3, 0)])
def ce_3 : cEn := ((⟨"SilenceMatch$Green", "<init>", "()V"⟩, prog_5_method_1_code, 1, none), cp_3, cx_3, 0, 0, 12, 200)
def cx_4 : kCd := [(0, .aload_n 0, 1), (1, .invokespecial 3, 3), (4, .aload_n 0, 1), (5, .bipush 13, 2), (7, .newarray .int, 2), (9, .putfield 9, 3), (12, .return_, 1)]
def cp_4 : cPl := ([(9, 4, 0)], [], [], [(3, 0)])
def ce_4 : cEn := ((⟨"SilenceMatch$Heard", "<init>", "()V"⟩, prog_6_method_1_code, 1, none), cp_4, cx_4, 0, 0, 2, 50)
def cx_5 : kCd := [(0, .aload_n 0, 1), (1, .invokespecial 3, 3), (4, .aload_n 0, 1), (5, .bipush 61, 2), (7, .newarray .int, 2), (9, .putfield 9, 3), (12, .aload_n 0, 1), (13, .bipush 61, 2), (15, .newarray .boolean, 2), (17, .putfield 15, 3), (20, .aload_n 0, 1), (21, .bipush 61, 2), (23, .newarray .int, 2), (25, .putfield 19, 3), (28, .aload_n 0, 1), (29, .bipush 61, 2), (31, .newarray .int, 2), (33, .putfield 22, 3), (36, .aload_n 0, 1), (37, .new 25, 3), (40, .dup, 1), (41, .invokespecial 27, 3), (44, .putfield 28, 3), (47, .return_, 1)]
def cp_5 : cPl := ([(9, 5, 0), (15, 5, 1), (19, 5, 2), (22, 5, 3), (28, 5, 4)], [(25, 2)], [], [(3, 0), (27, 3)])
def ce_5 : cEn := ((⟨"SilenceMatch$Match", "<init>", "()V"⟩, prog_7_method_1_code, 1, none), cp_5, cx_5, 0, 1, 8, 400)
def cx_6 : kCd := [(0, .aload_n 0, 1), (1, .invokespecial 3, 3), (4, .aload_n 0, 1), (5, .iconst 0, 1), (6, .putfield 9, 3), (9, .aload_n 0, 1), (10, .iconst (-1), 1), (11, .putfield 15, 3), (14, .aload_n 0, 1), (15, .iconst 0, 1), (16, .putfield 18, 3), (19, .aload_n 0, 1), (20, .iconst 0, 1), (21, .putfield 21, 3), (24, .aload_n 0, 1), (25, .iconst 0, 1), (26, .putfield 24, 3), (29, .aload_n 0, 1), (30, .aload_n 1, 1), (31, .putfield 27, 3), (34, .return_, 1)]
def cp_6 : cPl := ([(9, 6, 0), (15, 6, 1), (18, 6, 3), (21, 6, 4), (24, 6, 5), (27, 6, 2)], [], [], [(3, 0)])
def ce_6 : cEn := ((⟨"SilenceMatch$Reader", "<init>", "(LSilenceMatch$Tape;)V"⟩, prog_8_method_1_code, 2, none), cp_6, cx_6, 1, 0, 0, 0)
def cx_7 : kCd := [(0, .aload_n 0, 1), (1, .invokespecial 3, 3), (4, .aload_n 0, 1), (5, .iconst (-1), 1), (6, .putfield 9, 3), (9, .aload_n 0, 1), (10, .bipush 60, 2), (12, .newarray .long, 2), (14, .putfield 15, 3), (17, .return_, 1)]
def cp_7 : cPl := ([(9, 7, 0), (15, 7, 2)], [], [], [(3, 0)])
def ce_7 : cEn := ((⟨"SilenceMatch$Row", "<init>", "()V"⟩, prog_9_method_1_code, 1, none), cp_7, cx_7, 0, 0, 2, 100)
def cx_8 : kCd := [(0, .aload_n 0, 1), (1, .invokespecial 3, 3), (4, .aload_n 0, 1), (5, .sipush 900, 3), (8, .newarray .int, 2), (10, .putfield 9, 3), (13, .return_, 1)]
def cp_8 : cPl := ([(9, 8, 0)], [], [], [(3, 0)])
def ce_8 : cEn := ((⟨"SilenceMatch$Tape", "<init>", "()V"⟩, prog_10_method_1_code, 1, none), cp_8, cx_8, 0, 0, 2, 1000)
def cx_9 : kCd := [(0, .aload_n 0, 1), (1, .invokespecial 1, 3), (4, .aload_n 0, 1), (5, .new 7, 3), (8, .dup, 1), (9, .invokespecial 9, 3), (12, .putfield 10, 3), (15, .aload_n 0, 1), (16, .new 16, 3), (19, .dup, 1), (20, .aload_n 0, 1), (21, .getfield 10, 3), (24, .invokespecial 18, 3), (27, .putfield 21, 3), (30, .aload_n 0, 1), (31, .new 25, 3), (34, .dup, 1), (35, .invokespecial 27, 3), (38, .putfield 28, 3), (41, .aload_n 0, 1), (42, .new 25, 3), (45, .dup, 1), (46, .invokespecial 27, 3), (49, .putfield 32, 3), (52, .aload_n 0, 1), (53, .new 25, 3), (56, .dup, 1), (57, .invokespecial 27, 3), (60, .putfield 35, 3), (63, .aload_n 0, 1), (64, .new 38, 3), (67, .dup, 1), (68, .invokespecial 40, 3), (71, .putfield 41, 3), (74, .aload_n 0, 1), (75, .new 45, 3), (78, .dup, 1), (79, .invokespecial 47, 3), (82, .putfield 48, 3), (85, .aload_n 0, 1), (86, .new 52, 3), (89, .dup, 1), (90, .invokespecial 54, 3), (93, .putfield 55, 3), (96, .aload_n 0, 1), (97, .new 59, 3), (100, .dup, 1), (101, .invokespecial 61, 3), (104, .putfield 62, 3), (107, .aload_n 0, 1), (108, .iconst 4, 1), (109, .anewarray 66, 3), (112, .putfield 68, 3), (115, .iconst 0, 1), (116, .istore_n 1, 1), (117, .iload_n 1, 1), (118, .iconst 4, 1), (119, .if_icmp .ge 22, 3), (122, .aload_n 0, 1), (123, .getfield 68, 3), (126, .iload_n 1, 1), (127, .new 66, 3), (130, .dup, 1), (131, .invokespecial 72, 3), (134, .aastore, 1), (135, .iinc 1 1, 3), (138, .goto (-21), 3), (141, .aload_n 0, 1), (142, .iconst 3, 1), (143, .anewarray 25, 3), (146, .putfield 73, 3), (149, .aload_n 0, 1), (150, .iconst 3, 1), (151, .anewarray 38, 3), (154, .putfield 77, 3), (157, .aload_n 0, 1), (158, .iconst 3, 1), (159, .newarray .boolean, 2), (161, .putfield 81, 3), (164, .iconst 0, 1), (165, .istore_n 1, 1), (166, .iload_n 1, 1), (167, .iconst 3, 1), (168, .if_icmp .ge 35, 3), (171, .aload_n 0, 1), (172, .getfield 73, 3), (175, .iload_n 1, 1), (176, .new 25, 3), (179, .dup, 1), (180, .invokespecial 27, 3), (183, .aastore, 1), (184, .aload_n 0, 1), (185, .getfield 77, 3), (188, .iload_n 1, 1), (189, .new 38, 3), (192, .dup, 1), (193, .invokespecial 40, 3), (196, .aastore, 1), (197, .iinc 1 1, 3), (200, .goto (-34), 3), (203, .return_, 1)]
def cp_9 : cPl := ([(10, 9, 0), (21, 9, 1), (28, 9, 2), (32, 9, 3), (35, 9, 4), (41, 9, 5), (48, 9, 6), (55, 9, 7), (62, 9, 8), (68, 9, 9), (73, 9, 10), (77, 9, 11), (81, 9, 12)], [(7, 8), (16, 6), (25, 3), (38, 0), (45, 5), (52, 1), (59, 4), (66, 7)], [(25, 5), (38, 6), (66, 4)], [(1, 0), (9, 9), (18, 7), (27, 4), (40, 1), (47, 6), (54, 2), (61, 5), (72, 8)])
def ce_9 : cEn := ((⟨"SilenceMatch", "<init>", "()V"⟩, prog_1_method_1_code, 2, none), cp_9, cx_9, 0, 2, 200, 10000)
def cx_10 : kCd := [(0, .aload_n 0, 1), (1, .invokespecial 3, 3), (4, .aload_n 0, 1), (5, .bipush 115, 2), (7, .newarray .int, 2), (9, .putfield 9, 3), (12, .aload_n 0, 1), (13, .sipush 345, 3), (16, .newarray .int, 2), (18, .putfield 13, 3), (21, .aload_n 0, 1), (22, .iconst 3, 1), (23, .newarray .boolean, 2), (25, .putfield 16, 3), (28, .aload_n 0, 1), (29, .sipush 900, 3), (32, .newarray .byte, 2), (34, .putfield 20, 3), (37, .aload_n 0, 1), (38, .iconst 5, 1), (39, .newarray .int, 2), (41, .putfield 24, 3), (44, .aload_n 0, 1), (45, .iconst (-1), 1), (46, .putfield 27, 3), (49, .aload_n 0, 1), (50, .bipush 115, 2), (52, .newarray .int, 2), (54, .putfield 31, 3), (57, .aload_n 0, 1), (58, .iconst (-1), 1), (59, .putfield 34, 3), (62, .aload_n 0, 1), (63, .bipush 8, 2), (65, .newarray .int, 2), (67, .putfield 37, 3), (70, .aload_n 0, 1), (71, .bipush 8, 2), (73, .newarray .int, 2), (75, .putfield 40, 3), (78, .aload_n 0, 1), (79, .bipush 8, 2), (81, .newarray .int, 2), (83, .putfield 43, 3), (86, .aload_n 0, 1), (87, .bipush 8, 2), (89, .newarray .int, 2), (91, .putfield 46, 3), (94, .aload_n 0, 1), (95, .bipush 20, 2), (97, .newarray .int, 2), (99, .putfield 49, 3), (102, .aload_n 0, 1), (103, .bipush 20, 2), (105, .newarray .int, 2), (107, .putfield 52, 3), (110, .aload_n 0, 1), (111, .bipush 21, 2), (113, .newarray .int, 2), (115, .putfield 55, 3), (118, .aload_n 0, 1), (119, .sipush 240, 3), (122, .newarray .int, 2), (124, .putfield 58, 3), (127, .aload_n 0, 1), (128, .iconst 4, 1), (129, .newarray .int, 2), (131, .dup, 1), (132, .iconst 0, 1), (133, .iconst (-1), 1), (134, .iastore, 1), (135, .dup, 1), (136, .iconst 1, 1), (137, .iconst (-1), 1), (138, .iastore, 1), (139, .dup, 1), (140, .iconst 2, 1), (141, .iconst (-1), 1), (142, .iastore, 1), (143, .dup, 1), (144, .iconst 3, 1), (145, .iconst (-1), 1), (146, .iastore, 1), (147, .putfield 61, 3), (150, .aload_n 0, 1), (151, .iconst 4, 1), (152, .newarray .int, 2), (154, .putfield 64, 3), (157, .aload_n 0, 1), (158, .sipush 240, 3), (161, .newarray .long, 2), (163, .putfield 67, 3), (166, .aload_n 0, 1), (167, .bipush 60, 2), (169, .newarray .long, 2), (171, .putfield 71, 3), (174, .return_, 1)]
def cp_10 : cPl := ([(9, 10, 1), (13, 10, 2), (16, 10, 3), (20, 10, 4), (24, 10, 6), (27, 10, 13), (31, 10, 14), (34, 10, 15), (37, 10, 16), (40, 10, 17), (43, 10, 18), (46, 10, 19), (49, 10, 28), (52, 10, 29), (55, 10, 30), (58, 10, 31), (61, 10, 34), (64, 10, 35), (67, 10, 36), (71, 10, 37)], [], [], [(3, 0)])
def ce_10 : cEn := ((⟨"SilenceMatchModel", "<init>", "()V"⟩, prog_12_method_1_code, 1, none), cp_10, cx_10, 0, 0, 30, 3000)
def k_tab : List cEn := [ce_0, ce_1, ce_2, ce_3, ce_4, ce_5, ce_6, ce_7, ce_8, ce_9, ce_10]
/-- a new object of class i, its fields as they are first -/
def cblank (ci : Nat) : cCell := match k_cl[ci]? with
  | some (_, Tf, N) => (ci, N, (List.range N).map (fun j => (j, cdef (Tf j).2.2.1)), (3, 0))
  | none => (0, 0, [], (3, 0))

/-- the cells of a new SilenceMatch (cell 0 is its own) -/
def k_cs1 : List cCell := [(9, 13, [(12, (2, (.ofNat 63))), (11, (2, (.ofNat 62))), (10, (2, (.ofNat 61))), (9, (2, (.ofNat 52))), (8, (2, (.ofNat 50))), (7, (2, (.ofNat 47))), (6, (2, (.ofNat 41))), (5, (2, (.ofNat 37))), (4, (2, (.ofNat 26))), (3, (2, (.ofNat 15))), (2, (2, (.ofNat 4))), (1, (2, (.ofNat 3))), (0, (2, (.ofNat 1))), (0, (3, (.ofNat 0))), (1, (3, (.ofNat 0))), (2, (3, (.ofNat 0))), (3, (3, (.ofNat 0))), (4, (3, (.ofNat 0))), (5, (3, (.ofNat 0))), (6, (3, (.ofNat 0))), (7, (3, (.ofNat 0))), (8, (3, (.ofNat 0))), (9, (3, (.ofNat 0))), (10, (3, (.ofNat 0))), (11, (3, (.ofNat 0))), (12, (3, (.ofNat 0)))], (3, (.ofNat 0))), (8, 2, [(0, (2, (.ofNat 2))), (0, (3, (.ofNat 0))), (1, (0, (.ofNat 0)))], (3, (.ofNat 0))), (100, 900, [], (0, (.ofNat 0))), (6, 6, [(2, (2, (.ofNat 1))), (5, (0, (.ofNat 0))), (4, (0, (.ofNat 0))), (3, (0, (.ofNat 0))), (1, (0, (.negSucc 0))), (0, (0, (.ofNat 0))), (0, (0, (.ofNat 0))), (1, (0, (.ofNat 0))), (2, (3, (.ofNat 0))), (3, (0, (.ofNat 0))), (4, (0, (.ofNat 0))), (5, (0, (.ofNat 0)))], (3, (.ofNat 0))), (3, 20, [(19, (2, (.ofNat 14))), (18, (2, (.ofNat 13))), (17, (2, (.ofNat 12))), (16, (2, (.ofNat 11))), (15, (2, (.ofNat 10))), (14, (2, (.ofNat 9))), (13, (2, (.ofNat 8))), (12, (2, (.ofNat 7))), (11, (2, (.ofNat 6))), (10, (2, (.ofNat 5))), (0, (0, (.ofNat 0))), (1, (0, (.ofNat 0))), (2, (0, (.ofNat 0))), (3, (0, (.ofNat 0))), (4, (0, (.ofNat 0))), (5, (0, (.ofNat 0))), (6, (0, (.ofNat 0))), (7, (0, (.ofNat 0))), (8, (0, (.ofNat 0))), (9, (0, (.ofNat 0))), (10, (3, (.ofNat 0))), (11, (3, (.ofNat 0))), (12, (3, (.ofNat 0))), (13, (3, (.ofNat 0))), (14, (3, (.ofNat 0))), (15, (3, (.ofNat 0))), (16, (3, (.ofNat 0))), (17, (3, (.ofNat 0))), (18, (3, (.ofNat 0))), (19, (3, (.ofNat 0)))], (3, (.ofNat 0))), (100, 8, [], (0, (.ofNat 0))), (100, 8, [], (0, (.ofNat 0))), (100, 8, [], (0, (.ofNat 0))), (100, 8, [], (0, (.ofNat 0))), (100, 4, [], (0, (.ofNat 0))), (100, 4, [], (0, (.ofNat 0))), (100, 3, [], (0, (.ofNat 0))), (100, 3, [], (0, (.ofNat 0))), (100, 9, [], (0, (.ofNat 0))), (100, 9, [], (0, (.ofNat 0))), (3, 20, [(19, (2, (.ofNat 25))), (18, (2, (.ofNat 24))), (17, (2, (.ofNat 23))), (16, (2, (.ofNat 22))), (15, (2, (.ofNat 21))), (14, (2, (.ofNat 20))), (13, (2, (.ofNat 19))), (12, (2, (.ofNat 18))), (11, (2, (.ofNat 17))), (10, (2, (.ofNat 16))), (0, (0, (.ofNat 0))), (1, (0, (.ofNat 0))), (2, (0, (.ofNat 0))), (3, (0, (.ofNat 0))), (4, (0, (.ofNat 0))), (5, (0, (.ofNat 0))), (6, (0, (.ofNat 0))), (7, (0, (.ofNat 0))), (8, (0, (.ofNat 0))), (9, (0, (.ofNat 0))), (10, (3, (.ofNat 0))), (11, (3, (.ofNat 0))), (12, (3, (.ofNat 0))), (13, (3, (.ofNat 0))), (14, (3, (.ofNat 0))), (15, (3, (.ofNat 0))), (16, (3, (.ofNat 0))), (17, (3, (.ofNat 0))), (18, (3, (.ofNat 0))), (19, (3, (.ofNat 0)))], (3, (.ofNat 0))), (100, 8, [], (0, (.ofNat 0))), (100, 8, [], (0, (.ofNat 0))), (100, 8, [], (0, (.ofNat 0))), (100, 8, [], (0, (.ofNat 0))), (100, 4, [], (0, (.ofNat 0))), (100, 4, [], (0, (.ofNat 0))), (100, 3, [], (0, (.ofNat 0))), (100, 3, [], (0, (.ofNat 0))), (100, 9, [], (0, (.ofNat 0))), (100, 9, [], (0, (.ofNat 0))), (3, 20, [(19, (2, (.ofNat 36))), (18, (2, (.ofNat 35))), (17, (2, (.ofNat 34))), (16, (2, (.ofNat 33))), (15, (2, (.ofNat 32))), (14, (2, (.ofNat 31))), (13, (2, (.ofNat 30))), (12, (2, (.ofNat 29))), (11, (2, (.ofNat 28))), (10, (2, (.ofNat 27))), (0, (0, (.ofNat 0))), (1, (0, (.ofNat 0))), (2, (0, (.ofNat 0))), (3, (0, (.ofNat 0))), (4, (0, (.ofNat 0))), (5, (0, (.ofNat 0))), (6, (0, (.ofNat 0))), (7, (0, (.ofNat 0))), (8, (0, (.ofNat 0))), (9, (0, (.ofNat 0))), (10, (3, (.ofNat 0))), (11, (3, (.ofNat 0))), (12, (3, (.ofNat 0))), (13, (3, (.ofNat 0))), (14, (3, (.ofNat 0))), (15, (3, (.ofNat 0))), (16, (3, (.ofNat 0))), (17, (3, (.ofNat 0))), (18, (3, (.ofNat 0))), (19, (3, (.ofNat 0)))], (3, (.ofNat 0))), (100, 8, [], (0, (.ofNat 0))), (100, 8, [], (0, (.ofNat 0))), (100, 8, [], (0, (.ofNat 0))), (100, 8, [], (0, (.ofNat 0))), (100, 4, [], (0, (.ofNat 0))), (100, 4, [], (0, (.ofNat 0))), (100, 3, [], (0, (.ofNat 0))), (100, 3, [], (0, (.ofNat 0))), (100, 9, [], (0, (.ofNat 0))), (100, 9, [], (0, (.ofNat 0))), (0, 4, [(3, (2, (.ofNat 40))), (2, (2, (.ofNat 39))), (1, (2, (.ofNat 38))), (0, (0, (.ofNat 0))), (1, (3, (.ofNat 0))), (2, (3, (.ofNat 0))), (3, (3, (.ofNat 0)))], (3, (.ofNat 0))), (101, 40, [], (0, (.ofNat 0))), (100, 40, [], (0, (.ofNat 0))), (100, 40, [], (0, (.ofNat 0))), (5, 9, [(4, (2, (.ofNat 46))), (3, (2, (.ofNat 45))), (2, (2, (.ofNat 44))), (1, (2, (.ofNat 43))), (0, (2, (.ofNat 42))), (0, (3, (.ofNat 0))), (1, (3, (.ofNat 0))), (2, (3, (.ofNat 0))), (3, (3, (.ofNat 0))), (4, (3, (.ofNat 0))), (5, (0, (.ofNat 0))), (6, (0, (.ofNat 0))), (7, (0, (.ofNat 0))), (8, (0, (.ofNat 0)))], (3, (.ofNat 0))), (100, 61, [], (0, (.ofNat 0))), (101, 61, [], (0, (.ofNat 0))), (100, 61, [], (0, (.ofNat 0))), (100, 61, [], (0, (.ofNat 0))), (2, 4, [(0, (0, (.ofNat 0))), (1, (0, (.ofNat 0))), (2, (1, (.ofNat 0))), (3, (0, (.ofNat 0)))], (3, (.ofNat 0))), (1, 5, [(2, (2, (.ofNat 49))), (0, (2, (.ofNat 48))), (0, (3, (.ofNat 0))), (1, (0, (.ofNat 0))), (2, (3, (.ofNat 0))), (3, (0, (.ofNat 0))), (4, (0, (.ofNat 0)))], (3, (.ofNat 0))), (100, 20, [], (0, (.ofNat 0))), (100, 20, [], (0, (.ofNat 0))), (4, 1, [(0, (2, (.ofNat 51))), (0, (3, (.ofNat 0)))], (3, (.ofNat 0))), (100, 13, [], (0, (.ofNat 0))), (104, 4, [(3, (2, (.ofNat 59))), (2, (2, (.ofNat 57))), (1, (2, (.ofNat 55))), (0, (2, (.ofNat 53)))], (3, (.ofNat 0))), (7, 3, [(2, (2, (.ofNat 54))), (0, (0, (.negSucc 0))), (0, (0, (.ofNat 0))), (1, (0, (.ofNat 0))), (2, (3, (.ofNat 0)))], (3, (.ofNat 0))), (103, 60, [], (1, (.ofNat 0))), (7, 3, [(2, (2, (.ofNat 56))), (0, (0, (.negSucc 0))), (0, (0, (.ofNat 0))), (1, (0, (.ofNat 0))), (2, (3, (.ofNat 0)))], (3, (.ofNat 0))), (103, 60, [], (1, (.ofNat 0))), (7, 3, [(2, (2, (.ofNat 58))), (0, (0, (.negSucc 0))), (0, (0, (.ofNat 0))), (1, (0, (.ofNat 0))), (2, (3, (.ofNat 0)))], (3, (.ofNat 0))), (103, 60, [], (1, (.ofNat 0))), (7, 3, [(2, (2, (.ofNat 60))), (0, (0, (.negSucc 0))), (0, (0, (.ofNat 0))), (1, (0, (.ofNat 0))), (2, (3, (.ofNat 0)))], (3, (.ofNat 0))), (103, 60, [], (1, (.ofNat 0))), (105, 3, [(2, (2, (.ofNat 94))), (1, (2, (.ofNat 79))), (0, (2, (.ofNat 64)))], (3, (.ofNat 0))), (106, 3, [(2, (2, (.ofNat 105))), (1, (2, (.ofNat 90))), (0, (2, (.ofNat 75)))], (3, (.ofNat 0))), (101, 3, [], (0, (.ofNat 0))), (3, 20, [(19, (2, (.ofNat 74))), (18, (2, (.ofNat 73))), (17, (2, (.ofNat 72))), (16, (2, (.ofNat 71))), (15, (2, (.ofNat 70))), (14, (2, (.ofNat 69))), (13, (2, (.ofNat 68))), (12, (2, (.ofNat 67))), (11, (2, (.ofNat 66))), (10, (2, (.ofNat 65))), (0, (0, (.ofNat 0))), (1, (0, (.ofNat 0))), (2, (0, (.ofNat 0))), (3, (0, (.ofNat 0))), (4, (0, (.ofNat 0))), (5, (0, (.ofNat 0))), (6, (0, (.ofNat 0))), (7, (0, (.ofNat 0))), (8, (0, (.ofNat 0))), (9, (0, (.ofNat 0))), (10, (3, (.ofNat 0))), (11, (3, (.ofNat 0))), (12, (3, (.ofNat 0))), (13, (3, (.ofNat 0))), (14, (3, (.ofNat 0))), (15, (3, (.ofNat 0))), (16, (3, (.ofNat 0))), (17, (3, (.ofNat 0))), (18, (3, (.ofNat 0))), (19, (3, (.ofNat 0)))], (3, (.ofNat 0))), (100, 8, [], (0, (.ofNat 0))), (100, 8, [], (0, (.ofNat 0))), (100, 8, [], (0, (.ofNat 0))), (100, 8, [], (0, (.ofNat 0))), (100, 4, [], (0, (.ofNat 0))), (100, 4, [], (0, (.ofNat 0))), (100, 3, [], (0, (.ofNat 0))), (100, 3, [], (0, (.ofNat 0))), (100, 9, [], (0, (.ofNat 0))), (100, 9, [], (0, (.ofNat 0))), (0, 4, [(3, (2, (.ofNat 78))), (2, (2, (.ofNat 77))), (1, (2, (.ofNat 76))), (0, (0, (.ofNat 0))), (1, (3, (.ofNat 0))), (2, (3, (.ofNat 0))), (3, (3, (.ofNat 0)))], (3, (.ofNat 0))), (101, 40, [], (0, (.ofNat 0))), (100, 40, [], (0, (.ofNat 0))), (100, 40, [], (0, (.ofNat 0))), (3, 20, [(19, (2, (.ofNat 89))), (18, (2, (.ofNat 88))), (17, (2, (.ofNat 87))), (16, (2, (.ofNat 86))), (15, (2, (.ofNat 85))), (14, (2, (.ofNat 84))), (13, (2, (.ofNat 83))), (12, (2, (.ofNat 82))), (11, (2, (.ofNat 81))), (10, (2, (.ofNat 80))), (0, (0, (.ofNat 0))), (1, (0, (.ofNat 0))), (2, (0, (.ofNat 0))), (3, (0, (.ofNat 0))), (4, (0, (.ofNat 0))), (5, (0, (.ofNat 0))), (6, (0, (.ofNat 0))), (7, (0, (.ofNat 0))), (8, (0, (.ofNat 0))), (9, (0, (.ofNat 0))), (10, (3, (.ofNat 0))), (11, (3, (.ofNat 0))), (12, (3, (.ofNat 0))), (13, (3, (.ofNat 0))), (14, (3, (.ofNat 0))), (15, (3, (.ofNat 0))), (16, (3, (.ofNat 0))), (17, (3, (.ofNat 0))), (18, (3, (.ofNat 0))), (19, (3, (.ofNat 0)))], (3, (.ofNat 0))), (100, 8, [], (0, (.ofNat 0))), (100, 8, [], (0, (.ofNat 0))), (100, 8, [], (0, (.ofNat 0))), (100, 8, [], (0, (.ofNat 0))), (100, 4, [], (0, (.ofNat 0))), (100, 4, [], (0, (.ofNat 0))), (100, 3, [], (0, (.ofNat 0))), (100, 3, [], (0, (.ofNat 0))), (100, 9, [], (0, (.ofNat 0))), (100, 9, [], (0, (.ofNat 0))), (0, 4, [(3, (2, (.ofNat 93))), (2, (2, (.ofNat 92))), (1, (2, (.ofNat 91))), (0, (0, (.ofNat 0))), (1, (3, (.ofNat 0))), (2, (3, (.ofNat 0))), (3, (3, (.ofNat 0)))], (3, (.ofNat 0))), (101, 40, [], (0, (.ofNat 0))), (100, 40, [], (0, (.ofNat 0))), (100, 40, [], (0, (.ofNat 0))), (3, 20, [(19, (2, (.ofNat 104))), (18, (2, (.ofNat 103))), (17, (2, (.ofNat 102))), (16, (2, (.ofNat 101))), (15, (2, (.ofNat 100))), (14, (2, (.ofNat 99))), (13, (2, (.ofNat 98))), (12, (2, (.ofNat 97))), (11, (2, (.ofNat 96))), (10, (2, (.ofNat 95))), (0, (0, (.ofNat 0))), (1, (0, (.ofNat 0))), (2, (0, (.ofNat 0))), (3, (0, (.ofNat 0))), (4, (0, (.ofNat 0))), (5, (0, (.ofNat 0))), (6, (0, (.ofNat 0))), (7, (0, (.ofNat 0))), (8, (0, (.ofNat 0))), (9, (0, (.ofNat 0))), (10, (3, (.ofNat 0))), (11, (3, (.ofNat 0))), (12, (3, (.ofNat 0))), (13, (3, (.ofNat 0))), (14, (3, (.ofNat 0))), (15, (3, (.ofNat 0))), (16, (3, (.ofNat 0))), (17, (3, (.ofNat 0))), (18, (3, (.ofNat 0))), (19, (3, (.ofNat 0)))], (3, (.ofNat 0))), (100, 8, [], (0, (.ofNat 0))), (100, 8, [], (0, (.ofNat 0))), (100, 8, [], (0, (.ofNat 0))), (100, 8, [], (0, (.ofNat 0))), (100, 4, [], (0, (.ofNat 0))), (100, 4, [], (0, (.ofNat 0))), (100, 3, [], (0, (.ofNat 0))), (100, 3, [], (0, (.ofNat 0))), (100, 9, [], (0, (.ofNat 0))), (100, 9, [], (0, (.ofNat 0))), (0, 4, [(3, (2, (.ofNat 108))), (2, (2, (.ofNat 107))), (1, (2, (.ofNat 106))), (0, (0, (.ofNat 0))), (1, (3, (.ofNat 0))), (2, (3, (.ofNat 0))), (3, (3, (.ofNat 0)))], (3, (.ofNat 0))), (101, 40, [], (0, (.ofNat 0))), (100, 40, [], (0, (.ofNat 0))), (100, 40, [], (0, (.ofNat 0)))]
def cveq (a b : cV) : Bool := Nat.beq a.1 b.1 && decide (a.2 = b.2)
theorem cveq_ok {a b : cV} (h : cveq a b = true) : a = b := by
  unfold cveq at h
  simp only [Bool.and_eq_true, decide_eq_true_eq] at h
  exact Prod.ext (Nat.beq_eq.mp h.1) h.2
def cleq : List (Nat × cV) → List (Nat × cV) → Bool
  | [], [] => true
  | a :: l, b :: m => Nat.beq a.1 b.1 && (cveq a.2 b.2 && cleq l m)
  | _, _ => false
theorem cleq_ok : ∀ {l m : List (Nat × cV)}, cleq l m = true → l = m
  | [], [], _ => rfl
  | [], _ :: _, h => by simp [cleq] at h
  | _ :: _, [], h => by simp [cleq] at h
  | a :: l, b :: m, h => by
    unfold cleq at h
    simp only [Bool.and_eq_true] at h
    rw [cleq_ok h.2.2, Prod.ext (Nat.beq_eq.mp h.1) (cveq_ok h.2.1)]
def cseq : List cCell → List cCell → Bool
  | [], [] => true
  | a :: l, b :: m => Nat.beq a.1 b.1 && (Nat.beq a.2.1 b.2.1 && (cleq a.2.2.1 b.2.2.1 && (cveq a.2.2.2 b.2.2.2 && cseq l m)))
  | _, _ => false
theorem cseq_ok : ∀ {l m : List cCell}, cseq l m = true → l = m
  | [], [], _ => rfl
  | [], _ :: _, h => by simp [cseq] at h
  | _ :: _, [], h => by simp [cseq] at h
  | (a1, a2, a3, a4) :: l, (b1, b2, b3, b4) :: m, h => by
    unfold cseq at h
    simp only [Bool.and_eq_true] at h
    obtain ⟨h1, h2, h3, h4, h5⟩ := h
    rw [cseq_ok h5, Nat.beq_eq.mp h1, Nat.beq_eq.mp h2, cleq_ok h3, cveq_ok h4]
def coeq (o : Option (List cCell)) (l : List cCell) : Bool := match o with
  | some x => cseq x l
  | none => false
theorem coeq_ok {o : Option (List cCell)} {l : List cCell} (h : coeq o l = true) : o = some l := by
  unfold coeq at h
  split at h
  · rw [cseq_ok h]
  · cases h
theorem k_cs1_ok : cctor k_tab k_cl 3 9 [cblank 9] [(2, 0)] = some k_cs1 := coeq_ok (by decide +kernel)
/-- and those of a new SilenceMatchModel behind them -/
def k_cs2 : List cCell := [(9, 13, [(12, (2, (.ofNat 63))), (11, (2, (.ofNat 62))), (10, (2, (.ofNat 61))), (9, (2, (.ofNat 52))), (8, (2, (.ofNat 50))), (7, (2, (.ofNat 47))), (6, (2, (.ofNat 41))), (5, (2, (.ofNat 37))), (4, (2, (.ofNat 26))), (3, (2, (.ofNat 15))), (2, (2, (.ofNat 4))), (1, (2, (.ofNat 3))), (0, (2, (.ofNat 1))), (0, (3, (.ofNat 0))), (1, (3, (.ofNat 0))), (2, (3, (.ofNat 0))), (3, (3, (.ofNat 0))), (4, (3, (.ofNat 0))), (5, (3, (.ofNat 0))), (6, (3, (.ofNat 0))), (7, (3, (.ofNat 0))), (8, (3, (.ofNat 0))), (9, (3, (.ofNat 0))), (10, (3, (.ofNat 0))), (11, (3, (.ofNat 0))), (12, (3, (.ofNat 0)))], (3, (.ofNat 0))), (8, 2, [(0, (2, (.ofNat 2))), (0, (3, (.ofNat 0))), (1, (0, (.ofNat 0)))], (3, (.ofNat 0))), (100, 900, [], (0, (.ofNat 0))), (6, 6, [(2, (2, (.ofNat 1))), (5, (0, (.ofNat 0))), (4, (0, (.ofNat 0))), (3, (0, (.ofNat 0))), (1, (0, (.negSucc 0))), (0, (0, (.ofNat 0))), (0, (0, (.ofNat 0))), (1, (0, (.ofNat 0))), (2, (3, (.ofNat 0))), (3, (0, (.ofNat 0))), (4, (0, (.ofNat 0))), (5, (0, (.ofNat 0)))], (3, (.ofNat 0))), (3, 20, [(19, (2, (.ofNat 14))), (18, (2, (.ofNat 13))), (17, (2, (.ofNat 12))), (16, (2, (.ofNat 11))), (15, (2, (.ofNat 10))), (14, (2, (.ofNat 9))), (13, (2, (.ofNat 8))), (12, (2, (.ofNat 7))), (11, (2, (.ofNat 6))), (10, (2, (.ofNat 5))), (0, (0, (.ofNat 0))), (1, (0, (.ofNat 0))), (2, (0, (.ofNat 0))), (3, (0, (.ofNat 0))), (4, (0, (.ofNat 0))), (5, (0, (.ofNat 0))), (6, (0, (.ofNat 0))), (7, (0, (.ofNat 0))), (8, (0, (.ofNat 0))), (9, (0, (.ofNat 0))), (10, (3, (.ofNat 0))), (11, (3, (.ofNat 0))), (12, (3, (.ofNat 0))), (13, (3, (.ofNat 0))), (14, (3, (.ofNat 0))), (15, (3, (.ofNat 0))), (16, (3, (.ofNat 0))), (17, (3, (.ofNat 0))), (18, (3, (.ofNat 0))), (19, (3, (.ofNat 0)))], (3, (.ofNat 0))), (100, 8, [], (0, (.ofNat 0))), (100, 8, [], (0, (.ofNat 0))), (100, 8, [], (0, (.ofNat 0))), (100, 8, [], (0, (.ofNat 0))), (100, 4, [], (0, (.ofNat 0))), (100, 4, [], (0, (.ofNat 0))), (100, 3, [], (0, (.ofNat 0))), (100, 3, [], (0, (.ofNat 0))), (100, 9, [], (0, (.ofNat 0))), (100, 9, [], (0, (.ofNat 0))), (3, 20, [(19, (2, (.ofNat 25))), (18, (2, (.ofNat 24))), (17, (2, (.ofNat 23))), (16, (2, (.ofNat 22))), (15, (2, (.ofNat 21))), (14, (2, (.ofNat 20))), (13, (2, (.ofNat 19))), (12, (2, (.ofNat 18))), (11, (2, (.ofNat 17))), (10, (2, (.ofNat 16))), (0, (0, (.ofNat 0))), (1, (0, (.ofNat 0))), (2, (0, (.ofNat 0))), (3, (0, (.ofNat 0))), (4, (0, (.ofNat 0))), (5, (0, (.ofNat 0))), (6, (0, (.ofNat 0))), (7, (0, (.ofNat 0))), (8, (0, (.ofNat 0))), (9, (0, (.ofNat 0))), (10, (3, (.ofNat 0))), (11, (3, (.ofNat 0))), (12, (3, (.ofNat 0))), (13, (3, (.ofNat 0))), (14, (3, (.ofNat 0))), (15, (3, (.ofNat 0))), (16, (3, (.ofNat 0))), (17, (3, (.ofNat 0))), (18, (3, (.ofNat 0))), (19, (3, (.ofNat 0)))], (3, (.ofNat 0))), (100, 8, [], (0, (.ofNat 0))), (100, 8, [], (0, (.ofNat 0))), (100, 8, [], (0, (.ofNat 0))), (100, 8, [], (0, (.ofNat 0))), (100, 4, [], (0, (.ofNat 0))), (100, 4, [], (0, (.ofNat 0))), (100, 3, [], (0, (.ofNat 0))), (100, 3, [], (0, (.ofNat 0))), (100, 9, [], (0, (.ofNat 0))), (100, 9, [], (0, (.ofNat 0))), (3, 20, [(19, (2, (.ofNat 36))), (18, (2, (.ofNat 35))), (17, (2, (.ofNat 34))), (16, (2, (.ofNat 33))), (15, (2, (.ofNat 32))), (14, (2, (.ofNat 31))), (13, (2, (.ofNat 30))), (12, (2, (.ofNat 29))), (11, (2, (.ofNat 28))), (10, (2, (.ofNat 27))), (0, (0, (.ofNat 0))), (1, (0, (.ofNat 0))), (2, (0, (.ofNat 0))), (3, (0, (.ofNat 0))), (4, (0, (.ofNat 0))), (5, (0, (.ofNat 0))), (6, (0, (.ofNat 0))), (7, (0, (.ofNat 0))), (8, (0, (.ofNat 0))), (9, (0, (.ofNat 0))), (10, (3, (.ofNat 0))), (11, (3, (.ofNat 0))), (12, (3, (.ofNat 0))), (13, (3, (.ofNat 0))), (14, (3, (.ofNat 0))), (15, (3, (.ofNat 0))), (16, (3, (.ofNat 0))), (17, (3, (.ofNat 0))), (18, (3, (.ofNat 0))), (19, (3, (.ofNat 0)))], (3, (.ofNat 0))), (100, 8, [], (0, (.ofNat 0))), (100, 8, [], (0, (.ofNat 0))), (100, 8, [], (0, (.ofNat 0))), (100, 8, [], (0, (.ofNat 0))), (100, 4, [], (0, (.ofNat 0))), (100, 4, [], (0, (.ofNat 0))), (100, 3, [], (0, (.ofNat 0))), (100, 3, [], (0, (.ofNat 0))), (100, 9, [], (0, (.ofNat 0))), (100, 9, [], (0, (.ofNat 0))), (0, 4, [(3, (2, (.ofNat 40))), (2, (2, (.ofNat 39))), (1, (2, (.ofNat 38))), (0, (0, (.ofNat 0))), (1, (3, (.ofNat 0))), (2, (3, (.ofNat 0))), (3, (3, (.ofNat 0)))], (3, (.ofNat 0))), (101, 40, [], (0, (.ofNat 0))), (100, 40, [], (0, (.ofNat 0))), (100, 40, [], (0, (.ofNat 0))), (5, 9, [(4, (2, (.ofNat 46))), (3, (2, (.ofNat 45))), (2, (2, (.ofNat 44))), (1, (2, (.ofNat 43))), (0, (2, (.ofNat 42))), (0, (3, (.ofNat 0))), (1, (3, (.ofNat 0))), (2, (3, (.ofNat 0))), (3, (3, (.ofNat 0))), (4, (3, (.ofNat 0))), (5, (0, (.ofNat 0))), (6, (0, (.ofNat 0))), (7, (0, (.ofNat 0))), (8, (0, (.ofNat 0)))], (3, (.ofNat 0))), (100, 61, [], (0, (.ofNat 0))), (101, 61, [], (0, (.ofNat 0))), (100, 61, [], (0, (.ofNat 0))), (100, 61, [], (0, (.ofNat 0))), (2, 4, [(0, (0, (.ofNat 0))), (1, (0, (.ofNat 0))), (2, (1, (.ofNat 0))), (3, (0, (.ofNat 0)))], (3, (.ofNat 0))), (1, 5, [(2, (2, (.ofNat 49))), (0, (2, (.ofNat 48))), (0, (3, (.ofNat 0))), (1, (0, (.ofNat 0))), (2, (3, (.ofNat 0))), (3, (0, (.ofNat 0))), (4, (0, (.ofNat 0)))], (3, (.ofNat 0))), (100, 20, [], (0, (.ofNat 0))), (100, 20, [], (0, (.ofNat 0))), (4, 1, [(0, (2, (.ofNat 51))), (0, (3, (.ofNat 0)))], (3, (.ofNat 0))), (100, 13, [], (0, (.ofNat 0))), (104, 4, [(3, (2, (.ofNat 59))), (2, (2, (.ofNat 57))), (1, (2, (.ofNat 55))), (0, (2, (.ofNat 53)))], (3, (.ofNat 0))), (7, 3, [(2, (2, (.ofNat 54))), (0, (0, (.negSucc 0))), (0, (0, (.ofNat 0))), (1, (0, (.ofNat 0))), (2, (3, (.ofNat 0)))], (3, (.ofNat 0))), (103, 60, [], (1, (.ofNat 0))), (7, 3, [(2, (2, (.ofNat 56))), (0, (0, (.negSucc 0))), (0, (0, (.ofNat 0))), (1, (0, (.ofNat 0))), (2, (3, (.ofNat 0)))], (3, (.ofNat 0))), (103, 60, [], (1, (.ofNat 0))), (7, 3, [(2, (2, (.ofNat 58))), (0, (0, (.negSucc 0))), (0, (0, (.ofNat 0))), (1, (0, (.ofNat 0))), (2, (3, (.ofNat 0)))], (3, (.ofNat 0))), (103, 60, [], (1, (.ofNat 0))), (7, 3, [(2, (2, (.ofNat 60))), (0, (0, (.negSucc 0))), (0, (0, (.ofNat 0))), (1, (0, (.ofNat 0))), (2, (3, (.ofNat 0)))], (3, (.ofNat 0))), (103, 60, [], (1, (.ofNat 0))), (105, 3, [(2, (2, (.ofNat 94))), (1, (2, (.ofNat 79))), (0, (2, (.ofNat 64)))], (3, (.ofNat 0))), (106, 3, [(2, (2, (.ofNat 105))), (1, (2, (.ofNat 90))), (0, (2, (.ofNat 75)))], (3, (.ofNat 0))), (101, 3, [], (0, (.ofNat 0))), (3, 20, [(19, (2, (.ofNat 74))), (18, (2, (.ofNat 73))), (17, (2, (.ofNat 72))), (16, (2, (.ofNat 71))), (15, (2, (.ofNat 70))), (14, (2, (.ofNat 69))), (13, (2, (.ofNat 68))), (12, (2, (.ofNat 67))), (11, (2, (.ofNat 66))), (10, (2, (.ofNat 65))), (0, (0, (.ofNat 0))), (1, (0, (.ofNat 0))), (2, (0, (.ofNat 0))), (3, (0, (.ofNat 0))), (4, (0, (.ofNat 0))), (5, (0, (.ofNat 0))), (6, (0, (.ofNat 0))), (7, (0, (.ofNat 0))), (8, (0, (.ofNat 0))), (9, (0, (.ofNat 0))), (10, (3, (.ofNat 0))), (11, (3, (.ofNat 0))), (12, (3, (.ofNat 0))), (13, (3, (.ofNat 0))), (14, (3, (.ofNat 0))), (15, (3, (.ofNat 0))), (16, (3, (.ofNat 0))), (17, (3, (.ofNat 0))), (18, (3, (.ofNat 0))), (19, (3, (.ofNat 0)))], (3, (.ofNat 0))), (100, 8, [], (0, (.ofNat 0))), (100, 8, [], (0, (.ofNat 0))), (100, 8, [], (0, (.ofNat 0))), (100, 8, [], (0, (.ofNat 0))), (100, 4, [], (0, (.ofNat 0))), (100, 4, [], (0, (.ofNat 0))), (100, 3, [], (0, (.ofNat 0))), (100, 3, [], (0, (.ofNat 0))), (100, 9, [], (0, (.ofNat 0))), (100, 9, [], (0, (.ofNat 0))), (0, 4, [(3, (2, (.ofNat 78))), (2, (2, (.ofNat 77))), (1, (2, (.ofNat 76))), (0, (0, (.ofNat 0))), (1, (3, (.ofNat 0))), (2, (3, (.ofNat 0))), (3, (3, (.ofNat 0)))], (3, (.ofNat 0))), (101, 40, [], (0, (.ofNat 0))), (100, 40, [], (0, (.ofNat 0))), (100, 40, [], (0, (.ofNat 0))), (3, 20, [(19, (2, (.ofNat 89))), (18, (2, (.ofNat 88))), (17, (2, (.ofNat 87))), (16, (2, (.ofNat 86))), (15, (2, (.ofNat 85))), (14, (2, (.ofNat 84))), (13, (2, (.ofNat 83))), (12, (2, (.ofNat 82))), (11, (2, (.ofNat 81))), (10, (2, (.ofNat 80))), (0, (0, (.ofNat 0))), (1, (0, (.ofNat 0))), (2, (0, (.ofNat 0))), (3, (0, (.ofNat 0))), (4, (0, (.ofNat 0))), (5, (0, (.ofNat 0))), (6, (0, (.ofNat 0))), (7, (0, (.ofNat 0))), (8, (0, (.ofNat 0))), (9, (0, (.ofNat 0))), (10, (3, (.ofNat 0))), (11, (3, (.ofNat 0))), (12, (3, (.ofNat 0))), (13, (3, (.ofNat 0))), (14, (3, (.ofNat 0))), (15, (3, (.ofNat 0))), (16, (3, (.ofNat 0))), (17, (3, (.ofNat 0))), (18, (3, (.ofNat 0))), (19, (3, (.ofNat 0)))], (3, (.ofNat 0))), (100, 8, [], (0, (.ofNat 0))), (100, 8, [], (0, (.ofNat 0))), (100, 8, [], (0, (.ofNat 0))), (100, 8, [], (0, (.ofNat 0))), (100, 4, [], (0, (.ofNat 0))), (100, 4, [], (0, (.ofNat 0))), (100, 3, [], (0, (.ofNat 0))), (100, 3, [], (0, (.ofNat 0))), (100, 9, [], (0, (.ofNat 0))), (100, 9, [], (0, (.ofNat 0))), (0, 4, [(3, (2, (.ofNat 93))), (2, (2, (.ofNat 92))), (1, (2, (.ofNat 91))), (0, (0, (.ofNat 0))), (1, (3, (.ofNat 0))), (2, (3, (.ofNat 0))), (3, (3, (.ofNat 0)))], (3, (.ofNat 0))), (101, 40, [], (0, (.ofNat 0))), (100, 40, [], (0, (.ofNat 0))), (100, 40, [], (0, (.ofNat 0))), (3, 20, [(19, (2, (.ofNat 104))), (18, (2, (.ofNat 103))), (17, (2, (.ofNat 102))), (16, (2, (.ofNat 101))), (15, (2, (.ofNat 100))), (14, (2, (.ofNat 99))), (13, (2, (.ofNat 98))), (12, (2, (.ofNat 97))), (11, (2, (.ofNat 96))), (10, (2, (.ofNat 95))), (0, (0, (.ofNat 0))), (1, (0, (.ofNat 0))), (2, (0, (.ofNat 0))), (3, (0, (.ofNat 0))), (4, (0, (.ofNat 0))), (5, (0, (.ofNat 0))), (6, (0, (.ofNat 0))), (7, (0, (.ofNat 0))), (8, (0, (.ofNat 0))), (9, (0, (.ofNat 0))), (10, (3, (.ofNat 0))), (11, (3, (.ofNat 0))), (12, (3, (.ofNat 0))), (13, (3, (.ofNat 0))), (14, (3, (.ofNat 0))), (15, (3, (.ofNat 0))), (16, (3, (.ofNat 0))), (17, (3, (.ofNat 0))), (18, (3, (.ofNat 0))), (19, (3, (.ofNat 0)))], (3, (.ofNat 0))), (100, 8, [], (0, (.ofNat 0))), (100, 8, [], (0, (.ofNat 0))), (100, 8, [], (0, (.ofNat 0))), (100, 8, [], (0, (.ofNat 0))), (100, 4, [], (0, (.ofNat 0))), (100, 4, [], (0, (.ofNat 0))), (100, 3, [], (0, (.ofNat 0))), (100, 3, [], (0, (.ofNat 0))), (100, 9, [], (0, (.ofNat 0))), (100, 9, [], (0, (.ofNat 0))), (0, 4, [(3, (2, (.ofNat 108))), (2, (2, (.ofNat 107))), (1, (2, (.ofNat 106))), (0, (0, (.ofNat 0))), (1, (3, (.ofNat 0))), (2, (3, (.ofNat 0))), (3, (3, (.ofNat 0)))], (3, (.ofNat 0))), (101, 40, [], (0, (.ofNat 0))), (100, 40, [], (0, (.ofNat 0))), (100, 40, [], (0, (.ofNat 0))), (10, 38, [(37, (2, (.ofNat 127))), (36, (2, (.ofNat 126))), (35, (2, (.ofNat 125))), (34, (2, (.ofNat 124))), (31, (2, (.ofNat 123))), (30, (2, (.ofNat 122))), (29, (2, (.ofNat 121))), (28, (2, (.ofNat 120))), (19, (2, (.ofNat 119))), (18, (2, (.ofNat 118))), (17, (2, (.ofNat 117))), (16, (2, (.ofNat 116))), (15, (0, (.negSucc 0))), (14, (2, (.ofNat 115))), (13, (0, (.negSucc 0))), (6, (2, (.ofNat 114))), (4, (2, (.ofNat 113))), (3, (2, (.ofNat 112))), (2, (2, (.ofNat 111))), (1, (2, (.ofNat 110))), (0, (0, (.ofNat 0))), (1, (3, (.ofNat 0))), (2, (3, (.ofNat 0))), (3, (3, (.ofNat 0))), (4, (3, (.ofNat 0))), (5, (0, (.ofNat 0))), (6, (3, (.ofNat 0))), (7, (0, (.ofNat 0))), (8, (0, (.ofNat 0))), (9, (0, (.ofNat 0))), (10, (0, (.ofNat 0))), (11, (0, (.ofNat 0))), (12, (0, (.ofNat 0))), (13, (0, (.ofNat 0))), (14, (3, (.ofNat 0))), (15, (0, (.ofNat 0))), (16, (3, (.ofNat 0))), (17, (3, (.ofNat 0))), (18, (3, (.ofNat 0))), (19, (3, (.ofNat 0))), (20, (0, (.ofNat 0))), (21, (0, (.ofNat 0))), (22, (0, (.ofNat 0))), (23, (1, (.ofNat 0))), (24, (0, (.ofNat 0))), (25, (0, (.ofNat 0))), (26, (0, (.ofNat 0))), (27, (0, (.ofNat 0))), (28, (3, (.ofNat 0))), (29, (3, (.ofNat 0))), (30, (3, (.ofNat 0))), (31, (3, (.ofNat 0))), (32, (0, (.ofNat 0))), (33, (0, (.ofNat 0))), (34, (3, (.ofNat 0))), (35, (3, (.ofNat 0))), (36, (3, (.ofNat 0))), (37, (3, (.ofNat 0)))], (3, (.ofNat 0))), (100, 115, [], (0, (.ofNat 0))), (100, 345, [], (0, (.ofNat 0))), (101, 3, [], (0, (.ofNat 0))), (102, 900, [], (0, (.ofNat 0))), (100, 5, [], (0, (.ofNat 0))), (100, 115, [], (0, (.ofNat 0))), (100, 8, [], (0, (.ofNat 0))), (100, 8, [], (0, (.ofNat 0))), (100, 8, [], (0, (.ofNat 0))), (100, 8, [], (0, (.ofNat 0))), (100, 20, [], (0, (.ofNat 0))), (100, 20, [], (0, (.ofNat 0))), (100, 21, [], (0, (.ofNat 0))), (100, 240, [], (0, (.ofNat 0))), (100, 4, [(3, (0, (.negSucc 0))), (2, (0, (.negSucc 0))), (1, (0, (.negSucc 0))), (0, (0, (.negSucc 0)))], (0, (.ofNat 0))), (100, 4, [], (0, (.ofNat 0))), (103, 240, [], (1, (.ofNat 0))), (103, 60, [], (1, (.ofNat 0)))]
theorem k_cs2_ok : cctor k_tab k_cl 3 10 (k_cs1 ++ [cblank 10]) [(2, 109)] = some k_cs2 := coeq_ok (by decide +kernel)
theorem k_cs1_len : k_cs1.length = 109 := by decide +kernel
theorem k_cs2_len : k_cs2.length = 128 := by decide +kernel
end
section
/-! the executor's steps are the machine's -/
theorem cmap_get {f : Nat → cV} {d : cV} {j : Nat} : ∀ {l : List Nat}, j ∈ l → cget (l.map (fun i => (i, f i))) d j = f j
  | [], h => by cases h
  | a :: l, h => by
    show (match Nat.beq a j with
      | true => f a
      | false => cget (l.map (fun i => (i, f i))) d j) = f j
    cases hb : Nat.beq a j with
    | true => have := Nat.beq_eq.mp hb; subst this; rfl
    | false =>
      rcases List.mem_cons.mp h with rfl | h
      · rw [Nat.beq_refl] at hb; cases hb
      · exact cmap_get h
/-- a field's first value is known -/
def cdok (d : String) : Bool := match parseFieldDescriptor d with
  | some ty => match ty with
    | .float => false
    | .double => false
    | _ => true
  | none => false
theorem cdef_ok {d : String} {ty : FieldType} {n : Nat} (h : cdok d = true) (hp : parseFieldDescriptor d = some ty) : cval n (cdef d) = defaultValue ty := by
  unfold cdok at h
  unfold cdef
  rw [hp] at h ⊢
  cases ty <;> first | rfl | cases h
theorem cfit_ok {d : String} {v : cV} {n : Nat} (h : cfit d v = true) : ∃ ty, parseFieldDescriptor d = some ty ∧ narrow ty (cval n v) = cval n v ∧ fits ty (cval n v) = true := by
  unfold cfit at h
  cases hp : parseFieldDescriptor d with
  | none => simp [hp] at h
  | some ty =>
    simp only [hp] at h
    obtain ⟨k, z⟩ := v
    refine ⟨ty, rfl, ?_⟩
    cases ty with
    | int =>
      have e : k = 0 := Nat.beq_eq.mp h
      subst e
      exact ⟨rfl, rfl⟩
    | boolean =>
      simp only [Bool.and_eq_true, Bool.or_eq_true, decide_eq_true_eq] at h
      have e : k = 0 := Nat.beq_eq.mp h.1
      subst e
      rcases h.2 with e | e <;> subst e <;> exact ⟨rfl, rfl⟩
    | array t =>
      have e : k = 2 := Nat.beq_eq.mp h
      subst e
      exact ⟨rfl, rfl⟩
    | object t =>
      have e : k = 2 := Nat.beq_eq.mp h
      subst e
      exact ⟨rfl, rfl⟩
    | _ => cases h
theorem cfnd_mem {α : Type} : ∀ {l : List (Nat × α)} {i : Nat} {v : α}, cfnd l i = some v → (i, v) ∈ l
  | [], i, v, h => by cases h
  | q :: t, i, v, h => by
    unfold cfnd at h
    cases h1 : Nat.beq q.1 i with
    | false => rw [h1] at h; exact List.mem_cons_of_mem _ (cfnd_mem h)
    | true =>
      rw [h1] at h
      have e1 := Nat.beq_eq.mp h1
      have e3 : q.2 = v := Option.some.inj h
      subst e1; subst e3
      exact List.mem_cons_self
theorem cloc_mem : ∀ {l : List (Nat × cV)} {i : Nat} {v : cV}, cloc l i = some v → (i, v) ∈ l
  | [], i, v, h => by cases h
  | q :: t, i, v, h => by
    unfold cloc at h
    cases h1 : Nat.beq q.1 i with
    | false => rw [h1] at h; exact List.mem_cons_of_mem _ (cloc_mem h)
    | true =>
      rw [h1] at h
      have e1 := Nat.beq_eq.mp h1
      have e3 : q.2 = v := Option.some.inj h
      subst e1; subst e3
      exact List.mem_cons_self
def cLv (n : Nat) (l : List (Nat × cV)) : List (Nat × Value) := l.map (fun q => (q.1, cval n q.2))
def cSk (n : Nat) (l : List cV) : List Value := l.map (cval n)
theorem cLv_at {n nL i : Nat} {l : List (Nat × cV)} {v : cV} {ls : Array Slot} (h : lv_has ls nL (cLv n l)) (hv : cloc l i = some v) : ls[i]? = some (.val (cval n v)) :=
  h.2.2 (i, cval n v) (List.mem_map.mpr ⟨(i, v), cloc_mem hv, rfl⟩)
theorem ccat {n : Nat} {v : cV} (h : Nat.beq v.1 1 = false) : (cval n v).category = 1 := by
  obtain ⟨k, z⟩ := v
  match k, h with
  | 0, _ => rfl
  | 1, h => cases h
  | 2, _ => rfl
  | k + 3, _ => rfl
/-- a local set: those that are listed behind -/
theorem cLv_put {n nL i : Nat} {l : List (Nat × cV)} {v : cV} {ls : Array Slot} (h : lv_has ls nL ((i, cval n v) :: (cLv n l).filter (fun q => !(q.1 == i) && !(q.1 + 1 == i && q.2.category == 2)))) : lv_has ls nL (cLv n ((i, v) :: l.filter (fun q => !Nat.beq q.1 i && !Nat.beq q.2.1 1))) := by
  refine ⟨h.1, h.2.1, fun q hq => h.2.2 q ?_⟩
  obtain ⟨r, hr, rfl⟩ := List.mem_map.mp hq
  rcases List.mem_cons.mp hr with rfl | hr
  · exact List.mem_cons_self
  · obtain ⟨r1, r2⟩ := List.mem_filter.mp hr
    simp only [Bool.and_eq_true, Bool.not_eq_true'] at r2
    refine List.mem_cons_of_mem _ (List.mem_filter.mpr ⟨List.mem_map.mpr ⟨r, r1, rfl⟩, ?_⟩)
    have e1 : ¬ r.1 = i := fun e => by rw [e, Nat.beq_refl] at r2; cases r2.1
    have e2 := ccat (n := n) r2.2
    simp [e1, e2]
theorem c32 {z : Int} (h1 : -2147483648 ≤ z) (h2 : z ≤ 2147483647) : (Int32.ofInt z).toInt = z := Int32.toInt_ofInt_of_le h1 (by omega)
theorem cnat_ok {z : Int} {t : Nat} (h : cnat z = some t) : z = (t : Int) := by
  unfold cnat at h
  split at h
  · obtain rfl := Option.some.inj h; rfl
  · cases h
end
section
/-- what a pool's places say -/
def cPok (own : String) (P : cPl) (cl : List vw_C) (aty : List FieldType) (lw : List Cond) (ao : List String) : Prop :=
  (∀ q ∈ P.1, ∃ C Tf N, cl[q.2.1]? = some (C, Tf, N) ∧ Nat.blt q.2.1 100 = true ∧ q.2.2 < N ∧ Cond.fieldLink own q.1 (Tf q.2.2).1 (Tf q.2.2).2.1 (Tf q.2.2).2.2.1 ∈ lw ∧ ((Tf q.2.2).2.2.2 = true → (Tf q.2.2).1 = own)) ∧
  (∀ q ∈ P.2.1, ∃ C Tf N, cl[q.2]? = some (C, Tf, N) ∧ Nat.blt q.2 100 = true ∧ Cond.classLink own q.1 C ∈ lw ∧ Cond.instantiable C N ∈ lw ∧ Cond.initialized C ∈ lw ∧ ∀ j, j < N → cdok (Tf j).2.2.1 = true) ∧
  (∀ q ∈ P.2.2.1, ∃ C, aty[q.2]? = some (.object C) ∧ Cond.classLink own q.1 C ∈ lw ∧ C ∈ ao)
/-- what is known while a constructor runs -/
def cKn (cl : List vw_C) (aty : List FieldType) (nw : List Cond) (ao : List String) (D : va_G) (cA : Nat → Nat) (tys : List (ClassId × FieldType)) (U : State) : Prop := va_K D cl tys U ∧ (∀ (k : Nat) (ty : FieldType), aty[k]? = some ty → tys[k]? = some (cA k, ty)) ∧ (∀ w ∈ nw, va_Nw w U) ∧ ∀ C ∈ ao, va_AO C U
theorem cKn_kK {cl : List vw_C} {aty : List FieldType} {nw : List Cond} {ao : List String} {D : va_G} {cA : Nat → Nat} {tys : List (ClassId × FieldType)} {U : State} (aS : Nat → Nat) (h : cKn cl aty nw ao D cA tys U) : kK cl aty [] [] D cA aS U :=
  ⟨h.1.1, fun k ty hk => (h.1.2 k _ (h.2.1 k ty hk)).1, fun w hw => (by cases hw), fun i q hq => (by simp at hq)⟩
theorem kcell_to {D : va_G} {cA : Nat → ClassId} {T : kT} {a : Nat} {H : Heap} {V V' : Nat → Value} (hb : Nat.blt T.1 100 = true) (h : kcell D cA T a H V) (hv : ∀ j, j < T.2.1 → V j = V' j) : kcell D cA T a H V' := by
  unfold kcell at h ⊢
  rw [hb] at h ⊢
  exact t_OB.to h hv
section CSTEP
variable {p : Program} {l : Launch} {e : Env} {R : Room} {s : State} {m : MethodId} {args : Array Value} {below : List Frame} {meth : Method} {c : Code} {H H0 : Heap} {locs : List Loc} {Q : State → Prop}
variable {cc : ByteArray} {pc : Nat} {ls : Array Slot} {cl : List vw_C} {aty : List FieldType} {nw lw : List Cond} {ao : List String} {tys : List (ClassId × FieldType)} {D : va_G} {cA : Nat → Nat}
set_option maxHeartbeats 4000000 in
theorem cstep_ok {own : String} {P : cPl} {n nL mc ms pc' : Nat} {ins : Instr} {S S' : cSt} (hexec : p.tables.exec = Jvm.exec) (hb : c.code = cc) (hts : ∀ w ∈ lw, w.before args s = true) (hcl : kclok cl lw) (hown : s.vm.findClass own = some m.cls) (hin2 : meth.name = "<init>") (hK : cKn cl aty nw ao D cA tys s) (haty : aty = [.int, .boolean, .byte, .long, .object "SilenceMatch$Row", .object "SilenceMatch$Green", .object "SilenceMatch$Acts"]) (hcl0 : (∃ Tf N, cl[7]? = some ("SilenceMatch$Row", Tf, N)) ∧ (∃ Tf N, cl[3]? = some ("SilenceMatch$Green", Tf, N)) ∧ ∃ Tf N, cl[0]? = some ("SilenceMatch$Acts", Tf, N)) (haw : Cond.arrayClass .int ∈ lw ∧ Cond.arrayClass .boolean ∈ lw ∧ Cond.arrayClass .byte ∈ lw ∧ Cond.arrayClass .long ∈ lw) (hP : cPok own P cl aty lw ao) (hR : R.cells = mc ∧ R.slots = ms) (h : cHp D cA n H0 S.1 H) (hsz : n ≤ H.size) (hlv : lv_has ls nL (cLv n S.2.1)) (hd : decode cc pc = .ok (ins, cln ins)) (hs : cstep cl P nL mc ms pc ins (cln ins) S = some (pc', S'))
    (kk : ∀ H1 L ls1, cHp D cA n H0 S'.1 H1 → lv_has ls1 nL (cLv n S'.2.1) → (∀ q ∈ L, n ≤ q.base) → W p l e R s m args below meth c H1 (locs ++ L) S'.2.2.2.1 S'.2.2.2.2 Q (F0 m pc' ls1 (cSk n S'.2.2.1))) : W p l e R s m args below meth c H locs S.2.2.2.1 S.2.2.2.2 Q (F0 m pc ls (cSk n S.2.2.1)) := by
  obtain ⟨cs, loc, st, ce, sl⟩ := S
  dsimp only at h hlv ⊢
  have k0 : ∀ {ls1 : Array Slot}, S'.1 = cs → S'.2.2.2 = (ce, sl) → lv_has ls1 nL (cLv n S'.2.1) → W p l e R s m args below meth c H locs ce sl Q (F0 m pc' ls1 (cSk n S'.2.2.1)) := fun e1 e2 hl => by
    have := kk H [] _ (by rw [e1]; exact h) hl (fun q hq => by cases hq)
    rw [List.append_nil, e2] at this
    exact this
  unfold cstep at hs
  split at hs
  -- aload_n
  · rename_i i
    split at hs
    · rename_i v h1
      split at hs
      · rename_i h2
        cases hs
        obtain ⟨k, z⟩ := v
        have e : k = 2 := Nat.beq_eq.mp h2
        subst e
        exact lv_aload_n hexec hb hd rfl (cLv_at hlv h1) (k0 rfl rfl hlv)
      · cases hs
    · cases hs
  -- iload_n
  · rename_i i
    split at hs
    · rename_i v h1
      split at hs
      · rename_i h2
        cases hs
        obtain ⟨k, z⟩ := v
        have e : k = 0 := Nat.beq_eq.mp h2
        subst e
        exact lv_iload_n hexec hb hd rfl (cLv_at hlv h1) (k0 rfl rfl hlv)
      · cases hs
    · cases hs
  -- iconst
  · rename_i z
    cases hs
    exact lv_iconst hexec hb hd rfl (k0 rfl rfl hlv)
  -- bipush
  · rename_i z
    split at hs
    · rename_i h1
      cases hs
      have h1 := of_decide_eq_true h1
      refine lv_bipush hexec hb hd (v := Int32.ofInt z) ?_ (k0 rfl rfl hlv)
      apply Int32.toInt_inj.mp
      rw [Int8.toInt_toInt32, Int8.toInt_ofInt, show Int8.size = 256 from rfl, Int.bmod_eq_of_le (by omega) (by omega), c32 (by omega) (by omega)]
    · cases hs
  -- sipush
  · rename_i z
    split at hs
    · rename_i h1
      cases hs
      have h1 := of_decide_eq_true h1
      refine lv_sipush hexec hb hd (v := Int32.ofInt z) ?_ (k0 rfl rfl hlv)
      apply Int32.toInt_inj.mp
      rw [Int16.toInt_toInt32, Int16.toInt_ofInt, show Int16.size = 65536 from rfl, Int.bmod_eq_of_le (by omega) (by omega), c32 (by omega) (by omega)]
    · cases hs
  -- dup
  · split at hs
    · rename_i v st' h1
      split at hs
      · cases hs
      · rename_i h2
        cases hs
        dsimp only at h1
        subst h1
        exact lv_dup hexec hb hd (ccat h2) (k0 rfl rfl hlv)
    · cases hs
  -- istore_n
  · rename_i i
    split at hs
    · rename_i v st' h1
      split at hs
      · rename_i h2
        cases hs
        dsimp only at h1
        subst h1
        simp only [Bool.and_eq_true] at h2
        obtain ⟨k, z⟩ := v
        have e : k = 0 := Nat.beq_eq.mp h2.1
        subst e
        exact lv_istore_n hexec hb hd rfl hlv (Nat.blt_eq.mp h2.2) rfl (fun ls' hl' => k0 rfl rfl (cLv_put hl'))
      · cases hs
    · cases hs
  -- goto
  · rename_i off
    split at hs
    · rename_i t h1
      cases hs
      exact lv_goto hexec hb hd (cnat_ok h1) (k0 rfl rfl hlv)
    · cases hs
  -- if_icmp
  · rename_i off
    split at hs
    · rename_i y x st' h1
      dsimp only at h1
      subst h1
      split at hs
      · cases hs
      · rename_i h2
        have h2 := of_decide_eq_true h2
        have ex := c32 (z := x) (by omega) (by omega)
        have ey := c32 (z := y) (by omega) (by omega)
        have hiff : Int32.ofInt y ≤ Int32.ofInt x ↔ y ≤ x := by
          rw [Int32.le_iff_toInt_le, ex, ey]
        split at hs
        · cases hs
        · rename_i t h4
          split at hs
          · rename_i h3
            have h3 := of_decide_eq_true h3
            cases hs
            exact lv_icmp_ge (x := Int32.ofInt x) (y := Int32.ofInt y) hexec hb hd (cnat_ok h4) (fun _ => k0 rfl rfl hlv) (fun hn => absurd (hiff.mpr h3) hn)
          · rename_i h3
            have h3 := of_decide_eq_false h3
            cases hs
            exact lv_icmp_ge (x := Int32.ofInt x) (y := Int32.ofInt y) hexec hb hd (cnat_ok h4) (fun hy => absurd (hiff.mp hy) h3) (fun _ => k0 rfl rfl hlv)
    · cases hs
  -- new
  · rename_i idx
    split at hs
    · rename_i ci h1
      split at hs
      · rename_i C Tf N h2
        split at hs
        · rename_i h3
          cases hs
          simp only [Bool.and_eq_true] at h3
          obtain ⟨C', Tf', N', g1, g2, g3, g4, g5, g6⟩ := hP.2.1 _ (cfnd_mem h1)
          have e : (C', Tf', N') = (C, Tf, N) := Option.some.inj (g1.symm.trans h2)
          cases e
          refine q_new (cA := cA) hexec hb hts hcl hown g3 g4 g5 hK.1 g1 g2 (by rw [hR.1]; exact Nat.le_of_ble_eq_true h3.1) (by rw [hR.2]; exact Nat.le_of_ble_eq_true h3.2) hd (fun H1 V w1 w2 w3 w4 => ?_)
          have hk := kk H1 [] ls (cHp_push h w3 w4 (kcell_to g2 w1 (fun j hj => by
            obtain ⟨ty, y1, y2⟩ := w2 j hj
            rw [y2]
            unfold cVal
            dsimp only
            rw [cmap_get (f := fun j => cdef (Tf j).2.2.1) (List.mem_range.mpr hj)]
            exact (cdef_ok (g6 j hj) y1).symm))) hlv (fun q hq => by cases hq)
          rw [List.append_nil] at hk
          rw [show H.size = n + cs.length from h.1]
          exact hk
        · cases hs
      · cases hs
    · cases hs
  -- newarray
  · rename_i t
    split at hs
    · rename_i q N st' h1 h2
      dsimp only at h2
      subst h2
      split at hs
      · rename_i h3
        cases hs
        simp only [Bool.and_eq_true] at h3
        have hN := Nat.le_of_ble_eq_true h3.2.2
        have key : ∀ (ty : FieldType) (k : Nat) (d : cV), newarray.typeOf t = ty → (∀ C, ty ≠ .object C) → Cond.arrayClass ty ∈ lw → aty[k]? = some ty → N * componentBytes ty ≤ 536870912 → (∀ n, cval n d = defaultValue ty) → q = (k, d) → W p l e R s m args below meth c H locs ce sl Q (F0 m pc ls (cSk n ((0, .ofNat N) :: st'))) := by
          intro ty k d y1 y2 y3 y4 y5 y6 y7
          subst y7
          refine q_newa (cA := cA) (k := k) (N := N) (n := Int32.ofInt (.ofNat N)) hexec hb hts y1 y2 y3 hK.1 (hK.2.1 _ _ y4) (c32 (show _ ≤ (N : Int) by omega) (show (N : Int) ≤ _ by omega)) y5 (by rw [hR.1]; exact Nat.le_of_ble_eq_true h3.1) (by rw [hR.2]; exact Nat.le_of_ble_eq_true h3.2.1) hd (fun H1 w1 w3 w4 => ?_)
          have hk := kk H1 [] ls (cHp_push h w3 w4 (by
            have ev : (fun _ => defaultValue ty) = cVal n (100 + k, N, [], d) := by
              funext j
              exact (y6 n).symm
            rw [ev] at w1
            exact w1)) hlv (fun q hq => by cases hq)
          rw [List.append_nil] at hk
          rw [show H.size = n + cs.length from h.1]
          exact hk
        cases t <;> simp only [caty] at h1 <;> first
          | (cases h1; done)
          | exact key .int 0 (0, 0) rfl (fun _ h => by cases h) haw.1 (by rw [haty]; rfl) (by show N * 4 ≤ _; omega) (fun _ => rfl) (Option.some.inj h1).symm
          | exact key .boolean 1 (0, 0) rfl (fun _ h => by cases h) haw.2.1 (by rw [haty]; rfl) (by show N * 1 ≤ _; omega) (fun _ => rfl) (Option.some.inj h1).symm
          | exact key .byte 2 (0, 0) rfl (fun _ h => by cases h) haw.2.2.1 (by rw [haty]; rfl) (by show N * 1 ≤ _; omega) (fun _ => rfl) (Option.some.inj h1).symm
          | exact key .long 3 (1, 0) rfl (fun _ h => by cases h) haw.2.2.2 (by rw [haty]; rfl) (by show N * 8 ≤ _; omega) (fun _ => rfl) (Option.some.inj h1).symm
      · cases hs
    · cases hs
  -- anewarray
  · rename_i idx
    split at hs
    · rename_i k N st' h1 h2
      dsimp only at h2
      subst h2
      split at hs
      · rename_i h3
        cases hs
        simp only [Bool.and_eq_true] at h3
        have hN := Nat.le_of_ble_eq_true h3.2.2
        obtain ⟨C, g1, g2, g3⟩ := hP.2.2 _ (cfnd_mem h1)
        refine q_anew (cA := cA) (k := k) (N := N) (n := Int32.ofInt (.ofNat N)) hexec hb hts hown g2 (hK.2.2.2 C g3) hK.1 (hK.2.1 _ _ g1) (c32 (show _ ≤ (N : Int) by omega) (show (N : Int) ≤ _ by omega)) (by omega) (by rw [hR.1]; exact Nat.le_of_ble_eq_true h3.1) (by rw [hR.2]; exact Nat.le_of_ble_eq_true h3.2.1) hd (fun H1 w1 w3 w4 => ?_)
        have hk := kk H1 [] ls (cHp_push h w3 w4 w1) hlv (fun q hq => by cases hq)
        rw [List.append_nil] at hk
        rw [show H.size = n + cs.length from h.1]
        exact hk
      · cases hs
    · cases hs
  -- getfield
  · rename_i idx
    split at hs
    · rename_i q k st' h1 h2
      dsimp only at h2
      subst h2
      split at hs
      · rename_i cell h3
        split at hs
        · rename_i h4
          cases hs
          simp only [Bool.and_eq_true] at h4
          dsimp only at h3
          obtain ⟨C, Tf, N, g1, g2, g3, g4, -⟩ := hP.1 _ (cfnd_mem h1)
          have e := Nat.beq_eq.mp h4.1
          have hc := h.2.2 k cell h3
          exact r_get (T := (cell.1, cell.2.1, [], [])) (j := q.2) hexec hb hts hcl hown (cKn_kK (fun _ => 0) hK) (by show cl[cell.1]? = _; rw [e]; exact g1) (by show Nat.blt cell.1 100 = true; rw [e]; exact g2) g3 (Nat.blt_eq.mp h4.2) (hts _ g4) hc hd (k0 rfl rfl hlv)
        · cases hs
      · cases hs
    · cases hs
  -- putfield
  · rename_i idx
    split at hs
    · rename_i q v k st' h1 h2
      dsimp only at h2
      subst h2
      split at hs
      · rename_i cell C Tf N h3 h3b
        split at hs
        · rename_i h4
          cases hs
          simp only [Bool.and_eq_true] at h4
          dsimp only at h3
          obtain ⟨C', Tf', N', g1, g2, g3, g4, g5⟩ := hP.1 _ (cfnd_mem h1)
          have e0 : (C', Tf', N') = (C, Tf, N) := Option.some.inj (g1.symm.trans h3b)
          cases e0
          have ee := Nat.beq_eq.mp h4.1
          have eN := Nat.beq_eq.mp h4.2.2.1
          have hc := h.2.2 k cell h3
          obtain ⟨ty, y1, y2, y3⟩ := cfit_ok (n := n) h4.2.2.2
          have hkl : k < cs.length := (List.getElem?_eq_some_iff.mp h3).1
          have fin : ∀ (H1 : Heap) (i : Nat), kcell D cA (cell.1, cell.2.1, [], []) (n + k) H1 (updV (cVal n cell) q.2 (cval n v)) → H1.size = H.size → (∀ r, r ≠ n + k → H1[r]? = H[r]?) → W p l e R s m args below meth c H1 (locs ++ [⟨n + k, i⟩]) ce sl Q (F0 m (pc + 3) ls (cSk n st')) := fun H1 i w1 w2 w3 =>
            kk H1 [⟨n + k, i⟩] ls (cHp_set (c := (cell.1, cell.2.1, (q.2, v) :: cell.2.2.1, cell.2.2.2)) h hkl w2 w3 (by rw [cVal_upd]; exact w1)) hlv (fun r hr => by
              have e9 : r = ⟨n + k, i⟩ := by simpa using hr
              rw [e9]
              exact Nat.le_add_right n k)
          cases hfin : (Tf q.2).2.2.2 with
          | true =>
            rw [← ee] at g1 g2
            rw [← eN] at g1 g3
            exact q_putF (a := n + k) hexec hb hts hcl hown hK.1 g1 g2 g3 (hts _ g4) hfin hin2 (g5 hfin) y1 y2 y3 hc hd fin
          | false =>
            exact r_put (T := (cell.1, cell.2.1, [], [])) (a := n + k) hexec hb hts hcl hown (cKn_kK (fun _ => 0) hK) (by show cl[cell.1]? = _; rw [ee]; exact g1) (by show Nat.blt cell.1 100 = true; rw [ee]; exact g2) g3 eN (hts _ g4) hfin y1 y2 y3 hc hd fin
        · cases hs
      · cases hs
    · cases hs
  -- iastore
  · split at hs
    · rename_i z i k st' h1
      dsimp only at h1
      subst h1
      split at hs
      · rename_i cell h3
        split at hs
        · rename_i h4
          cases hs
          simp only [Bool.and_eq_true] at h4
          dsimp only at h3
          have ee := Nat.beq_eq.mp h4.1
          have hi := Nat.blt_eq.mp h4.2.1
          have hi2 := Nat.le_of_ble_eq_true h4.2.2
          have hc := h.2.2 k cell h3
          have hkl : k < cs.length := (List.getElem?_eq_some_iff.mp h3).1
          exact r_ast (T := (cell.1, cell.2.1, [], [])) (a := n + k) (ins := .iastore) (ty := .int) (v := .int (Int32.ofInt z)) (i := Int32.ofInt (.ofNat i)) (z := i) hexec hb (cKn_kK (fun _ => 0) hK) (by show aty[cell.1 - 100]? = _; rw [ee, haty]; rfl) (by show Nat.blt cell.1 100 = false; rw [ee]; rfl) rfl trivial (c32 (show _ ≤ (i : Int) by omega) (show (i : Int) ≤ _ by omega)) hi hc hd (fun H1 i0 w1 w2 w3 =>
            kk H1 [⟨n + k, i0⟩] ls (cHp_set (c := (cell.1, cell.2.1, (i, (0, z)) :: cell.2.2.1, cell.2.2.2)) h hkl w2 w3 (by rw [cVal_upd]; exact w1)) hlv (fun r hr => by
              have e9 : r = ⟨n + k, i0⟩ := by simpa using hr
              rw [e9]
              exact Nat.le_add_right n k))
        · cases hs
      · cases hs
    · cases hs
  -- aastore
  · split at hs
    · rename_i v i k st' h1
      dsimp only at h1
      subst h1
      split at hs
      · rename_i cell w h3 h3w
        split at hs
        · rename_i h4
          cases hs
          simp only [Bool.and_eq_true, Bool.or_eq_true] at h4
          dsimp only at h3 h3w
          have hi := Nat.blt_eq.mp h4.1
          have hi2 := Nat.le_of_ble_eq_true h4.2.1
          have hc := h.2.2 k cell h3
          have hw := h.2.2 v w h3w
          have hkl : k < cs.length := (List.getElem?_eq_some_iff.mp h3).1
          have key : ∀ (kt ci : Nat) (C : String) (Tf : u_T) (N : Nat), aty[kt]? = some (.object C) → cl[ci]? = some (C, Tf, N) → Nat.blt ci 100 = true → cell.1 = 100 + kt → w.1 = ci → W p l e R s m args below meth c H locs ce sl Q (F0 m pc ls (cSk n ((2, .ofNat v) :: (0, .ofNat i) :: (2, .ofNat k) :: st'))) := by
            intro kt ci C Tf N y1 y2 y3 y4 y5
            obtain ⟨c1, c2, c3, c4⟩ := cell
            obtain ⟨w1, w2, w3, w4⟩ := w
            dsimp only at y4 y5 hc hw hi
            subst y4
            subst y5
            exact q_aast (a := n + k) (v := n + v) (k := kt) (i := Int32.ofInt (.ofNat i)) (z := i) hexec hb hK.1 (hK.2.1 _ _ y1) y2 y3 hw hc (c32 (show _ ≤ (i : Int) by omega) (show (i : Int) ≤ _ by omega)) hi hd (fun H1 i0 x1 x2 x3 =>
              kk H1 [⟨n + k, i0⟩] ls (cHp_set (c := (100 + kt, c2, (i, (2, .ofNat v)) :: c3, c4)) h hkl x2 x3 (by rw [cVal_upd (c := (100 + kt, c2, c3, c4))]; exact x1)) hlv (fun r hr => by
                have e9 : r = ⟨n + k, i0⟩ := by simpa using hr
                rw [e9]
                exact Nat.le_add_right n k))
          rcases h4.2.2 with y | y | y
          · obtain ⟨Tf, N, hh⟩ := hcl0.1
            exact key 4 7 _ Tf N (by rw [haty]; rfl) hh rfl (Nat.beq_eq.mp y.1) (Nat.beq_eq.mp y.2)
          · obtain ⟨Tf, N, hh⟩ := hcl0.2.1
            exact key 5 3 _ Tf N (by rw [haty]; rfl) hh rfl (Nat.beq_eq.mp y.1) (Nat.beq_eq.mp y.2)
          · obtain ⟨Tf, N, hh⟩ := hcl0.2.2
            exact key 6 0 _ Tf N (by rw [haty]; rfl) hh rfl (Nat.beq_eq.mp y.1) (Nat.beq_eq.mp y.2)
        · cases hs
      · cases hs
    · cases hs
  -- iinc
  · rename_i i z
    split at hs
    · rename_i x h1
      split at hs
      · rename_i h2
        cases hs
        simp only [Bool.and_eq_true, decide_eq_true_eq] at h2
        have hm : (i, cval n (0, x)) ∈ cLv n loc := List.mem_map.mpr ⟨(i, (0, x)), cloc_mem h1, rfl⟩
        obtain ⟨kx, hkx⟩ := List.getElem?_of_mem hm
        refine lv_iinc (x := Int32.ofInt x) (v := Int32.ofInt (x + z)) hexec hb hd hlv hkx ?_ (Nat.blt_eq.mp h2.2) rfl (fun ls' hl' => k0 rfl rfl (cLv_put hl'))
        rw [Int32.ofInt_add]
      · cases hs
    · cases hs
  · cases hs
end CSTEP
end
section
/-! a constructor's body -/
def crm (E : cEn) : Room := { frames := E.2.2.2.2.1 + 1, cells := E.2.2.2.2.2.1, slots := E.2.2.2.2.2.2, locals := 40 * (E.2.2.2.2.1 + 1) }
theorem cKn_warm {cl : List vw_C} {aty : List FieldType} {nw : List Cond} {ao : List String} {D : va_G} {cA : Nat → Nat} {tys : List (ClassId × FieldType)} {s U : State} (hn : kNest nw) (hW : s.WarmedH U.vm) (h : cKn cl aty nw ao D cA tys s) : cKn cl aty nw ao D cA tys U := by
  refine ⟨va_K.moved hW.alike h.1, h.2.1, fun w hw => ?_, fun C hC => va_AO.moved hW.alike (h.2.2.2 C hC)⟩
  obtain ⟨a, i, x, y, rfl⟩ := hn w hw
  exact va_Nw.warmM hW (h.2.2.1 _ hw)
theorem cKn_call {cl : List vw_C} {aty : List FieldType} {nw : List Cond} {ao : List String} {D : va_G} {cA : Nat → Nat} {tys : List (ClassId × FieldType)} {U : State} {g : JFrame} {mk : MethodId} {a : Array Value} (hn : kNest nw) (h : cKn cl aty nw ao D cA tys U) : cKn cl aty nw ao D cA tys (U.calling g mk a) := by
  refine ⟨va_K.moved (Vm.Alike.refl U.vm) h.1, h.2.1, fun w hw => ?_, fun C hC => va_AO.moved (Vm.Alike.refl U.vm) (h.2.2.2 C hC)⟩
  obtain ⟨a', i, x, y, rfl⟩ := hn w hw
  exact va_Nw.same rfl (u := U) rfl (h.2.2.1 _ hw)
def cPc (cl : List vw_C) (aty : List FieldType) (nw : List Cond) (ao : List String) (D : va_G) (cA : Nat → Nat) (tys : List (ClassId × FieldType)) (n : Nat) (H0 : Heap) (cs : List cCell) (vs : List cV) (a : Array Value) (U : State) : Prop := a = (cSk n vs).toArray ∧ cKn cl aty nw ao D cA tys U ∧ cHp D cA n H0 cs U.heap
def cQc (D : va_G) (cA : Nat → Nat) (n : Nat) (H0 : Heap) (cs : List cCell) (_ : Array Value) (_ : State) (oc : Outcome) (t : State) : Prop := oc = .returned none ∧ cHp D cA n H0 cs t.heap
def cMet (l : Launch) (cl : List vw_C) (aty : List FieldType) (lg nw : List Cond) (ao : List String) (D : va_G) (cA : Nat → Nat) (tys : List (ClassId × FieldType)) (n : Nat) (H0 : Heap) (E : cEn) (cs : List cCell) (vs : List cV) (cs' : List cCell) : Prop :=
  Met l E.1.1 (Cond.code E.1.1 E.1.2.1 E.1.2.2.1 none :: lg) (crm E) (cPc cl aty nw ao D cA tys n H0 cs vs) (cQc D cA n H0 cs') E.2.2.2.2.2.1 E.2.2.2.2.2.2 (fun q => n ≤ q)
/-- the links to constructors -/
def cPoM (own : String) (P : cPl) (tab : List cEn) (lg nw : List Cond) : Prop := ∀ q ∈ P.2.2.2, (q.2 = 0 → Cond.methodLink own q.1 Lib.objectInit ∈ lg) ∧ ∀ (i : Nat) (E : cEn), q.2 = i + 1 → tab[i]? = some E → Cond.methodLink own q.1 E.1.1 ∈ lg ∨ ∃ host, Cond.methodLinkNest own q.1 E.1.1 host ∈ nw
/-- a constructor's words -/
def cEok (E : cEn) (lg : List Cond) : Prop := Cond.code E.1.1 E.1.2.1 E.1.2.2.1 none ∈ lg ∧ Cond.initialized E.1.1.cls ∈ lg ∧ Cond.instanceMethod E.1.1 ∈ lg ∧ E.1.1.name = "<init>" ∧ (E.1.1.cls ≠ "java/lang/invoke/MethodHandle" ∧ E.1.1.cls ≠ "java/lang/invoke/VarHandle") ∧ (parseMethodDescriptor E.1.1.desc).map (fun d => d.parameters.length) = some E.2.2.2.1 ∧ E.1.2.2.1 ≤ 21
theorem csum {n : Nat} : ∀ {l : List cV}, ((cSk n l).map fun v => v.category).sum ≤ 2 * l.length
  | [] => Nat.le_refl _
  | v :: l => by
    have h := csum (n := n) (l := l)
    have h2 : (cval n v).category ≤ 2 := by
      obtain ⟨k, z⟩ := v
      match k with
      | 0 => exact (by decide : (1 : Nat) ≤ 2)
      | 1 => exact Nat.le_refl 2
      | 2 => exact (by decide : (1 : Nat) ≤ 2)
      | k + 3 => exact (by decide : (1 : Nat) ≤ 2)
    show (cval n v).category + ((cSk n l).map fun v => v.category).sum ≤ 2 * (l.length + 1)
    omega
section CBODY
variable {p : Program} {l : Launch} {e : Env} {R : Room} {s : State} {m : MethodId} {args : Array Value} {below : List Frame} {meth : Method} {c : Code} {H H0 : Heap} {locs : List Loc} {Q : State → Prop} {cells slots mc ms : Nat}
variable {cc : ByteArray} {pc : Nat} {ls : Array Slot} {rest : List Value} {cl : List vw_C} {aty : List FieldType} {nw lg : List Cond} {ao : List String} {tys : List (ClassId × FieldType)} {D : va_G} {cA : Nat → Nat}
theorem c_then {st0 : List Value} {Qa : State → Outcome → State → Prop} {free : Addr → Prop} (hr : va_Run p l e R s m args below meth c H locs cells slots mc ms (F0 m pc ls st0) rest Qa free)
    (kk : ∀ (v : Option Value) (s0 t : State) (L : List Loc), s0.heap = H → Qa s0 (.returned v) t → (∀ q ∈ L, free q.base) → W p l e R s m args below meth c t.heap (locs ++ L) (cells + mc) (slots + ms) Q (F0 m (pc + 3) ls (v.toList ++ rest))) : W p l e R s m args below meth c H locs cells slots Q (F0 m pc ls st0) := by
  intro T hT X
  obtain ⟨v, s0, t, T', L, h0, X', hL, e1, e2, hq, st⟩ := hr T hT X
  obtain ⟨t2, a1, b1⟩ := kk v s0 t L h0 hq hL T' e1 X'
  exact ⟨t2, st t2 a1, b1⟩
/-- a call of a constructor -/
theorem c_call {E C : cEn} {n index nL : Nat} {cs cs' : List cCell} {st : List cV} {k : Int} {as : List cV} (hexec : p.tables.exec = Jvm.exec) (hb : c.code = cc) (hml : c.maxLocals = nL) (hown : s.vm.findClass E.1.1.cls = some m.cls) (hts : ∀ w ∈ lg, w.before args s = true) (hlg : ∀ w ∈ lg, goodWord w = true) (hn : kNest nw) (hK : cKn cl aty nw ao D cA tys s) (hC : cEok C lg) (hlt : C.2.2.2.2.1 < E.2.2.2.2.1) (hlink : Cond.methodLink E.1.1.cls index C.1.1 ∈ lg ∨ ∃ host, Cond.methodLinkNest E.1.1.cls index C.1.1 host ∈ nw) (hM : cMet l cl aty lg nw ao D cA tys n H0 C cs ((2, k) :: as) cs') (h : cHp D cA n H0 cs H) (hls : ls.size = nL) (has : as.length = C.2.2.2.1) (hst : st.length ≤ 4) (hc1 : cells + C.2.2.2.2.2.1 ≤ E.2.2.2.2.2.1) (hc2 : slots + C.2.2.2.2.2.2 ≤ E.2.2.2.2.2.2) (hd : decode cc pc = .ok (.invokespecial index, 3))
    (kk : ∀ (H1 : Heap) (L : List Loc), cHp D cA n H0 cs' H1 → (∀ q ∈ L, n ≤ q.base) → W p l e (crm E) s m args below meth c H1 (locs ++ L) (cells + C.2.2.2.2.2.1) (slots + C.2.2.2.2.2.2) Q (F0 m (pc + 3) ls (cSk n st))) : W p l e (crm E) s m args below meth c H locs cells slots Q (F0 m pc ls (cSk n (as.reverse ++ (2, k) :: st))) := by
  obtain ⟨c1, c2, c3, c4, c5, c6, c7⟩ := hC
  have hpar : ∀ sig, parseMethodDescriptor C.1.1.desc = some sig → C.2.2.2.1 = sig.parameters.length := fun sig hs => by
    rw [hs] at c6
    exact (Option.some.inj c6).symm
  have hpre : PreS s H (cPc cl aty nw ao D cA tys n H0 cs ((2, k) :: as)) (.ref (n + k.toNat) :: cSk n as) := ⟨fun a U g mk hh => ⟨hh.1, cKn_call hn hh.2.1, hh.2.2⟩, fun U hU hW => ⟨rfl, cKn_warm hn hW hK, by rw [hU]; exact h⟩⟩
  have hws : ∀ w ∈ (Cond.code C.1.1 C.1.2.1 C.1.2.2.1 none :: lg), ∀ (a' : Array Value) (U : State), s.WarmedH U.vm → w.before a' U = true := pay_in hts (fun w hw => by
    rcases List.mem_cons.mp hw with rfl | hw
    · exact ⟨c1, good_of_word (hlg _ c1)⟩
    · exact ⟨hw, good_of_word (hlg _ hw)⟩)
  have hfr : (crm C).frames + 1 ≤ (crm E).frames := by
    show C.2.2.2.2.1 + 1 + 1 ≤ E.2.2.2.2.1 + 1
    omega
  have hlo : 8 + (C.1.2.2.1 + 11) + (crm C).locals ≤ (crm E).locals := by
    show 8 + (C.1.2.2.1 + 11) + 40 * (C.2.2.2.2.1 + 1) ≤ 40 * (E.2.2.2.2.1 + 1)
    omega
  have hstk : (F0 m pc ls (cSk n (as.reverse ++ (2, k) :: st))).stack = (cSk n as).reverse ++ .ref (n + k.toNat) :: cSk n st := by
    show cSk n (as.reverse ++ (2, k) :: st) = _
    unfold cSk
    rw [List.map_append, List.map_reverse]
    rfl
  have hsum : 2 * (F0 m pc ls (cSk n (as.reverse ++ (2, k) :: st))).monitorRoom + ((cSk n st).map fun v => v.category).sum ≤ 8 := by
    have := csum (n := n) (l := st)
    show 2 * 0 + _ ≤ 8
    omega
  have hrun : va_Run p l e (crm E) s m args below meth c H locs cells slots C.2.2.2.2.2.1 C.2.2.2.2.2.2 (F0 m pc ls (cSk n (as.reverse ++ (2, k) :: st))) (cSk n st) (cQc D cA n H0 cs' (Value.ref (n + k.toNat) :: cSk n as).toArray) (fun q => n ≤ q) := by
    rcases hlink with w | ⟨host, w⟩
    · exact va_runI (nL := nL) (n := C.2.2.2.1) ⟨hexec, hb, hml, hown, hts⟩ hM ⟨⟨rfl, rfl, hfr, hlo, hws, List.mem_cons_self, hts _ c1, hts _ c2, c5, hpar, hts _ w⟩, c4, hts _ c3⟩ hpre rfl (by simp [cSk, has]) hls hstk hsum hd ⟨hc1, hc2⟩
    · exact va_runIN (nL := nL) (n := C.2.2.2.1) (host := host) ⟨hexec, hb, hml, hown, hts⟩ hM ⟨⟨⟨rfl, rfl, hfr, hlo, hws, List.mem_cons_self⟩, hts _ c1, hts _ c2, c5, hpar, va_Nw.use rfl (hK.2.2.1 _ w)⟩, c4, hts _ c3⟩ hpre rfl (by simp [cSk, has]) hls hstk hsum hd ⟨hc1, hc2⟩
  refine c_then hrun (fun v s0 t L h0 hq hL => ?_)
  obtain ⟨e1, e2⟩ := hq
  cases e1
  exact kk t.heap L e2 hL
end CBODY
end
section
/-! all constructors of the table -/
/-- what every constructor rests on -/
def cBase (l : Launch) (cl : List vw_C) (aty : List FieldType) (lg nw : List Cond) (ao : List String) (tab : List cEn) : Prop :=
  (∀ w ∈ lg, goodWord w = true) ∧ kNest nw ∧ kclok cl lg ∧ aty = [.int, .boolean, .byte, .long, .object "SilenceMatch$Row", .object "SilenceMatch$Green", .object "SilenceMatch$Acts"] ∧ ((∃ Tf N, cl[7]? = some ("SilenceMatch$Row", Tf, N)) ∧ (∃ Tf N, cl[3]? = some ("SilenceMatch$Green", Tf, N)) ∧ ∃ Tf N, cl[0]? = some ("SilenceMatch$Acts", Tf, N)) ∧ (Cond.arrayClass .int ∈ lg ∧ Cond.arrayClass .boolean ∈ lg ∧ Cond.arrayClass .byte ∈ lg ∧ Cond.arrayClass .long ∈ lg) ∧ (Cond.instanceMethod Lib.objectInit ∈ lg ∧ Cond.code Lib.objectInit ⟨#[0xb1]⟩ 1 none ∈ lg) ∧ ∀ (i : Nat) (E : cEn), tab[i]? = some E → cEok E lg ∧ cPok E.1.1.cls E.2.1 cl aty lg ao ∧ cPoM E.1.1.cls E.2.1 tab lg nw ∧ (∀ q ∈ E.2.2.1, decode E.1.2.1 q.1 = .ok (q.2.1, q.2.2)) ∧ plainName E.1.1.cls = true ∧ E.2.2.2.1 + 1 ≤ E.1.2.2.1
section CCTOR
variable {p : Program} {l : Launch} {e : Env} {s : State} {m : MethodId} {args : Array Value} {below : List Frame} {meth : Method} {c : Code} {H0 : Heap}
variable {cl : List vw_C} {aty : List FieldType} {nw lg : List Cond} {ao : List String} {tys : List (ClassId × FieldType)} {D : va_G} {cA : Nat → Nat} {tab : List cEn}
set_option maxHeartbeats 4000000 in
theorem cbody_ok {E : cEn} {call : Nat → List cCell → List cV → Option (List cCell)} {n : Nat} {cs' : List cCell} (hB : cBase l cl aty lg nw ao tab) (hE : cPok E.1.1.cls E.2.1 cl aty lg ao ∧ cPoM E.1.1.cls E.2.1 tab lg nw ∧ ∀ q ∈ E.2.2.1, decode E.1.2.1 q.1 = .ok (q.2.1, q.2.2)) (hexec : p.tables.exec = Jvm.exec) (hb : c.code = E.1.2.1) (hml : c.maxLocals = E.1.2.2.1) (hown : s.vm.findClass E.1.1.cls = some m.cls) (hts : ∀ w ∈ lg, w.before args s = true) (hin2 : meth.name = "<init>") (hrt : meth.sig.returnType = none) (hlk : meth.locks = false) (hK : cKn cl aty nw ao D cA tys s)
    (hcall : ∀ (i : Nat) (C : cEn) (cs : List cCell) (vs : List cV) (cs1 : List cCell), tab[i]? = some C → C.2.2.2.2.1 < E.2.2.2.2.1 → call i cs vs = some cs1 → cMet l cl aty lg nw ao D cA tys n H0 C cs vs cs1) :
    ∀ (f pc : Nat) (S : cSt) (H : Heap) (locs : List Loc) (ls : Array Slot), cbody tab cl call E f pc S = some cs' → cHp D cA n H0 S.1 H → lv_has ls E.1.2.2.1 (cLv n S.2.1) → (∀ q ∈ locs, n ≤ q.base) → W p l e (crm E) s m args below meth c H locs S.2.2.2.1 S.2.2.2.2 (MQ below (cQc D cA n H0 cs') args s E.2.2.2.2.2.1 E.2.2.2.2.2.2 (fun q => n ≤ q)) (F0 m pc ls (cSk n S.2.2.1)) := by
  obtain ⟨b1, b2, b3, b4, b5, b6, b7, b8⟩ := hB
  intro f
  induction f with
  | zero => intro pc S H locs ls hs; cases hs
  | succ f ih =>
    intro pc S H locs ls hs h hlv hlc
    unfold cbody at hs
    split at hs
    · cases hs
    · rename_i ins len h1
      have hd0 := hE.2.2 _ (cfnd_mem h1)
      split at hs
      · cases hs
      · rename_i h2
        have hd : decode E.1.2.1 pc = .ok (ins, cln ins) := by
          rw [← Nat.beq_eq.mp h2]
          exact hd0
        split at hs
        -- return
        · split at hs
          · rename_i h3
            split at hs
            · rename_i h4
              obtain rfl := Option.some.inj hs
              simp only [Bool.and_eq_true] at h4
              rw [h3]
              exact W.widen (Nat.le_of_ble_eq_true h4.1) (Nat.le_of_ble_eq_true h4.2) (W.vret hexec hb hrt (fun t ht _ => ⟨rfl, by rw [ht]; exact h⟩) hlc hd hlk)
            · cases hs
          · cases hs
        -- a call
        · rename_i idx
          split at hs
          · rename_i h3
            split at hs
            · rename_i z st h4
              split at hs
              · rename_i h5
                have hk := ih _ _ H locs ls hs h hlv hlc
                rw [h4]
                have := csum (n := n) (l := st)
                have h5 := Nat.le_of_ble_eq_true h5
                exact W.objInit hexec hb hown (hts _ ((hE.2.1 _ (cfnd_mem h3)).1 rfl)) (hts _ b7.1) (hts _ b7.2) rfl (by rw [hml]; exact hlv.1) rfl hd (by show 1 ≤ E.2.2.2.2.1 + 1; omega) (by show 2 * 0 + ((cSk n st).map fun v => v.category).sum + 12 ≤ 40 * (E.2.2.2.2.1 + 1); omega) hk
              · cases hs
            · cases hs
          · rename_i i h3
            split at hs
            · rename_i C h4
              split at hs
              · rename_i h5
                simp only [Bool.and_eq_true] at h5
                obtain ⟨g1, g2, g3, g4⟩ := h5
                have g1 := Nat.blt_eq.mp g1
                have g2 := Nat.le_of_ble_eq_true g2
                have g3 := Nat.le_of_ble_eq_true g3
                have g4 := Nat.le_of_ble_eq_true g4
                have hl := (hE.2.1 _ (cfnd_mem h3)).2 i C rfl h4
                have hCo := (b8 i C h4).1
                split at hs
                · rename_i k st h6 h7
                  split at hs
                  · rename_i cs1 h8
                    rw [h7] at g4 ⊢
                    exact c_call (as := []) (st := st) (k := k) hexec hb hml hown hts b1 b2 hK hCo g1 hl (hcall i C _ _ _ h4 g1 h8) h hlv.1 (by rw [h6]; rfl) (by simp at g4; omega) g2 g3 hd (fun H1 L w1 w2 => ih _ _ H1 _ ls hs w1 hlv (fun q hq => (List.mem_append.mp hq).elim (hlc q) (w2 q)))
                  · cases hs
                · rename_i j k st h6 h7
                  split at hs
                  · rename_i cs1 h8
                    rw [h7] at g4 ⊢
                    exact c_call (as := [(2, j)]) (st := st) (k := k) hexec hb hml hown hts b1 b2 hK hCo g1 hl (hcall i C _ _ _ h4 g1 h8) h hlv.1 (by rw [h6]; rfl) (by simp at g4; omega) g2 g3 hd (fun H1 L w1 w2 => ih _ _ H1 _ ls hs w1 hlv (fun q hq => (List.mem_append.mp hq).elim (hlc q) (w2 q)))
                  · cases hs
                · cases hs
              · cases hs
            · cases hs
          · cases hs
        -- all else
        · split at hs
          · rename_i q h3
            exact cstep_ok hexec hb hts b3 hown hin2 hK b4 b5 b6 hE.1 ⟨rfl, rfl⟩ h (by rw [h.1]; exact Nat.le_add_right _ _) hlv hd (by rw [Nat.beq_eq.mp h2] at h3; exact h3) (fun H1 L ls1 w1 w2 w3 => ih _ _ H1 _ ls1 hs w1 w2 (fun r hr => (List.mem_append.mp hr).elim (hlc r) (w3 r)))
          · cases hs
theorem cargs_ok {n : Nat} : ∀ {vs : List cV} {i : Nat}, vs.all (fun v => Nat.beq v.1 2) = true → cLv n (cargs i vs) = lv_args i (cSk n vs)
  | [], i, _ => rfl
  | v :: vs, i, h => by
    simp only [List.all_cons, Bool.and_eq_true] at h
    obtain ⟨k, z⟩ := v
    have e : k = 2 := Nat.beq_eq.mp h.1
    subst e
    show (i, cval n (2, z)) :: cLv n (cargs (i + 1) vs) = (i, cval n (2, z)) :: lv_args (i + 1) (cSk n vs)
    rw [cargs_ok h.2]
theorem csl_ok {n : Nat} : ∀ {vs : List cV}, vs.all (fun v => Nat.beq v.1 2) = true → (lg_sl (cSk n vs)).length = vs.length
  | [], _ => rfl
  | v :: vs, h => by
    simp only [List.all_cons, Bool.and_eq_true] at h
    obtain ⟨k, z⟩ := v
    have e : k = 2 := Nat.beq_eq.mp h.1
    subst e
    have ih := csl_ok (n := n) h.2
    show (lg_sl (cval n (2, z) :: cSk n vs)).length = vs.length + 1
    rw [← ih]
    rfl
theorem cctor_met (hB : cBase l cl aty lg nw ao tab) {n : Nat} : ∀ (d i : Nat) (cs : List cCell) (vs : List cV) (cs' : List cCell) (E : cEn), tab[i]? = some E → cctor tab cl d i cs vs = some cs' → cMet l cl aty lg nw ao D cA tys n H0 E cs vs cs'
  | 0, i, cs, vs, cs', E, _, h => by cases h
  | d + 1, i, cs, vs, cs', E, hi, h => by
    unfold cctor at h
    rw [hi] at h
    dsimp only at h
    split at h
    · rename_i h1
      simp only [Bool.and_eq_true] at h1
      obtain ⟨g1, g2, g3⟩ := h1
      obtain ⟨e1, e2, e3, e4, e5, e6⟩ := hB.2.2.2.2.2.2.2 i E hi
      refine Met.ofW (cc := E.1.2.1) (maxL := E.1.2.2.1) (ret := none) e5 rfl ?_
      intro p e s m args below meth c s₁ Bd hml hv
      obtain ⟨rfl, hK, hH⟩ := hv
      have hts : ∀ w ∈ lg, w.before (cSk n vs).toArray s = true := fun w hw => atoms_spec (ws := Cond.code E.1.1 E.1.2.1 E.1.2.2.1 none :: lg) Bd.pre w (List.mem_cons_of_mem _ hw)
      have hown : s.vm.findClass E.1.1.cls = some m.cls := findClass_of_methodNamed Bd.named
      have hin : meth.name = "<init>" := (name_of_methodNamed Bd.named Bd.method).1.trans e1.2.2.2.1
      have hlv0 := lv_entry (cSk n vs) (n := E.1.2.2.1) (by rw [csl_ok g2]; exact Nat.le_of_ble_eq_true g3)
      rw [← cargs_ok g2] at hlv0
      show W p l e (crm E) s m (cSk n vs).toArray below meth c s.heap [] 0 0 _ (entryFrame m (cSk n vs).toArray E.1.2.2.1)
      rw [lg_entry_eq]
      exact cbody_ok hB ⟨e2, e3, e4⟩ Bd.exec Bd.bytes hml hown hts hin Bd.returns Bd.notSynchronized hK (fun i C cs1 vs1 cs2 k1 k2 k3 => cctor_met hB d i cs1 vs1 cs2 C k1 k3) 600 0 (cs, cargs 0 vs, [], 0, 0) s.heap [] _ h hH hlv0 (fun q hq => by cases hq)
    · cases h
end CCTOR
end
section
/-! THE CONSTRUCTORS' WORDS -/
def k_nw : List Cond := [.methodLinkNest "SilenceMatch" 9 ⟨"SilenceMatch$Tape", "<init>", "()V"⟩ "SilenceMatch", .methodLinkNest "SilenceMatch" 27 ⟨"SilenceMatch$Green", "<init>", "()V"⟩ "SilenceMatch", .methodLinkNest "SilenceMatch" 40 ⟨"SilenceMatch$Acts", "<init>", "()V"⟩ "SilenceMatch", .methodLinkNest "SilenceMatch" 47 ⟨"SilenceMatch$Match", "<init>", "()V"⟩ "SilenceMatch", .methodLinkNest "SilenceMatch" 54 ⟨"SilenceMatch$Cover", "<init>", "()V"⟩ "SilenceMatch", .methodLinkNest "SilenceMatch" 61 ⟨"SilenceMatch$Heard", "<init>", "()V"⟩ "SilenceMatch", .methodLinkNest "SilenceMatch" 72 ⟨"SilenceMatch$Row", "<init>", "()V"⟩ "SilenceMatch", .methodLinkNest "SilenceMatch$Match" 27 ⟨"SilenceMatch$Draws", "<init>", "()V"⟩ "SilenceMatch"]
theorem k_nest : kNest k_nw := List.forall_mem_cons.mpr ⟨⟨_, _, _, _, rfl⟩, List.forall_mem_cons.mpr ⟨⟨_, _, _, _, rfl⟩, List.forall_mem_cons.mpr ⟨⟨_, _, _, _, rfl⟩, List.forall_mem_cons.mpr ⟨⟨_, _, _, _, rfl⟩, List.forall_mem_cons.mpr ⟨⟨_, _, _, _, rfl⟩, List.forall_mem_cons.mpr ⟨⟨_, _, _, _, rfl⟩, List.forall_mem_cons.mpr ⟨⟨_, _, _, _, rfl⟩, List.forall_mem_cons.mpr ⟨⟨_, _, _, _, rfl⟩, fun _ h => absurd h List.not_mem_nil⟩⟩⟩⟩⟩⟩⟩⟩
def k_ao : List String := ["SilenceMatch$Row", "SilenceMatch$Green", "SilenceMatch$Acts"]
theorem ceo_0 : cEok ce_0 k_lg := ⟨kwd_ok (p := 290) (by decide +kernel), kwd_ok (p := 103) (by decide +kernel), kwd_ok (p := 289) (by decide +kernel), rfl, by decide +kernel, by decide +kernel, by decide⟩
theorem cpo_0 : cPok ce_0.1.1.cls ce_0.2.1 k_cl k_aty k_lg k_ao := ⟨List.forall_mem_cons.mpr ⟨⟨_, _, _, rfl, rfl, by decide, kwd_ok (p := 294) (by decide +kernel), fun _ => rfl⟩, List.forall_mem_cons.mpr ⟨⟨_, _, _, rfl, rfl, by decide, kwd_ok (p := 295) (by decide +kernel), fun _ => rfl⟩, List.forall_mem_cons.mpr ⟨⟨_, _, _, rfl, rfl, by decide, kwd_ok (p := 296) (by decide +kernel), fun _ => rfl⟩, fun _ h => absurd h List.not_mem_nil⟩⟩⟩, fun _ h => absurd h List.not_mem_nil, fun _ h => absurd h List.not_mem_nil⟩
theorem cpm_0 : cPoM ce_0.1.1.cls ce_0.2.1 k_tab k_lg k_nw := List.forall_mem_cons.mpr ⟨⟨fun _ => kwd_ok (p := 291) (by decide +kernel), fun i E h => (by cases h)⟩, fun _ h => absurd h List.not_mem_nil⟩
theorem cdc_0 : ∀ q ∈ ce_0.2.2.1, decode ce_0.1.2.1 q.1 = .ok (q.2.1, q.2.2) := by decide +kernel
theorem ceo_1 : cEok ce_1 k_lg := ⟨kwd_ok (p := 370) (by decide +kernel), kwd_ok (p := 106) (by decide +kernel), kwd_ok (p := 369) (by decide +kernel), rfl, by decide +kernel, by decide +kernel, by decide⟩
theorem cpo_1 : cPok ce_1.1.1.cls ce_1.2.1 k_cl k_aty k_lg k_ao := ⟨List.forall_mem_cons.mpr ⟨⟨_, _, _, rfl, rfl, by decide, kwd_ok (p := 372) (by decide +kernel), fun _ => rfl⟩, List.forall_mem_cons.mpr ⟨⟨_, _, _, rfl, rfl, by decide, kwd_ok (p := 376) (by decide +kernel), fun _ => rfl⟩, fun _ h => absurd h List.not_mem_nil⟩⟩, fun _ h => absurd h List.not_mem_nil, fun _ h => absurd h List.not_mem_nil⟩
theorem cpm_1 : cPoM ce_1.1.1.cls ce_1.2.1 k_tab k_lg k_nw := List.forall_mem_cons.mpr ⟨⟨fun _ => kwd_ok (p := 371) (by decide +kernel), fun i E h => (by cases h)⟩, fun _ h => absurd h List.not_mem_nil⟩
theorem cdc_1 : ∀ q ∈ ce_1.2.2.1, decode ce_1.1.2.1 q.1 = .ok (q.2.1, q.2.2) := by decide +kernel
theorem ceo_2 : cEok ce_2 k_lg := ⟨kwd_ok (p := 317) (by decide +kernel), kwd_ok (p := 105) (by decide +kernel), kwd_ok (p := 316) (by decide +kernel), rfl, by decide +kernel, by decide +kernel, by decide⟩
theorem cpo_2 : cPok ce_2.1.1.cls ce_2.2.1 k_cl k_aty k_lg k_ao := ⟨fun _ h => absurd h List.not_mem_nil, fun _ h => absurd h List.not_mem_nil, fun _ h => absurd h List.not_mem_nil⟩
theorem cpm_2 : cPoM ce_2.1.1.cls ce_2.2.1 k_tab k_lg k_nw := List.forall_mem_cons.mpr ⟨⟨fun _ => kwd_ok (p := 318) (by decide +kernel), fun i E h => (by cases h)⟩, fun _ h => absurd h List.not_mem_nil⟩
theorem cdc_2 : ∀ q ∈ ce_2.2.2.1, decode ce_2.1.2.1 q.1 = .ok (q.2.1, q.2.2) := by decide +kernel
theorem ceo_3 : cEok ce_3 k_lg := ⟨kwd_ok (p := 172) (by decide +kernel), kwd_ok (p := 102) (by decide +kernel), kwd_ok (p := 171) (by decide +kernel), rfl, by decide +kernel, by decide +kernel, by decide⟩
theorem cpo_3 : cPok ce_3.1.1.cls ce_3.2.1 k_cl k_aty k_lg k_ao := ⟨List.forall_mem_cons.mpr ⟨⟨_, _, _, rfl, rfl, by decide, kwd_ok (p := 210) (by decide +kernel), fun _ => rfl⟩, List.forall_mem_cons.mpr ⟨⟨_, _, _, rfl, rfl, by decide, kwd_ok (p := 213) (by decide +kernel), fun _ => rfl⟩, List.forall_mem_cons.mpr ⟨⟨_, _, _, rfl, rfl, by decide, kwd_ok (p := 219) (by decide +kernel), fun _ => rfl⟩, List.forall_mem_cons.mpr ⟨⟨_, _, _, rfl, rfl, by decide, kwd_ok (p := 225) (by decide +kernel), fun _ => rfl⟩, List.forall_mem_cons.mpr ⟨⟨_, _, _, rfl, rfl, by decide, kwd_ok (p := 229) (by decide +kernel), fun _ => rfl⟩, List.forall_mem_cons.mpr ⟨⟨_, _, _, rfl, rfl, by decide, kwd_ok (p := 232) (by decide +kernel), fun _ => rfl⟩, List.forall_mem_cons.mpr ⟨⟨_, _, _, rfl, rfl, by decide, kwd_ok (p := 235) (by decide +kernel), fun _ => rfl⟩, List.forall_mem_cons.mpr ⟨⟨_, _, _, rfl, rfl, by decide, kwd_ok (p := 238) (by decide +kernel), fun _ => rfl⟩, List.forall_mem_cons.mpr ⟨⟨_, _, _, rfl, rfl, by decide, kwd_ok (p := 241) (by decide +kernel), fun _ => rfl⟩, List.forall_mem_cons.mpr ⟨⟨_, _, _, rfl, rfl, by decide, kwd_ok (p := 243) (by decide +kernel), fun _ => rfl⟩, fun _ h => absurd h List.not_mem_nil⟩⟩⟩⟩⟩⟩⟩⟩⟩⟩, fun _ h => absurd h List.not_mem_nil, fun _ h => absurd h List.not_mem_nil⟩
theorem cpm_3 : cPoM ce_3.1.1.cls ce_3.2.1 k_tab k_lg k_nw := List.forall_mem_cons.mpr ⟨⟨fun _ => kwd_ok (p := 173) (by decide +kernel), fun i E h => (by cases h)⟩, fun _ h => absurd h List.not_mem_nil⟩
theorem cdc_3 : ∀ q ∈ ce_3.2.2.1, decode ce_3.1.2.1 q.1 = .ok (q.2.1, q.2.2) := by decide +kernel
theorem ceo_4 : cEok ce_4 k_lg := ⟨kwd_ok (p := 394) (by decide +kernel), kwd_ok (p := 107) (by decide +kernel), kwd_ok (p := 393) (by decide +kernel), rfl, by decide +kernel, by decide +kernel, by decide⟩
theorem cpo_4 : cPok ce_4.1.1.cls ce_4.2.1 k_cl k_aty k_lg k_ao := ⟨List.forall_mem_cons.mpr ⟨⟨_, _, _, rfl, rfl, by decide, kwd_ok (p := 396) (by decide +kernel), fun _ => rfl⟩, fun _ h => absurd h List.not_mem_nil⟩, fun _ h => absurd h List.not_mem_nil, fun _ h => absurd h List.not_mem_nil⟩
theorem cpm_4 : cPoM ce_4.1.1.cls ce_4.2.1 k_tab k_lg k_nw := List.forall_mem_cons.mpr ⟨⟨fun _ => kwd_ok (p := 395) (by decide +kernel), fun i E h => (by cases h)⟩, fun _ h => absurd h List.not_mem_nil⟩
theorem cdc_4 : ∀ q ∈ ce_4.2.2.1, decode ce_4.1.2.1 q.1 = .ok (q.2.1, q.2.2) := by decide +kernel
theorem ceo_5 : cEok ce_5 k_lg := ⟨kwd_ok (p := 311) (by decide +kernel), kwd_ok (p := 104) (by decide +kernel), kwd_ok (p := 310) (by decide +kernel), rfl, by decide +kernel, by decide +kernel, by decide⟩
theorem cpo_5 : cPok ce_5.1.1.cls ce_5.2.1 k_cl k_aty k_lg k_ao := ⟨List.forall_mem_cons.mpr ⟨⟨_, _, _, rfl, rfl, by decide, kwd_ok (p := 333) (by decide +kernel), fun _ => rfl⟩, List.forall_mem_cons.mpr ⟨⟨_, _, _, rfl, rfl, by decide, kwd_ok (p := 335) (by decide +kernel), fun _ => rfl⟩, List.forall_mem_cons.mpr ⟨⟨_, _, _, rfl, rfl, by decide, kwd_ok (p := 337) (by decide +kernel), fun _ => rfl⟩, List.forall_mem_cons.mpr ⟨⟨_, _, _, rfl, rfl, by decide, kwd_ok (p := 339) (by decide +kernel), fun _ => rfl⟩, List.forall_mem_cons.mpr ⟨⟨_, _, _, rfl, rfl, by decide, kwd_ok (p := 341) (by decide +kernel), fun _ => rfl⟩, fun _ h => absurd h List.not_mem_nil⟩⟩⟩⟩⟩, List.forall_mem_cons.mpr ⟨⟨_, _, _, rfl, rfl, kwd_ok (p := 313) (by decide +kernel), kwd_ok (p := 314) (by decide +kernel), kwd_ok (p := 105) (by decide +kernel), by decide +kernel⟩, fun _ h => absurd h List.not_mem_nil⟩, fun _ h => absurd h List.not_mem_nil⟩
theorem cpm_5 : cPoM ce_5.1.1.cls ce_5.2.1 k_tab k_lg k_nw := List.forall_mem_cons.mpr ⟨⟨fun _ => kwd_ok (p := 312) (by decide +kernel), fun i E h => (by cases h)⟩, List.forall_mem_cons.mpr ⟨⟨fun h => (by cases h), fun i E h hE => (by cases h; cases hE; exact Or.inr ⟨_, List.mem_of_getElem? (i := 7) rfl⟩)⟩, fun _ h => absurd h List.not_mem_nil⟩⟩
theorem cdc_5 : ∀ q ∈ ce_5.2.2.1, decode ce_5.1.2.1 q.1 = .ok (q.2.1, q.2.2) := by decide +kernel
theorem ceo_6 : cEok ce_6 k_lg := ⟨kwd_ok (p := 145) (by decide +kernel), kwd_ok (p := 101) (by decide +kernel), kwd_ok (p := 144) (by decide +kernel), rfl, by decide +kernel, by decide +kernel, by decide⟩
theorem cpo_6 : cPok ce_6.1.1.cls ce_6.2.1 k_cl k_aty k_lg k_ao := ⟨List.forall_mem_cons.mpr ⟨⟨_, _, _, rfl, rfl, by decide, kwd_ok (p := 147) (by decide +kernel), fun _ => rfl⟩, List.forall_mem_cons.mpr ⟨⟨_, _, _, rfl, rfl, by decide, kwd_ok (p := 149) (by decide +kernel), fun _ => rfl⟩, List.forall_mem_cons.mpr ⟨⟨_, _, _, rfl, rfl, by decide, kwd_ok (p := 152) (by decide +kernel), fun _ => rfl⟩, List.forall_mem_cons.mpr ⟨⟨_, _, _, rfl, rfl, by decide, kwd_ok (p := 153) (by decide +kernel), fun _ => rfl⟩, List.forall_mem_cons.mpr ⟨⟨_, _, _, rfl, rfl, by decide, kwd_ok (p := 154) (by decide +kernel), fun _ => rfl⟩, List.forall_mem_cons.mpr ⟨⟨_, _, _, rfl, rfl, by decide, kwd_ok (p := 151) (by decide +kernel), fun _ => rfl⟩, fun _ h => absurd h List.not_mem_nil⟩⟩⟩⟩⟩⟩, fun _ h => absurd h List.not_mem_nil, fun _ h => absurd h List.not_mem_nil⟩
theorem cpm_6 : cPoM ce_6.1.1.cls ce_6.2.1 k_tab k_lg k_nw := List.forall_mem_cons.mpr ⟨⟨fun _ => kwd_ok (p := 146) (by decide +kernel), fun i E h => (by cases h)⟩, fun _ h => absurd h List.not_mem_nil⟩
theorem cdc_6 : ∀ q ∈ ce_6.2.2.1, decode ce_6.1.2.1 q.1 = .ok (q.2.1, q.2.2) := by decide +kernel
theorem ceo_7 : cEok ce_7 k_lg := ⟨kwd_ok (p := 405) (by decide +kernel), kwd_ok (p := 108) (by decide +kernel), kwd_ok (p := 404) (by decide +kernel), rfl, by decide +kernel, by decide +kernel, by decide⟩
theorem cpo_7 : cPok ce_7.1.1.cls ce_7.2.1 k_cl k_aty k_lg k_ao := ⟨List.forall_mem_cons.mpr ⟨⟨_, _, _, rfl, rfl, by decide, kwd_ok (p := 407) (by decide +kernel), fun _ => rfl⟩, List.forall_mem_cons.mpr ⟨⟨_, _, _, rfl, rfl, by decide, kwd_ok (p := 411) (by decide +kernel), fun _ => rfl⟩, fun _ h => absurd h List.not_mem_nil⟩⟩, fun _ h => absurd h List.not_mem_nil, fun _ h => absurd h List.not_mem_nil⟩
theorem cpm_7 : cPoM ce_7.1.1.cls ce_7.2.1 k_tab k_lg k_nw := List.forall_mem_cons.mpr ⟨⟨fun _ => kwd_ok (p := 406) (by decide +kernel), fun i E h => (by cases h)⟩, fun _ h => absurd h List.not_mem_nil⟩
theorem cdc_7 : ∀ q ∈ ce_7.2.2.1, decode ce_7.1.2.1 q.1 = .ok (q.2.1, q.2.2) := by decide +kernel
theorem ceo_8 : cEok ce_8 k_lg := ⟨kwd_ok (p := 129) (by decide +kernel), kwd_ok (p := 100) (by decide +kernel), kwd_ok (p := 128) (by decide +kernel), rfl, by decide +kernel, by decide +kernel, by decide⟩
theorem cpo_8 : cPok ce_8.1.1.cls ce_8.2.1 k_cl k_aty k_lg k_ao := ⟨List.forall_mem_cons.mpr ⟨⟨_, _, _, rfl, rfl, by decide, kwd_ok (p := 131) (by decide +kernel), fun _ => rfl⟩, fun _ h => absurd h List.not_mem_nil⟩, fun _ h => absurd h List.not_mem_nil, fun _ h => absurd h List.not_mem_nil⟩
theorem cpm_8 : cPoM ce_8.1.1.cls ce_8.2.1 k_tab k_lg k_nw := List.forall_mem_cons.mpr ⟨⟨fun _ => kwd_ok (p := 130) (by decide +kernel), fun i E h => (by cases h)⟩, fun _ h => absurd h List.not_mem_nil⟩
theorem cdc_8 : ∀ q ∈ ce_8.2.2.1, decode ce_8.1.2.1 q.1 = .ok (q.2.1, q.2.2) := by decide +kernel
theorem ceo_9 : cEok ce_9 k_lg := ⟨kwd_ok (p := 121) (by decide +kernel), kwd_ok (p := 99) (by decide +kernel), kwd_ok (p := 120) (by decide +kernel), rfl, by decide +kernel, by decide +kernel, by decide⟩
theorem cpo_9 : cPok ce_9.1.1.cls ce_9.2.1 k_cl k_aty k_lg k_ao := ⟨List.forall_mem_cons.mpr ⟨⟨_, _, _, rfl, rfl, by decide, kwd_ok (p := 423) (by decide +kernel), fun _ => rfl⟩, List.forall_mem_cons.mpr ⟨⟨_, _, _, rfl, rfl, by decide, kwd_ok (p := 424) (by decide +kernel), fun _ => rfl⟩, List.forall_mem_cons.mpr ⟨⟨_, _, _, rfl, rfl, by decide, kwd_ok (p := 425) (by decide +kernel), fun _ => rfl⟩, List.forall_mem_cons.mpr ⟨⟨_, _, _, rfl, rfl, by decide, kwd_ok (p := 426) (by decide +kernel), fun _ => rfl⟩, List.forall_mem_cons.mpr ⟨⟨_, _, _, rfl, rfl, by decide, kwd_ok (p := 427) (by decide +kernel), fun _ => rfl⟩, List.forall_mem_cons.mpr ⟨⟨_, _, _, rfl, rfl, by decide, kwd_ok (p := 428) (by decide +kernel), fun _ => rfl⟩, List.forall_mem_cons.mpr ⟨⟨_, _, _, rfl, rfl, by decide, kwd_ok (p := 429) (by decide +kernel), fun _ => rfl⟩, List.forall_mem_cons.mpr ⟨⟨_, _, _, rfl, rfl, by decide, kwd_ok (p := 430) (by decide +kernel), fun _ => rfl⟩, List.forall_mem_cons.mpr ⟨⟨_, _, _, rfl, rfl, by decide, kwd_ok (p := 431) (by decide +kernel), fun _ => rfl⟩, List.forall_mem_cons.mpr ⟨⟨_, _, _, rfl, rfl, by decide, kwd_ok (p := 432) (by decide +kernel), fun _ => rfl⟩, List.forall_mem_cons.mpr ⟨⟨_, _, _, rfl, rfl, by decide, kwd_ok (p := 433) (by decide +kernel), fun _ => rfl⟩, List.forall_mem_cons.mpr ⟨⟨_, _, _, rfl, rfl, by decide, kwd_ok (p := 434) (by decide +kernel), fun _ => rfl⟩, List.forall_mem_cons.mpr ⟨⟨_, _, _, rfl, rfl, by decide, kwd_ok (p := 435) (by decide +kernel), fun _ => rfl⟩, fun _ h => absurd h List.not_mem_nil⟩⟩⟩⟩⟩⟩⟩⟩⟩⟩⟩⟩⟩, List.forall_mem_cons.mpr ⟨⟨_, _, _, rfl, rfl, kwd_ok (p := 125) (by decide +kernel), kwd_ok (p := 126) (by decide +kernel), kwd_ok (p := 100) (by decide +kernel), by decide +kernel⟩, List.forall_mem_cons.mpr ⟨⟨_, _, _, rfl, rfl, kwd_ok (p := 141) (by decide +kernel), kwd_ok (p := 142) (by decide +kernel), kwd_ok (p := 101) (by decide +kernel), by decide +kernel⟩, List.forall_mem_cons.mpr ⟨⟨_, _, _, rfl, rfl, kwd_ok (p := 168) (by decide +kernel), kwd_ok (p := 169) (by decide +kernel), kwd_ok (p := 102) (by decide +kernel), by decide +kernel⟩, List.forall_mem_cons.mpr ⟨⟨_, _, _, rfl, rfl, kwd_ok (p := 286) (by decide +kernel), kwd_ok (p := 287) (by decide +kernel), kwd_ok (p := 103) (by decide +kernel), by decide +kernel⟩, List.forall_mem_cons.mpr ⟨⟨_, _, _, rfl, rfl, kwd_ok (p := 307) (by decide +kernel), kwd_ok (p := 308) (by decide +kernel), kwd_ok (p := 104) (by decide +kernel), by decide +kernel⟩, List.forall_mem_cons.mpr ⟨⟨_, _, _, rfl, rfl, kwd_ok (p := 366) (by decide +kernel), kwd_ok (p := 367) (by decide +kernel), kwd_ok (p := 106) (by decide +kernel), by decide +kernel⟩, List.forall_mem_cons.mpr ⟨⟨_, _, _, rfl, rfl, kwd_ok (p := 390) (by decide +kernel), kwd_ok (p := 391) (by decide +kernel), kwd_ok (p := 107) (by decide +kernel), by decide +kernel⟩, List.forall_mem_cons.mpr ⟨⟨_, _, _, rfl, rfl, kwd_ok (p := 400) (by decide +kernel), kwd_ok (p := 402) (by decide +kernel), kwd_ok (p := 108) (by decide +kernel), by decide +kernel⟩, fun _ h => absurd h List.not_mem_nil⟩⟩⟩⟩⟩⟩⟩⟩, List.forall_mem_cons.mpr ⟨⟨_, rfl, kwd_ok (p := 168) (by decide +kernel), by decide⟩, List.forall_mem_cons.mpr ⟨⟨_, rfl, kwd_ok (p := 286) (by decide +kernel), by decide⟩, List.forall_mem_cons.mpr ⟨⟨_, rfl, kwd_ok (p := 400) (by decide +kernel), by decide⟩, fun _ h => absurd h List.not_mem_nil⟩⟩⟩⟩
theorem cpm_9 : cPoM ce_9.1.1.cls ce_9.2.1 k_tab k_lg k_nw := List.forall_mem_cons.mpr ⟨⟨fun _ => kwd_ok (p := 122) (by decide +kernel), fun i E h => (by cases h)⟩, List.forall_mem_cons.mpr ⟨⟨fun h => (by cases h), fun i E h hE => (by cases h; cases hE; exact Or.inr ⟨_, List.mem_of_getElem? (i := 0) rfl⟩)⟩, List.forall_mem_cons.mpr ⟨⟨fun h => (by cases h), fun i E h hE => (by cases h; cases hE; exact Or.inl (kwd_ok (p := 143) (by decide +kernel)))⟩, List.forall_mem_cons.mpr ⟨⟨fun h => (by cases h), fun i E h hE => (by cases h; cases hE; exact Or.inr ⟨_, List.mem_of_getElem? (i := 1) rfl⟩)⟩, List.forall_mem_cons.mpr ⟨⟨fun h => (by cases h), fun i E h hE => (by cases h; cases hE; exact Or.inr ⟨_, List.mem_of_getElem? (i := 2) rfl⟩)⟩, List.forall_mem_cons.mpr ⟨⟨fun h => (by cases h), fun i E h hE => (by cases h; cases hE; exact Or.inr ⟨_, List.mem_of_getElem? (i := 3) rfl⟩)⟩, List.forall_mem_cons.mpr ⟨⟨fun h => (by cases h), fun i E h hE => (by cases h; cases hE; exact Or.inr ⟨_, List.mem_of_getElem? (i := 4) rfl⟩)⟩, List.forall_mem_cons.mpr ⟨⟨fun h => (by cases h), fun i E h hE => (by cases h; cases hE; exact Or.inr ⟨_, List.mem_of_getElem? (i := 5) rfl⟩)⟩, List.forall_mem_cons.mpr ⟨⟨fun h => (by cases h), fun i E h hE => (by cases h; cases hE; exact Or.inr ⟨_, List.mem_of_getElem? (i := 6) rfl⟩)⟩, fun _ h => absurd h List.not_mem_nil⟩⟩⟩⟩⟩⟩⟩⟩⟩
theorem cdc_9 : ∀ q ∈ ce_9.2.2.1, decode ce_9.1.2.1 q.1 = .ok (q.2.1, q.2.2) := by decide +kernel
theorem ceo_10 : cEok ce_10 k_lg := ⟨kwd_ok (p := 1220) (by decide +kernel), kwd_ok (p := 109) (by decide +kernel), kwd_ok (p := 1219) (by decide +kernel), rfl, by decide +kernel, by decide +kernel, by decide⟩
theorem cpo_10 : cPok ce_10.1.1.cls ce_10.2.1 k_cl k_aty k_lg k_ao := ⟨List.forall_mem_cons.mpr ⟨⟨_, _, _, rfl, rfl, by decide, kwd_ok (p := 1222) (by decide +kernel), fun _ => rfl⟩, List.forall_mem_cons.mpr ⟨⟨_, _, _, rfl, rfl, by decide, kwd_ok (p := 1223) (by decide +kernel), fun _ => rfl⟩, List.forall_mem_cons.mpr ⟨⟨_, _, _, rfl, rfl, by decide, kwd_ok (p := 1224) (by decide +kernel), fun _ => rfl⟩, List.forall_mem_cons.mpr ⟨⟨_, _, _, rfl, rfl, by decide, kwd_ok (p := 1225) (by decide +kernel), fun _ => rfl⟩, List.forall_mem_cons.mpr ⟨⟨_, _, _, rfl, rfl, by decide, kwd_ok (p := 1227) (by decide +kernel), fun _ => rfl⟩, List.forall_mem_cons.mpr ⟨⟨_, _, _, rfl, rfl, by decide, kwd_ok (p := 1234) (by decide +kernel), fun _ => rfl⟩, List.forall_mem_cons.mpr ⟨⟨_, _, _, rfl, rfl, by decide, kwd_ok (p := 1235) (by decide +kernel), fun _ => rfl⟩, List.forall_mem_cons.mpr ⟨⟨_, _, _, rfl, rfl, by decide, kwd_ok (p := 1236) (by decide +kernel), fun _ => rfl⟩, List.forall_mem_cons.mpr ⟨⟨_, _, _, rfl, rfl, by decide, kwd_ok (p := 1237) (by decide +kernel), fun _ => rfl⟩, List.forall_mem_cons.mpr ⟨⟨_, _, _, rfl, rfl, by decide, kwd_ok (p := 1238) (by decide +kernel), fun _ => rfl⟩, List.forall_mem_cons.mpr ⟨⟨_, _, _, rfl, rfl, by decide, kwd_ok (p := 1239) (by decide +kernel), fun _ => rfl⟩, List.forall_mem_cons.mpr ⟨⟨_, _, _, rfl, rfl, by decide, kwd_ok (p := 1240) (by decide +kernel), fun _ => rfl⟩, List.forall_mem_cons.mpr ⟨⟨_, _, _, rfl, rfl, by decide, kwd_ok (p := 1249) (by decide +kernel), fun _ => rfl⟩, List.forall_mem_cons.mpr ⟨⟨_, _, _, rfl, rfl, by decide, kwd_ok (p := 1250) (by decide +kernel), fun _ => rfl⟩, List.forall_mem_cons.mpr ⟨⟨_, _, _, rfl, rfl, by decide, kwd_ok (p := 1251) (by decide +kernel), fun _ => rfl⟩, List.forall_mem_cons.mpr ⟨⟨_, _, _, rfl, rfl, by decide, kwd_ok (p := 1252) (by decide +kernel), fun _ => rfl⟩, List.forall_mem_cons.mpr ⟨⟨_, _, _, rfl, rfl, by decide, kwd_ok (p := 1255) (by decide +kernel), fun _ => rfl⟩, List.forall_mem_cons.mpr ⟨⟨_, _, _, rfl, rfl, by decide, kwd_ok (p := 1256) (by decide +kernel), fun _ => rfl⟩, List.forall_mem_cons.mpr ⟨⟨_, _, _, rfl, rfl, by decide, kwd_ok (p := 1257) (by decide +kernel), fun _ => rfl⟩, List.forall_mem_cons.mpr ⟨⟨_, _, _, rfl, rfl, by decide, kwd_ok (p := 1258) (by decide +kernel), fun _ => rfl⟩, fun _ h => absurd h List.not_mem_nil⟩⟩⟩⟩⟩⟩⟩⟩⟩⟩⟩⟩⟩⟩⟩⟩⟩⟩⟩⟩, fun _ h => absurd h List.not_mem_nil, fun _ h => absurd h List.not_mem_nil⟩
theorem cpm_10 : cPoM ce_10.1.1.cls ce_10.2.1 k_tab k_lg k_nw := List.forall_mem_cons.mpr ⟨⟨fun _ => kwd_ok (p := 1221) (by decide +kernel), fun i E h => (by cases h)⟩, fun _ h => absurd h List.not_mem_nil⟩
theorem cdc_10 : ∀ q ∈ ce_10.2.2.1, decode ce_10.1.2.1 q.1 = .ok (q.2.1, q.2.2) := by decide +kernel
theorem k_tabok : ∀ E ∈ k_tab, cEok E k_lg ∧ cPok E.1.1.cls E.2.1 k_cl k_aty k_lg k_ao ∧ cPoM E.1.1.cls E.2.1 k_tab k_lg k_nw ∧ (∀ q ∈ E.2.2.1, decode E.1.2.1 q.1 = .ok (q.2.1, q.2.2)) ∧ plainName E.1.1.cls = true ∧ E.2.2.2.1 + 1 ≤ E.1.2.2.1 := List.forall_mem_cons.mpr ⟨⟨ceo_0, cpo_0, cpm_0, cdc_0, by decide +kernel, by decide⟩, List.forall_mem_cons.mpr ⟨⟨ceo_1, cpo_1, cpm_1, cdc_1, by decide +kernel, by decide⟩, List.forall_mem_cons.mpr ⟨⟨ceo_2, cpo_2, cpm_2, cdc_2, by decide +kernel, by decide⟩, List.forall_mem_cons.mpr ⟨⟨ceo_3, cpo_3, cpm_3, cdc_3, by decide +kernel, by decide⟩, List.forall_mem_cons.mpr ⟨⟨ceo_4, cpo_4, cpm_4, cdc_4, by decide +kernel, by decide⟩, List.forall_mem_cons.mpr ⟨⟨ceo_5, cpo_5, cpm_5, cdc_5, by decide +kernel, by decide⟩, List.forall_mem_cons.mpr ⟨⟨ceo_6, cpo_6, cpm_6, cdc_6, by decide +kernel, by decide⟩, List.forall_mem_cons.mpr ⟨⟨ceo_7, cpo_7, cpm_7, cdc_7, by decide +kernel, by decide⟩, List.forall_mem_cons.mpr ⟨⟨ceo_8, cpo_8, cpm_8, cdc_8, by decide +kernel, by decide⟩, List.forall_mem_cons.mpr ⟨⟨ceo_9, cpo_9, cpm_9, cdc_9, by decide +kernel, by decide⟩, List.forall_mem_cons.mpr ⟨⟨ceo_10, cpo_10, cpm_10, cdc_10, by decide +kernel, by decide⟩, fun _ h => absurd h List.not_mem_nil⟩⟩⟩⟩⟩⟩⟩⟩⟩⟩⟩
theorem k_base {l : Launch} : cBase l k_cl k_aty k_lg k_nw k_ao k_tab := ⟨k_lg_good, k_nest, k_clok, rfl, ⟨⟨_, _, rfl⟩, ⟨_, _, rfl⟩, ⟨_, _, rfl⟩⟩, ⟨kwd_ok (p := 140) (by decide +kernel), kwd_ok (p := 306) (by decide +kernel), kwd_ok (p := 640) (by decide +kernel), kwd_ok (p := 420) (by decide +kernel)⟩, ⟨kwd_ok (p := 123) (by decide +kernel), kwd_ok (p := 124) (by decide +kernel)⟩, fun i E h => k_tabok E (List.mem_of_getElem? h)⟩
end
section
/-! the new cells are as the types say -/
def cTy (n : Nat) (tl : List Nat) (a t : Nat) : Prop := ∃ k, a = n + k ∧ tl[k]? = some t
def cpokb (tl : List Nat) (p : kP) (v : cV) : Bool := match p with
  | .inl q => Nat.beq v.1 0 && (decide (-1000 ≤ v.2 ∧ v.2 ≤ 1000) && q.any (fun r => decide (r.1 ≤ v.2 ∧ v.2 ≤ r.2)))
  | .inr (.inl q) => Nat.beq v.1 1 && (decide (-1000 ≤ v.2 ∧ v.2 ≤ 1000) && q.any (fun r => decide (r.1 ≤ v.2 ∧ v.2 ≤ r.2)))
  | .inr (.inr t) => Nat.beq v.1 2 && (match v.2 with
    | .ofNat k => match tl[k]? with
      | some t' => Nat.beq t' t
      | none => false
    | _ => false)
theorem cpokb_ok {n : Nat} {tl : List Nat} {p : kP} {v : cV} (h : cpokb tl p v = true) : kpok (cTy n tl) p (cval n v) := by
  obtain ⟨k, z⟩ := v
  match p, h with
  | .inl q, h =>
    simp only [cpokb, Bool.and_eq_true, decide_eq_true_eq] at h
    obtain ⟨h1, h2, h3⟩ := h
    have e : k = 0 := Nat.beq_eq.mp h1
    subst e
    obtain ⟨r, hr, hb⟩ := List.any_eq_true.mp h3
    have hb := of_decide_eq_true hb
    have ez := c32 (z := z) (by omega) (by omega)
    exact ⟨Int32.ofInt z, rfl, r, hr, by rw [ez]; exact hb.1, by rw [ez]; exact hb.2⟩
  | .inr (.inl q), h =>
    simp only [cpokb, Bool.and_eq_true, decide_eq_true_eq] at h
    obtain ⟨h1, h2, h3⟩ := h
    have e : k = 1 := Nat.beq_eq.mp h1
    subst e
    obtain ⟨r, hr, hb⟩ := List.any_eq_true.mp h3
    have hb := of_decide_eq_true hb
    have ez : (Int64.ofInt z).toInt = z := Int64.toInt_ofInt_of_le (by omega) (by omega)
    exact ⟨Int64.ofInt z, rfl, r, hr, by rw [ez]; exact hb.1, by rw [ez]; exact hb.2⟩
  | .inr (.inr t), h =>
    simp only [cpokb, Bool.and_eq_true] at h
    obtain ⟨h1, h2⟩ := h
    have e : k = 2 := Nat.beq_eq.mp h1
    subst e
    split at h2
    · rename_i j
      split at h2
      · rename_i t' h3
        have e := Nat.beq_eq.mp h2
        subst e
        exact ⟨n + j, rfl, j, rfl, h3⟩
      · cases h2
    · cases h2
def cvalb (tl : List Nat) (T : kT) (c : cCell) : Bool := Nat.beq T.1 c.1 && (Nat.beq T.2.1 c.2.1 && (T.2.2.2.isEmpty && T.2.2.1.all (fun r => (List.range r.2.2.1).all (fun P => cpokb tl r.2.2.2 (cget c.2.2.1 c.2.2.2 (r.1 + r.2.1 * P))))))
theorem cvalb_ok {n : Nat} {tl : List Nat} {T : kT} {c : cCell} (h : cvalb tl T c = true) : T.1 = c.1 ∧ T.2.1 = c.2.1 ∧ kvals (cTy n tl) T (cVal n c) := by
  unfold cvalb at h
  simp only [Bool.and_eq_true] at h
  obtain ⟨h1, h2, h3, h4⟩ := h
  refine ⟨Nat.beq_eq.mp h1, Nat.beq_eq.mp h2, fun r hr P hP => cpokb_ok (List.all_eq_true.mp (List.all_eq_true.mp h4 r hr) P (List.mem_range.mpr hP)), fun r hr => ?_⟩
  rw [List.isEmpty_iff.mp h3] at hr
  cases hr
def cgoodb (tt : List kT) : List Nat → List Nat → List cCell → Bool
  | _, [], [] => true
  | tl, t :: ts, c :: cs => match tt[t]? with
    | some T => match cvalb tl T c && !Nat.beq t 12 with
      | true => cgoodb tt tl ts cs
      | false => false
    | none => false
  | _, _, _ => false
theorem cgoodb_ok {tt : List kT} {tl : List Nat} : ∀ {ts : List Nat} {cs : List cCell}, cgoodb tt tl ts cs = true → ∀ (k t : Nat), ts[k]? = some t → t ≠ 12 ∧ ∃ T c, tt[t]? = some T ∧ cs[k]? = some c ∧ cvalb tl T c = true
  | [], [], _, k, t, hk => by simp at hk
  | [], _ :: _, h, k, t, hk => by simp at hk
  | _ :: _, [], h, k, t, hk => by simp [cgoodb] at h
  | t0 :: ts, c :: cs, h, k, t, hk => by
    unfold cgoodb at h
    split at h
    · rename_i T h1
      split at h
      · rename_i h2
        simp only [Bool.and_eq_true, Bool.not_eq_true'] at h2
        cases k with
        | zero =>
          have e : t0 = t := by simpa using hk
          subst e
          exact ⟨fun e => by rw [e] at h2; exact absurd h2.2 (by decide), T, c, h1, rfl, h2.1⟩
        | succ k =>
          obtain ⟨a1, T', c', a2, a3, a4⟩ := cgoodb_ok h k t (by simpa using hk)
          exact ⟨a1, T', c', a2, by simpa using a3, a4⟩
      · cases h
    · cases h
theorem cgood_ok {D : va_G} {cA : Nat → ClassId} {tt : List kT} {tl : List Nat} {cs : List cCell} {n : Nat} {H0 H : Heap} (h : cgoodb tt tl tl cs = true) (hH : cHp D cA n H0 cs H) : kgood D cA tt (cTy n tl) n H := by
  refine ⟨fun a t T ha hT => ?_, fun a b c T To Tw V Vo Vw j z ha => ?_⟩
  · obtain ⟨k, rfl, hk⟩ := ha
    obtain ⟨-, T', c, a2, a3, a4⟩ := cgoodb_ok h k t hk
    have e : T' = T := Option.some.inj (a2.symm.trans hT)
    subst e
    obtain ⟨e1, e2, e3⟩ := cvalb_ok (n := n) a4
    refine ⟨Nat.le_add_right n k, cVal n c, ?_, e3⟩
    have hc := hH.2.2 k c a3
    unfold kcell at hc ⊢
    dsimp only at hc
    rw [e1, e2]
    exact hc
  · obtain ⟨k, rfl, hk⟩ := ha
    exact absurd rfl (cgoodb_ok h k 12 hk).1
end
section
/-- the types of the new cells -/
def k_tl : List Nat := [0, 1, 2, 3, 4, 5, 6, 7, 8, 9, 10, 11, 16, 17, 18, 4, 5, 6, 7, 8, 9, 10, 11, 16, 17, 18, 4, 5, 6, 7, 8, 9, 10, 11, 16, 17, 18, 60, 61, 62, 63, 19, 20, 21, 22, 23, 24, 25, 26, 27, 28, 29, 32, 30, 31, 30, 31, 30, 31, 30, 31, 33, 34, 35, 4, 5, 6, 7, 8, 9, 10, 11, 16, 17, 18, 60, 61, 62, 63, 4, 5, 6, 7, 8, 9, 10, 11, 16, 17, 18, 60, 61, 62, 63, 4, 5, 6, 7, 8, 9, 10, 11, 16, 17, 18, 60, 61, 62, 63, 36, 37, 38, 39, 40, 41, 42, 43, 44, 45, 46, 47, 48, 49, 50, 51, 52, 53, 54]
theorem k_good0 : cgoodb k0_tt k_tl k_tl k_cs2 = true := by decide +kernel
theorem k_good1 : cgoodb k1_tt k_tl k_tl k_cs2 = true := by decide +kernel
theorem k_typ0 : kTypb k0_tt = true := by decide +kernel
theorem k_typ1 : kTypb k1_tt = true := by decide +kernel
theorem cTy_fun {n : Nat} {tl : List Nat} : ∀ a t t', t < 1000 → t' < 1000 → cTy n tl a t → cTy n tl a t' → t = t' := fun a t t' _ _ h h' => by
  obtain ⟨k, e, hk⟩ := h
  obtain ⟨k', e', hk'⟩ := h'
  have ek : k = k' := by omega
  subst ek
  exact Option.some.inj (hk.symm.trans hk')
end
section
/-! what is known at the law's start -/
theorem s_prim {A : Array Value} {s : State} {ty : FieldType} (hobj : ∀ C, ty ≠ .object C) (h : (Cond.arrayClass ty).before A s = true) : ∃ cA, ArrOfT s cA ty ∧ va_RA s cA ty := by
  obtain ⟨cA, k, comp, h1, h2, h3⟩ := Cond.arrayClass_spec h
  refine ⟨cA, fun N z => ⟨(fun k h => by cases h), k, h2, comp, h3⟩, ?_⟩
  unfold va_RA
  split
  · rename_i C
    exact absurd rfl (hobj C)
  · exact h1
theorem s_obj {A : Array Value} {s : State} {C : String} (h : (Cond.arrayOver (.object C)).before A s = true) : ∃ cA, ArrOfT s cA (.object C) ∧ va_RA s cA (.object C) := by
  obtain ⟨comp, cA, k, h1, -, h2, h3, h4⟩ := Cond.arrayOver_spec h
  exact ⟨cA, fun N z => ⟨(fun k h => by cases h), k, h2, comp, h3⟩, k, comp, h2, h3, h1, h4⟩
/-- classes and arrays, by choice out of the words -/
theorem s_known {A : Array Value} {s : State} (hcl : ∀ (ci : Nat) (q : vw_C), k_cl[ci]? = some q → ∃ (cC : ClassId) (iS : Nat → Nat), u_Kn s q.1 q.2.1 q.2.2 cC iS) (hat : ∀ (k : Nat) (ty : FieldType), k_aty[k]? = some ty → ∃ cA, ArrOfT s cA ty ∧ va_RA s cA ty) (hnw : ∀ w ∈ k_nw, va_Nw w s) (hao : ∀ C ∈ k_ao, va_AO C s) : ∃ (D : va_G) (cA : Nat → Nat) (tys : List (ClassId × FieldType)), cKn k_cl k_aty k_nw k_ao D cA tys s := by
  have h1 : ∀ ci : Nat, ∃ d : ClassId × (Nat → Nat), ∀ q : vw_C, k_cl[ci]? = some q → u_Kn s q.1 q.2.1 q.2.2 d.1 d.2 := fun ci => by
    cases h : k_cl[ci]? with
    | none => exact ⟨(0, fun _ => 0), fun q hq => by cases hq⟩
    | some q =>
      obtain ⟨cC, iS, hk⟩ := hcl ci q h
      exact ⟨(cC, iS), fun q' hq => by cases hq; exact hk⟩
  have h2 : ∀ k : Nat, ∃ c : Nat, ∀ ty : FieldType, k_aty[k]? = some ty → ArrOfT s c ty ∧ va_RA s c ty := fun k => by
    cases h : k_aty[k]? with
    | none => exact ⟨0, fun q hq => by cases hq⟩
    | some ty =>
      obtain ⟨c, hc⟩ := hat k ty h
      exact ⟨c, fun ty' hq => by cases hq; exact hc⟩
  obtain ⟨d, hd⟩ := Classical.axiomOfChoice h1
  obtain ⟨cA, hA⟩ := Classical.axiomOfChoice h2
  refine ⟨(fun ci => (d ci).1, fun ci => (d ci).2), cA, (List.range k_aty.length).map (fun k => (cA k, k_aty.getD k .int)), ⟨fun ci q hq => hd ci q hq, fun k q hq => ?_⟩, fun k ty hk => ?_, hnw, hao⟩
  · obtain ⟨j, hj, rfl⟩ := List.mem_map.mp (List.mem_of_getElem? hq)
    have hl := List.mem_range.mp hj
    exact hA j _ (by rw [List.getD_eq_getElem?_getD, List.getElem?_eq_getElem hl]; rfl)
  · have hl := (List.getElem?_eq_some_iff.mp hk).1
    rw [List.getElem?_map, List.getElem?_range hl]
    simp [List.getD_eq_getElem?_getD, hk]
end
section
/-! the words at the law's start (printed by wip/p1/gen/start.py) -/
theorem s_inst : ∀ q ∈ k_cl, Cond.instantiable q.1 q.2.2 ∈ k_lg := List.forall_mem_cons.mpr ⟨kwd_ok (p := 287) (by decide +kernel), List.forall_mem_cons.mpr ⟨kwd_ok (p := 367) (by decide +kernel), List.forall_mem_cons.mpr ⟨kwd_ok (p := 314) (by decide +kernel), List.forall_mem_cons.mpr ⟨kwd_ok (p := 169) (by decide +kernel), List.forall_mem_cons.mpr ⟨kwd_ok (p := 391) (by decide +kernel), List.forall_mem_cons.mpr ⟨kwd_ok (p := 308) (by decide +kernel), List.forall_mem_cons.mpr ⟨kwd_ok (p := 142) (by decide +kernel), List.forall_mem_cons.mpr ⟨kwd_ok (p := 402) (by decide +kernel), List.forall_mem_cons.mpr ⟨kwd_ok (p := 126) (by decide +kernel), List.forall_mem_cons.mpr ⟨kwd_ok (p := 118) (by decide +kernel), List.forall_mem_cons.mpr ⟨kwd_ok (p := 1217) (by decide +kernel), fun _ h => absurd h List.not_mem_nil⟩⟩⟩⟩⟩⟩⟩⟩⟩⟩⟩
theorem s_nw : ∀ w ∈ k_nw, w ∈ lw_tbl := List.forall_mem_cons.mpr ⟨List.mem_of_getElem? (i := 127) (by decide +kernel), List.forall_mem_cons.mpr ⟨List.mem_of_getElem? (i := 170) (by decide +kernel), List.forall_mem_cons.mpr ⟨List.mem_of_getElem? (i := 288) (by decide +kernel), List.forall_mem_cons.mpr ⟨List.mem_of_getElem? (i := 309) (by decide +kernel), List.forall_mem_cons.mpr ⟨List.mem_of_getElem? (i := 368) (by decide +kernel), List.forall_mem_cons.mpr ⟨List.mem_of_getElem? (i := 392) (by decide +kernel), List.forall_mem_cons.mpr ⟨List.mem_of_getElem? (i := 403) (by decide +kernel), List.forall_mem_cons.mpr ⟨List.mem_of_getElem? (i := 315) (by decide +kernel), fun _ h => absurd h List.not_mem_nil⟩⟩⟩⟩⟩⟩⟩⟩
theorem s_nwt : ∀ w ∈ k_nw, w.onTables = true := List.forall_mem_cons.mpr ⟨rfl, List.forall_mem_cons.mpr ⟨rfl, List.forall_mem_cons.mpr ⟨rfl, List.forall_mem_cons.mpr ⟨rfl, List.forall_mem_cons.mpr ⟨rfl, List.forall_mem_cons.mpr ⟨rfl, List.forall_mem_cons.mpr ⟨rfl, List.forall_mem_cons.mpr ⟨rfl, fun _ h => absurd h List.not_mem_nil⟩⟩⟩⟩⟩⟩⟩⟩
theorem s_ao : ∀ C ∈ k_ao, Cond.arrayOver (.object C) ∈ lw_tbl := List.forall_mem_cons.mpr ⟨List.mem_of_getElem? (i := 401) (by decide +kernel), List.forall_mem_cons.mpr ⟨List.mem_of_getElem? (i := 421) (by decide +kernel), List.forall_mem_cons.mpr ⟨List.mem_of_getElem? (i := 422) (by decide +kernel), fun _ h => absurd h List.not_mem_nil⟩⟩⟩
theorem s_start {A : Array Value} {s : State} (l : Launch) (hts : ∀ w ∈ lw_tbl, w.before A s = true) : ∃ (D : va_G) (cA : Nat → Nat) (tys : List (ClassId × FieldType)), cKn k_cl k_aty k_nw k_ao D cA tys s := by
  have hlg : ∀ w ∈ k_lg, w.before A s = true := fun w hw => hts w (List.mem_filter.mp hw).1
  refine s_known (A := A) (fun ci q hq => ?_) (fun k ty hk => ?_) (fun w hw => va_Nw.of (s_nwt w hw) (hts w (s_nw w hw))) (fun C hC => va_AO.of (hts _ (s_ao C hC)))
  · obtain ⟨C, Tf, N⟩ := q
    exact u_known hlg (k_clok ci C Tf N hq).2 (hlg _ (s_inst _ (List.mem_of_getElem? hq)))
  · obtain ⟨-, -, -, -, -, b6, -, -⟩ := k_base (l := l)
    match k, hk with
    | 0, hk => cases hk; exact s_prim (fun _ h => by cases h) (hlg _ b6.1)
    | 1, hk => cases hk; exact s_prim (fun _ h => by cases h) (hlg _ b6.2.1)
    | 2, hk => cases hk; exact s_prim (fun _ h => by cases h) (hlg _ b6.2.2.1)
    | 3, hk => cases hk; exact s_prim (fun _ h => by cases h) (hlg _ b6.2.2.2)
    | 4, hk => cases hk; exact s_obj (hts _ (s_ao _ (by decide)))
    | 5, hk => cases hk; exact s_obj (hts _ (s_ao _ (by decide)))
    | 6, hk => cases hk; exact s_obj (hts _ (s_ao _ (by decide)))
    | k + 7, hk => cases hk
end
section
/-! THE LAW: its own makings and calls, in a room that is large enough -/
section LCALL
variable {p : Program} {l : Launch} {e : Env} {R : Room} {s : State} {m : MethodId} {args : Array Value} {below : List Frame} {meth : Method} {c : Code} {H H0 : Heap} {locs : List Loc} {Q : State → Prop} {cells slots : Nat}
variable {cc : ByteArray} {pc : Nat} {ls : Array Slot} {rest : List Value} {cl : List vw_C} {aty : List FieldType} {nw lg : List Cond} {ao : List String} {tys : List (ClassId × FieldType)} {D : va_G} {cA : Nat → Nat}
/-- a new object, its first values -/
theorem l_new {own C : String} {Tf : u_T} {n N ci index : Nat} {cs : List cCell} (hexec : p.tables.exec = Jvm.exec) (hb : c.code = cc) (hts : ∀ w ∈ lg, w.before args s = true) (hcl : kclok cl lg) (hown : s.vm.findClass own = some m.cls) (hlk : Cond.classLink own index C ∈ lg) (hin : Cond.instantiable C N ∈ lg) (hini : Cond.initialized C ∈ lg) (hK : va_K D cl tys s) (hc : cl[ci]? = some (C, Tf, N)) (h100 : Nat.blt ci 100 = true) (hcells : cells + 1 ≤ R.cells) (hslots : slots + N ≤ R.slots) (hdf : ∀ j, j < N → cdok (Tf j).2.2.1 = true) (h : cHp D cA n H0 cs H) (hd : decode cc pc = .ok (.new index, 3))
    (kk : ∀ H1 : Heap, cHp D cA n H0 (cs ++ [(ci, N, (List.range N).map (fun j => (j, cdef (Tf j).2.2.1)), (3, 0))]) H1 → W p l e R s m args below meth c H1 locs (cells + 1) (slots + N) Q (F0 m (pc + 3) ls (.ref (n + cs.length) :: rest))) : W p l e R s m args below meth c H locs cells slots Q (F0 m pc ls rest) := by
  refine q_new (cA := cA) hexec hb hts hcl hown hlk hin hini hK hc h100 hcells hslots hd (fun H1 V w1 w2 w3 w4 => ?_)
  have hk := kk H1 (cHp_push h w3 w4 (kcell_to h100 w1 (fun j hj => by
    obtain ⟨ty, y1, y2⟩ := w2 j hj
    rw [y2]
    unfold cVal
    dsimp only
    rw [cmap_get (f := fun j => cdef (Tf j).2.2.1) (List.mem_range.mpr hj)]
    exact (cdef_ok (hdf j hj) y1).symm)))
  rw [show H.size = n + cs.length from h.1]
  exact hk
/-- a constructor's call -/
theorem l_ctor {own : String} {C : cEn} {n index nL : Nat} {cs cs' : List cCell} {st : List Value} {k : Int} (hexec : p.tables.exec = Jvm.exec) (hb : c.code = cc) (hml : c.maxLocals = nL) (hown : s.vm.findClass own = some m.cls) (hts : ∀ w ∈ lg, w.before args s = true) (hlg : ∀ w ∈ lg, goodWord w = true) (hn : kNest nw) (hK : cKn cl aty nw ao D cA tys s) (hC : cEok C lg) (hR : (crm C).frames + 1 ≤ R.frames ∧ 8 + (C.1.2.2.1 + 11) + (crm C).locals ≤ R.locals) (hlink : Cond.methodLink own index C.1.1 ∈ lg) (hM : cMet l cl aty lg nw ao D cA tys n H0 C cs [(2, k)] cs') (h : cHp D cA n H0 cs H) (hls : ls.size = nL) (has : 0 = C.2.2.2.1) (hst : (st.map fun v => v.category).sum ≤ 8) (hc1 : cells + C.2.2.2.2.2.1 ≤ R.cells) (hc2 : slots + C.2.2.2.2.2.2 ≤ R.slots) (hd : decode cc pc = .ok (.invokespecial index, 3))
    (kk : ∀ (H1 : Heap) (L : List Loc), cHp D cA n H0 cs' H1 → (∀ q ∈ L, n ≤ q.base) → W p l e R s m args below meth c H1 (locs ++ L) (cells + C.2.2.2.2.2.1) (slots + C.2.2.2.2.2.2) Q (F0 m (pc + 3) ls st)) : W p l e R s m args below meth c H locs cells slots Q (F0 m pc ls (.ref (n + k.toNat) :: st)) := by
  obtain ⟨c1, c2, c3, c4, c5, c6, c7⟩ := hC
  have hpar : ∀ sig, parseMethodDescriptor C.1.1.desc = some sig → C.2.2.2.1 = sig.parameters.length := fun sig hs => by
    rw [hs] at c6
    exact (Option.some.inj c6).symm
  have hpre : PreS s H (cPc cl aty nw ao D cA tys n H0 cs [(2, k)]) [.ref (n + k.toNat)] := ⟨fun a U g mk hh => ⟨hh.1, cKn_call hn hh.2.1, hh.2.2⟩, fun U hU hW => ⟨rfl, cKn_warm hn hW hK, by rw [hU]; exact h⟩⟩
  have hws : ∀ w ∈ (Cond.code C.1.1 C.1.2.1 C.1.2.2.1 none :: lg), ∀ (a' : Array Value) (U : State), s.WarmedH U.vm → w.before a' U = true := pay_in hts (fun w hw => by
    rcases List.mem_cons.mp hw with rfl | hw
    · exact ⟨c1, good_of_word (hlg _ c1)⟩
    · exact ⟨hw, good_of_word (hlg _ hw)⟩)
  have hrun : va_Run p l e R s m args below meth c H locs cells slots C.2.2.2.2.2.1 C.2.2.2.2.2.2 (F0 m pc ls (.ref (n + k.toNat) :: st)) st (cQc D cA n H0 cs' [Value.ref (n + k.toNat)].toArray) (fun q => n ≤ q) :=
    va_runI (nL := nL) (n := C.2.2.2.1) ⟨hexec, hb, hml, hown, hts⟩ hM ⟨⟨rfl, rfl, hR.1, hR.2, hws, List.mem_cons_self, hts _ c1, hts _ c2, c5, hpar, hts _ hlink⟩, c4, hts _ c3⟩ hpre rfl has hls rfl (by show 2 * 0 + _ ≤ 8; omega) hd ⟨hc1, hc2⟩
  refine c_then hrun (fun v s0 t L h0 hq hL => ?_)
  obtain ⟨e1, e2⟩ := hq
  cases e1
  exact kk t.heap L e2 hL
end LCALL
section LINV
variable {p : Program} {l : Launch} {e : Env} {R : Room} {s : State} {m : MethodId} {args : Array Value} {below : List Frame} {meth : Method} {c : Code} {H : Heap} {locs : List Loc} {cells slots : Nat} {Q : State → Prop}
variable {cc : ByteArray} {pc : Nat} {ls : Array Slot} {rest : List Value} {cl : List vw_C} {aty : List FieldType} {nw lg : List Cond} {sk : kSk} {cA aS : Nat → Nat} {mt : List kMd} {X : State → Heap → Prop} {lo : Nat}
variable {D : va_G} {tt : List kT} {Ty : Nat → Nat → Prop} {env : List Int} {ren : List Nat} {S : kS} {lv : List (Nat × Value)} {st : List Value}
theorem k_callL {d d' : Nat} {y : MethodName} {b : ByteArray} {mL : Nat} {r : Option FieldType} (hts : ∀ w ∈ lg, w.before args s = true) (hlg : ∀ w ∈ lg, goodWord w = true) (hR : d ≤ 2000 ∧ 2048 ≤ R.frames ∧ 84000 ≤ R.locals) (hd : d' < d) (hmL : mL ≤ 21) (h1 : Cond.code y b mL r ∈ lg) : (krm d').cells = 0 ∧ (krm d').slots = 0 ∧ (krm d').frames + 1 ≤ R.frames ∧ 8 + (mL + 11) + (krm d').locals ≤ R.locals ∧ (∀ w ∈ (Cond.code y b mL r :: lg), ∀ (a' : Array Value) (U : State), s.WarmedH U.vm → w.before a' U = true) ∧ Cond.code y b mL r ∈ (Cond.code y b mL r :: lg) := by
  refine ⟨rfl, rfl, ?_, ?_, pay_in hts (fun w hw => ?_), List.mem_cons_self⟩
  · show d' + 1 ≤ R.frames
    omega
  · show 8 + (mL + 11) + 40 * d' ≤ R.locals
    omega
  · rcases List.mem_cons.mp hw with rfl | hw
    · exact ⟨h1, good_of_word (hlg _ h1)⟩
    · exact ⟨hw, good_of_word (hlg _ hw)⟩
set_option maxHeartbeats 4000000 in
theorem linv_ok {own : String} {ow : kOw} {cal : List (Nat × List Nat)} {ct : List kCt} {d nL idx : Nat} {wr : kW} {L : List kS} (hexec : p.tables.exec = Jvm.exec) (hb : c.code = cc) (hml : c.maxLocals = nL) (hR : d ≤ 2000 ∧ 2048 ≤ R.frames ∧ 84000 ≤ R.locals) (hcs : cells ≤ R.cells ∧ slots ≤ R.slots) (hown : s.vm.findClass own = some m.cls) (hts : ∀ w ∈ lg, w.before args s = true) (hlg : ∀ w ∈ lg, goodWord w = true) (how : kOwM own ow cl mt lg nw) (hK : kK cl aty nw sk D cA aS s) (hn : kNest nw) (hX : kXok X lo) (hXs : X s s.heap) (hTy : kTyp tt Ty) (hG : kgood D cA tt Ty lo H) (hfr : ∀ q, q < lo → H[q]? = s.heap[q]?)
    (hM : ∀ (i : Nat) (C : kCt), ct[i]? = some C → kMet l cl aty lg nw sk mt D cA aS tt Ty lo X C)
    (h : kst D cA tt Ty env ren S H lv st) (hls : ls.size = nL) (hd : decode cc pc = .ok (.invokevirtual idx, 3)) (hs : kinv tt aty ct ow cal wr d pc (.invokevirtual idx) S = some L)
    (kk : ∀ S' ∈ L, ∀ x u st' H' L', kgood D cA tt Ty lo H' → kfr lo H H' → kkp D cA tt Ty wr H H' → (∀ q ∈ L', lo ≤ q.base) → kst D cA tt Ty (env ++ x) (ren ++ u) S' H' lv st' → W p l e R s m args below meth c H' (locs ++ L') cells slots Q (F0 m (pc + 3) ls st')) : W p l e R s m args below meth c H locs cells slots Q (F0 m pc ls st) := by
  have hk := h.2.2.2.2.1
  unfold kinv at hs
  dsimp only at hs
  split at hs
  · rename_i q ids h1 h2
    split at hs
    · rename_i r avs ra h3
      split at hs
      · rename_i t h4
        split at hs
        · rename_i T h5
          split at hs
          · rename_i h6
            split at hs
            · rename_i h7
              split at hs
              · rename_i h8
                split at hs
                case h_2 => cases hs
                rename_i h9
                obtain ⟨i, C, g1, g2, g3, g4, g5⟩ := ktry_ok hs
                have hq := how _ (kfnd_mem h1)
                have e6 := Nat.beq_eq.mp h6
                have l7 : T.1 < 100 := Nat.blt_eq.mp h7
                have hne : Nat.beq q.2.2.1 102 = false := by
                  cases hb2 : Nat.beq q.2.2.1 102 with
                  | false => rfl
                  | true =>
                    have := Nat.beq_eq.mp hb2
                    omega
                simp only [hne] at hq
                obtain ⟨y, b, mL, rt, m1, m2, m3, m4, m5, m6, m8, m7, -⟩ := hq
                obtain ⟨w1, w2, w3, Tf, N, w4⟩ := m7 (by rw [← e6]; exact l7)
                obtain ⟨front, rs, f1, f2, f3, f4⟩ := ktake_ok (va := []) h3 hk trivial
                rw [List.append_nil] at f3
                cases hfv : front.reverse with
                | nil => rw [hfv] at f3; exact f3.elim
                | cons x0 As =>
                  rw [hfv] at f3
                  obtain ⟨⟨a, ea1, ea2⟩, f5⟩ := id f3
                  subst ea1
                  have hfr2 : front = As.reverse ++ [.ref a] := by
                    rw [← List.reverse_reverse front, hfv]
                    simp
                  have hlen : As.length = q.2.1 := by
                    have := congrArg List.length hfv
                    simp at this
                    omega
                  obtain ⟨zs, as, lv', c1, c2, c3⟩ := kcall_ok hTy hG h f3 f2 g5
                  have hta := h.2.2.1.2 r t a h4 ea2
                  obtain ⟨la, V, hca, hva⟩ := hG.1 a t T hta h5
                  unfold kcell at hca
                  rw [h7] at hca
                  obtain ⟨cell, p1, p2, p3, -⟩ := hca
                  have hMC := hM i C g1 y b mL rt (by rw [g2]; exact m1) zs as (Value.ref a :: As)
                  obtain ⟨b1, b2, b3, b4, b5, b6⟩ := k_callL (R := R) (d' := C.2.2.2.2.2) hts hlg hR g3 m6 m2
                  have hcls : s.vm.findClass y.cls = some cell.cls := by
                    obtain ⟨-, hfc, -⟩ := hK.1 q.2.2.1 _ w4
                    rw [p2, e6]
                    exact hfc
                  have hsl : (lg_sl (Value.ref a :: As)).length ≤ mL := by
                    rw [k_slen f3]
                    have g9 : 1 + kcsum avs ≤ q.2.2.2 := Nat.le_of_ble_eq_true h9
                    show 1 + kcsum avs ≤ mL
                    omega
                  have hrun := va_runV (cells := cells) (slots := slots) (locs := locs) (below := below) (e := e) (meth := meth) (H := H) (b := a) (As := As) (rest := rs) (C := y.cls) (g := F0 m pc ls st) ⟨hexec, hb, hml, hown, hts⟩ hMC ⟨⟨b1, b2, b3, b4, b5, b6, hts _ m2, hts _ m3, m5, fun sig hsig => by rw [hsig] at m4; exact (Option.some.inj m4).symm, hts _ w1⟩, hts _ w2, hts _ w3⟩
                    ⟨kPc_blind hn hX, ⟨cell, p1, by rw [p3]; rfl, hcls⟩, fun U hU hW => ⟨⟨rfl, hsl⟩, kK_warm hn hW hK, by rw [hU]; exact hX.1 s U s.heap H hW hXs hfr, by rw [hU]; exact hG, lv', by rw [hU]; exact c1, c2⟩⟩
                    rfl hlen hls (by show st = _; rw [f1, hfr2]; simp) (by
                      show 2 * 0 + _ ≤ 8
                      rw [kcsum_ok f2]
                      have := Nat.le_of_ble_eq_true h8
                      omega) hd ⟨by have := hcs.1; omega, by have := hcs.2; omega⟩
                  refine k_then hrun (fun v s0 t2 L2 hs0 hQ hL2 => ?_)
                  obtain ⟨v', q', x, u, ov, q1, q2, q3, q4, q5⟩ := hQ
                  cases ov
                  rw [hs0] at q4 q5
                  obtain ⟨S', r1, x', u', r2⟩ := c3 v q' x u t2.heap q1 q2 q4
                  exact kk S' r1 x' u' _ t2.heap L2 q3 q5 (kwsub_ok g4 q4) hL2 r2
              · cases hs
            · cases hs
          · cases hs
        · cases hs
      · cases hs
    · cases hs
  · cases hs
end LINV
end
section
/-! THE LAW'S CASES: two calls with the same arguments out of the script, their answers compared -/
def lwl (a b : Int32) : Int64 := (a.toInt64 <<< ((32 : Int32).toInt64 &&& 63)) ||| (b.toInt64 &&& 4294967295)
/-- the arguments by their kind: as many numbers, or (9) two numbers and a long -/
def lvs (xs : Nat → Int32) (i kd : Nat) : List Value := match kd with
  | 1 => [.int (xs (i + 1))]
  | 2 => [.int (xs (i + 1)), .int (xs (i + 2))]
  | 3 => [.int (xs (i + 1)), .int (xs (i + 2)), .int (xs (i + 3))]
  | 5 => [.int (xs (i + 1)), .int (xs (i + 2)), .int (xs (i + 3)), .int (xs (i + 4)), .int (xs (i + 5))]
  | 9 => [.int (xs (i + 1)), .int (xs (i + 2)), .long (lwl (xs (i + 3)) (xs (i + 4)))]
  | _ => []
def lav (kd : Nat) : List kV := match kd with
  | 1 => [.inl (ksym 0)]
  | 2 => [.inl (ksym 0), .inl (ksym 1)]
  | 3 => [.inl (ksym 0), .inl (ksym 1), .inl (ksym 2)]
  | 5 => [.inl (ksym 0), .inl (ksym 1), .inl (ksym 2), .inl (ksym 3), .inl (ksym 4)]
  | 9 => [.inl (ksym 0), .inl (ksym 1), .inr (.inl (ksym 5))]
  | _ => []
def lenv (xs : Nat → Int32) (i : Nat) : List Int := [(xs (i + 1)).toInt, (xs (i + 2)).toInt, (xs (i + 3)).toInt, (xs (i + 4)).toInt, (xs (i + 5)).toInt, (lwl (xs (i + 3)) (xs (i + 4))).toInt]
def lst (F : List kF) (st : List kV) : kS := ([k32, k32, k32, k32, k32, k64], [0, 36, 1], [], st, F, [])
def lgrp (pc : Nat) (k : Int) : kCd := [(pc, .aload_n 0, 1), (pc + 1, .iload_n 3, 1), (pc + 2, .iconst k, 1), (pc + 3, .iadd, 1), (pc + 4, .iaload, 1)]
def lwri (pc : Nat) : kCd := [(pc + 15, .i2l, 1), (pc + 16, .bipush 32, 2), (pc + 18, .lshl, 1), (pc + 24, .i2l, 1), (pc + 25, .ldc2_w 287, 3), (pc + 28, .land, 1), (pc + 29, .lor, 1)]
def lar (pc kd : Nat) : kCd := match kd with
  | 1 => lgrp pc 1
  | 2 => lgrp pc 1 ++ lgrp (pc + 5) 2
  | 3 => lgrp pc 1 ++ (lgrp (pc + 5) 2 ++ lgrp (pc + 10) 3)
  | 5 => lgrp pc 1 ++ (lgrp (pc + 5) 2 ++ (lgrp (pc + 10) 3 ++ (lgrp (pc + 15) 4 ++ lgrp (pc + 20) 5)))
  | 9 => lgrp pc 1 ++ (lgrp (pc + 5) 2 ++ (lgrp (pc + 10) 3 ++ (lgrp (pc + 19) 4 ++ lwri pc)))
  | _ => []
def laln (kd : Nat) : Nat := match kd with
  | 1 => 5
  | 2 => 10
  | 3 => 15
  | 5 => 25
  | 9 => 30
  | _ => 0
def lkok (kd : Nat) : Prop := kd = 0 ∨ kd = 1 ∨ kd = 2 ∨ kd = 3 ∨ kd = 5 ∨ kd = 9
theorem lav_ok {xs : Nat → Int32} {i kd : Nat} {ren : List Nat} (h : lkok kd) : kStk (lenv xs i) ren (lav kd) (lvs xs i kd) := by
  have e0 : kvok (lenv xs i) ren (.inl (ksym 0)) (.int (xs (i + 1))) := ⟨_, rfl, ksym_ev rfl⟩
  have e1 : kvok (lenv xs i) ren (.inl (ksym 1)) (.int (xs (i + 2))) := ⟨_, rfl, ksym_ev rfl⟩
  have e2 : kvok (lenv xs i) ren (.inl (ksym 2)) (.int (xs (i + 3))) := ⟨_, rfl, ksym_ev rfl⟩
  have e3 : kvok (lenv xs i) ren (.inl (ksym 3)) (.int (xs (i + 4))) := ⟨_, rfl, ksym_ev rfl⟩
  have e4 : kvok (lenv xs i) ren (.inl (ksym 4)) (.int (xs (i + 5))) := ⟨_, rfl, ksym_ev rfl⟩
  have e5 : kvok (lenv xs i) ren (.inr (.inl (ksym 5))) (.long (lwl (xs (i + 3)) (xs (i + 4)))) := ⟨_, rfl, ksym_ev rfl⟩
  rcases h with rfl | rfl | rfl | rfl | rfl | rfl
  · exact trivial
  · exact ⟨e0, trivial⟩
  · exact ⟨e0, e1, trivial⟩
  · exact ⟨e0, e1, e2, trivial⟩
  · exact ⟨e0, e1, e2, e3, e4, trivial⟩
  · exact ⟨e0, e1, e5, trivial⟩
theorem kStk_app {env : List Int} {ren : List Nat} : ∀ {l l' : List kV} {m m' : List Value}, kStk env ren l m → kStk env ren l' m' → kStk env ren (l ++ l') (m ++ m')
  | [], l', [], m', _, h' => h'
  | [], _, _ :: _, _, h, _ => h.elim
  | _ :: _, _, [], _, h, _ => h.elim
  | a :: l, l', b :: m, m', h, h' => ⟨h.1, kStk_app h.2 h'⟩
theorem kStk_rev {env : List Int} {ren : List Nat} : ∀ {l : List kV} {m : List Value}, kStk env ren l m → kStk env ren l.reverse m.reverse
  | [], [], _ => trivial
  | [], _ :: _, h => h.elim
  | _ :: _, [], h => h.elim
  | a :: l, b :: m, h => by
    rw [List.reverse_cons, List.reverse_cons]
    exact kStk_app (kStk_rev h.2) ⟨h.1, trivial⟩
theorem lenv_in {xs : Nat → Int32} {i : Nat} : kI (lenv xs i) [k32, k32, k32, k32, k32, k64] := by
  refine ⟨rfl, fun k q z hq hz => ?_⟩
  match k, hq, hz with
  | 0, hq, hz => cases hq; cases hz; exact k32_in _
  | 1, hq, hz => cases hq; cases hz; exact k32_in _
  | 2, hq, hz => cases hq; cases hz; exact k32_in _
  | 3, hq, hz => cases hq; cases hz; exact k32_in _
  | 4, hq, hz => cases hq; cases hz; exact k32_in _
  | 5, hq, hz => cases hq; cases hz; exact k64_in _
  | k + 6, hq, hz => cases hq
/-- what the case's code is -/
def lcdok (cc : ByteArray) (pc kd : Nat) (lg : Bool) (iA iB : Nat) : Prop :=
  decode cc pc = .ok (.aload_n 1, 1) ∧ (∀ q ∈ lar (pc + 1) kd, decode cc q.1 = .ok (q.2.1, q.2.2)) ∧ decode cc (pc + 1 + laln kd) = .ok (.invokevirtual iA, 3) ∧ decode cc (pc + 1 + laln kd + 3) = .ok (.aload_n 2, 1) ∧ (∀ q ∈ lar (pc + 1 + laln kd + 3 + 1) kd, decode cc q.1 = .ok (q.2.1, q.2.2)) ∧ decode cc (pc + 1 + laln kd + 3 + 1 + laln kd) = .ok (.invokevirtual iB, 3) ∧
  (lg = false → decode cc (pc + 1 + laln kd + 3 + 1 + laln kd + 3) = .ok (.if_icmp .eq (2122 - ((pc + 1 + laln kd + 3 + 1 + laln kd + 3 : Nat) : Int)), 3)) ∧
  (lg = true → decode cc (pc + 1 + laln kd + 3 + 1 + laln kd + 3) = .ok (.lcmp, 1) ∧ decode cc (pc + 1 + laln kd + 3 + 1 + laln kd + 3 + 1) = .ok (.ifCond .eq (2122 - ((pc + 1 + laln kd + 3 + 1 + laln kd + 3 + 1 : Nat) : Int)), 3))
def lkind (lg : Bool) (v : kV) : Bool := match lg, v with
  | false, .inl _ => true
  | true, .inr (.inl _) => true
  | _, _ => false
/-- both calls by their contracts: the answers are the same -/
def lcase (tt : List kT) (aty : List FieldType) (ct : List kCt) (ow : kOw) (cal : List (Nat × List Nat)) (wr : kW) (F : List kF) (pc kd : Nat) (lg : Bool) (iA iB : Nat) : Bool := match kinv tt aty ct ow cal wr 2000 (pc + 1 + laln kd) (.invokevirtual iA) (lst F ((lav kd).reverse ++ [.inr (.inr (.inl 0))])) with
  | some L => L.all (fun S => match kinv tt aty ct ow cal wr 2000 (pc + 1 + laln kd + 3 + 1 + laln kd) (.invokevirtual iB) (S.1, S.2.1, [], (lav kd).reverse ++ .inr (.inr (.inl 1)) :: S.2.2.2.1, S.2.2.2.2) with
    | some L2 => L2.all (fun S2 => match S2.2.2.2.1 with
      | [v, w] => lkind lg v && kveq S2 v w
      | _ => false)
    | none => false)
  | none => false
theorem kvok_uniq {env : List Int} {ren : List Nat} {lg : Bool} {v : kV} {x y : Value} (hk : lkind lg v = true) (hx : kvok env ren v x) (hy : kvok env ren v y) : x = y ∧ (lg = false → ∃ n, x = .int n) ∧ (lg = true → ∃ n, x = .long n) := by
  match lg, v, hk, hx, hy with
  | false, .inl f, _, ⟨n, e1, e2⟩, ⟨n', e3, e4⟩ =>
    have e : n = n' := Int32.toInt_inj.mp (Option.some.inj (e2.symm.trans e4))
    subst e
    exact ⟨e1.trans e3.symm, fun _ => ⟨n, e1⟩, fun h => by cases h⟩
  | true, .inr (.inl f), _, ⟨n, e1, e2⟩, ⟨n', e3, e4⟩ =>
    have e : n = n' := Int64.toInt_inj.mp (Option.some.inj (e2.symm.trans e4))
    subst e
    exact ⟨e1.trans e3.symm, fun h => (by cases h), fun _ => ⟨n, e1⟩⟩
  | false, .inr _, hk, _, _ => cases hk
  | true, .inl _, hk, _, _ => cases hk
  | true, .inr (.inr _), hk, _, _ => cases hk
section LCASE
variable {p : Program} {l : Launch} {e : Env} {R : Room} {s : State} {m : MethodId} {args : Array Value} {below : List Frame} {meth : Method} {c : Code} {H : Heap} {locs : List Loc} {cells slots : Nat} {Q : State → Prop}
variable {cc : ByteArray} {pc : Nat} {ls : Array Slot} {b L I : Nat} {i : Int32} {xs : Nat → Int32} {st : List Value}
/-- a number of the script -/
theorem l_grp {k : Int} {j : Nat} (hexec : p.tables.exec = Jvm.exec) (hb : c.code = cc) (hg : ∀ q ∈ lgrp pc k, decode cc q.1 = .ok (q.2.1, q.2.2)) (h0 : ls[0]? = some (.val (.ref b))) (h3 : ls[3]? = some (.val (.int i))) (hX : va_X b L xs s H) (hi : i.toInt = (I : Int)) (hk : k = (j : Int)) (hj : j < 6) (hIL : I + 6 ≤ L) (hL : L ≤ 100000)
    (kk : W p l e R s m args below meth c H locs cells slots Q (F0 m (pc + 5) ls (.int (xs (I + j)) :: st))) : W p l e R s m args below meth c H locs cells slots Q (F0 m pc ls st) := by
  have d0 := hg (pc, .aload_n 0, 1) (List.mem_cons_self)
  have d1 := hg (pc + 1, .iload_n 3, 1) (List.mem_cons_of_mem _ List.mem_cons_self)
  have d2 := hg (pc + 2, .iconst k, 1) (List.mem_cons_of_mem _ (List.mem_cons_of_mem _ List.mem_cons_self))
  have d3 := hg (pc + 3, .iadd, 1) (List.mem_cons_of_mem _ (List.mem_cons_of_mem _ (List.mem_cons_of_mem _ List.mem_cons_self)))
  have d4 := hg (pc + 4, .iaload, 1) (List.mem_cons_of_mem _ (List.mem_cons_of_mem _ (List.mem_cons_of_mem _ (List.mem_cons_of_mem _ List.mem_cons_self))))
  dsimp only at d0 d1 d2 d3 d4
  have ek : (Int32.ofInt k).toInt = (j : Int) := by rw [hk]; exact c32 (by omega) (by omega)
  have es : (i + Int32.ofInt k).toInt = ((I + j : Nat) : Int) := by
    rw [Int32.toInt_add, hi, ek, k32_bm (by show (-2147483648 : Int) ≤ _; omega) (by show _ ≤ (2147483647 : Int); omega)]
    omega
  have en : (i + Int32.ofInt k).toNatClampNeg = I + j := by
    show (i + Int32.ofInt k).toInt.toNat = I + j
    rw [es]; rfl
  obtain ⟨scr, x1, x2, x3, x4, x5⟩ := hX
  refine lv_aload_n hexec hb d0 rfl h0 ?_
  refine lv_iload_n hexec hb d1 rfl h3 ?_
  refine lv_iconst hexec hb d2 rfl ?_
  refine lv_iadd hexec hb d3 ?_
  exact W.iald (v := .int (xs (I + j))) hexec hb x1 x2 x3 (by
    rw [x4, en, Int32.lt_iff_toInt_lt, es]
    show ¬ (((I + j : Nat) : Int) < 0 ∨ L ≤ I + j)
    omega) (by rw [en]; exact x5 _ (by omega)) rfl rfl d4 kk
/-- the arguments -/
theorem l_args {own : String} {kd : Nat} (hexec : p.tables.exec = Jvm.exec) (hb : c.code = cc) (hown : s.vm.findClass own = some m.cls) (hconst : (Cond.constantLong own 287 4294967295).before args s = true) (hkd : lkok kd) (hg : ∀ q ∈ lar pc kd, decode cc q.1 = .ok (q.2.1, q.2.2)) (h0 : ls[0]? = some (.val (.ref b))) (h3 : ls[3]? = some (.val (.int i))) (hX : va_X b L xs s H) (hi : i.toInt = (I : Int)) (hIL : I + 6 ≤ L) (hL : L ≤ 100000)
    (kk : W p l e R s m args below meth c H locs cells slots Q (F0 m (pc + laln kd) ls ((lvs xs I kd).reverse ++ st))) : W p l e R s m args below meth c H locs cells slots Q (F0 m pc ls st) := by
  rcases hkd with rfl | rfl | rfl | rfl | rfl | rfl
  · exact kk
  · exact l_grp (j := 1) hexec hb hg h0 h3 hX hi rfl (by decide) hIL hL kk
  · have hg : ∀ q ∈ lgrp pc 1 ++ lgrp (pc + 5) 2, decode cc q.1 = .ok (q.2.1, q.2.2) := hg
    obtain ⟨g1, g2⟩ := List.forall_mem_append.mp hg
    refine l_grp (j := 1) hexec hb g1 h0 h3 hX hi rfl (by decide) hIL hL ?_
    exact l_grp (j := 2) hexec hb g2 h0 h3 hX hi rfl (by decide) hIL hL kk
  · have hg : ∀ q ∈ lgrp pc 1 ++ (lgrp (pc + 5) 2 ++ lgrp (pc + 10) 3), decode cc q.1 = .ok (q.2.1, q.2.2) := hg
    obtain ⟨g1, g⟩ := List.forall_mem_append.mp hg
    obtain ⟨g2, g3⟩ := List.forall_mem_append.mp g
    refine l_grp (j := 1) hexec hb g1 h0 h3 hX hi rfl (by decide) hIL hL ?_
    refine l_grp (j := 2) hexec hb g2 h0 h3 hX hi rfl (by decide) hIL hL ?_
    exact l_grp (j := 3) hexec hb g3 h0 h3 hX hi rfl (by decide) hIL hL kk
  · have hg : ∀ q ∈ lgrp pc 1 ++ (lgrp (pc + 5) 2 ++ (lgrp (pc + 10) 3 ++ (lgrp (pc + 15) 4 ++ lgrp (pc + 20) 5))), decode cc q.1 = .ok (q.2.1, q.2.2) := hg
    obtain ⟨g1, g⟩ := List.forall_mem_append.mp hg
    obtain ⟨g2, g⟩ := List.forall_mem_append.mp g
    obtain ⟨g3, g⟩ := List.forall_mem_append.mp g
    obtain ⟨g4, g5⟩ := List.forall_mem_append.mp g
    refine l_grp (j := 1) hexec hb g1 h0 h3 hX hi rfl (by decide) hIL hL ?_
    refine l_grp (j := 2) hexec hb g2 h0 h3 hX hi rfl (by decide) hIL hL ?_
    refine l_grp (j := 3) hexec hb g3 h0 h3 hX hi rfl (by decide) hIL hL ?_
    refine l_grp (j := 4) hexec hb g4 h0 h3 hX hi rfl (by decide) hIL hL ?_
    exact l_grp (j := 5) hexec hb g5 h0 h3 hX hi rfl (by decide) hIL hL kk
  · have hg : ∀ q ∈ lgrp pc 1 ++ (lgrp (pc + 5) 2 ++ (lgrp (pc + 10) 3 ++ (lgrp (pc + 19) 4 ++ lwri pc))), decode cc q.1 = .ok (q.2.1, q.2.2) := hg
    obtain ⟨g1, g⟩ := List.forall_mem_append.mp hg
    obtain ⟨g2, g⟩ := List.forall_mem_append.mp g
    obtain ⟨g3, g⟩ := List.forall_mem_append.mp g
    obtain ⟨g4, g5⟩ := List.forall_mem_append.mp g
    have w0 := g5 (pc + 15, .i2l, 1) (List.mem_of_getElem? (i := 0) rfl)
    have w1 := g5 (pc + 16, .bipush 32, 2) (List.mem_of_getElem? (i := 1) rfl)
    have w2 := g5 (pc + 18, .lshl, 1) (List.mem_of_getElem? (i := 2) rfl)
    have w3 := g5 (pc + 24, .i2l, 1) (List.mem_of_getElem? (i := 3) rfl)
    have w4 := g5 (pc + 25, .ldc2_w 287, 3) (List.mem_of_getElem? (i := 4) rfl)
    have w5 := g5 (pc + 28, .land, 1) (List.mem_of_getElem? (i := 5) rfl)
    have w6 := g5 (pc + 29, .lor, 1) (List.mem_of_getElem? (i := 6) rfl)
    dsimp only at w0 w1 w2 w3 w4 w5 w6
    refine l_grp (j := 1) hexec hb g1 h0 h3 hX hi rfl (by decide) hIL hL ?_
    refine l_grp (j := 2) hexec hb g2 h0 h3 hX hi rfl (by decide) hIL hL ?_
    refine l_grp (j := 3) hexec hb g3 h0 h3 hX hi rfl (by decide) hIL hL ?_
    refine lv_i2l hexec hb w0 rfl ?_
    refine lv_bipush (v := 32) hexec hb w1 (by decide) ?_
    refine lv_lshl hexec hb w2 rfl ?_
    refine l_grp (j := 4) hexec hb g4 h0 h3 hX hi rfl (by decide) hIL hL ?_
    refine lv_i2l hexec hb w3 rfl ?_
    refine lv_ldc2 hexec hb hown hconst w4 ?_
    refine lv_land hexec hb w5 ?_
    exact lv_lor hexec hb w6 kk
end LCASE
section LCASE2
variable {p : Program} {l : Launch} {e : Env} {R : Room} {s : State} {m : MethodId} {args : Array Value} {below : List Frame} {meth : Method} {c : Code} {H : Heap} {locs : List Loc} {cells slots : Nat} {Q : State → Prop}
variable {cc : ByteArray} {pc : Nat} {ls : Array Slot} {b L I : Nat} {i : Int32} {xs : Nat → Int32} {st : List Value}
variable {cl : List vw_C} {aty : List FieldType} {nw lg : List Cond} {sk : kSk} {cA aS : Nat → Nat} {mt : List kMd} {X : State → Heap → Prop} {lo : Nat}
variable {D : va_G} {tt : List kT} {Ty : Nat → Nat → Prop}
set_option maxHeartbeats 4000000 in
theorem lcase_ok {own : String} {ow : kOw} {cal : List (Nat × List Nat)} {ct : List kCt} {nL kd iA iB a a1 a2 : Nat} {wr : kW} {F : List kF} {lb : Bool} (hexec : p.tables.exec = Jvm.exec) (hb : c.code = cc) (hml : c.maxLocals = nL) (hR : 2048 ≤ R.frames ∧ 84000 ≤ R.locals) (hcs : cells ≤ R.cells ∧ slots ≤ R.slots) (hown : s.vm.findClass own = some m.cls) (hts : ∀ w ∈ lg, w.before args s = true) (hlg : ∀ w ∈ lg, goodWord w = true) (how : kOwM own ow cl mt lg nw) (hK : kK cl aty nw sk D cA aS s) (hn : kNest nw) (hX : kXok X lo) (hXs : X s s.heap) (hTy : kTyp tt Ty)
    (hM : ∀ (i : Nat) (C : kCt), ct[i]? = some C → kMet l cl aty lg nw sk mt D cA aS tt Ty lo X C) (hconst : (Cond.constantLong own 287 4294967295).before args s = true)
    (hkd : lkok kd) (hdec : lcdok cc pc kd lb iA iB) (hchk : lcase tt aty ct ow cal wr F pc kd lb iA iB = true)
    (hi : i.toInt = (I : Int)) (hIL : I + 6 ≤ L) (hL : L ≤ 100000) (hls : ls.size = nL) (h0 : ls[0]? = some (.val (.ref b))) (h1 : ls[1]? = some (.val (.ref a))) (h2 : ls[2]? = some (.val (.ref a1))) (h3 : ls[3]? = some (.val (.int i)))
    (hblo : b < lo) (hscr : va_X b L xs s s.heap) (hfr : ∀ q, q < lo → H[q]? = s.heap[q]?) (hG : kgood D cA tt Ty lo H) (hst : kst D cA tt Ty (lenv xs I) [a, a1, a2] (lst F []) H [] [])
    (kk : ∀ (H' : Heap) (L' : List Loc), kgood D cA tt Ty lo H' → kfr lo H H' → (∀ q ∈ L', lo ≤ q.base) → W p l e R s m args below meth c H' (locs ++ L') cells slots Q (F0 m 2122 ls [])) : W p l e R s m args below meth c H locs cells slots Q (F0 m pc ls []) := by
  obtain ⟨d0, d1, d2, d3, d4, d5, d6, d7⟩ := hdec
  unfold lcase at hchk
  split at hchk
  case h_2 => cases hchk
  rename_i LA hLA
  refine lv_aload_n hexec hb d0 rfl h1 ?_
  refine l_args hexec hb hown hconst hkd d1 h0 h3 (va_X.kept hscr (hfr b hblo)) hi hIL hL ?_
  have s1 : kst D cA tt Ty (lenv xs I) [a, a1, a2] (lst F ((lav kd).reverse ++ [.inr (.inr (.inl 0))])) H [] ((lvs xs I kd).reverse ++ [.ref a]) := ⟨hst.1, hst.2.1, hst.2.2.1, trivial, kStk_app (kStk_rev (lav_ok hkd)) ⟨⟨a, rfl, rfl⟩, trivial⟩, hst.2.2.2.2.2⟩
  refine linv_ok hexec hb hml ⟨Nat.le_refl _, hR⟩ hcs hown hts hlg how hK hn hX hXs hTy hG hfr hM s1 hls d2 hLA (fun S' hS x u st' H1 L1 g1 g2 g3 g4 g5 => ?_)
  have hc2 := List.all_eq_true.mp hchk S' hS
  split at hc2
  case h_2 => cases hc2
  rename_i LB hLB
  have hfr1 : ∀ q, q < lo → H1[q]? = s.heap[q]? := fun q hq => (g2.2 q hq).trans (hfr q hq)
  refine lv_aload_n hexec hb d3 rfl h2 ?_
  refine l_args hexec hb hown hconst hkd d4 h0 h3 (va_X.kept hscr (hfr1 b hblo)) hi hIL hL ?_
  have s2 : kst D cA tt Ty (lenv xs I ++ x) ([a, a1, a2] ++ u) (S'.1, S'.2.1, [], (lav kd).reverse ++ .inr (.inr (.inl 1)) :: S'.2.2.2.1, S'.2.2.2.2) H1 [] ((lvs xs I kd).reverse ++ .ref a1 :: st') := ⟨g5.1, g5.2.1, g5.2.2.1, trivial, kStk_app (kStk_ext (kStk_rev (lav_ok hkd))) ⟨⟨a1, rfl, rfl⟩, g5.2.2.2.2.1⟩, g5.2.2.2.2.2⟩
  refine linv_ok hexec hb hml ⟨Nat.le_refl _, hR⟩ hcs hown hts hlg how hK hn hX hXs hTy g1 hfr1 hM s2 hls d5 hLB (fun S2 hS2 x2 u2 st2 H2 L2 q1 q2 q3 q4 q5 => ?_)
  have hc3 := List.all_eq_true.mp hc2 S2 hS2
  split at hc3
  case h_2 => cases hc3
  rename_i v w hvw
  simp only [Bool.and_eq_true] at hc3
  have hk := q5.2.2.2.2.1
  rw [hvw] at hk
  have fin : W p l e R s m args below meth c H2 (locs ++ L1 ++ L2) cells slots Q (F0 m 2122 ls []) := by
    rw [List.append_assoc]
    exact kk H2 (L1 ++ L2) q1 (kfr_trans g2 q2) (fun q hq => (List.mem_append.mp hq).elim (g4 q) (q4 q))
  match st2, hk with
  | [y, z], hk =>
    have hz := kveq_ok q5 ⟨y, hk.1⟩ hk.2.1 hc3.2
    obtain ⟨e1, e2, e3⟩ := kvok_uniq hc3.1 hk.1 hz
    subst e1
    cases lb with
    | false =>
      obtain ⟨n, rfl⟩ := e2 rfl
      exact lv_icmp_eq (x := n) (y := n) hexec hb (d6 rfl) (by omega) (fun _ => fin) (fun hne => absurd rfl hne)
    | true =>
      obtain ⟨n, rfl⟩ := e3 rfl
      obtain ⟨f1, f2⟩ := d7 rfl
      refine W.lcmp hexec hb f1 ?_
      refine lv_if_eq hexec hb f2 (by omega) (fun _ => fin) (fun hne => absurd (Int32.toInt_inj.mp ?_) hne)
      rw [k_lcmp]
      unfold kcmp
      rw [if_neg (Int.lt_irrefl _), if_pos rfl]
      rfl
  | [], hk => exact hk.elim
  | [_], hk => exact hk.2.elim
  | _ :: _ :: _ :: _, hk => exact hk.2.2.elim
end LCASE2
end
section
/-! THE LAW'S POOLS AND CASES (printed by wip/p1/gen/lawgen.py) -/
def owL0 : kOw := ([], [], [], [], [(18, 22, 1, 9, 2), (22, 111, 1, 10, 2), (23, 23, 0, 9, 1), (27, 112, 0, 10, 1), (28, 24, 1, 9, 2), (31, 113, 1, 10, 2), (32, 25, 2, 9, 3), (36, 114, 2, 10, 3), (37, 26, 2, 9, 3), (40, 115, 2, 10, 3), (41, 27, 2, 9, 3), (44, 116, 2, 10, 3), (45, 28, 1, 9, 2), (48, 117, 1, 10, 2), (49, 29, 2, 9, 3), (52, 118, 2, 10, 3), (53, 30, 1, 9, 2), (56, 119, 1, 10, 2), (57, 31, 1, 9, 2), (60, 120, 1, 10, 2), (61, 32, 1, 9, 2), (64, 121, 1, 10, 2), (65, 33, 1, 9, 2), (68, 122, 1, 10, 2), (69, 34, 1, 9, 2), (72, 123, 1, 10, 2), (73, 35, 1, 9, 2), (76, 124, 1, 10, 2), (77, 36, 1, 9, 2), (80, 125, 1, 10, 2), (81, 37, 1, 9, 2), (84, 126, 1, 10, 2), (85, 38, 2, 9, 3), (88, 127, 2, 10, 3), (89, 39, 0, 9, 1), (92, 128, 0, 10, 1), (93, 40, 0, 9, 1), (96, 129, 0, 10, 1), (97, 41, 0, 9, 1), (100, 130, 0, 10, 1), (101, 42, 1, 9, 2), (104, 131, 1, 10, 2), (105, 43, 1, 9, 2), (108, 132, 1, 10, 2), (109, 44, 1, 9, 2), (112, 133, 1, 10, 2), (113, 45, 1, 9, 2), (116, 134, 1, 10, 2), (117, 46, 0, 9, 1), (120, 135, 0, 10, 1), (121, 47, 0, 9, 1), (124, 136, 0, 10, 1), (125, 48, 1, 9, 2), (128, 137, 1, 10, 2), (129, 49, 0, 9, 1), (132, 138, 0, 10, 1), (133, 50, 1, 9, 2), (136, 139, 1, 10, 2), (137, 51, 0, 9, 1), (140, 140, 0, 10, 1), (141, 52, 1, 9, 2), (144, 141, 1, 10, 2), (145, 53, 1, 9, 2), (148, 142, 1, 10, 2), (149, 54, 1, 9, 2), (152, 143, 1, 10, 2), (153, 55, 1, 9, 2), (156, 144, 1, 10, 2), (157, 56, 1, 9, 2), (160, 145, 1, 10, 2), (161, 57, 1, 9, 2), (164, 146, 1, 10, 2), (165, 58, 2, 9, 3), (168, 147, 2, 10, 3), (169, 59, 3, 9, 4), (173, 148, 3, 10, 4), (174, 60, 2, 9, 3), (177, 149, 2, 10, 3), (178, 61, 1, 9, 2), (181, 150, 1, 10, 2), (182, 62, 2, 9, 3), (185, 151, 2, 10, 3), (186, 63, 2, 9, 3), (189, 152, 2, 10, 3), (190, 64, 0, 9, 1), (193, 153, 0, 10, 1), (194, 65, 1, 9, 2), (197, 154, 1, 10, 2), (198, 66, 1, 9, 2), (201, 155, 1, 10, 2), (202, 67, 1, 9, 2), (205, 156, 1, 10, 2), (206, 68, 1, 9, 2), (209, 157, 1, 10, 2), (210, 69, 1, 9, 2), (213, 158, 1, 10, 2), (214, 70, 0, 9, 1), (217, 159, 0, 10, 1), (218, 71, 0, 9, 1), (221, 160, 0, 10, 1), (222, 72, 2, 9, 3), (225, 161, 2, 10, 3), (226, 73, 1, 9, 2), (229, 162, 1, 10, 2), (230, 74, 2, 9, 3), (234, 163, 2, 10, 3), (235, 75, 1, 9, 2), (238, 164, 1, 10, 2), (239, 76, 2, 9, 3), (242, 165, 2, 10, 3), (243, 77, 2, 9, 3), (246, 166, 2, 10, 3), (247, 78, 2, 9, 3), (250, 167, 2, 10, 3), (251, 79, 0, 9, 1), (254, 168, 0, 10, 1), (255, 80, 0, 9, 1), (258, 169, 0, 10, 1), (259, 81, 2, 9, 3), (262, 170, 2, 10, 3), (263, 82, 3, 9, 4), (266, 171, 3, 10, 4), (267, 83, 1, 9, 2), (270, 172, 1, 10, 2), (271, 84, 1, 9, 2), (274, 173, 1, 10, 2), (279, 85, 1, 9, 2), (282, 174, 1, 10, 2), (289, 86, 3, 9, 5), (293, 175, 3, 10, 5), (294, 87, 5, 9, 6), (297, 176, 5, 10, 6)])
theorem wmL0 : kOwM "SilenceMatchLaw" owL0 k_cl (mw0.map (fun x => x.1)) k_lg [] := kOwMb_ok mo0 k_cpw (ps := [471, 1352, 475, 1360, 641, 1356, 645, 1514, 657, 1449, 665, 1457, 678, 1476, 686, 1489, 698, 1502, 711, 1510, 715, 1579, 731, 1591, 780, 1595, 785, 1603, 789, 1611, 802, 1615, 806, 1619, 828, 1630, 841, 1642, 845, 1646, 849, 1587, 723, 1651, 727, 1655, 853, 1659, 857, 1663, 864, 1667, 868, 1671, 872, 1675, 893, 1683, 1001, 1691, 901, 1699, 909, 1708, 917, 1716, 921, 1720, 929, 1728, 933, 1732, 961, 1736, 992, 1760, 996, 1764, 1010, 1768, 1014, 1772, 1022, 1780, 889, 1784, 1026, 1788, 1056, 1804, 1064, 1808, 1072, 1812, 1087, 1820, 937, 1824, 949, 1832, 953, 1836, 957, 1840, 1092, 1844, 1104, 1859, 1113, 1867, 1122, 1872, 1130, 1880, 1134, 1884, 1142, 1888, 1150, 1892, 1163, 1904, 1146, 1909, 1167, 1913, 1187, 1344, 1199, 1923, 1207, 1930]) (by decide +kernel)
def calL0 : List (Nat × List Nat) := [(393, [22]), (402, [111]), (411, [23]), (415, [112]), (429, [24]), (438, [113]), (457, [25]), (471, [114]), (490, [26]), (504, [115]), (523, [27]), (537, [116]), (551, [28]), (560, [117]), (579, [29]), (593, [118]), (607, [30]), (616, [119]), (630, [31]), (639, [120]), (653, [32]), (662, [121]), (676, [33]), (685, [122]), (699, [34]), (708, [123]), (722, [35]), (731, [124]), (745, [36]), (754, [125]), (768, [37]), (777, [126]), (796, [38]), (810, [127]), (819, [39]), (823, [128]), (832, [40]), (836, [129]), (845, [41]), (849, [130]), (863, [42]), (872, [131]), (886, [43]), (895, [132]), (909, [44]), (918, [133]), (932, [45]), (941, [134]), (950, [46]), (954, [135]), (963, [47]), (967, [136]), (981, [48]), (990, [137]), (999, [49]), (1003, [138]), (1017, [50]), (1026, [139]), (1035, [51]), (1039, [140]), (1053, [52]), (1062, [141]), (1076, [53]), (1085, [142]), (1099, [54]), (1108, [143]), (1122, [55]), (1131, [144]), (1145, [56]), (1154, [145]), (1168, [57]), (1177, [146]), (1196, [58]), (1210, [147]), (1234, [59]), (1253, [148]), (1272, [60]), (1286, [149]), (1300, [61]), (1309, [150]), (1328, [62]), (1342, [151]), (1361, [63]), (1375, [152]), (1384, [64]), (1388, [153]), (1402, [65]), (1411, [154]), (1425, [66]), (1434, [155]), (1448, [67]), (1457, [156]), (1471, [68]), (1480, [157]), (1494, [69]), (1503, [158]), (1512, [70]), (1516, [159]), (1525, [71]), (1529, [160]), (1548, [72]), (1562, [161]), (1576, [73]), (1585, [162]), (1604, [74]), (1618, [163]), (1633, [75]), (1642, [164]), (1661, [76]), (1675, [165]), (1694, [77]), (1708, [166]), (1727, [78]), (1741, [167]), (1750, [79]), (1754, [168]), (1763, [80]), (1767, [169]), (1786, [81]), (1800, [170]), (1824, [82]), (1843, [171]), (1857, [83]), (1866, [172]), (1880, [84]), (1889, [173]), (1926, [85]), (1935, [174]), (2017, [86]), (2051, [175]), (2085, [87]), (2114, [176])]
def owL1 : kOw := ([], [], [], [], [(13, 6, 5, 9, 6), (17, 11, 5, 10, 6), (275, 7, 1, 9, 2), (278, 12, 1, 10, 2), (283, 8, 3, 9, 4), (286, 13, 3, 10, 4)])
theorem wmL1 : kOwM "SilenceMatchLaw" owL1 k_cl (mw1.map (fun x => x.1)) k_lg [] := kOwMb_ok mo1 k_cpw (ps := [463, 1348, 1175, 1336, 1191, 1919]) (by decide +kernel)
def calL1 : List (Nat × List Nat) := [(350, [10]), (379, [15]), (1903, [11]), (1912, [16]), (1959, [12]), (1978, [17])]
def wrL : kW := [(0, none), (1, none), (2, none), (3, none), (4, none), (5, none), (6, none), (7, none), (8, none), (9, none), (10, none), (11, none), (12, none), (13, none), (14, none), (15, none), (16, none), (17, none), (18, none), (19, none), (20, none), (21, none), (22, none), (23, none), (24, none), (25, none), (26, none), (27, none), (28, none), (29, none), (30, none), (31, none), (32, none), (33, none), (34, none), (35, none), (36, none), (37, none), (38, none), (39, none), (40, none), (41, none), (42, none), (43, none), (44, none), (45, none), (46, none), (47, none), (48, none), (49, none), (50, none), (51, none), (52, none), (53, none), (54, none), (55, none), (56, none), (57, none), (58, none), (59, none), (60, none), (61, none), (62, none), (63, none)]
def fcL : List kF := [(0, kcst 0, .inr (.inr (.inl 2))), (2, kcst 1, .inl (kcst 0)), (1, kcst 5, .inl (kcst 0))]
theorem lc_0 : lcase k1_tt k_aty k1_ct owL1 calL1 wrL fcL 324 5 false 13 17 = true := by decide +kernel
theorem lc_1 : lcase k0_tt k_aty k0_ct owL0 calL0 wrL [] 387 1 false 18 22 = true := by decide +kernel
theorem lc_2 : lcase k0_tt k_aty k0_ct owL0 calL0 wrL [] 410 0 false 23 27 = true := by decide +kernel
theorem lc_3 : lcase k0_tt k_aty k0_ct owL0 calL0 wrL [] 423 1 false 28 31 = true := by decide +kernel
theorem lc_4 : lcase k0_tt k_aty k0_ct owL0 calL0 wrL [] 446 2 false 32 36 = true := by decide +kernel
theorem lc_5 : lcase k0_tt k_aty k0_ct owL0 calL0 wrL [] 479 2 false 37 40 = true := by decide +kernel
theorem lc_6 : lcase k0_tt k_aty k0_ct owL0 calL0 wrL [] 512 2 false 41 44 = true := by decide +kernel
theorem lc_7 : lcase k0_tt k_aty k0_ct owL0 calL0 wrL [] 545 1 false 45 48 = true := by decide +kernel
theorem lc_8 : lcase k0_tt k_aty k0_ct owL0 calL0 wrL [] 568 2 false 49 52 = true := by decide +kernel
theorem lc_9 : lcase k0_tt k_aty k0_ct owL0 calL0 wrL [] 601 1 false 53 56 = true := by decide +kernel
theorem lc_10 : lcase k0_tt k_aty k0_ct owL0 calL0 wrL [] 624 1 false 57 60 = true := by decide +kernel
theorem lc_11 : lcase k0_tt k_aty k0_ct owL0 calL0 wrL [] 647 1 false 61 64 = true := by decide +kernel
theorem lc_12 : lcase k0_tt k_aty k0_ct owL0 calL0 wrL [] 670 1 false 65 68 = true := by decide +kernel
theorem lc_13 : lcase k0_tt k_aty k0_ct owL0 calL0 wrL [] 693 1 false 69 72 = true := by decide +kernel
theorem lc_14 : lcase k0_tt k_aty k0_ct owL0 calL0 wrL [] 716 1 false 73 76 = true := by decide +kernel
theorem lc_15 : lcase k0_tt k_aty k0_ct owL0 calL0 wrL [] 739 1 false 77 80 = true := by decide +kernel
theorem lc_16 : lcase k0_tt k_aty k0_ct owL0 calL0 wrL [] 762 1 false 81 84 = true := by decide +kernel
theorem lc_17 : lcase k0_tt k_aty k0_ct owL0 calL0 wrL [] 785 2 false 85 88 = true := by decide +kernel
theorem lc_18 : lcase k0_tt k_aty k0_ct owL0 calL0 wrL [] 818 0 false 89 92 = true := by decide +kernel
theorem lc_19 : lcase k0_tt k_aty k0_ct owL0 calL0 wrL [] 831 0 false 93 96 = true := by decide +kernel
theorem lc_20 : lcase k0_tt k_aty k0_ct owL0 calL0 wrL [] 844 0 false 97 100 = true := by decide +kernel
theorem lc_21 : lcase k0_tt k_aty k0_ct owL0 calL0 wrL [] 857 1 false 101 104 = true := by decide +kernel
theorem lc_22 : lcase k0_tt k_aty k0_ct owL0 calL0 wrL [] 880 1 false 105 108 = true := by decide +kernel
theorem lc_23 : lcase k0_tt k_aty k0_ct owL0 calL0 wrL [] 903 1 false 109 112 = true := by decide +kernel
theorem lc_24 : lcase k0_tt k_aty k0_ct owL0 calL0 wrL [] 926 1 false 113 116 = true := by decide +kernel
theorem lc_25 : lcase k0_tt k_aty k0_ct owL0 calL0 wrL [] 949 0 false 117 120 = true := by decide +kernel
theorem lc_26 : lcase k0_tt k_aty k0_ct owL0 calL0 wrL [] 962 0 false 121 124 = true := by decide +kernel
theorem lc_27 : lcase k0_tt k_aty k0_ct owL0 calL0 wrL [] 975 1 false 125 128 = true := by decide +kernel
theorem lc_28 : lcase k0_tt k_aty k0_ct owL0 calL0 wrL [] 998 0 false 129 132 = true := by decide +kernel
theorem lc_29 : lcase k0_tt k_aty k0_ct owL0 calL0 wrL [] 1011 1 false 133 136 = true := by decide +kernel
theorem lc_30 : lcase k0_tt k_aty k0_ct owL0 calL0 wrL [] 1034 0 false 137 140 = true := by decide +kernel
theorem lc_31 : lcase k0_tt k_aty k0_ct owL0 calL0 wrL [] 1047 1 false 141 144 = true := by decide +kernel
theorem lc_32 : lcase k0_tt k_aty k0_ct owL0 calL0 wrL [] 1070 1 false 145 148 = true := by decide +kernel
theorem lc_33 : lcase k0_tt k_aty k0_ct owL0 calL0 wrL [] 1093 1 false 149 152 = true := by decide +kernel
theorem lc_34 : lcase k0_tt k_aty k0_ct owL0 calL0 wrL [] 1116 1 false 153 156 = true := by decide +kernel
theorem lc_35 : lcase k0_tt k_aty k0_ct owL0 calL0 wrL [] 1139 1 false 157 160 = true := by decide +kernel
theorem lc_36 : lcase k0_tt k_aty k0_ct owL0 calL0 wrL [] 1162 1 false 161 164 = true := by decide +kernel
theorem lc_37 : lcase k0_tt k_aty k0_ct owL0 calL0 wrL [] 1185 2 false 165 168 = true := by decide +kernel
theorem lc_38 : lcase k0_tt k_aty k0_ct owL0 calL0 wrL [] 1218 3 false 169 173 = true := by decide +kernel
theorem lc_39 : lcase k0_tt k_aty k0_ct owL0 calL0 wrL [] 1261 2 false 174 177 = true := by decide +kernel
theorem lc_40 : lcase k0_tt k_aty k0_ct owL0 calL0 wrL [] 1294 1 false 178 181 = true := by decide +kernel
theorem lc_41 : lcase k0_tt k_aty k0_ct owL0 calL0 wrL [] 1317 2 false 182 185 = true := by decide +kernel
theorem lc_42 : lcase k0_tt k_aty k0_ct owL0 calL0 wrL [] 1350 2 false 186 189 = true := by decide +kernel
theorem lc_43 : lcase k0_tt k_aty k0_ct owL0 calL0 wrL [] 1383 0 false 190 193 = true := by decide +kernel
theorem lc_44 : lcase k0_tt k_aty k0_ct owL0 calL0 wrL [] 1396 1 false 194 197 = true := by decide +kernel
theorem lc_45 : lcase k0_tt k_aty k0_ct owL0 calL0 wrL [] 1419 1 false 198 201 = true := by decide +kernel
theorem lc_46 : lcase k0_tt k_aty k0_ct owL0 calL0 wrL [] 1442 1 false 202 205 = true := by decide +kernel
theorem lc_47 : lcase k0_tt k_aty k0_ct owL0 calL0 wrL [] 1465 1 false 206 209 = true := by decide +kernel
theorem lc_48 : lcase k0_tt k_aty k0_ct owL0 calL0 wrL [] 1488 1 false 210 213 = true := by decide +kernel
theorem lc_49 : lcase k0_tt k_aty k0_ct owL0 calL0 wrL [] 1511 0 false 214 217 = true := by decide +kernel
theorem lc_50 : lcase k0_tt k_aty k0_ct owL0 calL0 wrL [] 1524 0 false 218 221 = true := by decide +kernel
theorem lc_51 : lcase k0_tt k_aty k0_ct owL0 calL0 wrL [] 1537 2 false 222 225 = true := by decide +kernel
theorem lc_52 : lcase k0_tt k_aty k0_ct owL0 calL0 wrL [] 1570 1 false 226 229 = true := by decide +kernel
theorem lc_53 : lcase k0_tt k_aty k0_ct owL0 calL0 wrL [] 1593 2 true 230 234 = true := by decide +kernel
theorem lc_54 : lcase k0_tt k_aty k0_ct owL0 calL0 wrL [] 1627 1 false 235 238 = true := by decide +kernel
theorem lc_55 : lcase k0_tt k_aty k0_ct owL0 calL0 wrL [] 1650 2 false 239 242 = true := by decide +kernel
theorem lc_56 : lcase k0_tt k_aty k0_ct owL0 calL0 wrL [] 1683 2 false 243 246 = true := by decide +kernel
theorem lc_57 : lcase k0_tt k_aty k0_ct owL0 calL0 wrL [] 1716 2 false 247 250 = true := by decide +kernel
theorem lc_58 : lcase k0_tt k_aty k0_ct owL0 calL0 wrL [] 1749 0 false 251 254 = true := by decide +kernel
theorem lc_59 : lcase k0_tt k_aty k0_ct owL0 calL0 wrL [] 1762 0 false 255 258 = true := by decide +kernel
theorem lc_60 : lcase k0_tt k_aty k0_ct owL0 calL0 wrL [] 1775 2 false 259 262 = true := by decide +kernel
theorem lc_61 : lcase k0_tt k_aty k0_ct owL0 calL0 wrL [] 1808 3 false 263 266 = true := by decide +kernel
theorem lc_62 : lcase k0_tt k_aty k0_ct owL0 calL0 wrL [] 1851 1 false 267 270 = true := by decide +kernel
theorem lc_63 : lcase k0_tt k_aty k0_ct owL0 calL0 wrL [] 1874 1 false 271 274 = true := by decide +kernel
theorem lc_64 : lcase k1_tt k_aty k1_ct owL1 calL1 wrL fcL 1897 1 false 275 278 = true := by decide +kernel
theorem lc_65 : lcase k0_tt k_aty k0_ct owL0 calL0 wrL [] 1920 1 false 279 282 = true := by decide +kernel
theorem lc_66 : lcase k1_tt k_aty k1_ct owL1 calL1 wrL fcL 1943 3 false 283 286 = true := by decide +kernel
theorem lc_67 : lcase k0_tt k_aty k0_ct owL0 calL0 wrL [] 1986 9 false 289 293 = true := by decide +kernel
theorem lc_68 : lcase k0_tt k_aty k0_ct owL0 calL0 wrL [] 2059 5 false 294 297 = true := by decide +kernel
end
section
/-! the code of the law's cases (printed by wip/p1/gen/lawgen.py) -/
theorem ld_0 : lcdok code 324 5 false 13 17 := by
  unfold lcdok
  decide +kernel
theorem ld_1 : lcdok code 387 1 false 18 22 := by
  unfold lcdok
  decide +kernel
theorem ld_2 : lcdok code 410 0 false 23 27 := by
  unfold lcdok
  decide +kernel
theorem ld_3 : lcdok code 423 1 false 28 31 := by
  unfold lcdok
  decide +kernel
theorem ld_4 : lcdok code 446 2 false 32 36 := by
  unfold lcdok
  decide +kernel
theorem ld_5 : lcdok code 479 2 false 37 40 := by
  unfold lcdok
  decide +kernel
theorem ld_6 : lcdok code 512 2 false 41 44 := by
  unfold lcdok
  decide +kernel
theorem ld_7 : lcdok code 545 1 false 45 48 := by
  unfold lcdok
  decide +kernel
theorem ld_8 : lcdok code 568 2 false 49 52 := by
  unfold lcdok
  decide +kernel
theorem ld_9 : lcdok code 601 1 false 53 56 := by
  unfold lcdok
  decide +kernel
theorem ld_10 : lcdok code 624 1 false 57 60 := by
  unfold lcdok
  decide +kernel
theorem ld_11 : lcdok code 647 1 false 61 64 := by
  unfold lcdok
  decide +kernel
theorem ld_12 : lcdok code 670 1 false 65 68 := by
  unfold lcdok
  decide +kernel
theorem ld_13 : lcdok code 693 1 false 69 72 := by
  unfold lcdok
  decide +kernel
theorem ld_14 : lcdok code 716 1 false 73 76 := by
  unfold lcdok
  decide +kernel
theorem ld_15 : lcdok code 739 1 false 77 80 := by
  unfold lcdok
  decide +kernel
theorem ld_16 : lcdok code 762 1 false 81 84 := by
  unfold lcdok
  decide +kernel
theorem ld_17 : lcdok code 785 2 false 85 88 := by
  unfold lcdok
  decide +kernel
theorem ld_18 : lcdok code 818 0 false 89 92 := by
  unfold lcdok
  decide +kernel
theorem ld_19 : lcdok code 831 0 false 93 96 := by
  unfold lcdok
  decide +kernel
theorem ld_20 : lcdok code 844 0 false 97 100 := by
  unfold lcdok
  decide +kernel
theorem ld_21 : lcdok code 857 1 false 101 104 := by
  unfold lcdok
  decide +kernel
theorem ld_22 : lcdok code 880 1 false 105 108 := by
  unfold lcdok
  decide +kernel
theorem ld_23 : lcdok code 903 1 false 109 112 := by
  unfold lcdok
  decide +kernel
theorem ld_24 : lcdok code 926 1 false 113 116 := by
  unfold lcdok
  decide +kernel
theorem ld_25 : lcdok code 949 0 false 117 120 := by
  unfold lcdok
  decide +kernel
theorem ld_26 : lcdok code 962 0 false 121 124 := by
  unfold lcdok
  decide +kernel
theorem ld_27 : lcdok code 975 1 false 125 128 := by
  unfold lcdok
  decide +kernel
theorem ld_28 : lcdok code 998 0 false 129 132 := by
  unfold lcdok
  decide +kernel
theorem ld_29 : lcdok code 1011 1 false 133 136 := by
  unfold lcdok
  decide +kernel
theorem ld_30 : lcdok code 1034 0 false 137 140 := by
  unfold lcdok
  decide +kernel
theorem ld_31 : lcdok code 1047 1 false 141 144 := by
  unfold lcdok
  decide +kernel
theorem ld_32 : lcdok code 1070 1 false 145 148 := by
  unfold lcdok
  decide +kernel
theorem ld_33 : lcdok code 1093 1 false 149 152 := by
  unfold lcdok
  decide +kernel
theorem ld_34 : lcdok code 1116 1 false 153 156 := by
  unfold lcdok
  decide +kernel
theorem ld_35 : lcdok code 1139 1 false 157 160 := by
  unfold lcdok
  decide +kernel
theorem ld_36 : lcdok code 1162 1 false 161 164 := by
  unfold lcdok
  decide +kernel
theorem ld_37 : lcdok code 1185 2 false 165 168 := by
  unfold lcdok
  decide +kernel
theorem ld_38 : lcdok code 1218 3 false 169 173 := by
  unfold lcdok
  decide +kernel
theorem ld_39 : lcdok code 1261 2 false 174 177 := by
  unfold lcdok
  decide +kernel
theorem ld_40 : lcdok code 1294 1 false 178 181 := by
  unfold lcdok
  decide +kernel
theorem ld_41 : lcdok code 1317 2 false 182 185 := by
  unfold lcdok
  decide +kernel
theorem ld_42 : lcdok code 1350 2 false 186 189 := by
  unfold lcdok
  decide +kernel
theorem ld_43 : lcdok code 1383 0 false 190 193 := by
  unfold lcdok
  decide +kernel
theorem ld_44 : lcdok code 1396 1 false 194 197 := by
  unfold lcdok
  decide +kernel
theorem ld_45 : lcdok code 1419 1 false 198 201 := by
  unfold lcdok
  decide +kernel
theorem ld_46 : lcdok code 1442 1 false 202 205 := by
  unfold lcdok
  decide +kernel
theorem ld_47 : lcdok code 1465 1 false 206 209 := by
  unfold lcdok
  decide +kernel
theorem ld_48 : lcdok code 1488 1 false 210 213 := by
  unfold lcdok
  decide +kernel
theorem ld_49 : lcdok code 1511 0 false 214 217 := by
  unfold lcdok
  decide +kernel
theorem ld_50 : lcdok code 1524 0 false 218 221 := by
  unfold lcdok
  decide +kernel
theorem ld_51 : lcdok code 1537 2 false 222 225 := by
  unfold lcdok
  decide +kernel
theorem ld_52 : lcdok code 1570 1 false 226 229 := by
  unfold lcdok
  decide +kernel
theorem ld_53 : lcdok code 1593 2 true 230 234 := by
  unfold lcdok
  decide +kernel
theorem ld_54 : lcdok code 1627 1 false 235 238 := by
  unfold lcdok
  decide +kernel
theorem ld_55 : lcdok code 1650 2 false 239 242 := by
  unfold lcdok
  decide +kernel
theorem ld_56 : lcdok code 1683 2 false 243 246 := by
  unfold lcdok
  decide +kernel
theorem ld_57 : lcdok code 1716 2 false 247 250 := by
  unfold lcdok
  decide +kernel
theorem ld_58 : lcdok code 1749 0 false 251 254 := by
  unfold lcdok
  decide +kernel
theorem ld_59 : lcdok code 1762 0 false 255 258 := by
  unfold lcdok
  decide +kernel
theorem ld_60 : lcdok code 1775 2 false 259 262 := by
  unfold lcdok
  decide +kernel
theorem ld_61 : lcdok code 1808 3 false 263 266 := by
  unfold lcdok
  decide +kernel
theorem ld_62 : lcdok code 1851 1 false 267 270 := by
  unfold lcdok
  decide +kernel
theorem ld_63 : lcdok code 1874 1 false 271 274 := by
  unfold lcdok
  decide +kernel
theorem ld_64 : lcdok code 1897 1 false 275 278 := by
  unfold lcdok
  decide +kernel
theorem ld_65 : lcdok code 1920 1 false 279 282 := by
  unfold lcdok
  decide +kernel
theorem ld_66 : lcdok code 1943 3 false 283 286 := by
  unfold lcdok
  decide +kernel
theorem ld_67 : lcdok code 1986 9 false 289 293 := by
  unfold lcdok
  decide +kernel
theorem ld_68 : lcdok code 2059 5 false 294 297 := by
  unfold lcdok
  decide +kernel
end
section
/-! all cases (printed by wip/p1/gen/lawgen.py): place, kind, whether the answer is a long, pool places, which table -/
abbrev lCs : Type := Nat × Nat × Bool × Nat × Nat × Bool
def lok (q : lCs) : Prop := lkok q.2.1 ∧ lcdok code q.1 q.2.1 q.2.2.1 q.2.2.2.1 q.2.2.2.2.1 ∧ (q.2.2.2.2.2 = false → lcase k0_tt k_aty k0_ct owL0 calL0 wrL [] q.1 q.2.1 q.2.2.1 q.2.2.2.1 q.2.2.2.2.1 = true) ∧ (q.2.2.2.2.2 = true → lcase k1_tt k_aty k1_ct owL1 calL1 wrL fcL q.1 q.2.1 q.2.2.1 q.2.2.2.1 q.2.2.2.2.1 = true)
theorem lo_0 : lok (324, 5, false, 13, 17, true) := ⟨Or.inr (Or.inr (Or.inr (Or.inr (Or.inl rfl)))), ld_0, (fun h => by cases h), (fun _ => lc_0)⟩
theorem lo_1 : lok (387, 1, false, 18, 22, false) := ⟨Or.inr (Or.inl rfl), ld_1, (fun _ => lc_1), (fun h => by cases h)⟩
theorem lo_2 : lok (410, 0, false, 23, 27, false) := ⟨Or.inl rfl, ld_2, (fun _ => lc_2), (fun h => by cases h)⟩
theorem lo_3 : lok (423, 1, false, 28, 31, false) := ⟨Or.inr (Or.inl rfl), ld_3, (fun _ => lc_3), (fun h => by cases h)⟩
theorem lo_4 : lok (446, 2, false, 32, 36, false) := ⟨Or.inr (Or.inr (Or.inl rfl)), ld_4, (fun _ => lc_4), (fun h => by cases h)⟩
theorem lo_5 : lok (479, 2, false, 37, 40, false) := ⟨Or.inr (Or.inr (Or.inl rfl)), ld_5, (fun _ => lc_5), (fun h => by cases h)⟩
theorem lo_6 : lok (512, 2, false, 41, 44, false) := ⟨Or.inr (Or.inr (Or.inl rfl)), ld_6, (fun _ => lc_6), (fun h => by cases h)⟩
theorem lo_7 : lok (545, 1, false, 45, 48, false) := ⟨Or.inr (Or.inl rfl), ld_7, (fun _ => lc_7), (fun h => by cases h)⟩
theorem lo_8 : lok (568, 2, false, 49, 52, false) := ⟨Or.inr (Or.inr (Or.inl rfl)), ld_8, (fun _ => lc_8), (fun h => by cases h)⟩
theorem lo_9 : lok (601, 1, false, 53, 56, false) := ⟨Or.inr (Or.inl rfl), ld_9, (fun _ => lc_9), (fun h => by cases h)⟩
theorem lo_10 : lok (624, 1, false, 57, 60, false) := ⟨Or.inr (Or.inl rfl), ld_10, (fun _ => lc_10), (fun h => by cases h)⟩
theorem lo_11 : lok (647, 1, false, 61, 64, false) := ⟨Or.inr (Or.inl rfl), ld_11, (fun _ => lc_11), (fun h => by cases h)⟩
theorem lo_12 : lok (670, 1, false, 65, 68, false) := ⟨Or.inr (Or.inl rfl), ld_12, (fun _ => lc_12), (fun h => by cases h)⟩
theorem lo_13 : lok (693, 1, false, 69, 72, false) := ⟨Or.inr (Or.inl rfl), ld_13, (fun _ => lc_13), (fun h => by cases h)⟩
theorem lo_14 : lok (716, 1, false, 73, 76, false) := ⟨Or.inr (Or.inl rfl), ld_14, (fun _ => lc_14), (fun h => by cases h)⟩
theorem lo_15 : lok (739, 1, false, 77, 80, false) := ⟨Or.inr (Or.inl rfl), ld_15, (fun _ => lc_15), (fun h => by cases h)⟩
theorem lo_16 : lok (762, 1, false, 81, 84, false) := ⟨Or.inr (Or.inl rfl), ld_16, (fun _ => lc_16), (fun h => by cases h)⟩
theorem lo_17 : lok (785, 2, false, 85, 88, false) := ⟨Or.inr (Or.inr (Or.inl rfl)), ld_17, (fun _ => lc_17), (fun h => by cases h)⟩
theorem lo_18 : lok (818, 0, false, 89, 92, false) := ⟨Or.inl rfl, ld_18, (fun _ => lc_18), (fun h => by cases h)⟩
theorem lo_19 : lok (831, 0, false, 93, 96, false) := ⟨Or.inl rfl, ld_19, (fun _ => lc_19), (fun h => by cases h)⟩
theorem lo_20 : lok (844, 0, false, 97, 100, false) := ⟨Or.inl rfl, ld_20, (fun _ => lc_20), (fun h => by cases h)⟩
theorem lo_21 : lok (857, 1, false, 101, 104, false) := ⟨Or.inr (Or.inl rfl), ld_21, (fun _ => lc_21), (fun h => by cases h)⟩
theorem lo_22 : lok (880, 1, false, 105, 108, false) := ⟨Or.inr (Or.inl rfl), ld_22, (fun _ => lc_22), (fun h => by cases h)⟩
theorem lo_23 : lok (903, 1, false, 109, 112, false) := ⟨Or.inr (Or.inl rfl), ld_23, (fun _ => lc_23), (fun h => by cases h)⟩
theorem lo_24 : lok (926, 1, false, 113, 116, false) := ⟨Or.inr (Or.inl rfl), ld_24, (fun _ => lc_24), (fun h => by cases h)⟩
theorem lo_25 : lok (949, 0, false, 117, 120, false) := ⟨Or.inl rfl, ld_25, (fun _ => lc_25), (fun h => by cases h)⟩
theorem lo_26 : lok (962, 0, false, 121, 124, false) := ⟨Or.inl rfl, ld_26, (fun _ => lc_26), (fun h => by cases h)⟩
theorem lo_27 : lok (975, 1, false, 125, 128, false) := ⟨Or.inr (Or.inl rfl), ld_27, (fun _ => lc_27), (fun h => by cases h)⟩
theorem lo_28 : lok (998, 0, false, 129, 132, false) := ⟨Or.inl rfl, ld_28, (fun _ => lc_28), (fun h => by cases h)⟩
theorem lo_29 : lok (1011, 1, false, 133, 136, false) := ⟨Or.inr (Or.inl rfl), ld_29, (fun _ => lc_29), (fun h => by cases h)⟩
theorem lo_30 : lok (1034, 0, false, 137, 140, false) := ⟨Or.inl rfl, ld_30, (fun _ => lc_30), (fun h => by cases h)⟩
theorem lo_31 : lok (1047, 1, false, 141, 144, false) := ⟨Or.inr (Or.inl rfl), ld_31, (fun _ => lc_31), (fun h => by cases h)⟩
theorem lo_32 : lok (1070, 1, false, 145, 148, false) := ⟨Or.inr (Or.inl rfl), ld_32, (fun _ => lc_32), (fun h => by cases h)⟩
theorem lo_33 : lok (1093, 1, false, 149, 152, false) := ⟨Or.inr (Or.inl rfl), ld_33, (fun _ => lc_33), (fun h => by cases h)⟩
theorem lo_34 : lok (1116, 1, false, 153, 156, false) := ⟨Or.inr (Or.inl rfl), ld_34, (fun _ => lc_34), (fun h => by cases h)⟩
theorem lo_35 : lok (1139, 1, false, 157, 160, false) := ⟨Or.inr (Or.inl rfl), ld_35, (fun _ => lc_35), (fun h => by cases h)⟩
theorem lo_36 : lok (1162, 1, false, 161, 164, false) := ⟨Or.inr (Or.inl rfl), ld_36, (fun _ => lc_36), (fun h => by cases h)⟩
theorem lo_37 : lok (1185, 2, false, 165, 168, false) := ⟨Or.inr (Or.inr (Or.inl rfl)), ld_37, (fun _ => lc_37), (fun h => by cases h)⟩
theorem lo_38 : lok (1218, 3, false, 169, 173, false) := ⟨Or.inr (Or.inr (Or.inr (Or.inl rfl))), ld_38, (fun _ => lc_38), (fun h => by cases h)⟩
theorem lo_39 : lok (1261, 2, false, 174, 177, false) := ⟨Or.inr (Or.inr (Or.inl rfl)), ld_39, (fun _ => lc_39), (fun h => by cases h)⟩
theorem lo_40 : lok (1294, 1, false, 178, 181, false) := ⟨Or.inr (Or.inl rfl), ld_40, (fun _ => lc_40), (fun h => by cases h)⟩
theorem lo_41 : lok (1317, 2, false, 182, 185, false) := ⟨Or.inr (Or.inr (Or.inl rfl)), ld_41, (fun _ => lc_41), (fun h => by cases h)⟩
theorem lo_42 : lok (1350, 2, false, 186, 189, false) := ⟨Or.inr (Or.inr (Or.inl rfl)), ld_42, (fun _ => lc_42), (fun h => by cases h)⟩
theorem lo_43 : lok (1383, 0, false, 190, 193, false) := ⟨Or.inl rfl, ld_43, (fun _ => lc_43), (fun h => by cases h)⟩
theorem lo_44 : lok (1396, 1, false, 194, 197, false) := ⟨Or.inr (Or.inl rfl), ld_44, (fun _ => lc_44), (fun h => by cases h)⟩
theorem lo_45 : lok (1419, 1, false, 198, 201, false) := ⟨Or.inr (Or.inl rfl), ld_45, (fun _ => lc_45), (fun h => by cases h)⟩
theorem lo_46 : lok (1442, 1, false, 202, 205, false) := ⟨Or.inr (Or.inl rfl), ld_46, (fun _ => lc_46), (fun h => by cases h)⟩
theorem lo_47 : lok (1465, 1, false, 206, 209, false) := ⟨Or.inr (Or.inl rfl), ld_47, (fun _ => lc_47), (fun h => by cases h)⟩
theorem lo_48 : lok (1488, 1, false, 210, 213, false) := ⟨Or.inr (Or.inl rfl), ld_48, (fun _ => lc_48), (fun h => by cases h)⟩
theorem lo_49 : lok (1511, 0, false, 214, 217, false) := ⟨Or.inl rfl, ld_49, (fun _ => lc_49), (fun h => by cases h)⟩
theorem lo_50 : lok (1524, 0, false, 218, 221, false) := ⟨Or.inl rfl, ld_50, (fun _ => lc_50), (fun h => by cases h)⟩
theorem lo_51 : lok (1537, 2, false, 222, 225, false) := ⟨Or.inr (Or.inr (Or.inl rfl)), ld_51, (fun _ => lc_51), (fun h => by cases h)⟩
theorem lo_52 : lok (1570, 1, false, 226, 229, false) := ⟨Or.inr (Or.inl rfl), ld_52, (fun _ => lc_52), (fun h => by cases h)⟩
theorem lo_53 : lok (1593, 2, true, 230, 234, false) := ⟨Or.inr (Or.inr (Or.inl rfl)), ld_53, (fun _ => lc_53), (fun h => by cases h)⟩
theorem lo_54 : lok (1627, 1, false, 235, 238, false) := ⟨Or.inr (Or.inl rfl), ld_54, (fun _ => lc_54), (fun h => by cases h)⟩
theorem lo_55 : lok (1650, 2, false, 239, 242, false) := ⟨Or.inr (Or.inr (Or.inl rfl)), ld_55, (fun _ => lc_55), (fun h => by cases h)⟩
theorem lo_56 : lok (1683, 2, false, 243, 246, false) := ⟨Or.inr (Or.inr (Or.inl rfl)), ld_56, (fun _ => lc_56), (fun h => by cases h)⟩
theorem lo_57 : lok (1716, 2, false, 247, 250, false) := ⟨Or.inr (Or.inr (Or.inl rfl)), ld_57, (fun _ => lc_57), (fun h => by cases h)⟩
theorem lo_58 : lok (1749, 0, false, 251, 254, false) := ⟨Or.inl rfl, ld_58, (fun _ => lc_58), (fun h => by cases h)⟩
theorem lo_59 : lok (1762, 0, false, 255, 258, false) := ⟨Or.inl rfl, ld_59, (fun _ => lc_59), (fun h => by cases h)⟩
theorem lo_60 : lok (1775, 2, false, 259, 262, false) := ⟨Or.inr (Or.inr (Or.inl rfl)), ld_60, (fun _ => lc_60), (fun h => by cases h)⟩
theorem lo_61 : lok (1808, 3, false, 263, 266, false) := ⟨Or.inr (Or.inr (Or.inr (Or.inl rfl))), ld_61, (fun _ => lc_61), (fun h => by cases h)⟩
theorem lo_62 : lok (1851, 1, false, 267, 270, false) := ⟨Or.inr (Or.inl rfl), ld_62, (fun _ => lc_62), (fun h => by cases h)⟩
theorem lo_63 : lok (1874, 1, false, 271, 274, false) := ⟨Or.inr (Or.inl rfl), ld_63, (fun _ => lc_63), (fun h => by cases h)⟩
theorem lo_64 : lok (1897, 1, false, 275, 278, true) := ⟨Or.inr (Or.inl rfl), ld_64, (fun h => by cases h), (fun _ => lc_64)⟩
theorem lo_65 : lok (1920, 1, false, 279, 282, false) := ⟨Or.inr (Or.inl rfl), ld_65, (fun _ => lc_65), (fun h => by cases h)⟩
theorem lo_66 : lok (1943, 3, false, 283, 286, true) := ⟨Or.inr (Or.inr (Or.inr (Or.inl rfl))), ld_66, (fun h => by cases h), (fun _ => lc_66)⟩
theorem lo_67 : lok (1986, 9, false, 289, 293, false) := ⟨Or.inr (Or.inr (Or.inr (Or.inr (Or.inr rfl)))), ld_67, (fun _ => lc_67), (fun h => by cases h)⟩
theorem lo_68 : lok (2059, 5, false, 294, 297, false) := ⟨Or.inr (Or.inr (Or.inr (Or.inr (Or.inl rfl)))), ld_68, (fun _ => lc_68), (fun h => by cases h)⟩
def lcs : List lCs := [(324, 5, false, 13, 17, true), (387, 1, false, 18, 22, false), (410, 0, false, 23, 27, false), (423, 1, false, 28, 31, false), (446, 2, false, 32, 36, false), (479, 2, false, 37, 40, false), (512, 2, false, 41, 44, false), (545, 1, false, 45, 48, false), (568, 2, false, 49, 52, false), (601, 1, false, 53, 56, false), (624, 1, false, 57, 60, false), (647, 1, false, 61, 64, false), (670, 1, false, 65, 68, false), (693, 1, false, 69, 72, false), (716, 1, false, 73, 76, false), (739, 1, false, 77, 80, false), (762, 1, false, 81, 84, false), (785, 2, false, 85, 88, false), (818, 0, false, 89, 92, false), (831, 0, false, 93, 96, false), (844, 0, false, 97, 100, false), (857, 1, false, 101, 104, false), (880, 1, false, 105, 108, false), (903, 1, false, 109, 112, false), (926, 1, false, 113, 116, false), (949, 0, false, 117, 120, false), (962, 0, false, 121, 124, false), (975, 1, false, 125, 128, false), (998, 0, false, 129, 132, false), (1011, 1, false, 133, 136, false), (1034, 0, false, 137, 140, false), (1047, 1, false, 141, 144, false), (1070, 1, false, 145, 148, false), (1093, 1, false, 149, 152, false), (1116, 1, false, 153, 156, false), (1139, 1, false, 157, 160, false), (1162, 1, false, 161, 164, false), (1185, 2, false, 165, 168, false), (1218, 3, false, 169, 173, false), (1261, 2, false, 174, 177, false), (1294, 1, false, 178, 181, false), (1317, 2, false, 182, 185, false), (1350, 2, false, 186, 189, false), (1383, 0, false, 190, 193, false), (1396, 1, false, 194, 197, false), (1419, 1, false, 198, 201, false), (1442, 1, false, 202, 205, false), (1465, 1, false, 206, 209, false), (1488, 1, false, 210, 213, false), (1511, 0, false, 214, 217, false), (1524, 0, false, 218, 221, false), (1537, 2, false, 222, 225, false), (1570, 1, false, 226, 229, false), (1593, 2, true, 230, 234, false), (1627, 1, false, 235, 238, false), (1650, 2, false, 239, 242, false), (1683, 2, false, 243, 246, false), (1716, 2, false, 247, 250, false), (1749, 0, false, 251, 254, false), (1762, 0, false, 255, 258, false), (1775, 2, false, 259, 262, false), (1808, 3, false, 263, 266, false), (1851, 1, false, 267, 270, false), (1874, 1, false, 271, 274, false), (1897, 1, false, 275, 278, true), (1920, 1, false, 279, 282, false), (1943, 3, false, 283, 286, true), (1986, 9, false, 289, 293, false), (2059, 5, false, 294, 297, false)]
theorem lcs_ok : ∀ q ∈ lcs, lok q := List.forall_mem_cons.mpr ⟨lo_0, List.forall_mem_cons.mpr ⟨lo_1, List.forall_mem_cons.mpr ⟨lo_2, List.forall_mem_cons.mpr ⟨lo_3, List.forall_mem_cons.mpr ⟨lo_4, List.forall_mem_cons.mpr ⟨lo_5, List.forall_mem_cons.mpr ⟨lo_6, List.forall_mem_cons.mpr ⟨lo_7, List.forall_mem_cons.mpr ⟨lo_8, List.forall_mem_cons.mpr ⟨lo_9, List.forall_mem_cons.mpr ⟨lo_10, List.forall_mem_cons.mpr ⟨lo_11, List.forall_mem_cons.mpr ⟨lo_12, List.forall_mem_cons.mpr ⟨lo_13, List.forall_mem_cons.mpr ⟨lo_14, List.forall_mem_cons.mpr ⟨lo_15, List.forall_mem_cons.mpr ⟨lo_16, List.forall_mem_cons.mpr ⟨lo_17, List.forall_mem_cons.mpr ⟨lo_18, List.forall_mem_cons.mpr ⟨lo_19, List.forall_mem_cons.mpr ⟨lo_20, List.forall_mem_cons.mpr ⟨lo_21, List.forall_mem_cons.mpr ⟨lo_22, List.forall_mem_cons.mpr ⟨lo_23, List.forall_mem_cons.mpr ⟨lo_24, List.forall_mem_cons.mpr ⟨lo_25, List.forall_mem_cons.mpr ⟨lo_26, List.forall_mem_cons.mpr ⟨lo_27, List.forall_mem_cons.mpr ⟨lo_28, List.forall_mem_cons.mpr ⟨lo_29, List.forall_mem_cons.mpr ⟨lo_30, List.forall_mem_cons.mpr ⟨lo_31, List.forall_mem_cons.mpr ⟨lo_32, List.forall_mem_cons.mpr ⟨lo_33, List.forall_mem_cons.mpr ⟨lo_34, List.forall_mem_cons.mpr ⟨lo_35, List.forall_mem_cons.mpr ⟨lo_36, List.forall_mem_cons.mpr ⟨lo_37, List.forall_mem_cons.mpr ⟨lo_38, List.forall_mem_cons.mpr ⟨lo_39, List.forall_mem_cons.mpr ⟨lo_40, List.forall_mem_cons.mpr ⟨lo_41, List.forall_mem_cons.mpr ⟨lo_42, List.forall_mem_cons.mpr ⟨lo_43, List.forall_mem_cons.mpr ⟨lo_44, List.forall_mem_cons.mpr ⟨lo_45, List.forall_mem_cons.mpr ⟨lo_46, List.forall_mem_cons.mpr ⟨lo_47, List.forall_mem_cons.mpr ⟨lo_48, List.forall_mem_cons.mpr ⟨lo_49, List.forall_mem_cons.mpr ⟨lo_50, List.forall_mem_cons.mpr ⟨lo_51, List.forall_mem_cons.mpr ⟨lo_52, List.forall_mem_cons.mpr ⟨lo_53, List.forall_mem_cons.mpr ⟨lo_54, List.forall_mem_cons.mpr ⟨lo_55, List.forall_mem_cons.mpr ⟨lo_56, List.forall_mem_cons.mpr ⟨lo_57, List.forall_mem_cons.mpr ⟨lo_58, List.forall_mem_cons.mpr ⟨lo_59, List.forall_mem_cons.mpr ⟨lo_60, List.forall_mem_cons.mpr ⟨lo_61, List.forall_mem_cons.mpr ⟨lo_62, List.forall_mem_cons.mpr ⟨lo_63, List.forall_mem_cons.mpr ⟨lo_64, List.forall_mem_cons.mpr ⟨lo_65, List.forall_mem_cons.mpr ⟨lo_66, List.forall_mem_cons.mpr ⟨lo_67, List.forall_mem_cons.mpr ⟨lo_68, fun _ h => absurd h List.not_mem_nil⟩⟩⟩⟩⟩⟩⟩⟩⟩⟩⟩⟩⟩⟩⟩⟩⟩⟩⟩⟩⟩⟩⟩⟩⟩⟩⟩⟩⟩⟩⟩⟩⟩⟩⟩⟩⟩⟩⟩⟩⟩⟩⟩⟩⟩⟩⟩⟩⟩⟩⟩⟩⟩⟩⟩⟩⟩⟩⟩⟩⟩⟩⟩⟩⟩⟩⟩⟩⟩
def loffs : Array Int := #[291, 354, 377, 390, 413, 446, 479, 512, 535, 568, 591, 614, 637, 660, 683, 706, 729, 752, 785, 798, 811, 824, 847, 870, 893, 916, 929, 942, 965, 978, 1001, 1014, 1037, 1060, 1083, 1106, 1129, 1152, 1185, 1228, 1261, 1284, 1317, 1350, 1363, 1386, 1409, 1432, 1455, 1478, 1491, 1504, 1537, 1560, 1594, 1617, 1650, 1683, 1716, 1729, 1742, 1775, 1818, 1841, 1864, 1887, 1910, 1953, 2026]
theorem loffs_ok : loffs.toList = lcs.map (fun q => (q.1 : Int) - 33) := by decide +kernel
theorem dl_0 : decode code 0 = .ok (.new 7, 3) := by decide +kernel
theorem dl_3 : decode code 3 = .ok (.dup, 1) := by decide +kernel
theorem dl_4 : decode code 4 = .ok (.invokespecial 9, 3) := by decide +kernel
theorem dl_7 : decode code 7 = .ok (.astore_n 1, 1) := by decide +kernel
theorem dl_8 : decode code 8 = .ok (.new 10, 3) := by decide +kernel
theorem dl_11 : decode code 11 = .ok (.dup, 1) := by decide +kernel
theorem dl_12 : decode code 12 = .ok (.invokespecial 12, 3) := by decide +kernel
theorem dl_15 : decode code 15 = .ok (.astore_n 2, 1) := by decide +kernel
theorem dl_16 : decode code 16 = .ok (.iconst 0, 1) := by decide +kernel
theorem dl_17 : decode code 17 = .ok (.istore_n 3, 1) := by decide +kernel
theorem dl_18 : decode code 18 = .ok (.iload_n 3, 1) := by decide +kernel
theorem dl_19 : decode code 19 = .ok (.aload_n 0, 1) := by decide +kernel
theorem dl_20 : decode code 20 = .ok (.arraylength, 1) := by decide +kernel
theorem dl_21 : decode code 21 = .ok (.bipush 6, 2) := by decide +kernel
theorem dl_23 : decode code 23 = .ok (.isub, 1) := by decide +kernel
theorem dl_24 : decode code 24 = .ok (.if_icmp .gt 2104, 3) := by decide +kernel
theorem dl_27 : decode code 27 = .ok (.aload_n 0, 1) := by decide +kernel
theorem dl_28 : decode code 28 = .ok (.iload_n 3, 1) := by decide +kernel
theorem dl_29 : decode code 29 = .ok (.iaload, 1) := by decide +kernel
theorem dl_30 : decode code 30 = .ok (.bipush 127, 2) := by decide +kernel
theorem dl_32 : decode code 32 = .ok (.iand, 1) := by decide +kernel
theorem dl_33 : decode code 33 = .ok (.tableswitch 2089 0 68 loffs, 291) := by decide +kernel
theorem dl_2122 : decode code 2122 = .ok (.iinc 3 6, 3) := by decide +kernel
theorem dl_2125 : decode code 2125 = .ok (.goto (-2107), 3) := by decide +kernel
theorem dl_2128 : decode code 2128 = .ok (.iconst 1, 1) := by decide +kernel
theorem dl_2129 : decode code 2129 = .ok (.ireturn, 1) := by decide +kernel
theorem wl_7 : Cond.classLink "SilenceMatchLaw" 7 "SilenceMatch" ∈ k_lg := kwd_ok (p := 117) (by decide +kernel)
theorem wl_10 : Cond.classLink "SilenceMatchLaw" 10 "SilenceMatchModel" ∈ k_lg := kwd_ok (p := 1216) (by decide +kernel)
theorem wl_9 : Cond.methodLink "SilenceMatchLaw" 9 ce_9.1.1 ∈ k_lg := kwd_ok (p := 119) (by decide +kernel)
theorem wl_12 : Cond.methodLink "SilenceMatchLaw" 12 ce_10.1.1 ∈ k_lg := kwd_ok (p := 1218) (by decide +kernel)
theorem wl_287 : Cond.constantLong "SilenceMatchLaw" 287 4294967295 ∈ k_lg := kwd_ok (p := 1934) (by decide +kernel)
theorem wl_i9 : Cond.initialized "SilenceMatch" ∈ k_lg := kwd_ok (p := 99) (by decide +kernel)
theorem wl_i10 : Cond.initialized "SilenceMatchModel" ∈ k_lg := kwd_ok (p := 109) (by decide +kernel)
end
section
/-! THE CLAIM OUT OF ONE WALK OF THE LAW'S BODY. Your part is whole_start (and what it stands on); all else here is the same for every law, but numbers. -/
def R_law : String := "SilenceMatchLaw"
def lw_P (b : Addr) (xs : List Int32) (args : Array Value) (s : State) : Prop := args = #[.ref b] ∧ s.IntsAt b xs ∧ xs.length ≤ 6 ∧ (Jvm.Cond.and given_1 narrow_1).before args s = true
def lw_Q (_ : Array Value) (s : State) (o : Outcome) (t : State) : Prop := o = .returned (some (.int 1)) ∧ Framed s o t [] 600000 7302250
def lw_Z (below : List Frame) (a : Array Value) (s : State) : State → Prop := fun t => ∃ o, t.status = .running ∧ Ended t below o ∧ lw_Q a s o t
/-- the law's own end, with 1 on the stack, nothing written that was there before, its room as the claim has it -/
theorem lw_ret {p : Program} {l : Launch} {e : Env} {s : State} {m : MethodId} {below : List Frame} {meth : Method} {c : Code} {b : Nat} (hx : p.tables.exec = Jvm.exec) (hb : c.code = code) (hr : meth.sig.returnType = ret) (hlocks : meth.locks = false) {pc : Nat} {H : Heap} {ls : Array Slot} (hdg : decode code pc = .ok (.ireturn, 1)) : W p l e room_1 s m #[Value.ref b] below meth c H [] 600000 7302250 (lw_Z below #[Value.ref b] s) (F0 m pc ls [.int 1]) := by
  intro T hT X
  obtain ⟨fs, hret, hrun, hended, hW, hframe⟩ := X.leave (v := some (.int 1)) (hlocks := hlocks) (fun h => by rw [hr] at h; cases h)
  have hmeth' : T.vm.method? m = some meth := X.method'
  refine ⟨T.setFrames fs, ?_, .returned (some (.int 1)), hrun, hended, rfl, ⟨_, rfl⟩, hW, hframe⟩
  jvm_step X.here [X.here.top, hx, hb, hdg, hmeth', hr, ret, narrow_b1]
  (try refine ⟨rfl, ?_⟩); (try refine ⟨rfl, ?_⟩)
  first | (intro acts; rw [hret _ acts rfl rfl rfl]) | rw [hret _ _ rfl rfl rfl]
  exact Steps.refl _
/-- what holds at the law's entry: the machine, the code, the tables' words (any of lw_tbl by 'hts w (by decide +kernel)'), the script of L ints xs at the cell b, what the Statement gives of the start (any of its parts by flat_of_before) -/
def lw_At (p : Program) (s : State) (m : MethodId) (meth : Method) (c : Code) (b L : Nat) (xs : Nat → Int32) : Prop :=
  p.tables.exec = Jvm.exec ∧ c.code = code ∧ meth.sig.returnType = ret ∧ c.maxLocals = 4 ∧ s.vm.findClass R_law = some m.cls ∧ (∀ w ∈ lw_tbl, w.before #[Value.ref b] s = true) ∧ va_X b L xs s s.heap ∧ b < s.heap.size ∧ meth.locks = false ∧ (Jvm.Cond.and given_1 narrow_1).before #[Value.ref b] s = true
section LEND
variable {p : Program} {l : Launch} {e : Env} {s : State} {m : MethodId} {below : List Frame} {meth : Method} {c : Code} {H : Heap} {locs : List Loc} {cells slots b L I : Nat} {ls : Array Slot} {i : Int32} {xs : Nat → Int32} {R : Room} {args : Array Value} {Q : State → Prop}
theorem l_end (hexec : p.tables.exec = Jvm.exec) (hb : c.code = code) (hrt : meth.sig.returnType = ret) (hlk : meth.locks = false) (hlocs : ∀ q ∈ locs, s.heap.size ≤ q.base) (hc : cells ≤ 600000) (hs : slots ≤ 7302250) : W p l e room_1 s m #[Value.ref b] below meth c H locs cells slots (lw_Z below #[Value.ref b] s) (F0 m 2128 ls []) := by
  refine lv_iconst (v := 1) hexec hb dl_2128 rfl ?_
  exact va_forget hlocs (W.widen hc hs (lw_ret hexec hb hrt hlk dl_2129))
/-- the loop's head -/
theorem l_head (hexec : p.tables.exec = Jvm.exec) (hb : c.code = code) (h0 : ls[0]? = some (.val (.ref b))) (h3 : ls[3]? = some (.val (.int i))) (hX : va_X b L xs s H) (hi : i.toInt = (I : Int)) (hL : L ≤ 100000) (k1 : I + 6 ≤ L → W p l e R s m args below meth c H locs cells slots Q (F0 m 33 ls [.int (xs I &&& 127)])) (k2 : L < I + 6 → W p l e R s m args below meth c H locs cells slots Q (F0 m 2128 ls [])) : W p l e R s m args below meth c H locs cells slots Q (F0 m 18 ls []) := by
  obtain ⟨scr, x1, x2, x3, x4, x5⟩ := hX
  refine lv_iload_n hexec hb dl_18 rfl h3 ?_
  refine lv_aload_n hexec hb dl_19 rfl h0 ?_
  refine W.alen (n := Int32.ofNat L) hexec hb x1 x2 (by rw [x4] <;> rfl) rfl rfl dl_20 ?_
  refine lv_bipush (v := 6) hexec hb dl_21 (by decide) ?_
  refine lv_isub hexec hb dl_23 ?_
  have ey : (Int32.ofNat L - 6).toInt = (L : Int) - 6 := by
    rw [Int32.toInt_sub, Int32.toInt_ofNat_of_lt (by omega), show (6 : Int32).toInt = 6 from rfl, k32_bm (by show (-2147483648 : Int) ≤ _; omega) (by show _ ≤ (2147483647 : Int); omega)]
  refine lv_icmp_gt (tgt := 2128) hexec hb dl_24 rfl (fun hlt => k2 ?_) (fun hn => ?_)
  · rw [Int32.lt_iff_toInt_lt, ey, hi] at hlt
    omega
  · rw [Int32.lt_iff_toInt_lt, ey, hi] at hn
    have en : i.toNatClampNeg = I := by
      show i.toInt.toNat = I
      rw [hi]; rfl
    refine lv_aload_n hexec hb dl_27 rfl h0 ?_
    refine lv_iload_n hexec hb dl_28 rfl h3 ?_
    refine W.iald (v := .int (xs I)) hexec hb x1 x2 x3 (by
      rw [x4, en, Int32.lt_iff_toInt_lt, hi]
      show ¬ ((I : Int) < 0 ∨ L ≤ I)
      omega) (by rw [en]; exact x5 _ (by omega)) rfl rfl dl_29 ?_
    refine lv_bipush (v := 127) hexec hb dl_30 (by decide) ?_
    exact lv_iand hexec hb dl_32 (k1 (by omega))
end LEND
end
section
/-! THE WALK OF THE LAW -/
/-- a fact of a new cell -/
theorem l_fact {D : va_G} {cA : Nat → ClassId} {tt : List kT} {tl : List Nat} {cs : List cCell} {n k j t r : Nat} {T : kT} {cc : cCell} {H0 H : Heap} {env : List Int} {ren : List Nat} {v : kV} (hTy : kTyp tt (cTy n tl)) (hH : cHp D cA n H0 cs H) (hk : tl[k]? = some t) (hT : tt[t]? = some T) (hc : cs[k]? = some cc) (h1 : T.1 = cc.1) (h2 : T.2.1 = cc.2.1) (hj : j < T.2.1) (hr : ren[r]? = some (n + k)) (hv : kvok env ren v (cVal n cc j)) : kfok D cA tt (cTy n tl) env ren H (r, kcst (j : Int), v) := by
  refine kfok_mk hTy ⟨n + k, t, T, cVal n cc, j, hr, ⟨k, rfl, hk⟩, hT, ?_, kcst_ev, hj, hv⟩
  have hcl := hH.2.2 k cc hc
  unfold kcell at hcl ⊢
  dsimp only at hcl
  rw [h1, h2]
  exact hcl
section LWALK
variable {p : Program} {l : Launch} {e : Env} {s : State} {m : MethodId} {below : List Frame} {meth : Method} {c : Code} {H : Heap} {locs : List Loc} {cells slots b L I n : Nat} {ls : Array Slot} {i : Int32} {xs : Nat → Int32} {R : Room} {args : Array Value} {Q : State → Prop} {D : va_G} {cA : Nat → Nat} {tys : List (ClassId × FieldType)}
set_option maxHeartbeats 4000000 in
set_option maxRecDepth 100000 in
/-- one call on a fresh object -/
theorem l_iter (hexec : p.tables.exec = Jvm.exec) (hb : c.code = code) (hml : c.maxLocals = 4) (hR : 2048 ≤ R.frames ∧ 84000 ≤ R.locals) (hcs : cells ≤ R.cells ∧ slots ≤ R.slots) (hown : s.vm.findClass "SilenceMatchLaw" = some m.cls) (hts : ∀ w ∈ k_lg, w.before args s = true) (hKn : cKn k_cl k_aty k_nw k_ao D cA tys s) (hi : i.toInt = (I : Int)) (hIL : I + 6 ≤ L) (hL : L ≤ 100000) (hls : ls.size = 4) (h0 : ls[0]? = some (.val (.ref b))) (h1 : ls[1]? = some (.val (.ref n))) (h2 : ls[2]? = some (.val (.ref (n + 109)))) (h3 : ls[3]? = some (.val (.int i))) (hbn : b < n) (hscr : va_X b L xs s s.heap) (hH : cHp D cA n s.heap k_cs2 H)
    (kk : ∀ (H' : Heap) (L' : List Loc), (∀ q, q < n → H'[q]? = s.heap[q]?) → (∀ q ∈ L', n ≤ q.base) → W p l e R s m args below meth c H' (locs ++ L') cells slots Q (F0 m 2122 ls [])) : W p l e R s m args below meth c H locs cells slots Q (F0 m 33 ls [.int (xs I &&& 127)]) := by
  have hv := k_and 127 (xs I) (by decide)
  rw [Int32.and_comm] at hv
  rw [show (127 : Int32).toInt = 127 from rfl] at hv
  generalize xs I &&& 127 = v at hv ⊢
  have hX : kXok (fun _ _ => True) n := ⟨fun _ _ _ _ _ _ _ => trivial, fun _ _ _ _ _ _ => trivial⟩
  have hK := cKn_kK (fun _ => 0) hKn
  have hT0 : kTyp k0_tt (cTy n k_tl) := kTypb_ok k_typ0 cTy_fun
  have hT1 : kTyp k1_tt (cTy n k_tl) := kTypb_ok k_typ1 cTy_fun
  have hr : kRt (cTy n k_tl) [n, n + 109, n + 1] [0, 36, 1] := ⟨rfl, fun k t a hk ha => by
    match k, hk, ha with
    | 0, hk, ha => cases hk; cases ha; exact ⟨0, rfl, rfl⟩
    | 1, hk, ha => cases hk; cases ha; exact ⟨109, rfl, rfl⟩
    | 2, hk, ha => cases hk; cases ha; exact ⟨1, rfl, rfl⟩
    | k + 3, hk, ha => cases hk⟩
  have z0 : kst D cA k0_tt (cTy n k_tl) (lenv xs I) [n, n + 109, n + 1] (lst [] []) H [] [] := ⟨lenv_in, (fun g hg => by cases hg), hr, trivial, trivial, (fun g hg => by cases hg)⟩
  have f0 : kfok D cA k1_tt (cTy n k_tl) (lenv xs I) [n, n + 109, n + 1] H (0, kcst 0, .inr (.inr (.inl 2))) := l_fact (k := 0) (j := 0) hT1 hH rfl rfl rfl rfl rfl (by decide) rfl ⟨n + 1, rfl, rfl⟩
  have f1 : kfok D cA k1_tt (cTy n k_tl) (lenv xs I) [n, n + 109, n + 1] H (2, kcst 1, .inl (kcst 0)) := l_fact (k := 1) (j := 1) hT1 hH rfl rfl rfl rfl rfl (by decide) rfl ⟨0, rfl, rfl⟩
  have f2 : kfok D cA k1_tt (cTy n k_tl) (lenv xs I) [n, n + 109, n + 1] H (1, kcst 5, .inl (kcst 0)) := l_fact (k := 109) (j := 5) hT1 hH rfl rfl rfl rfl rfl (by decide) rfl ⟨0, rfl, rfl⟩
  have z1 : kst D cA k1_tt (cTy n k_tl) (lenv xs I) [n, n + 109, n + 1] (lst fcL []) H [] [] := ⟨lenv_in, (fun g hg => by cases hg), hr, trivial, trivial, List.forall_mem_cons.mpr ⟨f0, List.forall_mem_cons.mpr ⟨f1, List.forall_mem_cons.mpr ⟨f2, fun _ h => absurd h List.not_mem_nil⟩⟩⟩⟩
  have fin : ∀ (H' : Heap) (L' : List Loc), kfr n H H' → (∀ q ∈ L', n ≤ q.base) → W p l e R s m args below meth c H' (locs ++ L') cells slots Q (F0 m 2122 ls []) := fun H' L' g1 g2 => kk H' L' (fun q hq => (g1.2 q hq).trans (hH.2.1 q hq)) g2
  by_cases hle : v.toInt ≤ 68
  · have hlt : v.toInt.toNat < lcs.length := by
      show v.toInt.toNat < 69
      omega
    have hq := List.getElem?_eq_getElem hlt
    generalize lcs[v.toInt.toNat] = q at hq
    have ho : loffs[(v.toInt - 0).toNat]? = some ((q.1 : Int) - 33) := by
      rw [Int.sub_zero, ← Array.getElem?_toList, loffs_ok, List.getElem?_map, hq]
      rfl
    refine lv_tableIn (tgt := q.1) hexec hb dl_33 (by omega) (by omega) ho (by omega) ?_
    obtain ⟨w1, w2, w3, w4⟩ := lcs_ok q (List.mem_of_getElem? hq)
    cases ht : q.2.2.2.2.2 with
    | false =>
      exact lcase_ok (a2 := n + 1) (X := fun _ _ => True) hexec hb hml hR hcs hown hts k_lg_good wmL0 hK (fun w hw => by cases hw) hX trivial hT0 (kept0 hX hT0) (hts _ wl_287) w1 w2 (w3 ht) hi hIL hL hls h0 h1 h2 h3 hbn hscr (fun q hq => hH.2.1 q hq) (cgood_ok k_good0 hH) z0 (fun H' L' g1 g2 g3 => fin H' L' g2 g3)
    | true =>
      exact lcase_ok (a2 := n + 1) (X := fun _ _ => True) hexec hb hml hR hcs hown hts k_lg_good wmL1 hK (fun w hw => by cases hw) hX trivial hT1 (kept1 hX hT1) (hts _ wl_287) w1 w2 (w4 ht) hi hIL hL hls h0 h1 h2 h3 hbn hscr (fun q hq => hH.2.1 q hq) (cgood_ok k_good1 hH) z1 (fun H' L' g1 g2 g3 => fin H' L' g2 g3)
  · refine lv_tableOut (tgt := 2122) hexec hb dl_33 (Or.inr (by omega)) (by decide) ?_
    have := fin H [] kfr_rfl (fun q hq => by cases hq)
    rwa [List.append_nil] at this
end LWALK
end
