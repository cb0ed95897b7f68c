section
-- ===== PART A: goes FIRST, ahead of the names: the tables' words, and 'selects' of the private methods out of them =====
/-- a private method of a class that the tables say can be made, by its rows of tables_1 -/
def lw_okq (q : MethodName × Nat) : Prop := (q.1.cls ≠ "java/lang/invoke/MethodHandle" ∧ q.1.cls ≠ "java/lang/invoke/VarHandle") ∧ Cond.instantiable q.1.cls q.2 ∈ tables_1 ∧ Cond.privateMethod q.1 ∈ tables_1 ∧ Cond.instanceMethod q.1 ∈ tables_1
theorem lw_p0 : lw_okq (⟨"SilenceMatch$Reader", "advance", "()V"⟩, 6) := ⟨⟨by decide +kernel, by decide +kernel⟩, List.mem_of_getElem? (i := 44) (by decide +kernel), List.mem_of_getElem? (i := 390) (by decide +kernel), List.mem_of_getElem? (i := 391) (by decide +kernel)⟩
theorem lw_p1 : lw_okq (⟨"SilenceMatch$Reader", "readLine", "(LSilenceMatch$Green;)V"⟩, 6) := ⟨⟨by decide +kernel, by decide +kernel⟩, List.mem_of_getElem? (i := 44) (by decide +kernel), List.mem_of_getElem? (i := 404) (by decide +kernel), List.mem_of_getElem? (i := 405) (by decide +kernel)⟩
theorem lw_p2 : lw_okq (⟨"SilenceMatch$Reader", "readHead", "(LSilenceMatch$Green;)V"⟩, 6) := ⟨⟨by decide +kernel, by decide +kernel⟩, List.mem_of_getElem? (i := 44) (by decide +kernel), List.mem_of_getElem? (i := 408) (by decide +kernel), List.mem_of_getElem? (i := 409) (by decide +kernel)⟩
theorem lw_p3 : lw_okq (⟨"SilenceMatch$Reader", "takeWord", "(Ljava/lang/String;)V"⟩, 6) := ⟨⟨by decide +kernel, by decide +kernel⟩, List.mem_of_getElem? (i := 44) (by decide +kernel), List.mem_of_getElem? (i := 413) (by decide +kernel), List.mem_of_getElem? (i := 414) (by decide +kernel)⟩
theorem lw_p4 : lw_okq (⟨"SilenceMatch$Reader", "isWord", "(Ljava/lang/String;)Z"⟩, 6) := ⟨⟨by decide +kernel, by decide +kernel⟩, List.mem_of_getElem? (i := 44) (by decide +kernel), List.mem_of_getElem? (i := 417) (by decide +kernel), List.mem_of_getElem? (i := 418) (by decide +kernel)⟩
theorem lw_p5 : lw_okq (⟨"SilenceMatch$Reader", "fail", "(I)V"⟩, 6) := ⟨⟨by decide +kernel, by decide +kernel⟩, List.mem_of_getElem? (i := 44) (by decide +kernel), List.mem_of_getElem? (i := 469) (by decide +kernel), List.mem_of_getElem? (i := 470) (by decide +kernel)⟩
theorem lw_p6 : lw_okq (⟨"SilenceMatch$Reader", "takeNumber", "(Ljava/lang/String;II)I"⟩, 6) := ⟨⟨by decide +kernel, by decide +kernel⟩, List.mem_of_getElem? (i := 44) (by decide +kernel), List.mem_of_getElem? (i := 474) (by decide +kernel), List.mem_of_getElem? (i := 475) (by decide +kernel)⟩
theorem lw_p7 : lw_okq (⟨"SilenceMatch$Reader", "takeValue", "(III)I"⟩, 6) := ⟨⟨by decide +kernel, by decide +kernel⟩, List.mem_of_getElem? (i := 44) (by decide +kernel), List.mem_of_getElem? (i := 478) (by decide +kernel), List.mem_of_getElem? (i := 479) (by decide +kernel)⟩
theorem lw_p8 : lw_okq (⟨"SilenceMatch$Reader", "valueOf", "()I"⟩, 6) := ⟨⟨by decide +kernel, by decide +kernel⟩, List.mem_of_getElem? (i := 44) (by decide +kernel), List.mem_of_getElem? (i := 482) (by decide +kernel), List.mem_of_getElem? (i := 483) (by decide +kernel)⟩
theorem lw_p9 : lw_okq (⟨"SilenceMatch$Reader", "readPlayer", "(LSilenceMatch$Green;)V"⟩, 6) := ⟨⟨by decide +kernel, by decide +kernel⟩, List.mem_of_getElem? (i := 44) (by decide +kernel), List.mem_of_getElem? (i := 494) (by decide +kernel), List.mem_of_getElem? (i := 495) (by decide +kernel)⟩
theorem lw_p10 : lw_okq (⟨"SilenceMatch$Reader", "hasRoom", "(II)Z"⟩, 6) := ⟨⟨by decide +kernel, by decide +kernel⟩, List.mem_of_getElem? (i := 44) (by decide +kernel), List.mem_of_getElem? (i := 498) (by decide +kernel), List.mem_of_getElem? (i := 499) (by decide +kernel)⟩
theorem lw_p11 : lw_okq (⟨"SilenceMatch$Reader", "readUmpire", "(LSilenceMatch$Green;)V"⟩, 6) := ⟨⟨by decide +kernel, by decide +kernel⟩, List.mem_of_getElem? (i := 44) (by decide +kernel), List.mem_of_getElem? (i := 511) (by decide +kernel), List.mem_of_getElem? (i := 512) (by decide +kernel)⟩
theorem lw_p12 : lw_okq (⟨"SilenceMatch$Reader", "readWind", "(LSilenceMatch$Green;)V"⟩, 6) := ⟨⟨by decide +kernel, by decide +kernel⟩, List.mem_of_getElem? (i := 44) (by decide +kernel), List.mem_of_getElem? (i := 517) (by decide +kernel), List.mem_of_getElem? (i := 518) (by decide +kernel)⟩
theorem lw_p13 : lw_okq (⟨"SilenceMatch$Reader", "readFriends", "(LSilenceMatch$Green;)V"⟩, 6) := ⟨⟨by decide +kernel, by decide +kernel⟩, List.mem_of_getElem? (i := 44) (by decide +kernel), List.mem_of_getElem? (i := 524) (by decide +kernel), List.mem_of_getElem? (i := 525) (by decide +kernel)⟩
theorem lw_p14 : lw_okq (⟨"SilenceMatch$Reader", "takeSign", "()V"⟩, 6) := ⟨⟨by decide +kernel, by decide +kernel⟩, List.mem_of_getElem? (i := 44) (by decide +kernel), List.mem_of_getElem? (i := 528) (by decide +kernel), List.mem_of_getElem? (i := 529) (by decide +kernel)⟩
theorem lw_p15 : lw_okq (⟨"SilenceMatch", "isMinute", "(I)Z"⟩, 13) := ⟨⟨by decide +kernel, by decide +kernel⟩, List.mem_of_getElem? (i := 20) (by decide +kernel), List.mem_of_getElem? (i := 622) (by decide +kernel), List.mem_of_getElem? (i := 623) (by decide +kernel)⟩
def lw_privs_1 : List (MethodName × Nat) := [(⟨"SilenceMatch$Reader", "advance", "()V"⟩, 6), (⟨"SilenceMatch$Reader", "readLine", "(LSilenceMatch$Green;)V"⟩, 6), (⟨"SilenceMatch$Reader", "readHead", "(LSilenceMatch$Green;)V"⟩, 6), (⟨"SilenceMatch$Reader", "takeWord", "(Ljava/lang/String;)V"⟩, 6), (⟨"SilenceMatch$Reader", "isWord", "(Ljava/lang/String;)Z"⟩, 6), (⟨"SilenceMatch$Reader", "fail", "(I)V"⟩, 6), (⟨"SilenceMatch$Reader", "takeNumber", "(Ljava/lang/String;II)I"⟩, 6), (⟨"SilenceMatch$Reader", "takeValue", "(III)I"⟩, 6), (⟨"SilenceMatch$Reader", "valueOf", "()I"⟩, 6), (⟨"SilenceMatch$Reader", "readPlayer", "(LSilenceMatch$Green;)V"⟩, 6), (⟨"SilenceMatch$Reader", "hasRoom", "(II)Z"⟩, 6), (⟨"SilenceMatch$Reader", "readUmpire", "(LSilenceMatch$Green;)V"⟩, 6), (⟨"SilenceMatch$Reader", "readWind", "(LSilenceMatch$Green;)V"⟩, 6), (⟨"SilenceMatch$Reader", "readFriends", "(LSilenceMatch$Green;)V"⟩, 6), (⟨"SilenceMatch$Reader", "takeSign", "()V"⟩, 6), (⟨"SilenceMatch", "isMinute", "(I)Z"⟩, 13)]
theorem lw_r1 : ∀ q ∈ lw_privs_1, lw_okq q := List.forall_mem_cons.mpr ⟨lw_p0, List.forall_mem_cons.mpr ⟨lw_p1, List.forall_mem_cons.mpr ⟨lw_p2, List.forall_mem_cons.mpr ⟨lw_p3, List.forall_mem_cons.mpr ⟨lw_p4, List.forall_mem_cons.mpr ⟨lw_p5, List.forall_mem_cons.mpr ⟨lw_p6, List.forall_mem_cons.mpr ⟨lw_p7, List.forall_mem_cons.mpr ⟨lw_p8, List.forall_mem_cons.mpr ⟨lw_p9, List.forall_mem_cons.mpr ⟨lw_p10, List.forall_mem_cons.mpr ⟨lw_p11, List.forall_mem_cons.mpr ⟨lw_p12, List.forall_mem_cons.mpr ⟨lw_p13, List.forall_mem_cons.mpr ⟨lw_p14, List.forall_mem_cons.mpr ⟨lw_p15, fun _ h => absurd h List.not_mem_nil⟩⟩⟩⟩⟩⟩⟩⟩⟩⟩⟩⟩⟩⟩⟩⟩
theorem lw_p16 : lw_okq (⟨"SilenceMatch$Match", "run", "(LSilenceMatch$Green;I)V"⟩, 9) := ⟨⟨by decide +kernel, by decide +kernel⟩, List.mem_of_getElem? (i := 210) (by decide +kernel), List.mem_of_getElem? (i := 646) (by decide +kernel), List.mem_of_getElem? (i := 647) (by decide +kernel)⟩
theorem lw_p17 : lw_okq (⟨"SilenceMatch$Match", "heardCoughers", "(LSilenceMatch$Green;)I"⟩, 9) := ⟨⟨by decide +kernel, by decide +kernel⟩, List.mem_of_getElem? (i := 210) (by decide +kernel), List.mem_of_getElem? (i := 650) (by decide +kernel), List.mem_of_getElem? (i := 651) (by decide +kernel)⟩
theorem lw_p18 : lw_okq (⟨"SilenceMatch$Match", "heardLaughers", "(LSilenceMatch$Green;)I"⟩, 9) := ⟨⟨by decide +kernel, by decide +kernel⟩, List.mem_of_getElem? (i := 210) (by decide +kernel), List.mem_of_getElem? (i := 655) (by decide +kernel), List.mem_of_getElem? (i := 656) (by decide +kernel)⟩
theorem lw_p19 : lw_okq (⟨"SilenceMatch$Draws", "next", "()J"⟩, 4) := ⟨⟨by decide +kernel, by decide +kernel⟩, List.mem_of_getElem? (i := 216) (by decide +kernel), List.mem_of_getElem? (i := 666) (by decide +kernel), List.mem_of_getElem? (i := 667) (by decide +kernel)⟩
theorem lw_p20 : lw_okq (⟨"SilenceMatch", "isSide", "(I)Z"⟩, 13) := ⟨⟨by decide +kernel, by decide +kernel⟩, List.mem_of_getElem? (i := 20) (by decide +kernel), List.mem_of_getElem? (i := 713) (by decide +kernel), List.mem_of_getElem? (i := 714) (by decide +kernel)⟩
theorem lw_p21 : lw_okq (⟨"SilenceMatch", "winner", "()I"⟩, 13) := ⟨⟨by decide +kernel, by decide +kernel⟩, List.mem_of_getElem? (i := 20) (by decide +kernel), List.mem_of_getElem? (i := 735) (by decide +kernel), List.mem_of_getElem? (i := 736) (by decide +kernel)⟩
theorem lw_p22 : lw_okq (⟨"SilenceMatch", "outsWithout", "(II)I"⟩, 13) := ⟨⟨by decide +kernel, by decide +kernel⟩, List.mem_of_getElem? (i := 20) (by decide +kernel), List.mem_of_getElem? (i := 779) (by decide +kernel), List.mem_of_getElem? (i := 780) (by decide +kernel)⟩
theorem lw_p23 : lw_okq (⟨"SilenceMatch", "leadSwapped", "(II)I"⟩, 13) := ⟨⟨by decide +kernel, by decide +kernel⟩, List.mem_of_getElem? (i := 20) (by decide +kernel), List.mem_of_getElem? (i := 800) (by decide +kernel), List.mem_of_getElem? (i := 801) (by decide +kernel)⟩
theorem lw_p24 : lw_okq (⟨"SilenceMatch", "playMoved", "(II)V"⟩, 13) := ⟨⟨by decide +kernel, by decide +kernel⟩, List.mem_of_getElem? (i := 20) (by decide +kernel), List.mem_of_getElem? (i := 808) (by decide +kernel), List.mem_of_getElem? (i := 809) (by decide +kernel)⟩
theorem lw_p25 : lw_okq (⟨"SilenceMatch", "latestCell", "(I)I"⟩, 13) := ⟨⟨by decide +kernel, by decide +kernel⟩, List.mem_of_getElem? (i := 20) (by decide +kernel), List.mem_of_getElem? (i := 816) (by decide +kernel), List.mem_of_getElem? (i := 817) (by decide +kernel)⟩
theorem lw_p26 : lw_okq (⟨"SilenceMatch", "bestCell", "(I)I"⟩, 13) := ⟨⟨by decide +kernel, by decide +kernel⟩, List.mem_of_getElem? (i := 20) (by decide +kernel), List.mem_of_getElem? (i := 828) (by decide +kernel), List.mem_of_getElem? (i := 829) (by decide +kernel)⟩
theorem lw_p27 : lw_okq (⟨"SilenceMatch", "evenRest", "()I"⟩, 13) := ⟨⟨by decide +kernel, by decide +kernel⟩, List.mem_of_getElem? (i := 20) (by decide +kernel), List.mem_of_getElem? (i := 844) (by decide +kernel), List.mem_of_getElem? (i := 845) (by decide +kernel)⟩
theorem lw_p28 : lw_okq (⟨"SilenceMatch", "isEvenWithout", "(I)Z"⟩, 13) := ⟨⟨by decide +kernel, by decide +kernel⟩, List.mem_of_getElem? (i := 20) (by decide +kernel), List.mem_of_getElem? (i := 848) (by decide +kernel), List.mem_of_getElem? (i := 849) (by decide +kernel)⟩
theorem lw_p29 : lw_okq (⟨"SilenceMatch", "areCoverTerms", "(II)Z"⟩, 13) := ⟨⟨by decide +kernel, by decide +kernel⟩, List.mem_of_getElem? (i := 20) (by decide +kernel), List.mem_of_getElem? (i := 868) (by decide +kernel), List.mem_of_getElem? (i := 869) (by decide +kernel)⟩
theorem lw_p30 : lw_okq (⟨"SilenceMatch$Cover", "choose", "(IIII)V"⟩, 5) := ⟨⟨by decide +kernel, by decide +kernel⟩, List.mem_of_getElem? (i := 269) (by decide +kernel), List.mem_of_getElem? (i := 884) (by decide +kernel), List.mem_of_getElem? (i := 885) (by decide +kernel)⟩
theorem lw_p31 : lw_okq (⟨"SilenceMatch", "leastCut", "(II)I"⟩, 13) := ⟨⟨by decide +kernel, by decide +kernel⟩, List.mem_of_getElem? (i := 20) (by decide +kernel), List.mem_of_getElem? (i := 921) (by decide +kernel), List.mem_of_getElem? (i := 922) (by decide +kernel)⟩
def lw_privs_2 : List (MethodName × Nat) := [(⟨"SilenceMatch$Match", "run", "(LSilenceMatch$Green;I)V"⟩, 9), (⟨"SilenceMatch$Match", "heardCoughers", "(LSilenceMatch$Green;)I"⟩, 9), (⟨"SilenceMatch$Match", "heardLaughers", "(LSilenceMatch$Green;)I"⟩, 9), (⟨"SilenceMatch$Draws", "next", "()J"⟩, 4), (⟨"SilenceMatch", "isSide", "(I)Z"⟩, 13), (⟨"SilenceMatch", "winner", "()I"⟩, 13), (⟨"SilenceMatch", "outsWithout", "(II)I"⟩, 13), (⟨"SilenceMatch", "leadSwapped", "(II)I"⟩, 13), (⟨"SilenceMatch", "playMoved", "(II)V"⟩, 13), (⟨"SilenceMatch", "latestCell", "(I)I"⟩, 13), (⟨"SilenceMatch", "bestCell", "(I)I"⟩, 13), (⟨"SilenceMatch", "evenRest", "()I"⟩, 13), (⟨"SilenceMatch", "isEvenWithout", "(I)Z"⟩, 13), (⟨"SilenceMatch", "areCoverTerms", "(II)Z"⟩, 13), (⟨"SilenceMatch$Cover", "choose", "(IIII)V"⟩, 5), (⟨"SilenceMatch", "leastCut", "(II)I"⟩, 13)]
theorem lw_r2 : ∀ q ∈ lw_privs_2, lw_okq q := List.forall_mem_cons.mpr ⟨lw_p16, List.forall_mem_cons.mpr ⟨lw_p17, List.forall_mem_cons.mpr ⟨lw_p18, List.forall_mem_cons.mpr ⟨lw_p19, List.forall_mem_cons.mpr ⟨lw_p20, List.forall_mem_cons.mpr ⟨lw_p21, List.forall_mem_cons.mpr ⟨lw_p22, List.forall_mem_cons.mpr ⟨lw_p23, List.forall_mem_cons.mpr ⟨lw_p24, List.forall_mem_cons.mpr ⟨lw_p25, List.forall_mem_cons.mpr ⟨lw_p26, List.forall_mem_cons.mpr ⟨lw_p27, List.forall_mem_cons.mpr ⟨lw_p28, List.forall_mem_cons.mpr ⟨lw_p29, List.forall_mem_cons.mpr ⟨lw_p30, List.forall_mem_cons.mpr ⟨lw_p31, fun _ h => absurd h List.not_mem_nil⟩⟩⟩⟩⟩⟩⟩⟩⟩⟩⟩⟩⟩⟩⟩⟩
theorem lw_p32 : lw_okq (⟨"SilenceMatch", "listen", "(I)I"⟩, 13) := ⟨⟨by decide +kernel, by decide +kernel⟩, List.mem_of_getElem? (i := 20) (by decide +kernel), List.mem_of_getElem? (i := 933) (by decide +kernel), List.mem_of_getElem? (i := 934) (by decide +kernel)⟩
theorem lw_p33 : lw_okq (⟨"SilenceMatch", "danger", "(I)I"⟩, 13) := ⟨⟨by decide +kernel, by decide +kernel⟩, List.mem_of_getElem? (i := 20) (by decide +kernel), List.mem_of_getElem? (i := 1011) (by decide +kernel), List.mem_of_getElem? (i := 1012) (by decide +kernel)⟩
theorem lw_p34 : lw_okq (⟨"SilenceMatch", "isLikely", "(II)Z"⟩, 13) := ⟨⟨by decide +kernel, by decide +kernel⟩, List.mem_of_getElem? (i := 20) (by decide +kernel), List.mem_of_getElem? (i := 1020) (by decide +kernel), List.mem_of_getElem? (i := 1021) (by decide +kernel)⟩
theorem lw_p35 : lw_okq (⟨"SilenceMatch", "filledSlots", "()I"⟩, 13) := ⟨⟨by decide +kernel, by decide +kernel⟩, List.mem_of_getElem? (i := 20) (by decide +kernel), List.mem_of_getElem? (i := 1074) (by decide +kernel), List.mem_of_getElem? (i := 1075) (by decide +kernel)⟩
theorem lw_p36 : lw_okq (⟨"SilenceMatchModel", "advance", "()V"⟩, 38) := ⟨⟨by decide +kernel, by decide +kernel⟩, List.mem_of_getElem? (i := 1119) (by decide +kernel), List.mem_of_getElem? (i := 1267) (by decide +kernel), List.mem_of_getElem? (i := 1268) (by decide +kernel)⟩
theorem lw_p37 : lw_okq (⟨"SilenceMatchModel", "see", "(I)I"⟩, 38) := ⟨⟨by decide +kernel, by decide +kernel⟩, List.mem_of_getElem? (i := 1119) (by decide +kernel), List.mem_of_getElem? (i := 1271) (by decide +kernel), List.mem_of_getElem? (i := 1272) (by decide +kernel)⟩
theorem lw_p38 : lw_okq (⟨"SilenceMatchModel", "good", "()Z"⟩, 38) := ⟨⟨by decide +kernel, by decide +kernel⟩, List.mem_of_getElem? (i := 1119) (by decide +kernel), List.mem_of_getElem? (i := 1281) (by decide +kernel), List.mem_of_getElem? (i := 1282) (by decide +kernel)⟩
theorem lw_p39 : lw_okq (⟨"SilenceMatchModel", "readLine", "()V"⟩, 38) := ⟨⟨by decide +kernel, by decide +kernel⟩, List.mem_of_getElem? (i := 1119) (by decide +kernel), List.mem_of_getElem? (i := 1285) (by decide +kernel), List.mem_of_getElem? (i := 1286) (by decide +kernel)⟩
theorem lw_p40 : lw_okq (⟨"SilenceMatchModel", "readFirst", "()V"⟩, 38) := ⟨⟨by decide +kernel, by decide +kernel⟩, List.mem_of_getElem? (i := 1119) (by decide +kernel), List.mem_of_getElem? (i := 1289) (by decide +kernel), List.mem_of_getElem? (i := 1290) (by decide +kernel)⟩
theorem lw_p41 : lw_okq (⟨"SilenceMatchModel", "needs", "(Ljava/lang/String;)V"⟩, 38) := ⟨⟨by decide +kernel, by decide +kernel⟩, List.mem_of_getElem? (i := 1119) (by decide +kernel), List.mem_of_getElem? (i := 1294) (by decide +kernel), List.mem_of_getElem? (i := 1295) (by decide +kernel)⟩
theorem lw_p42 : lw_okq (⟨"SilenceMatchModel", "takes", "(Ljava/lang/String;)Z"⟩, 38) := ⟨⟨by decide +kernel, by decide +kernel⟩, List.mem_of_getElem? (i := 1119) (by decide +kernel), List.mem_of_getElem? (i := 1298) (by decide +kernel), List.mem_of_getElem? (i := 1299) (by decide +kernel)⟩
theorem lw_p43 : lw_okq (⟨"SilenceMatchModel", "is", "(Ljava/lang/String;)Z"⟩, 38) := ⟨⟨by decide +kernel, by decide +kernel⟩, List.mem_of_getElem? (i := 1119) (by decide +kernel), List.mem_of_getElem? (i := 1302) (by decide +kernel), List.mem_of_getElem? (i := 1303) (by decide +kernel)⟩
theorem lw_p44 : lw_okq (⟨"SilenceMatchModel", "errs", "(I)V"⟩, 38) := ⟨⟨by decide +kernel, by decide +kernel⟩, List.mem_of_getElem? (i := 1119) (by decide +kernel), List.mem_of_getElem? (i := 1308) (by decide +kernel), List.mem_of_getElem? (i := 1309) (by decide +kernel)⟩
theorem lw_p45 : lw_okq (⟨"SilenceMatchModel", "told", "(Ljava/lang/String;II)I"⟩, 38) := ⟨⟨by decide +kernel, by decide +kernel⟩, List.mem_of_getElem? (i := 1119) (by decide +kernel), List.mem_of_getElem? (i := 1313) (by decide +kernel), List.mem_of_getElem? (i := 1314) (by decide +kernel)⟩
theorem lw_p46 : lw_okq (⟨"SilenceMatchModel", "number", "(II)I"⟩, 38) := ⟨⟨by decide +kernel, by decide +kernel⟩, List.mem_of_getElem? (i := 1119) (by decide +kernel), List.mem_of_getElem? (i := 1317) (by decide +kernel), List.mem_of_getElem? (i := 1318) (by decide +kernel)⟩
theorem lw_p47 : lw_okq (⟨"SilenceMatchModel", "readNext", "()V"⟩, 38) := ⟨⟨by decide +kernel, by decide +kernel⟩, List.mem_of_getElem? (i := 1119) (by decide +kernel), List.mem_of_getElem? (i := 1325) (by decide +kernel), List.mem_of_getElem? (i := 1326) (by decide +kernel)⟩
def lw_privs_3 : List (MethodName × Nat) := [(⟨"SilenceMatch", "listen", "(I)I"⟩, 13), (⟨"SilenceMatch", "danger", "(I)I"⟩, 13), (⟨"SilenceMatch", "isLikely", "(II)Z"⟩, 13), (⟨"SilenceMatch", "filledSlots", "()I"⟩, 13), (⟨"SilenceMatchModel", "advance", "()V"⟩, 38), (⟨"SilenceMatchModel", "see", "(I)I"⟩, 38), (⟨"SilenceMatchModel", "good", "()Z"⟩, 38), (⟨"SilenceMatchModel", "readLine", "()V"⟩, 38), (⟨"SilenceMatchModel", "readFirst", "()V"⟩, 38), (⟨"SilenceMatchModel", "needs", "(Ljava/lang/String;)V"⟩, 38), (⟨"SilenceMatchModel", "takes", "(Ljava/lang/String;)Z"⟩, 38), (⟨"SilenceMatchModel", "is", "(Ljava/lang/String;)Z"⟩, 38), (⟨"SilenceMatchModel", "errs", "(I)V"⟩, 38), (⟨"SilenceMatchModel", "told", "(Ljava/lang/String;II)I"⟩, 38), (⟨"SilenceMatchModel", "number", "(II)I"⟩, 38), (⟨"SilenceMatchModel", "readNext", "()V"⟩, 38)]
theorem lw_r3 : ∀ q ∈ lw_privs_3, lw_okq q := List.forall_mem_cons.mpr ⟨lw_p32, List.forall_mem_cons.mpr ⟨lw_p33, List.forall_mem_cons.mpr ⟨lw_p34, List.forall_mem_cons.mpr ⟨lw_p35, List.forall_mem_cons.mpr ⟨lw_p36, List.forall_mem_cons.mpr ⟨lw_p37, List.forall_mem_cons.mpr ⟨lw_p38, List.forall_mem_cons.mpr ⟨lw_p39, List.forall_mem_cons.mpr ⟨lw_p40, List.forall_mem_cons.mpr ⟨lw_p41, List.forall_mem_cons.mpr ⟨lw_p42, List.forall_mem_cons.mpr ⟨lw_p43, List.forall_mem_cons.mpr ⟨lw_p44, List.forall_mem_cons.mpr ⟨lw_p45, List.forall_mem_cons.mpr ⟨lw_p46, List.forall_mem_cons.mpr ⟨lw_p47, fun _ h => absurd h List.not_mem_nil⟩⟩⟩⟩⟩⟩⟩⟩⟩⟩⟩⟩⟩⟩⟩⟩
theorem lw_p48 : lw_okq (⟨"SilenceMatchModel", "readPlayer", "()V"⟩, 38) := ⟨⟨by decide +kernel, by decide +kernel⟩, List.mem_of_getElem? (i := 1119) (by decide +kernel), List.mem_of_getElem? (i := 1333) (by decide +kernel), List.mem_of_getElem? (i := 1334) (by decide +kernel)⟩
theorem lw_p49 : lw_okq (⟨"SilenceMatchModel", "freshCell", "()I"⟩, 38) := ⟨⟨by decide +kernel, by decide +kernel⟩, List.mem_of_getElem? (i := 1119) (by decide +kernel), List.mem_of_getElem? (i := 1338) (by decide +kernel), List.mem_of_getElem? (i := 1339) (by decide +kernel)⟩
theorem lw_p50 : lw_okq (⟨"SilenceMatchModel", "readFriends", "()V"⟩, 38) := ⟨⟨by decide +kernel, by decide +kernel⟩, List.mem_of_getElem? (i := 1119) (by decide +kernel), List.mem_of_getElem? (i := 1348) (by decide +kernel), List.mem_of_getElem? (i := 1349) (by decide +kernel)⟩
theorem lw_p51 : lw_okq (⟨"SilenceMatchModel", "isUmpire", "(J)Z"⟩, 38) := ⟨⟨by decide +kernel, by decide +kernel⟩, List.mem_of_getElem? (i := 1119) (by decide +kernel), List.mem_of_getElem? (i := 1356) (by decide +kernel), List.mem_of_getElem? (i := 1357) (by decide +kernel)⟩
theorem lw_p52 : lw_okq (⟨"SilenceMatchModel", "isCell", "(I)Z"⟩, 38) := ⟨⟨by decide +kernel, by decide +kernel⟩, List.mem_of_getElem? (i := 1119) (by decide +kernel), List.mem_of_getElem? (i := 1364) (by decide +kernel), List.mem_of_getElem? (i := 1365) (by decide +kernel)⟩
theorem lw_p53 : lw_okq (⟨"SilenceMatchModel", "cellMany", "()I"⟩, 38) := ⟨⟨by decide +kernel, by decide +kernel⟩, List.mem_of_getElem? (i := 1119) (by decide +kernel), List.mem_of_getElem? (i := 1368) (by decide +kernel), List.mem_of_getElem? (i := 1369) (by decide +kernel)⟩
theorem lw_p54 : lw_okq (⟨"SilenceMatchModel", "farOf", "(II)I"⟩, 38) := ⟨⟨by decide +kernel, by decide +kernel⟩, List.mem_of_getElem? (i := 1119) (by decide +kernel), List.mem_of_getElem? (i := 1372) (by decide +kernel), List.mem_of_getElem? (i := 1373) (by decide +kernel)⟩
theorem lw_p55 : lw_okq (⟨"SilenceMatchModel", "isGreen", "()Z"⟩, 38) := ⟨⟨by decide +kernel, by decide +kernel⟩, List.mem_of_getElem? (i := 1119) (by decide +kernel), List.mem_of_getElem? (i := 1383) (by decide +kernel), List.mem_of_getElem? (i := 1384) (by decide +kernel)⟩
theorem lw_p56 : lw_okq (⟨"SilenceMatchModel", "blows", "(I)Z"⟩, 38) := ⟨⟨by decide +kernel, by decide +kernel⟩, List.mem_of_getElem? (i := 1119) (by decide +kernel), List.mem_of_getElem? (i := 1388) (by decide +kernel), List.mem_of_getElem? (i := 1389) (by decide +kernel)⟩
theorem lw_p57 : lw_okq (⟨"SilenceMatchModel", "isLoud", "(II)Z"⟩, 38) := ⟨⟨by decide +kernel, by decide +kernel⟩, List.mem_of_getElem? (i := 1119) (by decide +kernel), List.mem_of_getElem? (i := 1396) (by decide +kernel), List.mem_of_getElem? (i := 1397) (by decide +kernel)⟩
theorem lw_p58 : lw_okq (⟨"SilenceMatchModel", "earsOf", "(II)I"⟩, 38) := ⟨⟨by decide +kernel, by decide +kernel⟩, List.mem_of_getElem? (i := 1119) (by decide +kernel), List.mem_of_getElem? (i := 1401) (by decide +kernel), List.mem_of_getElem? (i := 1402) (by decide +kernel)⟩
theorem lw_p59 : lw_okq (⟨"SilenceMatchModel", "deadOf", "(I)I"⟩, 38) := ⟨⟨by decide +kernel, by decide +kernel⟩, List.mem_of_getElem? (i := 1119) (by decide +kernel), List.mem_of_getElem? (i := 1409) (by decide +kernel), List.mem_of_getElem? (i := 1410) (by decide +kernel)⟩
theorem lw_p60 : lw_okq (⟨"SilenceMatchModel", "asksPlayer", "(I)Z"⟩, 38) := ⟨⟨by decide +kernel, by decide +kernel⟩, List.mem_of_getElem? (i := 1119) (by decide +kernel), List.mem_of_getElem? (i := 1421) (by decide +kernel), List.mem_of_getElem? (i := 1422) (by decide +kernel)⟩
theorem lw_p61 : lw_okq (⟨"SilenceMatchModel", "asksGreen", "()Z"⟩, 38) := ⟨⟨by decide +kernel, by decide +kernel⟩, List.mem_of_getElem? (i := 1119) (by decide +kernel), List.mem_of_getElem? (i := 1425) (by decide +kernel), List.mem_of_getElem? (i := 1426) (by decide +kernel)⟩
theorem lw_p62 : lw_okq (⟨"SilenceMatchModel", "asItIs", "()V"⟩, 38) := ⟨⟨by decide +kernel, by decide +kernel⟩, List.mem_of_getElem? (i := 1119) (by decide +kernel), List.mem_of_getElem? (i := 1429) (by decide +kernel), List.mem_of_getElem? (i := 1430) (by decide +kernel)⟩
theorem lw_p63 : lw_okq (⟨"SilenceMatchModel", "of", "(II)I"⟩, 38) := ⟨⟨by decide +kernel, by decide +kernel⟩, List.mem_of_getElem? (i := 1119) (by decide +kernel), List.mem_of_getElem? (i := 1433) (by decide +kernel), List.mem_of_getElem? (i := 1434) (by decide +kernel)⟩
def lw_privs_4 : List (MethodName × Nat) := [(⟨"SilenceMatchModel", "readPlayer", "()V"⟩, 38), (⟨"SilenceMatchModel", "freshCell", "()I"⟩, 38), (⟨"SilenceMatchModel", "readFriends", "()V"⟩, 38), (⟨"SilenceMatchModel", "isUmpire", "(J)Z"⟩, 38), (⟨"SilenceMatchModel", "isCell", "(I)Z"⟩, 38), (⟨"SilenceMatchModel", "cellMany", "()I"⟩, 38), (⟨"SilenceMatchModel", "farOf", "(II)I"⟩, 38), (⟨"SilenceMatchModel", "isGreen", "()Z"⟩, 38), (⟨"SilenceMatchModel", "blows", "(I)Z"⟩, 38), (⟨"SilenceMatchModel", "isLoud", "(II)Z"⟩, 38), (⟨"SilenceMatchModel", "earsOf", "(II)I"⟩, 38), (⟨"SilenceMatchModel", "deadOf", "(I)I"⟩, 38), (⟨"SilenceMatchModel", "asksPlayer", "(I)Z"⟩, 38), (⟨"SilenceMatchModel", "asksGreen", "()Z"⟩, 38), (⟨"SilenceMatchModel", "asItIs", "()V"⟩, 38), (⟨"SilenceMatchModel", "of", "(II)I"⟩, 38)]
theorem lw_r4 : ∀ q ∈ lw_privs_4, lw_okq q := List.forall_mem_cons.mpr ⟨lw_p48, List.forall_mem_cons.mpr ⟨lw_p49, List.forall_mem_cons.mpr ⟨lw_p50, List.forall_mem_cons.mpr ⟨lw_p51, List.forall_mem_cons.mpr ⟨lw_p52, List.forall_mem_cons.mpr ⟨lw_p53, List.forall_mem_cons.mpr ⟨lw_p54, List.forall_mem_cons.mpr ⟨lw_p55, List.forall_mem_cons.mpr ⟨lw_p56, List.forall_mem_cons.mpr ⟨lw_p57, List.forall_mem_cons.mpr ⟨lw_p58, List.forall_mem_cons.mpr ⟨lw_p59, List.forall_mem_cons.mpr ⟨lw_p60, List.forall_mem_cons.mpr ⟨lw_p61, List.forall_mem_cons.mpr ⟨lw_p62, List.forall_mem_cons.mpr ⟨lw_p63, fun _ h => absurd h List.not_mem_nil⟩⟩⟩⟩⟩⟩⟩⟩⟩⟩⟩⟩⟩⟩⟩⟩
theorem lw_p64 : lw_okq (⟨"SilenceMatchModel", "goMatch", "()V"⟩, 38) := ⟨⟨by decide +kernel, by decide +kernel⟩, List.mem_of_getElem? (i := 1119) (by decide +kernel), List.mem_of_getElem? (i := 1437) (by decide +kernel), List.mem_of_getElem? (i := 1438) (by decide +kernel)⟩
theorem lw_p65 : lw_okq (⟨"SilenceMatchModel", "goMinute", "(I)V"⟩, 38) := ⟨⟨by decide +kernel, by decide +kernel⟩, List.mem_of_getElem? (i := 1119) (by decide +kernel), List.mem_of_getElem? (i := 1441) (by decide +kernel), List.mem_of_getElem? (i := 1442) (by decide +kernel)⟩
theorem lw_p66 : lw_okq (⟨"SilenceMatchModel", "isIn", "(II)Z"⟩, 38) := ⟨⟨by decide +kernel, by decide +kernel⟩, List.mem_of_getElem? (i := 1119) (by decide +kernel), List.mem_of_getElem? (i := 1445) (by decide +kernel), List.mem_of_getElem? (i := 1446) (by decide +kernel)⟩
theorem lw_p67 : lw_okq (⟨"SilenceMatchModel", "doesCough", "(II)Z"⟩, 38) := ⟨⟨by decide +kernel, by decide +kernel⟩, List.mem_of_getElem? (i := 1119) (by decide +kernel), List.mem_of_getElem? (i := 1452) (by decide +kernel), List.mem_of_getElem? (i := 1453) (by decide +kernel)⟩
theorem lw_p68 : lw_okq (⟨"SilenceMatchModel", "isCough", "(II)Z"⟩, 38) := ⟨⟨by decide +kernel, by decide +kernel⟩, List.mem_of_getElem? (i := 1119) (by decide +kernel), List.mem_of_getElem? (i := 1456) (by decide +kernel), List.mem_of_getElem? (i := 1457) (by decide +kernel)⟩
theorem lw_p69 : lw_okq (⟨"SilenceMatchModel", "doesLaugh", "(II)Z"⟩, 38) := ⟨⟨by decide +kernel, by decide +kernel⟩, List.mem_of_getElem? (i := 1119) (by decide +kernel), List.mem_of_getElem? (i := 1465) (by decide +kernel), List.mem_of_getElem? (i := 1466) (by decide +kernel)⟩
theorem lw_p70 : lw_okq (⟨"SilenceMatchModel", "friendOf", "(II)I"⟩, 38) := ⟨⟨by decide +kernel, by decide +kernel⟩, List.mem_of_getElem? (i := 1119) (by decide +kernel), List.mem_of_getElem? (i := 1469) (by decide +kernel), List.mem_of_getElem? (i := 1470) (by decide +kernel)⟩
theorem lw_p71 : lw_okq (⟨"SilenceMatchModel", "isPlayer", "(I)Z"⟩, 38) := ⟨⟨by decide +kernel, by decide +kernel⟩, List.mem_of_getElem? (i := 1119) (by decide +kernel), List.mem_of_getElem? (i := 1473) (by decide +kernel), List.mem_of_getElem? (i := 1474) (by decide +kernel)⟩
theorem lw_p72 : lw_okq (⟨"SilenceMatchModel", "friendsOf", "(I)I"⟩, 38) := ⟨⟨by decide +kernel, by decide +kernel⟩, List.mem_of_getElem? (i := 1119) (by decide +kernel), List.mem_of_getElem? (i := 1478) (by decide +kernel), List.mem_of_getElem? (i := 1479) (by decide +kernel)⟩
theorem lw_p73 : lw_okq (⟨"SilenceMatchModel", "asksMinute", "(II)Z"⟩, 38) := ⟨⟨by decide +kernel, by decide +kernel⟩, List.mem_of_getElem? (i := 1119) (by decide +kernel), List.mem_of_getElem? (i := 1486) (by decide +kernel), List.mem_of_getElem? (i := 1487) (by decide +kernel)⟩
theorem lw_p74 : lw_okq (⟨"SilenceMatchModel", "outsIn", "(I)I"⟩, 38) := ⟨⟨by decide +kernel, by decide +kernel⟩, List.mem_of_getElem? (i := 1119) (by decide +kernel), List.mem_of_getElem? (i := 1502) (by decide +kernel), List.mem_of_getElem? (i := 1503) (by decide +kernel)⟩
theorem lw_p75 : lw_okq (⟨"SilenceMatchModel", "laughsIn", "(I)I"⟩, 38) := ⟨⟨by decide +kernel, by decide +kernel⟩, List.mem_of_getElem? (i := 1119) (by decide +kernel), List.mem_of_getElem? (i := 1510) (by decide +kernel), List.mem_of_getElem? (i := 1511) (by decide +kernel)⟩
theorem lw_p76 : lw_okq (⟨"SilenceMatchModel", "scoreOf", "(II)I"⟩, 38) := ⟨⟨by decide +kernel, by decide +kernel⟩, List.mem_of_getElem? (i := 1119) (by decide +kernel), List.mem_of_getElem? (i := 1529) (by decide +kernel), List.mem_of_getElem? (i := 1530) (by decide +kernel)⟩
theorem lw_p77 : lw_okq (⟨"SilenceMatchModel", "winner", "()I"⟩, 38) := ⟨⟨by decide +kernel, by decide +kernel⟩, List.mem_of_getElem? (i := 1119) (by decide +kernel), List.mem_of_getElem? (i := 1537) (by decide +kernel), List.mem_of_getElem? (i := 1538) (by decide +kernel)⟩
theorem lw_p78 : lw_okq (⟨"SilenceMatchModel", "above", "(I)I"⟩, 38) := ⟨⟨by decide +kernel, by decide +kernel⟩, List.mem_of_getElem? (i := 1119) (by decide +kernel), List.mem_of_getElem? (i := 1541) (by decide +kernel), List.mem_of_getElem? (i := 1542) (by decide +kernel)⟩
theorem lw_p79 : lw_okq (⟨"SilenceMatchModel", "outMany", "()I"⟩, 38) := ⟨⟨by decide +kernel, by decide +kernel⟩, List.mem_of_getElem? (i := 1119) (by decide +kernel), List.mem_of_getElem? (i := 1582) (by decide +kernel), List.mem_of_getElem? (i := 1583) (by decide +kernel)⟩
def lw_privs_5 : List (MethodName × Nat) := [(⟨"SilenceMatchModel", "goMatch", "()V"⟩, 38), (⟨"SilenceMatchModel", "goMinute", "(I)V"⟩, 38), (⟨"SilenceMatchModel", "isIn", "(II)Z"⟩, 38), (⟨"SilenceMatchModel", "doesCough", "(II)Z"⟩, 38), (⟨"SilenceMatchModel", "isCough", "(II)Z"⟩, 38), (⟨"SilenceMatchModel", "doesLaugh", "(II)Z"⟩, 38), (⟨"SilenceMatchModel", "friendOf", "(II)I"⟩, 38), (⟨"SilenceMatchModel", "isPlayer", "(I)Z"⟩, 38), (⟨"SilenceMatchModel", "friendsOf", "(I)I"⟩, 38), (⟨"SilenceMatchModel", "asksMinute", "(II)Z"⟩, 38), (⟨"SilenceMatchModel", "outsIn", "(I)I"⟩, 38), (⟨"SilenceMatchModel", "laughsIn", "(I)I"⟩, 38), (⟨"SilenceMatchModel", "scoreOf", "(II)I"⟩, 38), (⟨"SilenceMatchModel", "winner", "()I"⟩, 38), (⟨"SilenceMatchModel", "above", "(I)I"⟩, 38), (⟨"SilenceMatchModel", "outMany", "()I"⟩, 38)]
theorem lw_r5 : ∀ q ∈ lw_privs_5, lw_okq q := List.forall_mem_cons.mpr ⟨lw_p64, List.forall_mem_cons.mpr ⟨lw_p65, List.forall_mem_cons.mpr ⟨lw_p66, List.forall_mem_cons.mpr ⟨lw_p67, List.forall_mem_cons.mpr ⟨lw_p68, List.forall_mem_cons.mpr ⟨lw_p69, List.forall_mem_cons.mpr ⟨lw_p70, List.forall_mem_cons.mpr ⟨lw_p71, List.forall_mem_cons.mpr ⟨lw_p72, List.forall_mem_cons.mpr ⟨lw_p73, List.forall_mem_cons.mpr ⟨lw_p74, List.forall_mem_cons.mpr ⟨lw_p75, List.forall_mem_cons.mpr ⟨lw_p76, List.forall_mem_cons.mpr ⟨lw_p77, List.forall_mem_cons.mpr ⟨lw_p78, List.forall_mem_cons.mpr ⟨lw_p79, fun _ h => absurd h List.not_mem_nil⟩⟩⟩⟩⟩⟩⟩⟩⟩⟩⟩⟩⟩⟩⟩⟩
theorem lw_p80 : lw_okq (⟨"SilenceMatchModel", "change", "(II)V"⟩, 38) := ⟨⟨by decide +kernel, by decide +kernel⟩, List.mem_of_getElem? (i := 1119) (by decide +kernel), List.mem_of_getElem? (i := 1590) (by decide +kernel), List.mem_of_getElem? (i := 1591) (by decide +kernel)⟩
theorem lw_p81 : lw_okq (⟨"SilenceMatchModel", "spreadOf", "(II)I"⟩, 38) := ⟨⟨by decide +kernel, by decide +kernel⟩, List.mem_of_getElem? (i := 1119) (by decide +kernel), List.mem_of_getElem? (i := 1598) (by decide +kernel), List.mem_of_getElem? (i := 1599) (by decide +kernel)⟩
theorem lw_p82 : lw_okq (⟨"SilenceMatchModel", "outAt", "(II)I"⟩, 38) := ⟨⟨by decide +kernel, by decide +kernel⟩, List.mem_of_getElem? (i := 1119) (by decide +kernel), List.mem_of_getElem? (i := 1606) (by decide +kernel), List.mem_of_getElem? (i := 1607) (by decide +kernel)⟩
theorem lw_p83 : lw_okq (⟨"SilenceMatchModel", "placeOf", "(I)I"⟩, 38) := ⟨⟨by decide +kernel, by decide +kernel⟩, List.mem_of_getElem? (i := 1119) (by decide +kernel), List.mem_of_getElem? (i := 1615) (by decide +kernel), List.mem_of_getElem? (i := 1616) (by decide +kernel)⟩
theorem lw_p84 : lw_okq (⟨"SilenceMatchModel", "bestOf", "(I)I"⟩, 38) := ⟨⟨by decide +kernel, by decide +kernel⟩, List.mem_of_getElem? (i := 1119) (by decide +kernel), List.mem_of_getElem? (i := 1627) (by decide +kernel), List.mem_of_getElem? (i := 1628) (by decide +kernel)⟩
theorem lw_p85 : lw_okq (⟨"SilenceMatchModel", "isEar", "(II)Z"⟩, 38) := ⟨⟨by decide +kernel, by decide +kernel⟩, List.mem_of_getElem? (i := 1119) (by decide +kernel), List.mem_of_getElem? (i := 1643) (by decide +kernel), List.mem_of_getElem? (i := 1644) (by decide +kernel)⟩
theorem lw_p86 : lw_okq (⟨"SilenceMatchModel", "coverOf", "(II)I"⟩, 38) := ⟨⟨by decide +kernel, by decide +kernel⟩, List.mem_of_getElem? (i := 1119) (by decide +kernel), List.mem_of_getElem? (i := 1648) (by decide +kernel), List.mem_of_getElem? (i := 1649) (by decide +kernel)⟩
theorem lw_p87 : lw_okq (⟨"SilenceMatchModel", "layCovered", "(I)I"⟩, 38) := ⟨⟨by decide +kernel, by decide +kernel⟩, List.mem_of_getElem? (i := 1119) (by decide +kernel), List.mem_of_getElem? (i := 1652) (by decide +kernel), List.mem_of_getElem? (i := 1653) (by decide +kernel)⟩
theorem lw_p88 : lw_okq (⟨"SilenceMatchModel", "canCover", "(II)Z"⟩, 38) := ⟨⟨by decide +kernel, by decide +kernel⟩, List.mem_of_getElem? (i := 1119) (by decide +kernel), List.mem_of_getElem? (i := 1659) (by decide +kernel), List.mem_of_getElem? (i := 1660) (by decide +kernel)⟩
theorem lw_p89 : lw_okq (⟨"SilenceMatchModel", "partsOf", "(II)I"⟩, 38) := ⟨⟨by decide +kernel, by decide +kernel⟩, List.mem_of_getElem? (i := 1119) (by decide +kernel), List.mem_of_getElem? (i := 1679) (by decide +kernel), List.mem_of_getElem? (i := 1680) (by decide +kernel)⟩
theorem lw_p90 : lw_okq (⟨"SilenceMatchModel", "laySounds", "(I)I"⟩, 38) := ⟨⟨by decide +kernel, by decide +kernel⟩, List.mem_of_getElem? (i := 1119) (by decide +kernel), List.mem_of_getElem? (i := 1695) (by decide +kernel), List.mem_of_getElem? (i := 1696) (by decide +kernel)⟩
theorem lw_p91 : lw_okq (⟨"SilenceMatchModel", "numberAt", "(II)J"⟩, 38) := ⟨⟨by decide +kernel, by decide +kernel⟩, List.mem_of_getElem? (i := 1119) (by decide +kernel), List.mem_of_getElem? (i := 1703) (by decide +kernel), List.mem_of_getElem? (i := 1704) (by decide +kernel)⟩
theorem lw_p92 : lw_okq (⟨"SilenceMatchModel", "askOf", "()I"⟩, 38) := ⟨⟨by decide +kernel, by decide +kernel⟩, List.mem_of_getElem? (i := 1119) (by decide +kernel), List.mem_of_getElem? (i := 1719) (by decide +kernel), List.mem_of_getElem? (i := 1720) (by decide +kernel)⟩
theorem lw_p93 : lw_okq (⟨"SilenceMatchModel", "evensOf", "()I"⟩, 38) := ⟨⟨by decide +kernel, by decide +kernel⟩, List.mem_of_getElem? (i := 1119) (by decide +kernel), List.mem_of_getElem? (i := 1731) (by decide +kernel), List.mem_of_getElem? (i := 1732) (by decide +kernel)⟩
theorem lw_p94 : lw_okq (⟨"SilenceMatchModel", "heardTo", "(II)I"⟩, 38) := ⟨⟨by decide +kernel, by decide +kernel⟩, List.mem_of_getElem? (i := 1119) (by decide +kernel), List.mem_of_getElem? (i := 1752) (by decide +kernel), List.mem_of_getElem? (i := 1753) (by decide +kernel)⟩
theorem lw_p95 : lw_okq (⟨"SilenceMatchModel", "isSurer", "(II)Z"⟩, 38) := ⟨⟨by decide +kernel, by decide +kernel⟩, List.mem_of_getElem? (i := 1119) (by decide +kernel), List.mem_of_getElem? (i := 1766) (by decide +kernel), List.mem_of_getElem? (i := 1767) (by decide +kernel)⟩
def lw_privs_6 : List (MethodName × Nat) := [(⟨"SilenceMatchModel", "change", "(II)V"⟩, 38), (⟨"SilenceMatchModel", "spreadOf", "(II)I"⟩, 38), (⟨"SilenceMatchModel", "outAt", "(II)I"⟩, 38), (⟨"SilenceMatchModel", "placeOf", "(I)I"⟩, 38), (⟨"SilenceMatchModel", "bestOf", "(I)I"⟩, 38), (⟨"SilenceMatchModel", "isEar", "(II)Z"⟩, 38), (⟨"SilenceMatchModel", "coverOf", "(II)I"⟩, 38), (⟨"SilenceMatchModel", "layCovered", "(I)I"⟩, 38), (⟨"SilenceMatchModel", "canCover", "(II)Z"⟩, 38), (⟨"SilenceMatchModel", "partsOf", "(II)I"⟩, 38), (⟨"SilenceMatchModel", "laySounds", "(I)I"⟩, 38), (⟨"SilenceMatchModel", "numberAt", "(II)J"⟩, 38), (⟨"SilenceMatchModel", "askOf", "()I"⟩, 38), (⟨"SilenceMatchModel", "evensOf", "()I"⟩, 38), (⟨"SilenceMatchModel", "heardTo", "(II)I"⟩, 38), (⟨"SilenceMatchModel", "isSurer", "(II)Z"⟩, 38)]
theorem lw_r6 : ∀ q ∈ lw_privs_6, lw_okq q := List.forall_mem_cons.mpr ⟨lw_p80, List.forall_mem_cons.mpr ⟨lw_p81, List.forall_mem_cons.mpr ⟨lw_p82, List.forall_mem_cons.mpr ⟨lw_p83, List.forall_mem_cons.mpr ⟨lw_p84, List.forall_mem_cons.mpr ⟨lw_p85, List.forall_mem_cons.mpr ⟨lw_p86, List.forall_mem_cons.mpr ⟨lw_p87, List.forall_mem_cons.mpr ⟨lw_p88, List.forall_mem_cons.mpr ⟨lw_p89, List.forall_mem_cons.mpr ⟨lw_p90, List.forall_mem_cons.mpr ⟨lw_p91, List.forall_mem_cons.mpr ⟨lw_p92, List.forall_mem_cons.mpr ⟨lw_p93, List.forall_mem_cons.mpr ⟨lw_p94, List.forall_mem_cons.mpr ⟨lw_p95, fun _ h => absurd h List.not_mem_nil⟩⟩⟩⟩⟩⟩⟩⟩⟩⟩⟩⟩⟩⟩⟩⟩
theorem lw_p96 : lw_okq (⟨"SilenceMatchModel", "keepAct", "(II)I"⟩, 38) := ⟨⟨by decide +kernel, by decide +kernel⟩, List.mem_of_getElem? (i := 1119) (by decide +kernel), List.mem_of_getElem? (i := 1779) (by decide +kernel), List.mem_of_getElem? (i := 1780) (by decide +kernel)⟩
theorem lw_p97 : lw_okq (⟨"SilenceMatchModel", "goDrawn", "(J)V"⟩, 38) := ⟨⟨by decide +kernel, by decide +kernel⟩, List.mem_of_getElem? (i := 1119) (by decide +kernel), List.mem_of_getElem? (i := 1803) (by decide +kernel), List.mem_of_getElem? (i := 1804) (by decide +kernel)⟩
def lw_privs_7 : List (MethodName × Nat) := [(⟨"SilenceMatchModel", "keepAct", "(II)I"⟩, 38), (⟨"SilenceMatchModel", "goDrawn", "(J)V"⟩, 38)]
theorem lw_r7 : ∀ q ∈ lw_privs_7, lw_okq q := List.forall_mem_cons.mpr ⟨lw_p96, List.forall_mem_cons.mpr ⟨lw_p97, fun _ h => absurd h List.not_mem_nil⟩⟩
def lw_privs : List (MethodName × Nat) := lw_privs_1 ++ (lw_privs_2 ++ (lw_privs_3 ++ (lw_privs_4 ++ (lw_privs_5 ++ (lw_privs_6 ++ (lw_privs_7))))))
def lw_tbl : List Cond := k2_sels lw_privs ++ tables_1
theorem lw_privs_ok : ∀ q ∈ lw_privs, lw_okq q := by
  show ∀ q ∈ lw_privs_1 ++ (lw_privs_2 ++ (lw_privs_3 ++ (lw_privs_4 ++ (lw_privs_5 ++ (lw_privs_6 ++ (lw_privs_7)))))), lw_okq q
  exact List.forall_mem_append.mpr ⟨lw_r1, List.forall_mem_append.mpr ⟨lw_r2, List.forall_mem_append.mpr ⟨lw_r3, List.forall_mem_append.mpr ⟨lw_r4, List.forall_mem_append.mpr ⟨lw_r5, List.forall_mem_append.mpr ⟨lw_r6, lw_r7⟩⟩⟩⟩⟩⟩
end
section
/-! LINEAR FORMS over symbols: a list of (symbol, coefficient) and a constant -/
abbrev kL : Type := List (Nat × Int) × Int
abbrev kQ : Type := List (Int × Int)
/-- 0 ≤ a -/
def knn (a : Int) : Bool := match a with
  | .ofNat _ => true
  | .negSucc _ => false
def kz (a : Int) : Bool := match a with
  | .ofNat n => Nat.beq n 0
  | .negSucc _ => false
theorem knn_iff {a : Int} : knn a = true ↔ 0 ≤ a := by
  cases a with
  | ofNat n => simp [knn]
  | negSucc n => simp [knn]
theorem kz_iff {a : Int} : kz a = true ↔ a = 0 := by
  cases a with
  | ofNat n =>
    show Nat.beq n 0 = true ↔ (Int.ofNat n) = 0
    rw [Nat.beq_eq]
    constructor
    · intro h; subst h; rfl
    · intro h
      have : (n : Int) = 0 := h
      omega
  | negSucc n => simp [kz]
def kevT (env : List Int) : List (Nat × Int) → Option Int
  | [] => some 0
  | q :: t => match env[q.1]?, kevT env t with
    | some z, some r => some (q.2 * z + r)
    | _, _ => none
def kev (env : List Int) (f : kL) : Option Int := match kevT env f.1 with
  | some r => some (r + f.2)
  | none => none
theorem kevT_cons {env : List Int} {q : Nat × Int} {t : List (Nat × Int)} {x : Int} (h : kevT env (q :: t) = some x) : ∃ z r, env[q.1]? = some z ∧ kevT env t = some r ∧ x = q.2 * z + r := by
  unfold kevT at h
  cases h1 : env[q.1]? with
  | none => rw [h1] at h; simp at h
  | some z =>
    cases h2 : kevT env t with
    | none => rw [h1, h2] at h; simp at h
    | some r => rw [h1, h2] at h; exact ⟨z, r, rfl, rfl, (Option.some.inj h).symm⟩
theorem kevT_mk {env : List Int} {q : Nat × Int} {t : List (Nat × Int)} {z r : Int} (h1 : env[q.1]? = some z) (h2 : kevT env t = some r) : kevT env (q :: t) = some (q.2 * z + r) := by
  show (match env[q.1]?, kevT env t with
    | some z, some r => some (q.2 * z + r)
    | _, _ => none) = _
  rw [h1, h2]
theorem kev_of {env : List Int} {f : kL} {x : Int} (h : kev env f = some x) : ∃ r, kevT env f.1 = some r ∧ x = r + f.2 := by
  unfold kev at h
  cases h1 : kevT env f.1 with
  | none => rw [h1] at h; simp at h
  | some r => rw [h1] at h; exact ⟨r, rfl, (Option.some.inj h).symm⟩
theorem kev_mk {env : List Int} {f : kL} {r : Int} (h : kevT env f.1 = some r) : kev env f = some (r + f.2) := by
  unfold kev
  rw [h]
theorem kget_ext {α : Type} {l t : List α} {k : Nat} {z : α} (h : l[k]? = some z) : (l ++ t)[k]? = some z := by
  rw [List.getElem?_append_left (List.getElem?_eq_some_iff.mp h).1]; exact h
theorem kevT_ext {env t : List Int} : ∀ {l : List (Nat × Int)} {x : Int}, kevT env l = some x → kevT (env ++ t) l = some x
  | [], x, h => h
  | q :: l, x, h => by
    obtain ⟨z, r, h1, h2, rfl⟩ := kevT_cons h
    exact kevT_mk (kget_ext h1) (kevT_ext h2)
theorem kev_ext {env t : List Int} {f : kL} {x : Int} (h : kev env f = some x) : kev (env ++ t) f = some x := by
  obtain ⟨r, h1, rfl⟩ := kev_of h
  exact kev_mk (kevT_ext h1)
def kins (k : Nat) (c : Int) : List (Nat × Int) → List (Nat × Int)
  | [] => [(k, c)]
  | q :: t => match Nat.beq k q.1 with
    | true => match kz (c + q.2) with
      | true => t
      | false => (k, c + q.2) :: t
    | false => match Nat.ble k q.1 with
      | true => (k, c) :: q :: t
      | false => q :: kins k c t
theorem kins_ev {env : List Int} {k : Nat} {c z : Int} (hk : env[k]? = some z) : ∀ {t : List (Nat × Int)} {r : Int}, kevT env t = some r → kevT env (kins k c t) = some (c * z + r)
  | [], r, h => by
    have e : (0 : Int) = r := Option.some.inj h
    subst e
    exact kevT_mk (q := (k, c)) hk rfl
  | q :: t, r, h => by
    obtain ⟨z', r', h1, h2, rfl⟩ := kevT_cons h
    unfold kins
    cases hb : Nat.beq k q.1 with
    | true =>
      have e : k = q.1 := Nat.beq_eq.mp hb
      rw [e, h1] at hk
      obtain rfl := Option.some.inj hk
      cases hz : kz (c + q.2) with
      | true =>
        have e2 := kz_iff.mp hz
        show kevT env t = _
        rw [h2]
        congr 1
        have : c * z' + (q.2 * z' + r') = (c + q.2) * z' + r' := by rw [Int.add_mul]; omega
        rw [this, e2]
        simp
      | false =>
        show kevT env ((k, c + q.2) :: t) = _
        rw [kevT_mk (q := (k, c + q.2)) (by rw [e]; exact h1) h2]
        congr 1
        show (c + q.2) * z' + r' = _
        rw [Int.add_mul]; omega
    | false =>
      cases hl : Nat.ble k q.1 with
      | true => exact kevT_mk (q := (k, c)) hk h
      | false =>
        show kevT env (q :: kins k c t) = _
        rw [kevT_mk h1 (kins_ev hk h2)]
        congr 1
        omega
def kaddT : List (Nat × Int) → List (Nat × Int) → List (Nat × Int)
  | [], b => b
  | q :: t, b => kins q.1 q.2 (kaddT t b)
theorem kaddT_ev {env : List Int} : ∀ {a b : List (Nat × Int)} {x y : Int}, kevT env a = some x → kevT env b = some y → kevT env (kaddT a b) = some (x + y)
  | [], b, x, y, h, hb => by
    have e : (0 : Int) = x := Option.some.inj h
    subst e
    rw [Int.zero_add]; exact hb
  | q :: t, b, x, y, h, hb => by
    obtain ⟨z, r, h1, h2, rfl⟩ := kevT_cons h
    show kevT env (kins q.1 q.2 (kaddT t b)) = _
    rw [kins_ev h1 (kaddT_ev h2 hb)]
    congr 1
    omega
def kadd (f g : kL) : kL := (kaddT f.1 g.1, f.2 + g.2)
theorem kadd_ev {env : List Int} {f g : kL} {x y : Int} (h : kev env f = some x) (h' : kev env g = some y) : kev env (kadd f g) = some (x + y) := by
  obtain ⟨r, h1, rfl⟩ := kev_of h
  obtain ⟨r', h2, rfl⟩ := kev_of h'
  rw [show kev env (kadd f g) = some ((r + r') + (f.2 + g.2)) from kev_mk (f := kadd f g) (kaddT_ev h1 h2)]
  congr 1
  omega
def kscT (c : Int) : List (Nat × Int) → List (Nat × Int)
  | [] => []
  | q :: t => (q.1, c * q.2) :: kscT c t
theorem kscT_ev {env : List Int} {c : Int} : ∀ {a : List (Nat × Int)} {x : Int}, kevT env a = some x → kevT env (kscT c a) = some (c * x)
  | [], x, h => by
    have e : (0 : Int) = x := Option.some.inj h
    subst e
    rw [Int.mul_zero]; rfl
  | q :: t, x, h => by
    obtain ⟨z, r, h1, h2, rfl⟩ := kevT_cons h
    show kevT env ((q.1, c * q.2) :: kscT c t) = _
    rw [kevT_mk (q := (q.1, c * q.2)) h1 (kscT_ev h2)]
    congr 1
    show c * q.2 * z + c * r = _
    rw [Int.mul_add, Int.mul_assoc]
def ksc (c : Int) (f : kL) : kL := match kz c with
  | true => ([], 0)
  | false => (kscT c f.1, c * f.2)
theorem ksc_ev {env : List Int} {c : Int} {f : kL} {x : Int} (h : kev env f = some x) : kev env (ksc c f) = some (c * x) := by
  obtain ⟨r, h1, rfl⟩ := kev_of h
  unfold ksc
  cases hz : kz c with
  | true =>
    show kev env ([], 0) = _
    rw [kz_iff.mp hz, Int.zero_mul]; rfl
  | false =>
    show kev env (kscT c f.1, c * f.2) = _
    rw [kev_mk (f := (kscT c f.1, c * f.2)) (kscT_ev h1)]
    congr 1
    show c * r + c * f.2 = _
    rw [Int.mul_add]
def kneg (f : kL) : kL := (kscT (-1) f.1, -f.2)
theorem kneg_ev {env : List Int} {f : kL} {x : Int} (h : kev env f = some x) : kev env (kneg f) = some (-x) := by
  obtain ⟨r, h1, rfl⟩ := kev_of h
  rw [show kev env (kneg f) = some (-1 * r + -f.2) from kev_mk (f := kneg f) (kscT_ev h1)]
  congr 1
  omega
def ksub (f g : kL) : kL := kadd f (kneg g)
theorem ksub_ev {env : List Int} {f g : kL} {x y : Int} (h : kev env f = some x) (h' : kev env g = some y) : kev env (ksub f g) = some (x - y) := kadd_ev h (kneg_ev h')
def kofs (f : kL) (n : Int) : kL := (f.1, f.2 + n)
theorem kofs_ev {env : List Int} {f : kL} {x n : Int} (h : kev env f = some x) : kev env (kofs f n) = some (x + n) := by
  obtain ⟨r, h1, rfl⟩ := kev_of h
  rw [show kev env (kofs f n) = some (r + (f.2 + n)) from kev_mk (f := kofs f n) h1]
  congr 1
  omega
def kcst (n : Int) : kL := ([], n)
theorem kcst_ev {env : List Int} {n : Int} : kev env (kcst n) = some n := by
  show some (0 + n) = some n
  rw [Int.zero_add]
def ksym (k : Nat) : kL := ([(k, 1)], 0)
theorem ksym_ev {env : List Int} {k : Nat} {z : Int} (h : env[k]? = some z) : kev env (ksym k) = some z := by
  rw [show kev env (ksym k) = some (1 * z + 0 + 0) from kev_mk (f := ksym k) (kevT_mk (q := (k, 1)) h rfl)]
  congr 1
  omega
/-! intervals of the symbols -/
def kI (env : List Int) (iv : kQ) : Prop := env.length = iv.length ∧ ∀ (k : Nat) (q : Int × Int) (z : Int), iv[k]? = some q → env[k]? = some z → q.1 ≤ z ∧ z ≤ q.2
def klbT (iv : kQ) : List (Nat × Int) → Option Int
  | [] => some 0
  | q :: t => match iv[q.1]?, klbT iv t with
    | some r, some x => some (match q.2 with
      | .ofNat n => Int.ofNat n * r.1 + x
      | .negSucc n => Int.negSucc n * r.2 + x)
    | _, _ => none
theorem klbT_ok {env : List Int} {iv : kQ} (hI : kI env iv) : ∀ {l : List (Nat × Int)} {x b : Int}, kevT env l = some x → klbT iv l = some b → b ≤ x
  | [], x, b, h, hb => by
    have e : (0 : Int) = x := Option.some.inj h
    have e2 : (0 : Int) = b := Option.some.inj hb
    omega
  | q :: t, x, b, h, hb => by
    obtain ⟨z, r, h1, h2, rfl⟩ := kevT_cons h
    unfold klbT at hb
    cases h3 : iv[q.1]? with
    | none => rw [h3] at hb; simp at hb
    | some w =>
      cases h4 : klbT iv t with
      | none => rw [h3, h4] at hb; simp at hb
      | some y =>
        rw [h3, h4] at hb
        have hy := klbT_ok hI h2 h4
        obtain ⟨b1, b2⟩ := hI.2 q.1 w z h3 h1
        have e := Option.some.inj hb
        clear hb
        obtain ⟨q1, q2⟩ := q
        cases q2 with
        | ofNat n =>
          have e : Int.ofNat n * w.1 + y = b := e
          have : Int.ofNat n * w.1 ≤ Int.ofNat n * z := Int.mul_le_mul_of_nonneg_left b1 (Int.natCast_nonneg n)
          show b ≤ Int.ofNat n * z + r
          omega
        | negSucc n =>
          have e : Int.negSucc n * w.2 + y = b := e
          have : Int.negSucc n * w.2 ≤ Int.negSucc n * z := Int.mul_le_mul_of_nonpos_left (Int.le_of_lt (Int.negSucc_lt_zero n)) b2
          show b ≤ Int.negSucc n * z + r
          omega
def klb (iv : kQ) (f : kL) : Option Int := match klbT iv f.1 with
  | some x => some (x + f.2)
  | none => none
theorem klb_ok {env : List Int} {iv : kQ} {f : kL} {x b : Int} (hI : kI env iv) (h : kev env f = some x) (hb : klb iv f = some b) : b ≤ x := by
  obtain ⟨r, h1, rfl⟩ := kev_of h
  unfold klb at hb
  cases h2 : klbT iv f.1 with
  | none => rw [h2] at hb; simp at hb
  | some y =>
    rw [h2] at hb
    have e : y + f.2 = b := Option.some.inj hb
    have := klbT_ok hI h1 h2
    omega
def kub (iv : kQ) (f : kL) : Option Int := match klb iv (kneg f) with
  | some x => some (-x)
  | none => none
theorem kub_ok {env : List Int} {iv : kQ} {f : kL} {x b : Int} (hI : kI env iv) (h : kev env f = some x) (hb : kub iv f = some b) : x ≤ b := by
  unfold kub at hb
  cases h2 : klb iv (kneg f) with
  | none => rw [h2] at hb; simp at hb
  | some y =>
    rw [h2] at hb
    have e : -y = b := Option.some.inj hb
    have := klb_ok hI (kneg_ev h) h2
    omega
/-- f is at least 0, by the intervals -/
def kpos (iv : kQ) (f : kL) : Bool := match klb iv f with
  | some b => knn b
  | none => false
theorem kpos_ok {env : List Int} {iv : kQ} {f : kL} {x : Int} (hI : kI env iv) (h : kev env f = some x) (hp : kpos iv f = true) : 0 ≤ x := by
  unfold kpos at hp
  cases h2 : klb iv f with
  | none => rw [h2] at hp; cases hp
  | some b =>
    rw [h2] at hp
    have := klb_ok hI h h2
    have := knn_iff.mp hp
    omega
/-- the constraints: each at least 0 -/
def kC (env : List Int) (cs : List kL) : Prop := ∀ g ∈ cs, ∃ z, kev env g = some z ∧ 0 ≤ z
/-- f is at least 0, by the intervals and at most two constraints -/
def kge (iv : kQ) (cs : List kL) (f : kL) : Bool := match kpos iv f with
  | true => true
  | false => match cs.any (fun g => kpos iv (ksub f g)) with
    | true => true
    | false => cs.any (fun g => cs.any (fun h => kpos iv (ksub (ksub f g) h)))
theorem kge_ok {env : List Int} {iv : kQ} {cs : List kL} {f : kL} {x : Int} (hI : kI env iv) (hC : kC env cs) (h : kev env f = some x) (hp : kge iv cs f = true) : 0 ≤ x := by
  unfold kge at hp
  cases h1 : kpos iv f with
  | true => exact kpos_ok hI h h1
  | false =>
    rw [h1] at hp
    cases h2 : cs.any (fun g => kpos iv (ksub f g)) with
    | true =>
      obtain ⟨g, hg, hg2⟩ := List.any_eq_true.mp h2
      obtain ⟨z, e1, e2⟩ := hC g hg
      have := kpos_ok hI (ksub_ev h e1) hg2
      omega
    | false =>
      rw [h2] at hp
      obtain ⟨g, hg, hg2⟩ := List.any_eq_true.mp hp
      obtain ⟨g', hg', hg3⟩ := List.any_eq_true.mp hg2
      obtain ⟨z, e1, e2⟩ := hC g hg
      obtain ⟨z', e1', e2'⟩ := hC g' hg'
      have := kpos_ok hI (ksub_ev (ksub_ev h e1) e1') hg3
      omega
theorem kC_ext {env t : List Int} {cs : List kL} (h : kC env cs) : kC (env ++ t) cs := fun g hg => by
  obtain ⟨z, h1, h2⟩ := h g hg
  exact ⟨z, kev_ext h1, h2⟩
/-- a symbol more -/
theorem kI_push {env : List Int} {iv : kQ} {q : Int × Int} {z : Int} (h : kI env iv) (h1 : q.1 ≤ z) (h2 : z ≤ q.2) : kI (env ++ [z]) (iv ++ [q]) := by
  refine ⟨by simp [h.1], fun k r w hk hw => ?_⟩
  by_cases hlt : k < iv.length
  · rw [List.getElem?_append_left hlt] at hk
    rw [List.getElem?_append_left (by rw [h.1]; exact hlt)] at hw
    exact h.2 k r w hk hw
  · have hk' := (List.getElem?_eq_some_iff.mp hk).1
    have e : k = iv.length := by simp at hk'; omega
    subst e
    have e1 : r = q := by simpa using hk.symm
    have e2 : w = z := by rw [← h.1] at hw; simpa using hw.symm
    subst e1; subst e2
    exact ⟨h1, h2⟩
theorem kI_at {env : List Int} {iv : kQ} {z : Int} (h : kI env iv) : (env ++ [z])[iv.length]? = some z := by
  rw [← h.1]; simp
theorem kI_some {env : List Int} {iv : kQ} {k : Nat} {q : Int × Int} (h : kI env iv) (hq : iv[k]? = some q) : ∃ z, env[k]? = some z := by
  have := (List.getElem?_eq_some_iff.mp hq).1
  rw [← h.1] at this
  exact ⟨env[k], List.getElem?_eq_getElem this⟩
/-- a symbol's interval, narrowed by f ≥ 0; none: there is no such value -/
def ktig1 (iv : kQ) (f : kL) (q : Nat × Int) : Option kQ := match iv[q.1]?, kub iv (ksub f ([q], 0)) with
  | some r, some u => match q.2 with
    | .ofNat 0 => some iv
    | .ofNat (n + 1) => match knn (r.1 - (-(u / Int.ofNat (n + 1)))) with
      | true => some iv
      | false => match knn (r.2 - (-(u / Int.ofNat (n + 1)))) with
        | true => some (iv.set q.1 (-(u / Int.ofNat (n + 1)), r.2))
        | false => none
    | .negSucc n => match knn (u / Int.ofNat (n + 1) - r.2) with
      | true => some iv
      | false => match knn (u / Int.ofNat (n + 1) - r.1) with
        | true => some (iv.set q.1 (r.1, u / Int.ofNat (n + 1)))
        | false => none
  | _, _ => some iv
theorem kI_set {env : List Int} {iv : kQ} {k : Nat} {q : Int × Int} (h : kI env iv) (hz : ∀ z, env[k]? = some z → q.1 ≤ z ∧ z ≤ q.2) : kI env (iv.set k q) := by
  refine ⟨by simp [h.1], fun j r w hj hw => ?_⟩
  by_cases e : j = k
  · subst e
    have hl := (List.getElem?_eq_some_iff.mp hj).1
    rw [List.length_set] at hl
    rw [List.getElem?_set_self hl] at hj
    obtain rfl := Option.some.inj hj
    exact hz w hw
  · rw [List.getElem?_set_ne (Ne.symm e)] at hj
    exact h.2 j r w hj hw
theorem ktig1_ok {env : List Int} {iv : kQ} {f : kL} {q : Nat × Int} {x : Int} (hI : kI env iv) (h : kev env f = some x) (hx : 0 ≤ x) : ∃ iv', ktig1 iv f q = some iv' ∧ kI env iv' := by
  unfold ktig1
  cases h1 : iv[q.1]? with
  | none => exact ⟨iv, rfl, hI⟩
  | some r =>
    cases h2 : kub iv (ksub f ([q], 0)) with
    | none => exact ⟨iv, rfl, hI⟩
    | some u =>
      obtain ⟨z, hz⟩ := kI_some hI h1
      have hq : kev env ([q], 0) = some (q.2 * z) := by
        rw [kev_mk (f := ([q], 0)) (kevT_mk hz rfl)]
        congr 1
        show q.2 * z + 0 + 0 = _
        omega
      have hu := kub_ok hI (ksub_ev h hq) h2
      have hrz := hI.2 q.1 r z h1 hz
      obtain ⟨q1, q2⟩ := q
      cases q2 with
      | ofNat n =>
        cases n with
        | zero => exact ⟨iv, rfl, hI⟩
        | succ n =>
          have hd : (0 : Int) < Int.ofNat (n + 1) := Int.natCast_pos.mpr (Nat.succ_pos n)
          have hu : x - Int.ofNat (n + 1) * z ≤ u := hu
          have hk : -z ≤ u / Int.ofNat (n + 1) := by
            rw [Int.le_ediv_iff_mul_le hd, Int.neg_mul, Int.mul_comm]
            omega
          show ∃ iv', (match knn (r.1 - (-(u / Int.ofNat (n + 1)))) with
            | true => some iv
            | false => match knn (r.2 - (-(u / Int.ofNat (n + 1)))) with
              | true => some (iv.set q1 (-(u / Int.ofNat (n + 1)), r.2))
              | false => none) = some iv' ∧ kI env iv'
          cases knn (r.1 - (-(u / Int.ofNat (n + 1)))) with
          | true => exact ⟨iv, rfl, hI⟩
          | false =>
            cases h3 : knn (r.2 - (-(u / Int.ofNat (n + 1)))) with
            | true =>
              refine ⟨_, rfl, kI_set hI fun w hw => ?_⟩
              have hz : env[q1]? = some z := hz
              rw [hz] at hw
              obtain rfl := Option.some.inj hw
              exact ⟨by show -(u / Int.ofNat (n + 1)) ≤ z; omega, hrz.2⟩
            | false =>
              exfalso
              have : ¬ (knn (r.2 - (-(u / Int.ofNat (n + 1)))) = true) := by rw [h3]; decide
              rw [knn_iff] at this
              have := hrz.2
              omega
      | negSucc n =>
        have hd : (0 : Int) < Int.ofNat (n + 1) := Int.natCast_pos.mpr (Nat.succ_pos n)
        have hu : x - Int.negSucc n * z ≤ u := hu
        have hk : z ≤ u / Int.ofNat (n + 1) := by
          rw [Int.le_ediv_iff_mul_le hd, Int.mul_comm]
          have e : Int.negSucc n * z = -(Int.ofNat (n + 1) * z) := by rw [← Int.neg_mul]; rfl
          rw [e] at hu
          omega
        show ∃ iv', (match knn (u / Int.ofNat (n + 1) - r.2) with
          | true => some iv
          | false => match knn (u / Int.ofNat (n + 1) - r.1) with
            | true => some (iv.set q1 (r.1, u / Int.ofNat (n + 1)))
            | false => none) = some iv' ∧ kI env iv'
        cases knn (u / Int.ofNat (n + 1) - r.2) with
        | true => exact ⟨iv, rfl, hI⟩
        | false =>
          cases h3 : knn (u / Int.ofNat (n + 1) - r.1) with
          | true =>
            refine ⟨_, rfl, kI_set hI fun w hw => ?_⟩
            have hz : env[q1]? = some z := hz
            rw [hz] at hw
            obtain rfl := Option.some.inj hw
            exact ⟨hrz.1, hk⟩
          | false =>
            exfalso
            have : ¬ (knn (u / Int.ofNat (n + 1) - r.1) = true) := by rw [h3]; decide
            rw [knn_iff] at this
            have := hrz.1
            omega
def ktig (f : kL) : List (Nat × Int) → kQ → Option kQ
  | [], iv => some iv
  | q :: t, iv => match ktig1 iv f q with
    | some iv' => ktig f t iv'
    | none => none
theorem ktig_ok {env : List Int} {f : kL} {x : Int} (h : kev env f = some x) (hx : 0 ≤ x) : ∀ (l : List (Nat × Int)) {iv : kQ}, kI env iv → ∃ iv', ktig f l iv = some iv' ∧ kI env iv'
  | [], iv, hI => ⟨iv, rfl, hI⟩
  | q :: t, iv, hI => by
    obtain ⟨iv1, h1, h2⟩ := ktig1_ok (q := q) hI h hx
    obtain ⟨iv2, h3, h4⟩ := ktig_ok h hx t h2
    refine ⟨iv2, ?_, h4⟩
    unfold ktig
    rw [h1]
    exact h3
/-- f ≥ 0 taken up: the intervals, the constraints; none: it can't be -/
def kasm (iv : kQ) (cs : List kL) (f : kL) : Option (kQ × List kL) := match f.1 with
  | [] => match knn f.2 with
    | true => some (iv, cs)
    | false => none
  | [_] => match ktig f f.1 iv with
    | some iv' => some (iv', cs)
    | none => none
  | _ => match ktig f f.1 iv with
    | some iv' => some (iv', f :: cs)
    | none => none
theorem kasm_ok {env : List Int} {iv : kQ} {cs : List kL} {f : kL} {x : Int} (hI : kI env iv) (hC : kC env cs) (h : kev env f = some x) (hx : 0 ≤ x) : ∃ r, kasm iv cs f = some r ∧ kI env r.1 ∧ kC env r.2 := by
  obtain ⟨iv', h1, h2⟩ := ktig_ok h hx f.1 hI
  obtain ⟨l, d⟩ := f
  unfold kasm
  cases l with
  | nil =>
    have e : (0 : Int) + d = x := Option.some.inj h
    have : knn d = true := knn_iff.mpr (by omega)
    show ∃ r, (match knn d with
      | true => some (iv, cs)
      | false => none) = some r ∧ _
    rw [this]
    exact ⟨_, rfl, hI, hC⟩
  | cons a t =>
    cases t with
    | nil =>
      show ∃ r, (match ktig ([a], d) [a] iv with
        | some iv' => some (iv', cs)
        | none => none) = some r ∧ _
      rw [show ktig ([a], d) [a] iv = some iv' from h1]
      exact ⟨_, rfl, h2, hC⟩
    | cons b t =>
      show ∃ r, (match ktig (a :: b :: t, d) (a :: b :: t) iv with
        | some iv' => some (iv', (a :: b :: t, d) :: cs)
        | none => none) = some r ∧ _
      rw [show ktig (a :: b :: t, d) (a :: b :: t) iv = some iv' from h1]
      refine ⟨_, rfl, h2, fun g hg => ?_⟩
      rcases List.mem_cons.mp hg with rfl | hg
      · exact ⟨x, h, hx⟩
      · exact hC g hg
end
section
/-! VALUES: int, long, reference, what lcmp gives -/
abbrev kV : Type := kL ⊕ kL ⊕ Nat ⊕ (kL × kL)
def kcmp (a b : Int) : Int := if a < b then -1 else if a = b then 0 else 1
def kvok (env : List Int) (ren : List Nat) (a : kV) (v : Value) : Prop := match a with
  | .inl f => ∃ n : Int32, v = .int n ∧ kev env f = some n.toInt
  | .inr (.inl f) => ∃ n : Int64, v = .long n ∧ kev env f = some n.toInt
  | .inr (.inr (.inl k)) => ∃ q : Nat, v = .ref q ∧ ren[k]? = some q
  | .inr (.inr (.inr w)) => ∃ (n : Int32) (a b : Int), v = .int n ∧ kev env w.1 = some a ∧ kev env w.2 = some b ∧ n.toInt = kcmp a b
theorem kvok_ext {env t : List Int} {ren u : List Nat} {a : kV} {v : Value} (h : kvok env ren a v) : kvok (env ++ t) (ren ++ u) a v := by
  match a, h with
  | .inl x, ⟨n, h1, h2⟩ => exact ⟨n, h1, kev_ext h2⟩
  | .inr (.inl x), ⟨n, h1, h2⟩ => exact ⟨n, h1, kev_ext h2⟩
  | .inr (.inr (.inl k)), ⟨q, h1, h2⟩ => exact ⟨q, h1, kget_ext h2⟩
  | .inr (.inr (.inr w)), ⟨n, a, b, h1, h2, h3, h4⟩ => exact ⟨n, a, b, h1, kev_ext h2, kev_ext h3, h4⟩
/-! equality of forms, as a Bool -/
def kTeq : List (Nat × Int) → List (Nat × Int) → Bool
  | [], [] => true
  | a :: s, b :: t => match Nat.beq a.1 b.1 with
    | true => match kz (a.2 - b.2) with
      | true => kTeq s t
      | false => false
    | false => false
  | _, _ => false
theorem kTeq_eq : ∀ {s t : List (Nat × Int)}, kTeq s t = true → s = t
  | [], [], _ => rfl
  | [], b :: t, h => by simp [kTeq] at h
  | a :: s, [], h => by simp [kTeq] at h
  | a :: s, b :: t, h => by
    unfold kTeq at h
    cases h1 : Nat.beq a.1 b.1 with
    | false => rw [h1] at h; cases h
    | true =>
      rw [h1] at h
      cases h2 : kz (a.2 - b.2) with
      | false => rw [h2] at h; cases h
      | true =>
        rw [h2] at h
        have e1 := Nat.beq_eq.mp h1
        have e2 := kz_iff.mp h2
        rw [kTeq_eq (s := s) (t := t) h]
        congr 1
        exact Prod.ext e1 (by omega)
def kLeq (f g : kL) : Bool := match kz (f.2 - g.2) with
  | true => kTeq f.1 g.1
  | false => false
theorem kLeq_eq {f g : kL} (h : kLeq f g = true) : f = g := by
  unfold kLeq at h
  cases h2 : kz (f.2 - g.2) with
  | false => rw [h2] at h; cases h
  | true =>
    rw [h2] at h
    have e2 := kz_iff.mp h2
    exact Prod.ext (kTeq_eq h) (by omega)
/-- f = c * g -/
def kdvT (c : Int) : List (Nat × Int) → Option (List (Nat × Int))
  | [] => some []
  | q :: t => match kz (q.2 - c * (q.2 / c)), kdvT c t with
    | true, some r => some ((q.1, q.2 / c) :: r)
    | _, _ => none
theorem kdvT_ok {env : List Int} {c : Int} : ∀ {l g : List (Nat × Int)} {z : Int}, kdvT c l = some g → kevT env l = some z → ∃ w, kevT env g = some w ∧ z = c * w
  | [], g, z, h, hz => by
    have e : [] = g := Option.some.inj h
    subst e
    have e : (0 : Int) = z := Option.some.inj hz
    exact ⟨0, rfl, by omega⟩
  | q :: t, g, z, h, hz => by
    obtain ⟨y, r, h1, h2, rfl⟩ := kevT_cons hz
    unfold kdvT at h
    cases h3 : kz (q.2 - c * (q.2 / c)) with
    | false => rw [h3] at h; simp at h
    | true =>
      cases h4 : kdvT c t with
      | none => rw [h3, h4] at h; simp at h
      | some g' =>
        rw [h3, h4] at h
        have e : (q.1, q.2 / c) :: g' = g := Option.some.inj h
        subst e
        obtain ⟨w, h5, rfl⟩ := kdvT_ok h4 h2
        refine ⟨_, kevT_mk (q := (q.1, q.2 / c)) h1 h5, ?_⟩
        have e3 := kz_iff.mp h3
        show q.2 * y + c * w = c * (q.2 / c * y + w)
        rw [Int.mul_add, ← Int.mul_assoc]
        have : q.2 = c * (q.2 / c) := by omega
        rw [← this]
def kdv (c : Int) (f : kL) : Option kL := match kz (f.2 - c * (f.2 / c)), kdvT c f.1 with
  | true, some r => some (r, f.2 / c)
  | _, _ => none
theorem kdv_ok {env : List Int} {c : Int} {f g : kL} {z : Int} (h : kdv c f = some g) (hz : kev env f = some z) : ∃ w, kev env g = some w ∧ z = c * w := by
  obtain ⟨r, h1, rfl⟩ := kev_of hz
  unfold kdv at h
  cases h3 : kz (f.2 - c * (f.2 / c)) with
  | false => rw [h3] at h; simp at h
  | true =>
    cases h4 : kdvT c f.1 with
    | none => rw [h3, h4] at h; simp at h
    | some g' =>
      rw [h3, h4] at h
      have e : (g', f.2 / c) = g := Option.some.inj h
      subst e
      obtain ⟨w, h5, rfl⟩ := kdvT_ok h4 h1
      refine ⟨_, kev_mk (f := (g', f.2 / c)) h5, ?_⟩
      have e3 := kz_iff.mp h3
      show c * w + f.2 = c * (w + f.2 / c)
      rw [Int.mul_add]
      omega
/-! CELLS: a type of cell is (kind, size, runs, runs by a count that stands in the cell itself); kind below 100: an object of that number in the list of names; else an array.
A run is (base, stride, count, specification); by itself: (base, stride, where the count stands, the most, specification) -/
abbrev kP : Type := kQ ⊕ kQ ⊕ Nat
abbrev kRun : Type := Nat × Nat × Nat × kP
abbrev kSelf : Type := Nat × Nat × Nat × Nat × kP
abbrev kT : Type := Nat × Nat × List kRun × List kSelf
def kpok (Ty : Nat → Nat → Prop) (p : kP) (v : Value) : Prop := match p with
  | .inl q => ∃ n : Int32, v = .int n ∧ ∃ r ∈ q, r.1 ≤ n.toInt ∧ n.toInt ≤ r.2
  | .inr (.inl q) => ∃ n : Int64, v = .long n ∧ ∃ r ∈ q, r.1 ≤ n.toInt ∧ n.toInt ≤ r.2
  | .inr (.inr t) => ∃ a : Nat, v = .ref a ∧ Ty a t
def kcell (D : va_G) (cA : Nat → ClassId) (T : kT) (a : Nat) (H : Heap) (V : Nat → Value) : Prop := match Nat.blt T.1 100 with
  | true => t_OB a (D.1 T.1) T.2.1 (D.2 T.1) H V
  | false => H[a]? = some (arrV (cA (T.1 - 100)) T.2.1 V)
theorem kcell_kept {D : va_G} {cA : Nat → ClassId} {T : kT} {a : Nat} {H H1 : Heap} {V : Nat → Value} (h : kcell D cA T a H V) (hq : H1[a]? = H[a]?) : kcell D cA T a H1 V := by
  unfold kcell at h ⊢
  cases hb : Nat.blt T.1 100 with
  | true => rw [hb] at h; exact t_OB.kept h hq
  | false => rw [hb] at h; exact hq.trans h
theorem kcell_uniq {D : va_G} {cA : Nat → ClassId} {T : kT} {a : Nat} {H : Heap} {V V' : Nat → Value} (h : kcell D cA T a H V) (h' : kcell D cA T a H V') {j : Nat} (hj : j < T.2.1) : V j = V' j := by
  unfold kcell at h h'
  cases hb : Nat.blt T.1 100 with
  | true =>
    rw [hb] at h h'
    obtain ⟨c, h1, -, -, h2⟩ := h
    obtain ⟨c', h1', -, -, h2'⟩ := h'
    rw [h1] at h1'
    obtain rfl := Option.some.inj h1'
    have := (h2 j hj).symm.trans (h2' j hj)
    exact Option.some.inj this
  | false =>
    rw [hb] at h h'
    have e := Option.some.inj (h.symm.trans h')
    have := arrV_read (cA (T.1 - 100)) V hj
    rw [e, arrV_read _ _ hj] at this
    exact (Option.some.inj this).symm
/-- what the cell holds is as its type says -/
def kvals (Ty : Nat → Nat → Prop) (T : kT) (V : Nat → Value) : Prop :=
  (∀ r ∈ T.2.2.1, ∀ P, P < r.2.2.1 → kpok Ty r.2.2.2 (V (r.1 + r.2.1 * P))) ∧
  (∀ r ∈ T.2.2.2, ∀ (n : Int32) (P : Nat), V r.2.2.1 = .int n → P < r.2.2.2.1 → (P : Int) < n.toInt → kpok Ty r.2.2.2.2 (V (r.1 + r.2.1 * P)))
/-- what is held between two rows of one object (type 12: its rows 13 and 15): where the first has 1, the second has at most 12 -/
def kY (D : va_G) (cA : Nat → ClassId) (tt : List kT) (Ty : Nat → Nat → Prop) (H : Heap) : Prop := ∀ (a b c : Nat) (T To Tw : kT) (V Vo Vw : Nat → Value) (j : Nat) (n : Int32), Ty a 12 → tt[12]? = some T → kcell D cA T a H V → V 1 = .ref b → V 3 = .ref c → Ty b 13 → tt[13]? = some To → kcell D cA To b H Vo → Ty c 15 → tt[15]? = some Tw → kcell D cA Tw c H Vw → j < 40 → Vo j = .int 1 → Vw j = .int n → n.toInt ≤ 12
def kyf (t : Nat) : Bool := match Nat.beq t 12 with
  | true => false
  | false => match Nat.beq t 13 with
    | true => false
    | false => match Nat.beq t 15 with
      | true => false
      | false => true
def kgood (D : va_G) (cA : Nat → ClassId) (tt : List kT) (Ty : Nat → Nat → Prop) (lo : Nat) (H : Heap) : Prop := (∀ (a t : Nat) (T : kT), Ty a t → tt[t]? = some T → lo ≤ a ∧ ∃ V, kcell D cA T a H V ∧ kvals Ty T V) ∧ kY D cA tt Ty H
/-- one address, one type (of those that are cells) -/
def kTyp (tt : List kT) (Ty : Nat → Nat → Prop) : Prop := (∀ a t t', t < 1000 → t' < 1000 → Ty a t → Ty a t' → t = t') ∧ tt.length ≤ 1000 ∧ (∀ (t : Nat) (T : kT), tt[t]? = some T → T.2.1 < 5000) ∧ (∀ T : kT, tt[36]? = some T → T.2.1 = 38) ∧ ∀ T : kT, tt[40]? = some T → T.2.1 = 900
theorem kTyp_eq {tt : List kT} {Ty : Nat → Nat → Prop} {a t t' : Nat} {T T' : kT} (h : kTyp tt Ty) (h1 : Ty a t) (h2 : Ty a t') (h3 : tt[t]? = some T) (h4 : tt[t']? = some T') : t = t' :=
  h.1 a t t' (Nat.lt_of_lt_of_le (List.getElem?_eq_some_iff.mp h3).1 h.2.1) (Nat.lt_of_lt_of_le (List.getElem?_eq_some_iff.mp h4).1 h.2.1) h1 h2
theorem kyf_ne {t : Nat} (h : kyf t = true) : t ≠ 12 ∧ t ≠ 13 ∧ t ≠ 15 := by
  unfold kyf at h
  refine ⟨fun e => ?_, fun e => ?_, fun e => ?_⟩ <;> subst e <;> simp at h
theorem kY_kept {D : va_G} {cA : Nat → ClassId} {tt : List kT} {Ty : Nat → Nat → Prop} {H H1 : Heap} {a t : Nat} {T : kT} (hTy : kTyp tt Ty) (h : kY D cA tt Ty H) (ha : Ty a t) (hT : tt[t]? = some T) (ht : kyf t = true) (ho : ∀ q, q ≠ a → H1[q]? = H[q]?) : kY D cA tt Ty H1 := by
  obtain ⟨n1, n2, n3⟩ := kyf_ne ht
  intro a' b' c' T' To Tw V Vo Vw j n h1 h2 h3 h4 h5 h6 h7 h8 h9 h10 h11 h12 h13 h14
  have k : ∀ (x t' : Nat) (T' : kT), Ty x t' → tt[t']? = some T' → t ≠ t' → H[x]? = H1[x]? := fun x t' T' g1 g2 g3 => (ho x (fun e => by
    subst e
    exact g3 (kTyp_eq hTy ha g1 hT g2))).symm
  exact h a' b' c' T' To Tw V Vo Vw j n h1 h2 (kcell_kept h3 (k _ _ _ h1 h2 n1)) h4 h5 h6 h7 (kcell_kept h8 (k _ _ _ h6 h7 n2)) h9 h10 (kcell_kept h11 (k _ _ _ h9 h10 n3)) h12 h13 h14
/-! FACTS: (reference, index, value) -/
abbrev kF : Type := Nat × kL × kV
/-- which of four words the object of type 36 stands at (by its numbers 12, 10, 9, 8 and its row 40): 0 none -/
def kmb (Vt : Nat → Value) : Nat → List Int → Bool
  | _, [] => true
  | k, c :: t => (match Vt k with
    | .int b => decide (b.toInt = c)
    | _ => false) && kmb Vt (k + 1) t
def kmt (V Vt : Nat → Value) (w : List Int) : Bool := match V 12, V 10, V 9, V 8 with
  | .int fk, .int tk, .int fr, .int at_ => (decide (fk.toInt = 0 ∧ tk.toInt = 1 ∧ at_.toInt - fr.toInt = (w.length : Int) ∧ 0 ≤ fr.toInt ∧ at_.toInt ≤ 900)) && kmb Vt fr.toInt.toNat w
  | _, _, _, _ => false
def kw1 : List Int := [112, 108, 97, 121, 101, 114]
def kw2 : List Int := [117, 109, 112, 105, 114, 101]
def kw3 : List Int := [119, 105, 110, 100]
def kw4 : List Int := [102, 114, 105, 101, 110, 100, 115]
def kwhich (V Vt : Nat → Value) : Int := if kmt V Vt kw1 = true then 1 else if kmt V Vt kw2 = true then 2 else if kmt V Vt kw3 = true then 3 else if kmt V Vt kw4 = true then 4 else 0
theorem kmb_congr {V V' : Nat → Value} : ∀ {w : List Int} {k : Nat}, (∀ j, j < k + w.length → V' j = V j) → kmb V' k w = kmb V k w
  | [], k, _ => rfl
  | c :: t, k, h => by
    unfold kmb
    rw [h k (by simp), kmb_congr (w := t) (k := k + 1) (fun j hj => h j (by simp; omega))]
theorem kmt_congr {V V' Vt Vt' : Nat → Value} {w : List Int} (h1 : V' 12 = V 12) (h2 : V' 10 = V 10) (h3 : V' 9 = V 9) (h4 : V' 8 = V 8) (h5 : ∀ j, j < 900 → Vt' j = Vt j) : kmt V' Vt' w = kmt V Vt w := by
  unfold kmt
  rw [h1, h2, h3, h4]
  split
  · rename_i fk tk fr at_ _ _ _ _
    by_cases hc : fk.toInt = 0 ∧ tk.toInt = 1 ∧ at_.toInt - fr.toInt = (w.length : Int) ∧ 0 ≤ fr.toInt ∧ at_.toInt ≤ 900
    · rw [kmb_congr (V := Vt) (V' := Vt') (fun j hj => h5 j (by omega))]
    · simp [hc]
  · rfl
theorem kwhich_congr {V V' Vt Vt' : Nat → Value} (h1 : V' 12 = V 12) (h2 : V' 10 = V 10) (h3 : V' 9 = V 9) (h4 : V' 8 = V 8) (h5 : ∀ j, j < 900 → Vt' j = Vt j) : kwhich V' Vt' = kwhich V Vt := by
  unfold kwhich
  rw [kmt_congr h1 h2 h3 h4 h5, kmt_congr h1 h2 h3 h4 h5, kmt_congr h1 h2 h3 h4 h5, kmt_congr h1 h2 h3 h4 h5]
theorem kwhich_in (V Vt : Nat → Value) : 0 ≤ kwhich V Vt ∧ kwhich V Vt ≤ 4 := by
  unfold kwhich
  split
  · omega
  · split
    · omega
    · split
      · omega
      · split <;> omega
/-- the index 5000 stands for that -/
def kghx (x : kL) : Bool := kLeq x (kcst 5000)
theorem kghx_ev {env : List Int} {x : kL} {z : Int} (h : kghx x = true) (hz : kev env x = some z) : z = 5000 := by
  have e := kLeq_eq h
  subst e
  exact (Option.some.inj (kcst_ev.symm.trans hz)).symm
def kfokN (D : va_G) (cA : Nat → ClassId) (tt : List kT) (Ty : Nat → Nat → Prop) (env : List Int) (ren : List Nat) (H : Heap) (q : kF) : Prop :=
  ∃ (a t : Nat) (T : kT) (V : Nat → Value) (z : Nat), ren[q.1]? = some a ∧ Ty a t ∧ tt[t]? = some T ∧ kcell D cA T a H V ∧ kev env q.2.1 = some (z : Int) ∧ z < T.2.1 ∧ kvok env ren q.2.2 (V z)
def kfokG (D : va_G) (cA : Nat → ClassId) (tt : List kT) (Ty : Nat → Nat → Prop) (env : List Int) (ren : List Nat) (H : Heap) (q : kF) : Prop :=
  ∃ (a b : Nat) (T Tt : kT) (V Vt : Nat → Value) (f : kL), ren[q.1]? = some a ∧ Ty a 36 ∧ tt[36]? = some T ∧ kcell D cA T a H V ∧ V 4 = .ref b ∧ Ty b 40 ∧ tt[40]? = some Tt ∧ kcell D cA Tt b H Vt ∧ q.2.2 = .inl f ∧ kev env f = some (kwhich V Vt)
def kfok (D : va_G) (cA : Nat → ClassId) (tt : List kT) (Ty : Nat → Nat → Prop) (env : List Int) (ren : List Nat) (H : Heap) (q : kF) : Prop := match kghx q.2.1 with
  | true => kfokG D cA tt Ty env ren H q
  | false => kfokN D cA tt Ty env ren H q
theorem kfok_ext {D : va_G} {cA : Nat → ClassId} {tt : List kT} {Ty : Nat → Nat → Prop} {env e : List Int} {ren u : List Nat} {H : Heap} {q : kF} (h : kfok D cA tt Ty env ren H q) : kfok D cA tt Ty (env ++ e) (ren ++ u) H q := by
  unfold kfok at h ⊢
  cases hg : kghx q.2.1 with
  | false =>
    rw [hg] at h
    obtain ⟨a, t, T, V, z, h1, h2, h3, h4, h5, h6, h7⟩ := h
    exact ⟨a, t, T, V, z, kget_ext h1, h2, h3, h4, kev_ext h5, h6, kvok_ext h7⟩
  | true =>
    rw [hg] at h
    obtain ⟨a, b, T, Tt, V, Vt, f, h1, h2, h3, h4, h5, h6, h7, h8, h9, h10⟩ := h
    exact ⟨a, b, T, Tt, V, Vt, f, kget_ext h1, h2, h3, h4, h5, h6, h7, h8, h9, kev_ext h10⟩
theorem kfok_N {D : va_G} {cA : Nat → ClassId} {tt : List kT} {Ty : Nat → Nat → Prop} {env : List Int} {ren : List Nat} {H : Heap} {q : kF} (h : kfok D cA tt Ty env ren H q) (hg : kghx q.2.1 = false) : kfokN D cA tt Ty env ren H q := by
  unfold kfok at h
  rw [hg] at h
  exact h
/-- a fact of a place within a cell isn't of the index 5000 -/
theorem kfok_mk {D : va_G} {cA : Nat → ClassId} {tt : List kT} {Ty : Nat → Nat → Prop} {env : List Int} {ren : List Nat} {H : Heap} {q : kF} (hTy : kTyp tt Ty) (h : kfokN D cA tt Ty env ren H q) : kfok D cA tt Ty env ren H q := by
  unfold kfok
  cases hg : kghx q.2.1 with
  | false => exact h
  | true =>
    exfalso
    obtain ⟨a, t, T, V, z, h1, h2, h3, h4, h5, h6, h7⟩ := h
    have := kghx_ev hg h5
    have := hTy.2.2.1 t T h3
    omega
/-- what the index 5000 says stays, if what it rests on does -/
theorem kfokG_kept {D : va_G} {cA : Nat → ClassId} {tt : List kT} {Ty : Nat → Nat → Prop} {env : List Int} {ren : List Nat} {H H1 : Heap} {q : kF} (h : kfokG D cA tt Ty env ren H q) (k1 : ∀ a T V, Ty a 36 → tt[36]? = some T → kcell D cA T a H V → ∃ V', kcell D cA T a H1 V' ∧ V' 4 = V 4 ∧ V' 8 = V 8 ∧ V' 9 = V 9 ∧ V' 10 = V 10 ∧ V' 12 = V 12) (k2 : ∀ b T V, Ty b 40 → tt[40]? = some T → kcell D cA T b H V → ∃ V', kcell D cA T b H1 V' ∧ ∀ j, j < 900 → V' j = V j) : kfokG D cA tt Ty env ren H1 q := by
  obtain ⟨a, b, T, Tt, V, Vt, f, h1, h2, h3, h4, h5, h6, h7, h8, h9, h10⟩ := h
  obtain ⟨V', g1, g4, g8, g9, g10, g12⟩ := k1 a T V h2 h3 h4
  obtain ⟨Vt', w1, w2⟩ := k2 b Tt Vt h6 h7 h8
  exact ⟨a, b, T, Tt, V', Vt', f, h1, h2, h3, g1, g4.trans h5, h6, h7, w1, h9, by rw [kwhich_congr g12 g10 g9 g8 w2]; exact h10⟩
/-! STATES: intervals, types of references, locals, stack, facts, constraints -/
abbrev kS : Type := kQ × List Nat × List (Nat × kV) × List kV × List kF × List kL
def kRt (Ty : Nat → Nat → Prop) (ren : List Nat) (rt : List Nat) : Prop := ren.length = rt.length ∧ ∀ (k t a : Nat), rt[k]? = some t → ren[k]? = some a → Ty a t
def kLoc (env : List Int) (ren : List Nat) : List (Nat × kV) → List (Nat × Value) → Prop
  | [], [] => True
  | a :: l, b :: m => a.1 = b.1 ∧ kvok env ren a.2 b.2 ∧ kLoc env ren l m
  | _, _ => False
def kStk (env : List Int) (ren : List Nat) : List kV → List Value → Prop
  | [], [] => True
  | a :: l, b :: m => kvok env ren a b ∧ kStk env ren l m
  | _, _ => False
theorem kLoc_ext {env e : List Int} {ren u : List Nat} : ∀ {l : List (Nat × kV)} {m : List (Nat × Value)}, kLoc env ren l m → kLoc (env ++ e) (ren ++ u) l m
  | [], [], _ => trivial
  | a :: l, b :: m, h => ⟨h.1, kvok_ext h.2.1, kLoc_ext h.2.2⟩
  | [], _ :: _, h => h.elim
  | _ :: _, [], h => h.elim
theorem kStk_ext {env e : List Int} {ren u : List Nat} : ∀ {l : List kV} {m : List Value}, kStk env ren l m → kStk (env ++ e) (ren ++ u) l m
  | [], [], _ => trivial
  | a :: l, b :: m, h => ⟨kvok_ext h.1, kStk_ext h.2⟩
  | [], _ :: _, h => h.elim
  | _ :: _, [], h => h.elim
def kst (D : va_G) (cA : Nat → ClassId) (tt : List kT) (Ty : Nat → Nat → Prop) (env : List Int) (ren : List Nat) (S : kS) (H : Heap) (lv : List (Nat × Value)) (st : List Value) : Prop :=
  kI env S.1 ∧ kC env S.2.2.2.2.2 ∧ kRt Ty ren S.2.1 ∧ kLoc env ren S.2.2.1 lv ∧ kStk env ren S.2.2.2.1 st ∧ ∀ q ∈ S.2.2.2.2.1, kfok D cA tt Ty env ren H q
theorem kRt_at {Ty : Nat → Nat → Prop} {ren rt : List Nat} {k t : Nat} (h : kRt Ty ren rt) (hk : rt[k]? = some t) : ∃ a, ren[k]? = some a ∧ Ty a t := by
  have := (List.getElem?_eq_some_iff.mp hk).1
  rw [← h.1] at this
  have e := List.getElem?_eq_getElem this
  exact ⟨_, e, h.2 k t _ hk e⟩
theorem kRt_push {Ty : Nat → Nat → Prop} {ren rt : List Nat} {t a : Nat} (h : kRt Ty ren rt) (ha : Ty a t) : kRt Ty (ren ++ [a]) (rt ++ [t]) := by
  refine ⟨by simp [h.1], fun k r w hk hw => ?_⟩
  by_cases hlt : k < rt.length
  · rw [List.getElem?_append_left hlt] at hk
    rw [List.getElem?_append_left (by rw [h.1]; exact hlt)] at hw
    exact h.2 k r w hk hw
  · have hk' := (List.getElem?_eq_some_iff.mp hk).1
    have e : k = rt.length := by simp at hk'; omega
    subst e
    have e1 : r = t := by simpa using hk.symm
    have e2 : w = a := by rw [← h.1] at hw; simpa using hw.symm
    subst e1; subst e2
    exact ha
section KST
variable {D : va_G} {cA : Nat → ClassId} {tt : List kT} {Ty : Nat → Nat → Prop} {env : List Int} {ren : List Nat} {S : kS} {H : Heap} {lv : List (Nat × Value)} {st : List Value}
/-- a symbol more -/
def kpush (S : kS) (q : Int × Int) : kS := (S.1 ++ [q], S.2)
theorem kpush_ok {q : Int × Int} {z : Int} (h : kst D cA tt Ty env ren S H lv st) (h1 : q.1 ≤ z) (h2 : z ≤ q.2) : kst D cA tt Ty (env ++ [z]) (ren ++ []) (kpush S q) H lv st ∧ kev (env ++ [z]) (ksym S.1.length) = some z := by
  obtain ⟨a, b, c, d, e, f⟩ := h
  refine ⟨⟨kI_push a h1 h2, kC_ext b, by rw [List.append_nil]; exact c, kLoc_ext d, kStk_ext e, fun q hq => kfok_ext (f q hq)⟩, ksym_ev (kI_at a)⟩
def kpushR (S : kS) (t : Nat) : kS := (S.1, S.2.1 ++ [t], S.2.2)
theorem kpushR_ok {t a : Nat} (h : kst D cA tt Ty env ren S H lv st) (ha : Ty a t) : kst D cA tt Ty (env ++ []) (ren ++ [a]) (kpushR S t) H lv st ∧ (ren ++ [a])[S.2.1.length]? = some a := by
  obtain ⟨a1, b, c, d, e, f⟩ := h
  refine ⟨⟨by rw [List.append_nil]; exact a1, kC_ext b, kRt_push c ha, kLoc_ext d, kStk_ext e, fun q hq => kfok_ext (f q hq)⟩, ?_⟩
  rw [← c.1]; simp
/-- f ≥ 0 taken up -/
def kasmS (S : kS) (f : kL) : Option kS := match kasm S.1 S.2.2.2.2.2 f with
  | some r => some (r.1, S.2.1, S.2.2.1, S.2.2.2.1, S.2.2.2.2.1, r.2)
  | none => none
theorem kasmS_ok {f : kL} {x : Int} (h : kst D cA tt Ty env ren S H lv st) (hf : kev env f = some x) (hx : 0 ≤ x) : ∃ S', kasmS S f = some S' ∧ kst D cA tt Ty env ren S' H lv st := by
  obtain ⟨a, b, c, d, e, g⟩ := h
  obtain ⟨r, h1, h2, h3⟩ := kasm_ok a b hf hx
  refine ⟨(r.1, S.2.1, S.2.2.1, S.2.2.2.1, S.2.2.2.2.1, r.2), ?_, h2, h3, c, d, e, g⟩
  unfold kasmS
  rw [h1]
def kgeS (S : kS) (f : kL) : Bool := kge S.1 S.2.2.2.2.2 f
theorem kgeS_ok {f : kL} {x : Int} (h : kst D cA tt Ty env ren S H lv st) (hf : kev env f = some x) (hp : kgeS S f = true) : 0 ≤ x := kge_ok h.1 h.2.1 hf hp
/-- lo ≤ f ≤ hi -/
def kbt (S : kS) (f : kL) (lo hi : Int) : Bool := match kgeS S (kofs f (-lo)) with
  | true => kgeS S (ksub (kcst hi) f)
  | false => false
theorem kbt_ok {f : kL} {x lo hi : Int} (h : kst D cA tt Ty env ren S H lv st) (hf : kev env f = some x) (hp : kbt S f lo hi = true) : lo ≤ x ∧ x ≤ hi := by
  unfold kbt at hp
  cases h1 : kgeS S (kofs f (-lo)) with
  | false => rw [h1] at hp; cases hp
  | true =>
    rw [h1] at hp
    have a := kgeS_ok h (kofs_ev hf) h1
    have b := kgeS_ok h (ksub_ev kcst_ev hf) hp
    omega
/-- the value is as the specification says -/
def kfit (S : kS) (v : kV) (p : kP) : Bool := match v, p with
  | .inl f, .inl q => q.any (fun r => kbt S f r.1 r.2)
  | .inr (.inl f), .inr (.inl q) => q.any (fun r => kbt S f r.1 r.2)
  | .inr (.inr (.inl k)), .inr (.inr t) => match S.2.1[k]? with
    | some t' => Nat.beq t' t
    | none => false
  | _, _ => false
theorem kfit_ok {v : kV} {p : kP} {x : Value} (h : kst D cA tt Ty env ren S H lv st) (hv : kvok env ren v x) (hp : kfit S v p = true) : kpok Ty p x := by
  match v, p, hv, hp with
  | .inl f, .inl q, ⟨n, e, hn⟩, hp =>
    obtain ⟨r, hr, hb⟩ := List.any_eq_true.mp hp
    exact ⟨n, e, r, hr, kbt_ok h hn hb⟩
  | .inr (.inl f), .inr (.inl q), ⟨n, e, hn⟩, hp =>
    obtain ⟨r, hr, hb⟩ := List.any_eq_true.mp hp
    exact ⟨n, e, r, hr, kbt_ok h hn hb⟩
  | .inr (.inr (.inl k)), .inr (.inr t), ⟨q, e, hq⟩, hp =>
    have hp : (match S.2.1[k]? with
      | some t' => Nat.beq t' t
      | none => false) = true := hp
    cases h1 : S.2.1[k]? with
    | none => rw [h1] at hp; cases hp
    | some t' =>
      rw [h1] at hp
      have e2 := Nat.beq_eq.mp hp
      subst e2
      exact ⟨q, e, h.2.2.1.2 k t' q h1 hq⟩
  | .inl _, .inr (.inl _), _, hp => cases hp
  | .inl _, .inr (.inr _), _, hp => cases hp
  | .inr (.inl _), .inl _, _, hp => cases hp
  | .inr (.inl _), .inr (.inr _), _, hp => cases hp
  | .inr (.inr (.inl _)), .inl _, _, hp => cases hp
  | .inr (.inr (.inl _)), .inr (.inl _), _, hp => cases hp
  | .inr (.inr (.inr _)), .inl _, _, hp => cases hp
  | .inr (.inr (.inr _)), .inr (.inl _), _, hp => cases hp
  | .inr (.inr (.inr _)), .inr (.inr _), _, hp => cases hp
/-- the fact of a place -/
def kfind0 (fa : List kF) (r : Nat) (x : kL) : Option kV := match fa with
  | [] => none
  | q :: t => match Nat.beq q.1 r with
    | true => match kLeq q.2.1 x with
      | true => some q.2.2
      | false => kfind0 t r x
    | false => kfind0 t r x
def kfind (fa : List kF) (r : Nat) (x : kL) : Option kV := match kghx x with
  | true => none
  | false => kfind0 fa r x
theorem kfind0_mem : ∀ {fa : List kF} {r : Nat} {x : kL} {v : kV}, kfind0 fa r x = some v → (r, x, v) ∈ fa
  | [], r, x, v, h => by cases h
  | q :: t, r, x, v, h => by
    unfold kfind0 at h
    cases h1 : Nat.beq q.1 r with
    | false => rw [h1] at h; exact List.mem_cons_of_mem _ (kfind0_mem h)
    | true =>
      rw [h1] at h
      cases h2 : kLeq q.2.1 x with
      | false => rw [h2] at h; exact List.mem_cons_of_mem _ (kfind0_mem h)
      | true =>
        rw [h2] at h
        have e1 := Nat.beq_eq.mp h1
        have e2 := kLeq_eq h2
        have e3 : q.2.2 = v := Option.some.inj h
        subst e1; subst e2; subst e3
        exact List.mem_cons_self
theorem kfind_ok {r : Nat} {x : kL} {v : kV} (h : kst D cA tt Ty env ren S H lv st) (hf : kfind S.2.2.2.2.1 r x = some v) : kfokN D cA tt Ty env ren H (r, x, v) := by
  unfold kfind at hf
  split at hf
  · cases hf
  · rename_i hg
    exact kfok_N (h.2.2.2.2.2 _ (kfind0_mem hf)) hg
/-- x is base + stride * P with P ≥ 0: P -/
def krunP (S : kS) (b s : Nat) (x : kL) : Option kL := match kdv (Int.ofNat s) (kofs x (-(Int.ofNat b))) with
  | some P => match kgeS S P with
    | true => some P
    | false => none
  | none => none
theorem krunP_ok {b s : Nat} {x P : kL} {z : Nat} (h : kst D cA tt Ty env ren S H lv st) (hx : kev env x = some (z : Int)) (hp : krunP S b s x = some P) : ∃ w : Nat, kev env P = some (w : Int) ∧ z = b + s * w := by
  unfold krunP at hp
  cases h1 : kdv (Int.ofNat s) (kofs x (-(Int.ofNat b))) with
  | none => rw [h1] at hp; (try dsimp only at hp); cases hp
  | some P' =>
    rw [h1] at hp
    try dsimp only at hp
    cases h2 : kgeS S P' with
    | false => rw [h2] at hp; (try dsimp only at hp); cases hp
    | true =>
      rw [h2] at hp
      try dsimp only at hp
      obtain rfl := Option.some.inj hp
      obtain ⟨w, h3, h4⟩ := kdv_ok h1 (kofs_ev hx)
      have h5 := kgeS_ok h h3 h2
      refine ⟨w.toNat, by rw [Int.toNat_of_nonneg h5]; exact h3, ?_⟩
      have h4 : (z : Int) + -(b : Int) = (s : Int) * w := h4
      have h6 : ((w.toNat : Nat) : Int) = w := Int.toNat_of_nonneg h5
      rw [← h6, ← Int.natCast_mul] at h4
      omega
def kspR (S : kS) (x : kL) : List kRun → Option kP
  | [] => none
  | r :: t => match krunP S r.1 r.2.1 x with
    | some P => match kgeS S (ksub (kcst (Int.ofNat r.2.2.1 - 1)) P) with
      | true => some r.2.2.2
      | false => kspR S x t
    | none => kspR S x t
theorem kspR_ok {T : kT} {V : Nat → Value} {x : kL} {z : Nat} (h : kst D cA tt Ty env ren S H lv st) (hx : kev env x = some (z : Int)) : ∀ {l : List kRun} {p : kP}, (∀ r ∈ l, ∀ P, P < r.2.2.1 → kpok Ty r.2.2.2 (V (r.1 + r.2.1 * P))) → kspR S x l = some p → kpok Ty p (V z)
  | [], p, hv, hp => by cases hp
  | r :: l, p, hv, hp => by
    have ih := fun hp => kspR_ok (T := T) (l := l) (p := p) h hx (fun r hr => hv r (List.mem_cons_of_mem _ hr)) hp
    unfold kspR at hp
    cases h1 : krunP S r.1 r.2.1 x with
    | none => rw [h1] at hp; (try dsimp only at hp); exact ih hp
    | some P =>
      rw [h1] at hp
      try dsimp only at hp
      cases h2 : kgeS S (ksub (kcst (Int.ofNat r.2.2.1 - 1)) P) with
      | false => rw [h2] at hp; (try dsimp only at hp); exact ih hp
      | true =>
        rw [h2] at hp
        try dsimp only at hp
        obtain rfl := Option.some.inj hp
        obtain ⟨w, h3, h4⟩ := krunP_ok h hx h1
        have h5 := kgeS_ok h (ksub_ev kcst_ev h3) h2
        have h5 : 0 ≤ ((r.2.2.1 : Int) - 1) - w := h5
        rw [h4]
        exact hv r List.mem_cons_self w (by omega)
def kspS (S : kS) (r0 : Nat) (x : kL) : List kSelf → Option kP
  | [] => none
  | r :: t => match kfind S.2.2.2.2.1 r0 (kcst (Int.ofNat r.2.2.1)) with
    | some (.inl n) => match krunP S r.1 r.2.1 x with
      | some P => match kgeS S (kofs (ksub n P) (-1)) with
        | true => match kgeS S (ksub (kcst (Int.ofNat r.2.2.2.1 - 1)) P) with
          | true => some r.2.2.2.2
          | false => kspS S r0 x t
        | false => kspS S r0 x t
      | none => kspS S r0 x t
    | _ => kspS S r0 x t
theorem kspS_ok {t0 : Nat} {T : kT} {V : Nat → Value} {x : kL} {z r0 a : Nat} (hTy : kTyp tt Ty) (h : kst D cA tt Ty env ren S H lv st) (ha : ren[r0]? = some a) (ht : Ty a t0) (hT : tt[t0]? = some T) (hcl : kcell D cA T a H V) (hx : kev env x = some (z : Int)) :
    ∀ {l : List kSelf} {p : kP}, (∀ r ∈ l, ∀ (n : Int32) (P : Nat), V r.2.2.1 = .int n → P < r.2.2.2.1 → (P : Int) < n.toInt → kpok Ty r.2.2.2.2 (V (r.1 + r.2.1 * P))) → kspS S r0 x l = some p → kpok Ty p (V z)
  | [], p, hv, hp => by cases hp
  | r :: l, p, hv, hp => by
    have ih := fun hp => kspS_ok (l := l) (p := p) hTy h ha ht hT hcl hx (fun r hr => hv r (List.mem_cons_of_mem _ hr)) hp
    unfold kspS at hp
    cases h1 : kfind S.2.2.2.2.1 r0 (kcst (Int.ofNat r.2.2.1)) with
    | none => rw [h1] at hp; (try dsimp only at hp); exact ih hp
    | some v =>
      cases v with
      | inr v => rw [h1] at hp; (try dsimp only at hp); exact ih hp
      | inl n =>
        rw [h1] at hp
        try dsimp only at hp
        cases h2 : krunP S r.1 r.2.1 x with
        | none => rw [h2] at hp; (try dsimp only at hp); exact ih hp
        | some P =>
          rw [h2] at hp
          try dsimp only at hp
          cases h3 : kgeS S (kofs (ksub n P) (-1)) with
          | false => rw [h3] at hp; (try dsimp only at hp); exact ih hp
          | true =>
            rw [h3] at hp
            try dsimp only at hp
            cases h4 : kgeS S (ksub (kcst (Int.ofNat r.2.2.2.1 - 1)) P) with
            | false => rw [h4] at hp; (try dsimp only at hp); exact ih hp
            | true =>
              rw [h4] at hp
              try dsimp only at hp
              obtain rfl := Option.some.inj hp
              obtain ⟨w, e1, e2⟩ := krunP_ok h hx h2
              obtain ⟨a', t', T', V', z', f1, f2, f3, f4, f5, f6, n', f7, f8⟩ := kfind_ok h h1
              have ea : a' = a := Option.some.inj (f1.symm.trans ha)
              subst ea
              have et := kTyp_eq hTy f2 ht f3 hT
              subst et
              have eT : T' = T := Option.some.inj (f3.symm.trans hT)
              subst eT
              have ez : (Int.ofNat r.2.2.1) = (z' : Int) := by
                have := kcst_ev (env := env) (n := Int.ofNat r.2.2.1)
                exact Option.some.inj (this.symm.trans f5)
              have ez : r.2.2.1 = z' := Int.ofNat.inj ez
              subst ez
              have eV := kcell_uniq f4 hcl f6
              have g1 := kgeS_ok h (kofs_ev (ksub_ev f8 e1)) h3
              have g2 := kgeS_ok h (ksub_ev kcst_ev e1) h4
              have g2 : 0 ≤ ((r.2.2.2.1 : Int) - 1) - w := g2
              rw [e2]
              exact hv r List.mem_cons_self n' w (by rw [← eV]; exact f7) (by omega) (by omega)
end KST
end
section
/-! LOADS AND STORES, in the abstract -/
def kfadd (S : kS) (q : kF) : kS := (S.1, S.2.1, S.2.2.1, S.2.2.2.1, q :: S.2.2.2.2.1, S.2.2.2.2.2)
def kldI (S : kS) (r : Nat) (x : kL) : kQ → List (kS × kV)
  | [] => []
  | q :: t => (match kz (q.2 - q.1) with
    | true => (kfadd S (r, x, .inl (kcst q.1)), .inl (kcst q.1))
    | false => (kfadd (kpush S q) (r, x, .inl (ksym S.1.length)), .inl (ksym S.1.length))) :: kldI S r x t
def kldL (S : kS) (r : Nat) (x : kL) : kQ → List (kS × kV)
  | [] => []
  | q :: t => (match kz (q.2 - q.1) with
    | true => (kfadd S (r, x, .inr (.inl (kcst q.1))), .inr (.inl (kcst q.1)))
    | false => (kfadd (kpush S q) (r, x, .inr (.inl (ksym S.1.length))), .inr (.inl (ksym S.1.length)))) :: kldL S r x t
def kldP (S : kS) (r : Nat) (x : kL) (p : kP) : List (kS × kV) := match p with
  | .inl q => kldI S r x q
  | .inr (.inl q) => kldL S r x q
  | .inr (.inr t) => [(kfadd (kpushR S t) (r, x, .inr (.inr (.inl S.2.1.length))), .inr (.inr (.inl S.2.1.length)))]
def kload (tt : List kT) (S : kS) (r : Nat) (x : kL) : Option (List (kS × kV)) := match S.2.1[r]? with
  | none => none
  | some t => match tt[t]? with
    | none => none
    | some T => match kbt S x 0 (Int.ofNat T.2.1 - 1) with
      | false => none
      | true => match kfind S.2.2.2.2.1 r x with
        | some v => some [(S, v)]
        | none => match kspS S r x T.2.2.2 with
          | some p => some (kldP S r x p)
          | none => match kspR S x T.2.2.1 with
            | some p => some (kldP S r x p)
            | none => none
section KLS
variable {D : va_G} {cA : Nat → ClassId} {tt : List kT} {Ty : Nat → Nat → Prop} {env : List Int} {ren : List Nat} {S : kS} {H : Heap} {lv : List (Nat × Value)} {st : List Value}
theorem kfadd_ok {q : kF} (h : kst D cA tt Ty env ren S H lv st) (hq : kfok D cA tt Ty env ren H q) : kst D cA tt Ty env ren (kfadd S q) H lv st := by
  obtain ⟨a, b, c, d, e, f⟩ := h
  refine ⟨a, b, c, d, e, fun p hp => ?_⟩
  rcases List.mem_cons.mp hp with rfl | hp
  · exact hq
  · exact f p hp
theorem kldP_ok {r a t z : Nat} {T : kT} {V : Nat → Value} {x : kL} {p : kP} (hTy : kTyp tt Ty) (h : kst D cA tt Ty env ren S H lv st) (ha : ren[r]? = some a) (ht : Ty a t) (hT : tt[t]? = some T) (hc : kcell D cA T a H V) (hx : kev env x = some (z : Int)) (hz : z < T.2.1) (hp : kpok Ty p (V z)) :
    ∃ alt ∈ kldP S r x p, ∃ e u, kst D cA tt Ty (env ++ e) (ren ++ u) alt.1 H lv st ∧ kvok (env ++ e) (ren ++ u) alt.2 (V z) := by
  have hf : ∀ (e : List Int) (u : List Nat) (v : kV), kvok (env ++ e) (ren ++ u) v (V z) → kfok D cA tt Ty (env ++ e) (ren ++ u) H (r, x, v) := fun e u v hv => kfok_mk hTy ⟨a, t, T, V, z, kget_ext ha, ht, hT, hc, kev_ext hx, hz, hv⟩
  match p, hp with
  | .inl q, ⟨n, hn, r0, hr0, b1, b2⟩ =>
    have key : ∀ q : kQ, r0 ∈ q → ∃ alt ∈ kldI S r x q, ∃ e u, kst D cA tt Ty (env ++ e) (ren ++ u) alt.1 H lv st ∧ kvok (env ++ e) (ren ++ u) alt.2 (V z) := by
      intro q
      induction q with
      | nil => intro h; cases h
      | cons r1 q ih =>
        intro hm
        rcases List.mem_cons.mp hm with e | hm
        · subst e
          refine ⟨_, List.mem_cons_self, ?_⟩
          cases hk : kz (r0.2 - r0.1) with
          | true =>
            have e1 := kz_iff.mp hk
            have hv : kvok (env ++ []) (ren ++ []) (.inl (kcst r0.1)) (V z) := ⟨n, hn, by rw [kcst_ev]; congr 1; omega⟩
            exact ⟨[], [], kfadd_ok (by rw [List.append_nil, List.append_nil]; exact h) (hf [] [] _ hv), hv⟩
          | false =>
            obtain ⟨h1, h2⟩ := kpush_ok (q := r0) h b1 b2
            have hv : kvok (env ++ [n.toInt]) (ren ++ []) (.inl (ksym S.1.length)) (V z) := ⟨n, hn, h2⟩
            exact ⟨[n.toInt], [], kfadd_ok h1 (hf _ _ _ hv), hv⟩
        · obtain ⟨alt, h1, h2⟩ := ih hm
          exact ⟨alt, List.mem_cons_of_mem _ h1, h2⟩
    exact key q hr0
  | .inr (.inl q), ⟨n, hn, r0, hr0, b1, b2⟩ =>
    have key : ∀ q : kQ, r0 ∈ q → ∃ alt ∈ kldL S r x q, ∃ e u, kst D cA tt Ty (env ++ e) (ren ++ u) alt.1 H lv st ∧ kvok (env ++ e) (ren ++ u) alt.2 (V z) := by
      intro q
      induction q with
      | nil => intro h; cases h
      | cons r1 q ih =>
        intro hm
        rcases List.mem_cons.mp hm with e | hm
        · subst e
          refine ⟨_, List.mem_cons_self, ?_⟩
          cases hk : kz (r0.2 - r0.1) with
          | true =>
            have e1 := kz_iff.mp hk
            have hv : kvok (env ++ []) (ren ++ []) (.inr (.inl (kcst r0.1))) (V z) := ⟨n, hn, by rw [kcst_ev]; congr 1; omega⟩
            exact ⟨[], [], kfadd_ok (by rw [List.append_nil, List.append_nil]; exact h) (hf [] [] _ hv), hv⟩
          | false =>
            obtain ⟨h1, h2⟩ := kpush_ok (q := r0) h b1 b2
            have hv : kvok (env ++ [n.toInt]) (ren ++ []) (.inr (.inl (ksym S.1.length))) (V z) := ⟨n, hn, h2⟩
            exact ⟨[n.toInt], [], kfadd_ok h1 (hf _ _ _ hv), hv⟩
        · obtain ⟨alt, h1, h2⟩ := ih hm
          exact ⟨alt, List.mem_cons_of_mem _ h1, h2⟩
    exact key q hr0
  | .inr (.inr t'), ⟨a', hn, ht'⟩ =>
    obtain ⟨h1, h2⟩ := kpushR_ok h ht'
    have hv : kvok (env ++ []) (ren ++ [a']) (.inr (.inr (.inl S.2.1.length))) (V z) := ⟨a', hn, h2⟩
    exact ⟨_, List.mem_cons_self, [], [a'], kfadd_ok h1 (hf _ _ _ hv), hv⟩
theorem kload_ok {lo r : Nat} {x : kL} {w : Int} {alts : List (kS × kV)} (hTy : kTyp tt Ty) (hG : kgood D cA tt Ty lo H) (h : kst D cA tt Ty env ren S H lv st) (hx : kev env x = some w) (hl : kload tt S r x = some alts) :
    ∃ (a t : Nat) (T : kT) (V : Nat → Value) (z : Nat), S.2.1[r]? = some t ∧ ren[r]? = some a ∧ Ty a t ∧ tt[t]? = some T ∧ lo ≤ a ∧ kcell D cA T a H V ∧ kvals Ty T V ∧ w = (z : Int) ∧ z < T.2.1 ∧ ∃ alt ∈ alts, ∃ e u, kst D cA tt Ty (env ++ e) (ren ++ u) alt.1 H lv st ∧ kvok (env ++ e) (ren ++ u) alt.2 (V z) := by
  unfold kload at hl
  cases h1 : S.2.1[r]? with
  | none => rw [h1] at hl; cases hl
  | some t =>
    rw [h1] at hl; dsimp only at hl
    cases h2 : tt[t]? with
    | none => rw [h2] at hl; cases hl
    | some T =>
      rw [h2] at hl; dsimp only at hl
      cases h3 : kbt S x 0 (Int.ofNat T.2.1 - 1) with
      | false => rw [h3] at hl; cases hl
      | true =>
        rw [h3] at hl; dsimp only at hl
        obtain ⟨a, ha, ht⟩ := kRt_at h.2.2.1 h1
        obtain ⟨hlo, V, hc, hv⟩ := hG.1 a t T ht h2
        obtain ⟨b1, b2⟩ := kbt_ok h hx h3
        have b2 : w ≤ (T.2.1 : Int) - 1 := b2
        have hw : w = ((w.toNat : Nat) : Int) := (Int.toNat_of_nonneg b1).symm
        have hx' : kev env x = some ((w.toNat : Nat) : Int) := by rw [← hw]; exact hx
        have hz : w.toNat < T.2.1 := by omega
        refine ⟨a, t, T, V, w.toNat, rfl, ha, ht, h2, hlo, hc, hv, hw, hz, ?_⟩
        cases h4 : kfind S.2.2.2.2.1 r x with
        | some v =>
          rw [h4] at hl; dsimp only at hl
          obtain rfl := Option.some.inj hl
          refine ⟨_, List.mem_cons_self, [], [], by rw [List.append_nil, List.append_nil]; exact h, ?_⟩
          obtain ⟨a', t', T', V', z', f1, f2, f3, f4, f5, f6, f7⟩ := kfind_ok h h4
          have ea : a' = a := Option.some.inj (f1.symm.trans ha)
          subst ea
          have et := kTyp_eq hTy f2 ht f3 h2
          subst et
          have eT : T' = T := Option.some.inj (f3.symm.trans h2)
          subst eT
          have ez : (z' : Int) = ((w.toNat : Nat) : Int) := Option.some.inj (f5.symm.trans hx')
          have ez : z' = w.toNat := by omega
          subst ez
          rw [List.append_nil, List.append_nil, ← kcell_uniq f4 hc hz]
          exact f7
        | none =>
          rw [h4] at hl; dsimp only at hl
          cases h5 : kspS S r x T.2.2.2 with
          | some p =>
            rw [h5] at hl; dsimp only at hl
            obtain rfl := Option.some.inj hl
            exact kldP_ok hTy h ha ht h2 hc hx' hz (kspS_ok hTy h ha ht h2 hc hx' hv.2 h5)
          | none =>
            rw [h5] at hl; dsimp only at hl
            cases h6 : kspR S x T.2.2.1 with
            | none => rw [h6] at hl; cases hl
            | some p =>
              rw [h6] at hl; dsimp only at hl
              obtain rfl := Option.some.inj hl
              exact kldP_ok hTy h ha ht h2 hc hx' hz (kspR_ok (T := T) h hx' hv.1 h6)
end KLS
/-- x and y are not the same -/
def kneS (S : kS) (x y : kL) : Bool := match kgeS S (kofs (ksub x y) (-1)) with
  | true => true
  | false => kgeS S (kofs (ksub y x) (-1))
/-- x isn't one of b, b + s, .. (n of them) -/
def koff (S : kS) (x : kL) (b s n : Nat) : Bool := match n with
  | 0 => true
  | k + 1 => match kgeS S (ksub (kcst (Int.ofNat b - 1)) x) with
    | true => true
    | false => kgeS S (kofs x (-(Int.ofNat (b + s * k + 1))))
/-- what is behind a writing to index x of a cell of type t -/
def kkeepN (S : kS) (t : Nat) (x : kL) (q : kF) : Bool := match S.2.1[q.1]? with
  | some t' => match Nat.beq t' t with
    | false => Nat.blt t' 1000
    | true => kneS S x q.2.1
  | none => false
def kkeepG (S : kS) (t : Nat) (x : kL) : Bool := match Nat.beq t 40 with
  | true => false
  | false => match Nat.beq t 36 with
    | false => true
    | true => kneS S x (kcst 4) && (kneS S x (kcst 8) && (kneS S x (kcst 9) && (kneS S x (kcst 10) && kneS S x (kcst 12))))
def kkeep (S : kS) (t : Nat) (x : kL) (q : kF) : Bool := match kghx q.2.1 with
  | true => kkeepG S t x
  | false => kkeepN S t x q
abbrev kW : Type := List (Nat × Option Nat)
def kwr (w : kW) (t : Nat) (x : kL) : Bool := w.any (fun q => match Nat.beq q.1 t with
  | true => match q.2 with
    | none => true
    | some j => kLeq x (kcst (Int.ofNat j))
  | false => false)
/-- what may be written without touching what kY says -/
def kyS (S : kS) (t N : Nat) (x : kL) : Bool := match kyf t with
  | true => true
  | false => match Nat.beq t 12 with
    | true => match Nat.blt 3 N with
      | true => match kneS S x (kcst 1) with
        | true => kneS S x (kcst 3)
        | false => false
      | false => false
    | false => false
theorem kY_fld {D : va_G} {cA : Nat → ClassId} {tt : List kT} {Ty : Nat → Nat → Prop} {H H1 : Heap} {a z : Nat} {T : kT} {V0 : Nat → Value} {y : Value} (hTy : kTyp tt Ty) (h : kY D cA tt Ty H) (ha : Ty a 12) (hT : tt[12]? = some T) (hN : 3 < T.2.1) (hc : kcell D cA T a H V0) (hc1 : kcell D cA T a H1 (updV V0 z y)) (h1 : z ≠ 1) (h3 : z ≠ 3) (ho : ∀ q, q ≠ a → H1[q]? = H[q]?) : kY D cA tt Ty H1 := by
  intro a' b' c' T' To Tw V Vo Vw j n w1 w2 w3 w4 w5 w6 w7 w8 w9 w10 w11 w12 w13 w14
  have eT : T' = T := Option.some.inj (w2.symm.trans hT)
  subst eT
  have k : ∀ (x t' : Nat) (T2 : kT), Ty x t' → tt[t']? = some T2 → 12 ≠ t' → H[x]? = H1[x]? := fun x t' T2 g1 g2 g3 => (ho x (fun e => by
    subst e
    exact g3 (kTyp_eq hTy ha g1 hT g2))).symm
  by_cases e : a' = a
  · subst e
    have e1 := kcell_uniq w3 hc1 (j := 1) (by omega)
    have e3 := kcell_uniq w3 hc1 (j := 3) (by omega)
    simp only [updV, Ne.symm h1, if_false] at e1
    simp only [updV, Ne.symm h3, if_false] at e3
    exact h a' b' c' T' To Tw V0 Vo Vw j n w1 w2 hc (e1.symm.trans w4) (e3.symm.trans w5) w6 w7 (kcell_kept w8 (k _ _ _ w6 w7 (by decide))) w9 w10 (kcell_kept w11 (k _ _ _ w9 w10 (by decide))) w12 w13 w14
  · exact h a' b' c' T' To Tw V Vo Vw j n w1 w2 (kcell_kept w3 (ho a' e).symm) w4 w5 w6 w7 (kcell_kept w8 (k _ _ _ w6 w7 (by decide))) w9 w10 (kcell_kept w11 (k _ _ _ w9 w10 (by decide))) w12 w13 w14
def kstore (tt : List kT) (wr : kW) (S : kS) (r : Nat) (x : kL) (v : kV) : Option kS := match S.2.1[r]? with
  | none => none
  | some t => match tt[t]? with
    | none => none
    | some T => match kbt S x 0 (Int.ofNat T.2.1 - 1) with
      | false => none
      | true => match T.2.2.1.all (fun q => match koff S x q.1 q.2.1 q.2.2.1 with
          | true => true
          | false => kfit S v q.2.2.2) with
        | false => none
        | true => match T.2.2.2.all (fun q => match koff S x q.1 q.2.1 q.2.2.2.1 with
            | true => kneS S x (kcst (Int.ofNat q.2.2.1))
            | false => false) with
          | false => none
          | true => match (match kwr wr t x with
              | true => kyS S t T.2.1 x
              | false => false) with
            | false => none
            | true => some (S.1, S.2.1, S.2.2.1, S.2.2.2.1, (r, x, v) :: S.2.2.2.2.1.filter (kkeep S t x), S.2.2.2.2.2)
/-- what isn't in wr stays -/
def kkp (D : va_G) (cA : Nat → ClassId) (tt : List kT) (Ty : Nat → Nat → Prop) (wr : kW) (H H1 : Heap) : Prop := ∀ (a t : Nat) (T : kT) (V : Nat → Value) (j : Nat), Ty a t → tt[t]? = some T → kcell D cA T a H V → j < T.2.1 → (∀ w ∈ wr, w.1 = t → w.2 ≠ none ∧ w.2 ≠ some j) → ∃ V', kcell D cA T a H1 V' ∧ V' j = V j
theorem kkp_rfl {D : va_G} {cA : Nat → ClassId} {tt : List kT} {Ty : Nat → Nat → Prop} {wr : kW} {H : Heap} : kkp D cA tt Ty wr H H := fun _ _ _ V _ _ _ h _ _ => ⟨V, h, rfl⟩
theorem kkp_trans {D : va_G} {cA : Nat → ClassId} {tt : List kT} {Ty : Nat → Nat → Prop} {wr : kW} {H H1 H2 : Heap} (h1 : kkp D cA tt Ty wr H H1) (h2 : kkp D cA tt Ty wr H1 H2) : kkp D cA tt Ty wr H H2 := fun a t T V j ht hT hc hj hw => by
  obtain ⟨V', c1, e1⟩ := h1 a t T V j ht hT hc hj hw
  obtain ⟨V2, c2, e2⟩ := h2 a t T V' j ht hT c1 hj hw
  exact ⟨V2, c2, e2.trans e1⟩
section KSS
variable {D : va_G} {cA : Nat → ClassId} {tt : List kT} {Ty : Nat → Nat → Prop} {env : List Int} {ren : List Nat} {S : kS} {H : Heap} {lv : List (Nat × Value)} {st : List Value}
theorem kneS_ok {x y : kL} {a b : Int} (h : kst D cA tt Ty env ren S H lv st) (hx : kev env x = some a) (hy : kev env y = some b) (hn : kneS S x y = true) : a ≠ b := by
  unfold kneS at hn
  cases h1 : kgeS S (kofs (ksub x y) (-1)) with
  | true =>
    have := kgeS_ok h (kofs_ev (ksub_ev hx hy)) h1
    omega
  | false =>
    rw [h1] at hn
    have := kgeS_ok h (kofs_ev (ksub_ev hy hx)) hn
    omega
theorem koff_ok {x : kL} {z b s n : Nat} (h : kst D cA tt Ty env ren S H lv st) (hx : kev env x = some (z : Int)) (hn : koff S x b s n = true) : ∀ P, P < n → z ≠ b + s * P := by
  intro P hP
  cases n with
  | zero => omega
  | succ k =>
    unfold koff at hn
    have hm : s * P ≤ s * k := Nat.mul_le_mul_left s (by omega)
    cases h1 : kgeS S (ksub (kcst (Int.ofNat b - 1)) x) with
    | true =>
      have := kgeS_ok h (ksub_ev kcst_ev hx) h1
      have : 0 ≤ ((b : Int) - 1) - z := this
      omega
    | false =>
      simp only [h1] at hn
      have := kgeS_ok h (kofs_ev hx) hn
      have : 0 ≤ (z : Int) + -((b + s * k + 1 : Nat) : Int) := this
      omega
theorem kstore_ok {lo r : Nat} {x : kL} {w : Int} {v : kV} {y : Value} {wr : kW} {S' : kS} (hTy : kTyp tt Ty) (hG : kgood D cA tt Ty lo H) (h : kst D cA tt Ty env ren S H lv st) (hx : kev env x = some w) (hy : kvok env ren v y) (hl : kstore tt wr S r x v = some S') :
    ∃ (a t : Nat) (T : kT) (V : Nat → Value) (z : Nat), S.2.1[r]? = some t ∧ ren[r]? = some a ∧ Ty a t ∧ tt[t]? = some T ∧ lo ≤ a ∧ kcell D cA T a H V ∧ w = (z : Int) ∧ z < T.2.1 ∧
      ∀ H1 : Heap, kcell D cA T a H1 (updV V z y) → (∀ q, q ≠ a → H1[q]? = H[q]?) → kgood D cA tt Ty lo H1 ∧ kst D cA tt Ty env ren S' H1 lv st ∧ kkp D cA tt Ty wr H H1 := by
  unfold kstore at hl
  cases h1 : S.2.1[r]? with
  | none => rw [h1] at hl; cases hl
  | some t =>
    rw [h1] at hl; dsimp only at hl
    cases h2 : tt[t]? with
    | none => rw [h2] at hl; cases hl
    | some T =>
      rw [h2] at hl; dsimp only at hl
      cases h3 : kbt S x 0 (Int.ofNat T.2.1 - 1) with
      | false => rw [h3] at hl; cases hl
      | true =>
        rw [h3] at hl; dsimp only at hl
        obtain ⟨a, ha, ht⟩ := kRt_at h.2.2.1 h1
        obtain ⟨hlo, V, hc, hv⟩ := hG.1 a t T ht h2
        obtain ⟨b1, b2⟩ := kbt_ok h hx h3
        have b2 : w ≤ (T.2.1 : Int) - 1 := b2
        have hw : w = ((w.toNat : Nat) : Int) := (Int.toNat_of_nonneg b1).symm
        have hx' : kev env x = some ((w.toNat : Nat) : Int) := by rw [← hw]; exact hx
        have hz : w.toNat < T.2.1 := by omega
        refine ⟨a, t, T, V, w.toNat, rfl, ha, ht, h2, hlo, hc, hw, hz, fun H1 hc1 ho => ?_⟩
        split at hl
        · cases hl
        · rename_i h4
          split at hl
          · cases hl
          · rename_i h5
            split at hl
            · cases hl
            · rename_i h60
              obtain rfl := Option.some.inj hl
              have h6 : kwr wr t x = true ∧ kyS S t T.2.1 x = true := by
                cases g1 : kwr wr t x with
                | false => simp [g1] at h60
                | true =>
                  simp only [g1] at h60
                  exact ⟨rfl, h60⟩
              obtain ⟨h6, h6y⟩ := h6
              have hYn : kY D cA tt Ty H1 := by
                unfold kyS at h6y
                cases g1 : kyf t with
                | true => exact kY_kept hTy hG.2 ht h2 g1 ho
                | false =>
                  simp only [g1] at h6y
                  cases g2 : Nat.beq t 12 with
                  | false => simp [g2] at h6y
                  | true =>
                    simp only [g2] at h6y
                    have e12 := Nat.beq_eq.mp g2
                    cases g3 : Nat.blt 3 T.2.1 with
                    | false => simp [g3] at h6y
                    | true =>
                      simp only [g3] at h6y
                      cases g4 : kneS S x (kcst 1) with
                      | false => simp [g4] at h6y
                      | true =>
                        simp only [g4] at h6y
                        have n1 := kneS_ok h hx' kcst_ev g4
                        have n3 := kneS_ok h hx' kcst_ev h6y
                        subst e12
                        exact kY_fld hTy hG.2 ht h2 (Nat.blt_eq.mp g3) hc hc1 (by omega) (by omega) ho
              have hvals : kvals Ty T (updV V w.toNat y) := by
                refine ⟨fun q hq P hP => ?_, fun q hq n P hn hP hPn => ?_⟩
                · have h7 := List.all_eq_true.mp h4 q hq
                  by_cases e : q.1 + q.2.1 * P = w.toNat
                  · simp only [updV, e, if_true]
                    cases h8 : koff S x q.1 q.2.1 q.2.2.1 with
                    | true => exact absurd e.symm (koff_ok h hx' h8 P hP)
                    | false =>
                      simp only [h8] at h7
                      exact kfit_ok h hy h7
                  · simp only [updV, e, if_false]
                    exact hv.1 q hq P hP
                · have h7 := List.all_eq_true.mp h5 q hq
                  cases h8 : koff S x q.1 q.2.1 q.2.2.2.1 with
                  | false => simp [h8] at h7
                  | true =>
                    simp only [h8] at h7
                    have e1 := koff_ok h hx' h8 P hP
                    have e2 := kneS_ok h hx' kcst_ev h7
                    have e2 : ((w.toNat : Nat) : Int) ≠ ((q.2.2.1 : Nat) : Int) := e2
                    have e3 : ¬ q.2.2.1 = w.toNat := by omega
                    simp only [updV, e3, if_false] at hn
                    simp only [updV, Ne.symm e1, if_false]
                    exact hv.2 q hq n P hn hP hPn
              refine ⟨⟨fun a' t' T' ht' hT' => ?_, hYn⟩, ⟨h.1, h.2.1, h.2.2.1, h.2.2.2.1, h.2.2.2.2.1, fun q hq => ?_⟩, fun a' t' T' V' j ht' hT' hc' hj hwr => ?_⟩
              · by_cases e : a' = a
                · subst e
                  have et := kTyp_eq hTy ht' ht hT' h2
                  subst et
                  have eT : T' = T := Option.some.inj (hT'.symm.trans h2)
                  subst eT
                  exact ⟨hlo, _, hc1, hvals⟩
                · obtain ⟨g1, V', g2, g3⟩ := hG.1 a' t' T' ht' hT'
                  exact ⟨g1, V', kcell_kept g2 (ho a' e), g3⟩
              · rcases List.mem_cons.mp hq with rfl | hq
                · exact kfok_mk hTy ⟨a, t, T, _, w.toNat, ha, ht, h2, hc1, hx', hz, by simp only [updV, if_true]; exact hy⟩
                · obtain ⟨hq, hk⟩ := List.mem_filter.mp hq
                  unfold kkeep at hk
                  cases hgx : kghx q.2.1 with
                  | true =>
                    rw [hgx] at hk
                    dsimp only at hk
                    have hfq := h.2.2.2.2.2 q hq
                    unfold kfok at hfq ⊢
                    rw [hgx] at hfq ⊢
                    dsimp only at hfq ⊢
                    unfold kkeepG at hk
                    cases g40 : Nat.beq t 40 with
                    | true => rw [g40] at hk; cases hk
                    | false =>
                      rw [g40] at hk
                      dsimp only at hk
                      have n40 : t ≠ 40 := fun e => by subst e; cases g40
                      refine kfokG_kept hfq (fun a' T' V' ht' hT' hc' => ?_) (fun b' T' V' ht' hT' hc' => ⟨V', kcell_kept hc' (ho b' (fun e => by subst e; exact n40 (kTyp_eq hTy ht ht' h2 hT'))), fun _ _ => rfl⟩)
                      by_cases e : a' = a
                      · subst e
                        have et := kTyp_eq hTy ht' ht hT' h2
                        subst et
                        have eT : T' = T := Option.some.inj (hT'.symm.trans h2)
                        subst eT
                        rw [show Nat.beq 36 36 = true from rfl] at hk
                        dsimp only at hk
                        simp only [Bool.and_eq_true] at hk
                        obtain ⟨k4, k8, k9, k10, k12⟩ := hk
                        have n4 := kneS_ok h hx' kcst_ev k4
                        have n8 := kneS_ok h hx' kcst_ev k8
                        have n9 := kneS_ok h hx' kcst_ev k9
                        have n10 := kneS_ok h hx' kcst_ev k10
                        have n12 := kneS_ok h hx' kcst_ev k12
                        have l38 := hTy.2.2.2.1 T' hT'
                        have u : ∀ j : Nat, j < 38 → j ≠ w.toNat → updV V w.toNat y j = V' j := fun j hj hne => by
                          simp only [updV, hne, if_false]
                          exact kcell_uniq hc hc' (by omega)
                        exact ⟨_, hc1, u 4 (by omega) (by omega), u 8 (by omega) (by omega), u 9 (by omega) (by omega), u 10 (by omega) (by omega), u 12 (by omega) (by omega)⟩
                      · exact ⟨V', kcell_kept hc' (ho a' e), rfl, rfl, rfl, rfl, rfl⟩
                  | false =>
                    rw [hgx] at hk
                    dsimp only at hk
                    obtain ⟨a', t', T', V', z', f1, f2, f3, f4, f5, f6, f7⟩ := kfok_N (h.2.2.2.2.2 q hq) hgx
                    by_cases e : a' = a
                    · subst e
                      have et := kTyp_eq hTy f2 ht f3 h2
                      subst et
                      have eT : T' = T := Option.some.inj (f3.symm.trans h2)
                      subst eT
                      refine kfok_mk hTy ⟨a', t', T', _, z', f1, f2, f3, hc1, f5, f6, ?_⟩
                      have hne : ¬ z' = w.toNat := by
                        unfold kkeepN at hk
                        cases h8 : S.2.1[q.1]? with
                        | none => rw [h8] at hk; cases hk
                        | some t2 =>
                          simp only [h8] at hk
                          have ft := h.2.2.1.2 q.1 t2 a' h8 f1
                          cases h9 : Nat.beq t2 t' with
                          | true =>
                            simp only [h9] at hk
                            have := kneS_ok h hx' f5 hk
                            omega
                          | false =>
                            exfalso
                            simp only [h9] at hk
                            have l1 : t2 < 1000 := Nat.blt_eq.mp hk
                            have l2 : t' < 1000 := Nat.lt_of_lt_of_le (List.getElem?_eq_some_iff.mp h2).1 hTy.2.1
                            have := hTy.1 _ _ _ l1 l2 ft ht
                            subst this
                            rw [Nat.beq_refl] at h9
                            cases h9
                      simp only [updV, hne, if_false]
                      rw [← kcell_uniq f4 hc f6]
                      exact f7
                    · exact kfok_mk hTy ⟨a', t', T', V', z', f1, f2, f3, kcell_kept f4 (ho a' e), f5, f6, f7⟩
              · by_cases e : a' = a
                · subst e
                  have et := kTyp_eq hTy ht' ht hT' h2
                  subst et
                  have eT : T' = T := Option.some.inj (hT'.symm.trans h2)
                  subst eT
                  refine ⟨_, hc1, ?_⟩
                  obtain ⟨q, hq, hq2⟩ := List.any_eq_true.mp h6
                  cases h8 : Nat.beq q.1 t' with
                  | false => simp [h8] at hq2
                  | true =>
                    simp only [h8] at hq2
                    obtain ⟨n1, n2⟩ := hwr q hq (Nat.beq_eq.mp h8)
                    cases h9 : q.2 with
                    | none => exact absurd h9 n1
                    | some i =>
                      rw [h9] at hq2
                      have e3 := kLeq_eq hq2
                      rw [e3] at hx'
                      have e4 : ((i : Nat) : Int) = ((w.toNat : Nat) : Int) := Option.some.inj (kcst_ev.symm.trans hx')
                      have hne : ¬ j = w.toNat := by
                        intro e5
                        apply n2
                        rw [h9]
                        congr 1
                        omega
                      simp only [updV, hne, if_false]
                      exact kcell_uniq hc hc' hj
                · exact ⟨V', kcell_kept hc' (ho a' e), rfl⟩
end KSS
end
section
/-! ARITHMETIC: an answer is a form, or an interval -/
abbrev kRes : Type := kL ⊕ (Int × Int)
def k32 : Int × Int := (-2147483648, 2147483647)
def k64 : Int × Int := (-9223372036854775808, 9223372036854775807)
def kresok (env : List Int) (a : kRes) (x : Int) : Prop := match a with
  | .inl f => kev env f = some x
  | .inr q => q.1 ≤ x ∧ x ≤ q.2
theorem k32_in (x : Int32) : k32.1 ≤ x.toInt ∧ x.toInt ≤ k32.2 := by
  have h1 := Int32.toInt_lt x
  have h2 := Int32.le_toInt x
  show (-2147483648 : Int) ≤ _ ∧ _ ≤ (2147483647 : Int)
  omega
theorem k64_in (x : Int64) : k64.1 ≤ x.toInt ∧ x.toInt ≤ k64.2 := by
  have h1 := Int64.toInt_lt x
  have h2 := Int64.le_toInt x
  show (-9223372036854775808 : Int) ≤ _ ∧ _ ≤ (9223372036854775807 : Int)
  omega
theorem k32_bm {x : Int} (h1 : k32.1 ≤ x) (h2 : x ≤ k32.2) : x.bmod (2 ^ 32) = x := by
  have h1 : (-2147483648 : Int) ≤ x := h1
  have h2 : x ≤ (2147483647 : Int) := h2
  apply Int.bmod_eq_of_le <;> omega
theorem k64_bm {x : Int} (h1 : k64.1 ≤ x) (h2 : x ≤ k64.2) : x.bmod (2 ^ 64) = x := by
  have h1 : (-9223372036854775808 : Int) ≤ x := h1
  have h2 : x ≤ (9223372036854775807 : Int) := h2
  apply Int.bmod_eq_of_le <;> omega
/-- the form f, if it lies within q -/
def kri (S : kS) (f : kL) (q : Int × Int) : kRes := match klb S.1 f, kub S.1 f with
  | some a, some b => match knn (a - q.1) with
    | true => match knn (q.2 - b) with
      | true => .inl f
      | false => .inr q
    | false => .inr q
  | _, _ => .inr q
theorem kri_ok {env : List Int} {S : kS} {f : kL} {q : Int × Int} {x r : Int} (hI : kI env S.1) (hf : kev env f = some x) (hr : q.1 ≤ x → x ≤ q.2 → r = x) (hq : q.1 ≤ r ∧ r ≤ q.2) : kresok env (kri S f q) r := by
  unfold kri
  cases h1 : klb S.1 f with
  | none => exact hq
  | some a =>
    cases h2 : kub S.1 f with
    | none => exact hq
    | some b =>
      dsimp only
      cases h3 : knn (a - q.1) with
      | false => exact hq
      | true =>
        cases h4 : knn (q.2 - b) with
        | false => exact hq
        | true =>
          have a1 := klb_ok hI hf h1
          have a2 := kub_ok hI hf h2
          have a3 := knn_iff.mp h3
          have a4 := knn_iff.mp h4
          show kev env f = some r
          rw [hr (by omega) (by omega)]
          exact hf
def kitv (S : kS) (f : kL) : Option (Int × Int) := match klb S.1 f, kub S.1 f with
  | some a, some b => some (a, b)
  | _, _ => none
theorem kitv_ok {env : List Int} {S : kS} {f : kL} {q : Int × Int} {x : Int} (hI : kI env S.1) (hf : kev env f = some x) (h : kitv S f = some q) : q.1 ≤ x ∧ x ≤ q.2 := by
  unfold kitv at h
  cases h1 : klb S.1 f with
  | none => rw [h1] at h; simp at h
  | some a =>
    cases h2 : kub S.1 f with
    | none => rw [h1, h2] at h; simp at h
    | some b =>
      rw [h1, h2] at h
      have e : (a, b) = q := Option.some.inj h
      subst e
      exact ⟨klb_ok hI hf h1, kub_ok hI hf h2⟩
def kmin (a b : Int) : Int := match knn (b - a) with
  | true => a
  | false => b
def kmax (a b : Int) : Int := match knn (b - a) with
  | true => b
  | false => a
theorem kmin_eq (a b : Int) : kmin a b = min a b := by
  unfold kmin
  cases h : knn (b - a) with
  | true =>
    have := knn_iff.mp h
    show a = _
    omega
  | false =>
    have : ¬ (knn (b - a) = true) := by rw [h]; decide
    rw [knn_iff] at this
    show b = _
    omega
theorem kmax_eq (a b : Int) : kmax a b = max a b := by
  unfold kmax
  cases h : knn (b - a) with
  | true =>
    have := knn_iff.mp h
    show b = _
    omega
  | false =>
    have : ¬ (knn (b - a) = true) := by rw [h]; decide
    rw [knn_iff] at this
    show a = _
    omega
theorem knn_f {a : Int} (h : knn a = false) : a < 0 := by
  have : ¬ (knn a = true) := by rw [h]; decide
  rw [knn_iff] at this
  omega
/-- a product -/
def kmul (S : kS) (x y : kL) (q : Int × Int) : kRes := match x.1 with
  | [] => kri S (ksc x.2 y) q
  | _ => match y.1 with
    | [] => kri S (ksc y.2 x) q
    | _ => match kitv S x, kitv S y with
      | some a, some b => match knn a.1 with
        | true => match knn b.1 with
          | true => match knn (q.2 - a.2 * b.2) with
            | true => .inr (a.1 * b.1, a.2 * b.2)
            | false => .inr q
          | false => .inr q
        | false => .inr q
      | _, _ => .inr q
theorem kcst_of {env : List Int} {f : kL} {x : Int} (h : f.1 = []) (hf : kev env f = some x) : x = f.2 := by
  obtain ⟨l, d⟩ := f
  have h : l = [] := h
  subst h
  have e : (0 : Int) + d = x := Option.some.inj hf
  show x = d
  omega
theorem kmul_ok {env : List Int} {S : kS} {x y : kL} {q : Int × Int} {a b r : Int} (hI : kI env S.1) (hx : kev env x = some a) (hy : kev env y = some b) (hr : q.1 ≤ a * b → a * b ≤ q.2 → r = a * b) (hq : q.1 ≤ r ∧ r ≤ q.2) (h0 : q.1 ≤ 0) : kresok env (kmul S x y q) r := by
  unfold kmul
  cases h1 : x.1 with
  | nil =>
    have e := kcst_of h1 hx
    subst e
    exact kri_ok hI (ksc_ev hy) hr hq
  | cons c t =>
    dsimp only
    cases h2 : y.1 with
    | nil =>
      have e := kcst_of h2 hy
      subst e
      exact kri_ok hI (ksc_ev hx) (by rw [Int.mul_comm y.2 a]; exact hr) hq
    | cons c' t' =>
      dsimp only
      cases h3 : kitv S x with
      | none => exact hq
      | some u =>
        cases h4 : kitv S y with
        | none => exact hq
        | some v =>
          dsimp only
          cases h5 : knn u.1 with
          | false => exact hq
          | true =>
            cases h6 : knn v.1 with
            | false => exact hq
            | true =>
              dsimp only
              cases h7 : knn (q.2 - u.2 * v.2) with
              | false => exact hq
              | true =>
                have a1 := kitv_ok hI hx h3
                have a2 := kitv_ok hI hy h4
                have a3 := knn_iff.mp h5
                have a4 := knn_iff.mp h6
                have a5 := knn_iff.mp h7
                have m1 : u.1 * v.1 ≤ a * b := Int.mul_le_mul a1.1 a2.1 a4 (by omega)
                have m2 : a * b ≤ u.2 * v.2 := Int.mul_le_mul a1.2 a2.2 (by omega) (by omega)
                have m3 : 0 ≤ u.1 * v.1 := Int.mul_nonneg a3 a4
                have e := hr (by omega) (by omega)
                rw [e]
                exact ⟨m1, m2⟩
/-- the divisor isn't 0 -/
def knz (S : kS) (y : kL) : Bool := match kgeS S (kofs y (-1)) with
  | true => true
  | false => kgeS S (kofs (kneg y) (-1))
def kdiv (S : kS) (x y : kL) (q : Int × Int) : kRes := match kitv S x, kitv S y with
  | some a, some b => match knn a.1 with
    | true => match knn (b.1 - 1) with
      | true => .inr (a.1 / b.2, a.2 / b.1)
      | false => .inr q
    | false => .inr q
  | _, _ => .inr q
theorem kdiv_mono {x y c : Int} (hx : 0 ≤ x) (hc : 0 < c) (h : c ≤ y) : x / y ≤ x / c := by
  rw [Int.le_ediv_iff_mul_le hc]
  have h1 : 0 ≤ x / y := Int.ediv_nonneg hx (by omega)
  have h2 : x / y * y ≤ x := (Int.le_ediv_iff_mul_le (show 0 < y by omega)).mp (Int.le_refl _)
  have h3 : x / y * c ≤ x / y * y := Int.mul_le_mul_of_nonneg_left h h1
  omega
theorem kdiv_ok {env : List Int} {S : kS} {x y : kL} {q : Int × Int} {a b r : Int} (hI : kI env S.1) (hx : kev env x = some a) (hy : kev env y = some b) (hr : 0 ≤ a → 0 < b → r = a / b) (hq : q.1 ≤ r ∧ r ≤ q.2) : kresok env (kdiv S x y q) r := by
  unfold kdiv
  cases h3 : kitv S x with
  | none => exact hq
  | some u =>
    cases h4 : kitv S y with
    | none => exact hq
    | some v =>
      dsimp only
      cases h5 : knn u.1 with
      | false => exact hq
      | true =>
        cases h6 : knn (v.1 - 1) with
        | false => exact hq
        | true =>
          have a1 := kitv_ok hI hx h3
          have a2 := kitv_ok hI hy h4
          have a3 := knn_iff.mp h5
          have a4 := knn_iff.mp h6
          rw [hr (by omega) (by omega)]
          refine ⟨?_, ?_⟩
          · exact Int.le_trans (kdiv_mono a3 (show 0 < b by omega) a2.2) (Int.ediv_le_ediv (by omega) a1.1)
          · exact Int.le_trans (Int.ediv_le_ediv (by omega) a1.2) (kdiv_mono (by omega) (by omega) a2.1)
def krem (S : kS) (x y : kL) (q : Int × Int) : kRes := match kitv S x, kitv S y with
  | some a, some b => match knn (b.1 - 1) with
    | true => match knn a.1 with
      | true => .inr (0, kmin a.2 (b.2 - 1))
      | false => .inr (1 - b.2, b.2 - 1)
    | false => .inr q
  | _, _ => .inr q
theorem krem_ok {env : List Int} {S : kS} {x y : kL} {q : Int × Int} {a b r : Int} (hI : kI env S.1) (hx : kev env x = some a) (hy : kev env y = some b) (hr : r = a.tmod b) (hq : q.1 ≤ r ∧ r ≤ q.2) : kresok env (krem S x y q) r := by
  unfold krem
  cases h3 : kitv S x with
  | none => exact hq
  | some u =>
    cases h4 : kitv S y with
    | none => exact hq
    | some v =>
      dsimp only
      cases h6 : knn (v.1 - 1) with
      | false => exact hq
      | true =>
        have a1 := kitv_ok hI hx h3
        have a2 := kitv_ok hI hy h4
        have a4 := knn_iff.mp h6
        have hb : 0 < b := by omega
        have t1 := Int.tmod_lt_of_pos a hb
        have t2 := Int.lt_tmod_of_pos a hb
        dsimp only
        cases h5 : knn u.1 with
        | true =>
          have a3 := knn_iff.mp h5
          have ha : 0 ≤ a := by omega
          rw [Int.tmod_eq_emod_of_nonneg ha] at hr t1 t2
          have t3 := Int.emod_nonneg a (show b ≠ 0 by omega)
          have t4 : a % b ≤ a := by
            have := Int.mul_nonneg (Int.le_of_lt hb) (Int.ediv_nonneg ha (Int.le_of_lt hb))
            rw [Int.emod_def]
            omega
          show (0 : Int) ≤ r ∧ r ≤ kmin u.2 (v.2 - 1)
          rw [kmin_eq]
          omega
        | false =>
          show (1 - v.2 : Int) ≤ r ∧ r ≤ v.2 - 1
          omega
def kand (S : kS) (x y : kL) (q : Int × Int) : kRes := match kitv S x, kitv S y with
  | some a, some b => match knn a.1 with
    | true => match knn b.1 with
      | true => match kz (a.2 - a.1) with
        | true => match kz (b.2 - b.1) with
          | true => .inr (Int.ofNat (Nat.land a.1.toNat b.1.toNat), Int.ofNat (Nat.land a.1.toNat b.1.toNat))
          | false => .inr (0, kmin a.2 b.2)
        | false => .inr (0, kmin a.2 b.2)
      | false => .inr (0, a.2)
    | false => match knn b.1 with
      | true => .inr (0, b.2)
      | false => .inr q
  | _, _ => .inr q
theorem kand_ok {env : List Int} {S : kS} {x y : kL} {q : Int × Int} {a b r : Int} (hI : kI env S.1) (hx : kev env x = some a) (hy : kev env y = some b) (h1 : 0 ≤ a → 0 ≤ r ∧ r ≤ a) (h2 : 0 ≤ b → 0 ≤ r ∧ r ≤ b) (h3 : 0 ≤ a → 0 ≤ b → r = Int.ofNat (Nat.land a.toNat b.toNat)) (hq : q.1 ≤ r ∧ r ≤ q.2) : kresok env (kand S x y q) r := by
  unfold kand
  cases g3 : kitv S x with
  | none => exact hq
  | some u =>
    cases g4 : kitv S y with
    | none => exact hq
    | some v =>
      have a1 := kitv_ok hI hx g3
      have a2 := kitv_ok hI hy g4
      dsimp only
      cases h5 : knn u.1 with
      | true =>
        have a3 := knn_iff.mp h5
        cases h6 : knn v.1 with
        | true =>
          have a4 := knn_iff.mp h6
          have hm : (0 : Int) ≤ r ∧ r ≤ kmin u.2 v.2 := by
            rw [kmin_eq]
            have := h1 (by omega)
            have := h2 (by omega)
            omega
          dsimp only
          cases h7 : kz (u.2 - u.1) with
          | false => exact hm
          | true =>
            cases h8 : kz (v.2 - v.1) with
            | false => exact hm
            | true =>
              have e1 := kz_iff.mp h7
              have e2 := kz_iff.mp h8
              have e3 : u.1 = a := by omega
              have e4 : v.1 = b := by omega
              rw [h3 (by omega) (by omega), ← e3, ← e4]
              exact ⟨Int.le_refl _, Int.le_refl _⟩
        | false =>
          show (0 : Int) ≤ r ∧ r ≤ u.2
          have := h1 (by omega)
          omega
      | false =>
        cases h6 : knn v.1 with
        | true =>
          have a4 := knn_iff.mp h6
          show (0 : Int) ≤ r ∧ r ≤ v.2
          have := h2 (by omega)
          omega
        | false => exact hq
/-- all bits below those of m -/
def kones (m : Int) : Int := match m with
  | .ofNat 0 => 0
  | .ofNat (n + 1) => Int.ofNat (2 ^ (Nat.log2 (n + 1) + 1) - 1)
  | .negSucc _ => 0
def kor (S : kS) (x y : kL) (q : Int × Int) : kRes := match kitv S x, kitv S y with
  | some a, some b => match knn a.1 with
    | true => match knn b.1 with
      | true => .inr (0, kones (kmax a.2 b.2))
      | false => .inr q
    | false => .inr q
  | _, _ => .inr q
theorem kones_ok {m : Int} (h : 0 ≤ m) : ∃ k : Nat, kones m = 2 ^ k - 1 ∧ m < 2 ^ k := by
  match m, h with
  | .ofNat 0, _ => exact ⟨0, by decide, by decide⟩
  | .ofNat (n + 1), _ =>
    refine ⟨Nat.log2 (n + 1) + 1, ?_, ?_⟩
    · show ((2 ^ (Nat.log2 (n + 1) + 1) - 1 : Nat) : Int) = _
      have : 1 ≤ 2 ^ (Nat.log2 (n + 1) + 1) := Nat.one_le_two_pow
      rw [Int.natCast_sub this]
      simp
    · have : n + 1 < 2 ^ (Nat.log2 (n + 1) + 1) := Nat.lt_log2_self
      show ((n + 1 : Nat) : Int) < 2 ^ _
      exact_mod_cast this
theorem kor_ok {env : List Int} {S : kS} {x y : kL} {q : Int × Int} {a b r : Int} (hI : kI env S.1) (hx : kev env x = some a) (hy : kev env y = some b) (h1 : 0 ≤ a → 0 ≤ b → 0 ≤ r ∧ ∀ k : Nat, a < 2 ^ k → b < 2 ^ k → r < 2 ^ k) (hq : q.1 ≤ r ∧ r ≤ q.2) : kresok env (kor S x y q) r := by
  unfold kor
  cases h3 : kitv S x with
  | none => exact hq
  | some u =>
    cases h4 : kitv S y with
    | none => exact hq
    | some v =>
      have a1 := kitv_ok hI hx h3
      have a2 := kitv_ok hI hy h4
      dsimp only
      cases h5 : knn u.1 with
      | false => exact hq
      | true =>
        have a3 := knn_iff.mp h5
        cases h6 : knn v.1 with
        | false => exact hq
        | true =>
          have a4 := knn_iff.mp h6
          obtain ⟨g1, g2⟩ := h1 (by omega) (by omega)
          show (0 : Int) ≤ r ∧ r ≤ kones (kmax u.2 v.2)
          rw [kmax_eq]
          obtain ⟨k, e1, e2⟩ := kones_ok (m := max u.2 v.2) (by omega)
          have := g2 k (by omega) (by omega)
          rw [e1]
          omega
end
section
/-! INT AND LONG INSTRUCTIONS -/
def kxor (S : kS) (x y : kL) : kRes := match kLeq y (kcst (-1)) with
  | true => kri S (kofs (kneg x) (-1)) k32
  | false => .inr k32
/-- 2 to the z, z from 0 to 62 -/
def kp2 (z : Int) : Int := match z with
  | .ofNat n => Int.ofNat (2 ^ n)
  | .negSucc _ => 1
def kshl (S : kS) (x y : kL) : kRes := match kitv S x, kitv S y with
  | some a, some b => match knn a.1 with
    | true => match knn b.1 with
      | true => match knn (30 - b.2) with
        | true => match knn (2147483647 - a.2 * kp2 b.2) with
          | true => .inr (a.1 * kp2 b.1, a.2 * kp2 b.2)
          | false => .inr k32
        | false => .inr k32
      | false => .inr k32
    | false => .inr k32
  | _, _ => .inr k32
def kshr (S : kS) (x y : kL) : kRes := match kitv S x, kitv S y with
  | some a, some b => match knn a.1 with
    | true => match knn b.1 with
      | true => match knn (30 - b.2) with
        | true => .inr (a.1 / kp2 b.2, a.2 / kp2 b.1)
        | false => .inr k32
      | false => .inr k32
    | false => .inr k32
  | _, _ => .inr k32
def kib (S : kS) (x y : kL) (ins : Instr) : Option kRes := match ins with
  | .iadd => some (kri S (kadd x y) k32)
  | .isub => some (kri S (ksub x y) k32)
  | .imul => some (kmul S x y k32)
  | .idiv => match knz S y with
    | true => some (kdiv S x y k32)
    | false => none
  | .irem => match knz S y with
    | true => some (krem S x y k32)
    | false => none
  | .iand => some (kand S x y k32)
  | .ior => some (kor S x y k32)
  | .ixor => some (kxor S x y)
  | .ishl => some (kshl S x y)
  | .ishr => some (kshr S x y)
  | .iushr => some (kshr S x y)
  | _ => none
def cib (a b : Int32) (ins : Instr) : Int32 := match ins with
  | .iadd => a + b
  | .isub => a - b
  | .imul => a * b
  | .idiv => a / b
  | .irem => a - a / b * b
  | .iand => a &&& b
  | .ior => a ||| b
  | .ixor => a ^^^ b
  | .ishl => a <<< (b &&& 31)
  | .ishr => a >>> (b &&& 31)
  | .iushr => (a.toUInt32 >>> (b.toUInt32 &&& Int32.toUInt32 31)).toInt32
  | _ => 0
theorem k_nn (x : Int32) (h : 0 ≤ x.toInt) : (x.toBitVec.toNat : Int) = x.toInt ∧ x.toBitVec.toNat < 2 ^ 31 := by
  have e : x.toInt = x.toBitVec.toInt := rfl
  rw [BitVec.toInt_eq_toNat_cond] at e
  have := x.toBitVec.isLt
  split at e <;> omega
theorem k_ofn (x : Int32) (h : x.toBitVec.toNat < 2 ^ 31) : x.toInt = (x.toBitVec.toNat : Int) := by
  have e : x.toInt = x.toBitVec.toInt := rfl
  rw [BitVec.toInt_eq_toNat_cond] at e
  split at e <;> omega
theorem k_and (a b : Int32) (h : 0 ≤ a.toInt) : 0 ≤ (a &&& b).toInt ∧ (a &&& b).toInt ≤ a.toInt := by
  obtain ⟨h1, h2⟩ := k_nn a h
  have e : (a &&& b).toBitVec.toNat = a.toBitVec.toNat &&& b.toBitVec.toNat := by rw [Int32.toBitVec_and, BitVec.toNat_and]
  have l : a.toBitVec.toNat &&& b.toBitVec.toNat ≤ a.toBitVec.toNat := Nat.and_le_left
  rw [k_ofn (a &&& b) (by omega)]
  omega
theorem k_or (a b : Int32) (ha : 0 ≤ a.toInt) (hb : 0 ≤ b.toInt) : 0 ≤ (a ||| b).toInt ∧ ∀ k : Nat, a.toInt < 2 ^ k → b.toInt < 2 ^ k → (a ||| b).toInt < 2 ^ k := by
  obtain ⟨h1, h2⟩ := k_nn a ha
  obtain ⟨h3, h4⟩ := k_nn b hb
  have e : (a ||| b).toBitVec.toNat = a.toBitVec.toNat ||| b.toBitVec.toNat := by rw [Int32.toBitVec_or, BitVec.toNat_or]
  have l : a.toBitVec.toNat ||| b.toBitVec.toNat < 2 ^ 31 := Nat.or_lt_two_pow h2 h4
  rw [k_ofn (a ||| b) (by omega)]
  refine ⟨by omega, fun k g1 g2 => ?_⟩
  rw [← h1] at g1
  rw [← h3] at g2
  rw [e]
  have := Nat.or_lt_two_pow (x := a.toBitVec.toNat) (y := b.toBitVec.toNat) (n := k) (by exact_mod_cast g1) (by exact_mod_cast g2)
  exact_mod_cast this
theorem k_smod : ∀ n, n < 32 → ((nI n &&& 31).toBitVec.smod 32).toNat = n := by decide +kernel
theorem k_umod : ∀ n, n < 32 → (((nI n).toUInt32 &&& Int32.toUInt32 31).toBitVec % 32).toNat = n := by decide +kernel
theorem k_ofk {y : Int32} (h0 : 0 ≤ y.toInt) (h : y.toInt < 32) : ∃ n : Nat, n < 32 ∧ y = nI n ∧ y.toInt = (n : Int) := by
  refine ⟨y.toInt.toNat, by omega, ?_, by omega⟩
  apply Int32.toInt_inj.mp
  rw [nI_toInt (by omega)]
  omega
theorem kp2_of (n : Nat) : kp2 (n : Int) = 2 ^ n := by
  show ((2 ^ n : Nat) : Int) = 2 ^ n
  simp
theorem kp2_pos (z : Int) : 0 < kp2 z := by
  cases z with
  | ofNat n =>
    show (0 : Int) < ((2 ^ n : Nat) : Int)
    exact_mod_cast Nat.two_pow_pos n
  | negSucc n => show (0 : Int) < 1; omega
theorem kp2_le {a b : Int} (h : 0 ≤ a) (hab : a ≤ b) : kp2 a ≤ kp2 b := by
  obtain ⟨n, rfl⟩ := Int.eq_ofNat_of_zero_le h
  obtain ⟨m, rfl⟩ := Int.eq_ofNat_of_zero_le (Int.le_trans h hab)
  show ((2 ^ n : Nat) : Int) ≤ ((2 ^ m : Nat) : Int)
  exact_mod_cast Nat.pow_le_pow_right (by decide) (by omega)
theorem kshr_ok {env : List Int} {S : kS} {x y : kL} {a b r : Int} (hI : kI env S.1) (hx : kev env x = some a) (hy : kev env y = some b) (hr : 0 ≤ a → 0 ≤ b → b < 32 → r = a / kp2 b) (hq : k32.1 ≤ r ∧ r ≤ k32.2) : kresok env (kshr S x y) r := by
  unfold kshr
  cases h3 : kitv S x with
  | none => exact hq
  | some u =>
    cases h4 : kitv S y with
    | none => exact hq
    | some v =>
      have a1 := kitv_ok hI hx h3
      have a2 := kitv_ok hI hy h4
      dsimp only
      cases h5 : knn u.1 with
      | false => exact hq
      | true =>
        cases h6 : knn v.1 with
        | false => exact hq
        | true =>
          dsimp only
          cases h7 : knn (30 - v.2) with
          | false => exact hq
          | true =>
            have a3 := knn_iff.mp h5
            have a4 := knn_iff.mp h6
            have a5 := knn_iff.mp h7
            rw [hr (by omega) (by omega) (by omega)]
            have p1 := kp2_le (a := b) (b := v.2) (by omega) a2.2
            have p2 := kp2_le a4 a2.1
            have q1 := kp2_pos b
            have q2 := kp2_pos v.1
            exact ⟨Int.le_trans (kdiv_mono a3 q1 p1) (Int.ediv_le_ediv q1 a1.1), Int.le_trans (Int.ediv_le_ediv q1 a1.2) (kdiv_mono (by omega) q2 p2)⟩
theorem kshl_ok {env : List Int} {S : kS} {x y : kL} {a b r : Int} (hI : kI env S.1) (hx : kev env x = some a) (hy : kev env y = some b) (hr : 0 ≤ a → 0 ≤ b → b < 32 → a * kp2 b ≤ 2147483647 → r = a * kp2 b) (hq : k32.1 ≤ r ∧ r ≤ k32.2) : kresok env (kshl S x y) r := by
  unfold kshl
  cases h3 : kitv S x with
  | none => exact hq
  | some u =>
    cases h4 : kitv S y with
    | none => exact hq
    | some v =>
      have a1 := kitv_ok hI hx h3
      have a2 := kitv_ok hI hy h4
      dsimp only
      cases h5 : knn u.1 with
      | false => exact hq
      | true =>
        cases h6 : knn v.1 with
        | false => exact hq
        | true =>
          dsimp only
          cases h7 : knn (30 - v.2) with
          | false => exact hq
          | true =>
            dsimp only
            cases h8 : knn (2147483647 - u.2 * kp2 v.2) with
            | false => exact hq
            | true =>
              have a3 := knn_iff.mp h5
              have a4 := knn_iff.mp h6
              have a5 := knn_iff.mp h7
              have a6 := knn_iff.mp h8
              have p1 := kp2_le (a := b) (b := v.2) (by omega) a2.2
              have p2 := kp2_le a4 a2.1
              have q1 := kp2_pos b
              have q2 := kp2_pos v.1
              have m1 : u.1 * kp2 v.1 ≤ a * kp2 b := Int.mul_le_mul a1.1 p2 (by omega) (by omega)
              have m2 : a * kp2 b ≤ u.2 * kp2 v.2 := Int.mul_le_mul a1.2 p1 (by omega) (by omega)
              rw [hr (by omega) (by omega) (by omega) (by omega)]
              exact ⟨m1, m2⟩
section KIB
variable {D : va_G} {cA : Nat → ClassId} {tt : List kT} {Ty : Nat → Nat → Prop} {env : List Int} {ren : List Nat} {S : kS} {H : Heap} {lv : List (Nat × Value)} {st : List Value}
theorem knz_ok {y : kL} {b : Int} (h : kst D cA tt Ty env ren S H lv st) (hy : kev env y = some b) (hn : knz S y = true) : b ≠ 0 := by
  unfold knz at hn
  cases h1 : kgeS S (kofs y (-1)) with
  | true =>
    have := kgeS_ok h (kofs_ev hy) h1
    omega
  | false =>
    rw [h1] at hn
    have := kgeS_ok h (kofs_ev (kneg_ev hy)) hn
    omega
theorem k_irem (x y : Int32) : (x - x / y * y).toInt = x.toInt.tmod y.toInt := by
  rw [Int32.toInt_sub, Int32.toInt_mul, Int32.toInt_div, Int.tmod_def]
  rw [Int.sub_bmod_bmod, Int.sub_eq_add_neg, Int.mul_comm, ← Int.mul_neg, ← Int.add_bmod_bmod, Int.mul_neg, Int.mul_comm]
  rw [show (-(((x.toInt.tdiv y.toInt).bmod (2 ^ 32)) * y.toInt)).bmod (2 ^ 32) = (-((x.toInt.tdiv y.toInt) * y.toInt)).bmod (2 ^ 32) by
    rw [← Int.mul_neg, ← Int.mul_neg, Int.bmod_mul_bmod]]
  rw [Int.add_bmod_bmod, ← Int.sub_eq_add_neg, Int.mul_comm, ← Int.tmod_def]
  have h1 := k32_in x
  have h2 := k32_in y
  by_cases hy : y.toInt = 0
  · rw [hy, Int.tmod_zero]
    exact k32_bm h1.1 h1.2
  · have := Int.natAbs_tmod x.toInt y.toInt
    have l := Nat.mod_le x.toInt.natAbs y.toInt.natAbs
    have l2 := Nat.mod_lt x.toInt.natAbs (show 0 < y.toInt.natAbs by omega)
    apply k32_bm
    · show (-2147483648 : Int) ≤ _
      have : k32.1 = (-2147483648 : Int) := rfl
      have : k32.2 = (2147483647 : Int) := rfl
      omega
    · show _ ≤ (2147483647 : Int)
      have : k32.1 = (-2147483648 : Int) := rfl
      have : k32.2 = (2147483647 : Int) := rfl
      omega
theorem kib_ok {x y : kL} {ins : Instr} {res : kRes} {a b : Int32} (h : kst D cA tt Ty env ren S H lv st) (hx : kev env x = some a.toInt) (hy : kev env y = some b.toInt) (hr : kib S x y ins = some res) : kresok env res (cib a b ins).toInt ∧ ((ins = .idiv ∨ ins = .irem) → ¬ b = 0) := by
  have hI := h.1
  have ne0 : b.toInt ≠ 0 → ¬ b = 0 := fun g e => g (by rw [e]; rfl)
  unfold kib at hr
  split at hr
  · obtain rfl := Option.some.inj hr
    exact ⟨kri_ok hI (kadd_ev hx hy) (fun g1 g2 => by rw [show cib a b .iadd = a + b from rfl, Int32.toInt_add, k32_bm g1 g2]) (k32_in _), fun e => by rcases e with e | e <;> cases e⟩
  · obtain rfl := Option.some.inj hr
    exact ⟨kri_ok hI (ksub_ev hx hy) (fun g1 g2 => by rw [show cib a b .isub = a - b from rfl, Int32.toInt_sub, k32_bm g1 g2]) (k32_in _), fun e => by rcases e with e | e <;> cases e⟩
  · obtain rfl := Option.some.inj hr
    exact ⟨kmul_ok hI hx hy (fun g1 g2 => by rw [show cib a b .imul = a * b from rfl, Int32.toInt_mul, k32_bm g1 g2]) (k32_in _) (by decide), fun e => by rcases e with e | e <;> cases e⟩
  · split at hr
    · rename_i hz
      obtain rfl := Option.some.inj hr
      refine ⟨kdiv_ok hI hx hy (fun g1 g2 => ?_) (k32_in _), fun _ => ne0 (knz_ok h hy hz)⟩
      rw [show cib a b .idiv = a / b from rfl, Int32.toInt_div, Int.tdiv_eq_ediv_of_nonneg g1]
      have l1 := Int.ediv_le_self b.toInt g1
      have l2 := Int.ediv_nonneg g1 (Int.le_of_lt g2)
      have l3 := k32_in a
      exact k32_bm (Int.le_trans (by decide) l2) (Int.le_trans l1 l3.2)
    · cases hr
  · split at hr
    · rename_i hz
      obtain rfl := Option.some.inj hr
      exact ⟨krem_ok hI hx hy (k_irem a b) (k32_in _), fun _ => ne0 (knz_ok h hy hz)⟩
    · cases hr
  · obtain rfl := Option.some.inj hr
    refine ⟨kand_ok hI hx hy (fun g => k_and a b g) (fun g => ?_) (fun g1 g2 => ?_) (k32_in _), fun e => by rcases e with e | e <;> cases e⟩
    · show 0 ≤ (a &&& b).toInt ∧ (a &&& b).toInt ≤ b.toInt
      rw [Int32.and_comm]
      exact k_and b a g
    · obtain ⟨w1, w2⟩ := k_nn a g1
      obtain ⟨w3, w4⟩ := k_nn b g2
      have e : (a &&& b).toBitVec.toNat = a.toBitVec.toNat &&& b.toBitVec.toNat := by rw [Int32.toBitVec_and, BitVec.toNat_and]
      have l : a.toBitVec.toNat &&& b.toBitVec.toNat ≤ a.toBitVec.toNat := Nat.and_le_left
      show (a &&& b).toInt = _
      rw [k_ofn (a &&& b) (by omega), e, ← w1, ← w3]
      rfl
  · obtain rfl := Option.some.inj hr
    exact ⟨kor_ok hI hx hy (fun g1 g2 => k_or a b g1 g2) (k32_in _), fun e => by rcases e with e | e <;> cases e⟩
  · obtain rfl := Option.some.inj hr
    refine ⟨?_, fun e => by rcases e with e | e <;> cases e⟩
    unfold kxor
    cases hq : kLeq y (kcst (-1)) with
    | false => exact k32_in _
    | true =>
      have e := kLeq_eq hq
      subst e
      have e2 : (-1 : Int) = b.toInt := Option.some.inj (kcst_ev.symm.trans hy)
      have e3 : b = -1 := Int32.toInt_inj.mp (by rw [← e2]; rfl)
      subst e3
      refine kri_ok hI (kofs_ev (kneg_ev hx)) (fun g1 g2 => ?_) (k32_in _)
      show (a ^^^ (-1)).toInt = _
      have e4 : a ^^^ (-1) = -a - 1 := by
        apply Int32.toBitVec_inj.mp
        show a.toBitVec ^^^ (BitVec.allOnes 32) = -a.toBitVec - 1#32
        rw [BitVec.xor_allOnes, BitVec.not_eq_neg_add]
      rw [e4, Int32.toInt_sub, Int32.toInt_neg]
      rw [show ((1 : Int32).toInt) = 1 from rfl, Int.bmod_sub_bmod]
      have := k32_bm g1 g2
      rw [show (-a.toInt - 1 : Int) = -a.toInt + -1 by omega]
      exact this
  · obtain rfl := Option.some.inj hr
    refine ⟨kshl_ok hI hx hy (fun g1 g2 g3 g4 => ?_) (k32_in _), fun e => by rcases e with e | e <;> cases e⟩
    obtain ⟨n, hn, e1, e2⟩ := k_ofk g2 g3
    rw [e2, kp2_of] at g4 ⊢
    subst e1
    have p := Int.mul_nonneg g1 (show (0 : Int) ≤ 2 ^ n from by have := kp2_pos (n : Int); rw [kp2_of] at this; omega)
    obtain ⟨w1, w2⟩ := k_nn a g1
    have e3 := pk_shl a _ n (k_smod n hn)
    rw [← w1] at g4 p ⊢
    have ep : (2 : Int) ^ n = ((2 ^ n : Nat) : Int) := (kp2_of n).symm
    rw [ep, ← Int.natCast_mul] at g4 ⊢
    have g5 : a.toBitVec.toNat * 2 ^ n ≤ 2147483647 := by omega
    rw [Nat.mod_eq_of_lt (by omega)] at e3
    show (a <<< (nI n &&& 31)).toInt = _
    rw [k_ofn _ (by omega), e3]
  · obtain rfl := Option.some.inj hr
    refine ⟨kshr_ok hI hx hy (fun g1 g2 g3 => ?_) (k32_in _), fun e => by rcases e with e | e <;> cases e⟩
    obtain ⟨n, hn, e1, e2⟩ := k_ofk g2 g3
    rw [e2, kp2_of]
    subst e1
    show (a >>> (nI n &&& 31)).toInt = _
    rw [pk_shr a _ n (k_smod n hn), Int.shiftRight_eq_div_pow]
    simp
  · obtain rfl := Option.some.inj hr
    refine ⟨kshr_ok hI hx hy (fun g1 g2 g3 => ?_) (k32_in _), fun e => by rcases e with e | e <;> cases e⟩
    obtain ⟨n, hn, e1, e2⟩ := k_ofk g2 g3
    rw [e2, kp2_of]
    subst e1
    obtain ⟨w1, w2⟩ := k_nn a g1
    have e3 := pk_ushr a (nI n) n (k_umod n hn)
    have l := Nat.div_le_self a.toBitVec.toNat (2 ^ n)
    show ((a.toUInt32 >>> ((nI n).toUInt32 &&& Int32.toUInt32 31)).toInt32).toInt = _
    rw [k_ofn _ (by omega), e3, ← w1]
    simp
  · cases hr
end KIB
end
section
def klo (S : kS) (x y : kL) (ins : Instr) : Option kRes := match ins with
  | .ladd => some (kri S (kadd x y) k64)
  | .lsub => some (kri S (ksub x y) k64)
  | .lmul => some (kmul S x y k64)
  | .ldiv => match knz S y with
    | true => some (kdiv S x y k64)
    | false => none
  | .lrem => match knz S y with
    | true => some (krem S x y k64)
    | false => none
  | .land => some (.inr k64)
  | .lor => some (.inr k64)
  | _ => none
def clo (a b : Int64) (ins : Instr) : Int64 := match ins with
  | .ladd => a + b
  | .lsub => a - b
  | .lmul => a * b
  | .ldiv => a / b
  | .lrem => a - a / b * b
  | .land => a &&& b
  | .lor => a ||| b
  | _ => 0
theorem k_lrem (x y : Int64) : (x - x / y * y).toInt = x.toInt.tmod y.toInt := by
  rw [Int64.toInt_sub, Int64.toInt_mul, Int64.toInt_div, Int.tmod_def]
  rw [Int.sub_bmod_bmod, Int.sub_eq_add_neg, Int.mul_comm, ← Int.mul_neg, ← Int.add_bmod_bmod, Int.mul_neg, Int.mul_comm]
  rw [show (-(((x.toInt.tdiv y.toInt).bmod (2 ^ 64)) * y.toInt)).bmod (2 ^ 64) = (-((x.toInt.tdiv y.toInt) * y.toInt)).bmod (2 ^ 64) by
    rw [← Int.mul_neg, ← Int.mul_neg, Int.bmod_mul_bmod]]
  rw [Int.add_bmod_bmod, ← Int.sub_eq_add_neg, Int.mul_comm, ← Int.tmod_def]
  have h1 := k64_in x
  have h2 := k64_in y
  have e1 : k64.1 = (-9223372036854775808 : Int) := rfl
  have e2 : k64.2 = (9223372036854775807 : Int) := rfl
  by_cases hy : y.toInt = 0
  · rw [hy, Int.tmod_zero]
    exact k64_bm h1.1 h1.2
  · have := Int.natAbs_tmod x.toInt y.toInt
    have l := Nat.mod_le x.toInt.natAbs y.toInt.natAbs
    have l2 := Nat.mod_lt x.toInt.natAbs (show 0 < y.toInt.natAbs by omega)
    apply k64_bm
    · rw [e1]; omega
    · rw [e2]; omega
section KLO
variable {D : va_G} {cA : Nat → ClassId} {tt : List kT} {Ty : Nat → Nat → Prop} {env : List Int} {ren : List Nat} {S : kS} {H : Heap} {lv : List (Nat × Value)} {st : List Value}
theorem klo_ok {x y : kL} {ins : Instr} {res : kRes} {a b : Int64} (h : kst D cA tt Ty env ren S H lv st) (hx : kev env x = some a.toInt) (hy : kev env y = some b.toInt) (hr : klo S x y ins = some res) : kresok env res (clo a b ins).toInt ∧ ((ins = .ldiv ∨ ins = .lrem) → ¬ b = 0) := by
  have hI := h.1
  have ne0 : b.toInt ≠ 0 → ¬ b = 0 := fun g e => g (by rw [e]; rfl)
  unfold klo at hr
  split at hr
  · obtain rfl := Option.some.inj hr
    exact ⟨kri_ok hI (kadd_ev hx hy) (fun g1 g2 => by rw [show clo a b .ladd = a + b from rfl, Int64.toInt_add, k64_bm g1 g2]) (k64_in _), fun e => by rcases e with e | e <;> cases e⟩
  · obtain rfl := Option.some.inj hr
    exact ⟨kri_ok hI (ksub_ev hx hy) (fun g1 g2 => by rw [show clo a b .lsub = a - b from rfl, Int64.toInt_sub, k64_bm g1 g2]) (k64_in _), fun e => by rcases e with e | e <;> cases e⟩
  · obtain rfl := Option.some.inj hr
    exact ⟨kmul_ok hI hx hy (fun g1 g2 => by rw [show clo a b .lmul = a * b from rfl, Int64.toInt_mul, k64_bm g1 g2]) (k64_in _) (by decide), fun e => by rcases e with e | e <;> cases e⟩
  · split at hr
    · rename_i hz
      obtain rfl := Option.some.inj hr
      refine ⟨kdiv_ok hI hx hy (fun g1 g2 => ?_) (k64_in _), fun _ => ne0 (knz_ok h hy hz)⟩
      rw [show clo a b .ldiv = a / b from rfl, Int64.toInt_div, Int.tdiv_eq_ediv_of_nonneg g1]
      have l1 := Int.ediv_le_self b.toInt g1
      have l2 := Int.ediv_nonneg g1 (Int.le_of_lt g2)
      have l3 := k64_in a
      exact k64_bm (Int.le_trans (by decide) l2) (Int.le_trans l1 l3.2)
    · cases hr
  · split at hr
    · rename_i hz
      obtain rfl := Option.some.inj hr
      exact ⟨krem_ok hI hx hy (k_lrem a b) (k64_in _), fun _ => ne0 (knz_ok h hy hz)⟩
    · cases hr
  · obtain rfl := Option.some.inj hr
    exact ⟨k64_in _, fun e => by rcases e with e | e <;> cases e⟩
  · obtain rfl := Option.some.inj hr
    exact ⟨k64_in _, fun e => by rcases e with e | e <;> cases e⟩
  · cases hr
end KLO
/-- within q as it is, else somewhere in q -/
theorem kri_id {env : List Int} {S : kS} {x : kL} {q : Int × Int} {a r : Int} (hI : kI env S.1) (hx : kev env x = some a) (hr : q.1 ≤ a → a ≤ q.2 → r = a) (hq : q.1 ≤ r ∧ r ≤ q.2) : kresok env (kri S x q) r := kri_ok hI hx hr hq
theorem k_i2l (a : Int32) : a.toInt64.toInt = a.toInt := Int32.toInt_toInt64 a
theorem k_l2i {a : Int64} (h1 : k32.1 ≤ a.toInt) (h2 : a.toInt ≤ k32.2) : a.toInt32.toInt = a.toInt := by
  rw [Int64.toInt_toInt32, k32_bm h1 h2]
theorem k_i2b_in (a : Int32) : (-128 : Int) ≤ a.toInt8.toInt32.toInt ∧ a.toInt8.toInt32.toInt ≤ 127 := by
  rw [Int8.toInt_toInt32]
  have h1 := Int8.toInt_lt a.toInt8
  have h2 := Int8.le_toInt a.toInt8
  omega
theorem k_i2b {a : Int32} (h1 : (-128 : Int) ≤ a.toInt) (h2 : a.toInt ≤ 127) : a.toInt8.toInt32.toInt = a.toInt := by
  rw [Int8.toInt_toInt32, Int32.toInt_toInt8]
  apply Int.bmod_eq_of_le <;> omega
theorem k_i2s_in (a : Int32) : (-32768 : Int) ≤ a.toInt16.toInt32.toInt ∧ a.toInt16.toInt32.toInt ≤ 32767 := by
  rw [Int16.toInt_toInt32]
  have h1 := Int16.toInt_lt a.toInt16
  have h2 := Int16.le_toInt a.toInt16
  omega
theorem k_i2s {a : Int32} (h1 : (-32768 : Int) ≤ a.toInt) (h2 : a.toInt ≤ 32767) : a.toInt16.toInt32.toInt = a.toInt := by
  rw [Int16.toInt_toInt32, Int32.toInt_toInt16]
  apply Int.bmod_eq_of_le <;> omega
end
section
/-! WHAT IS KNOWN OF THE TABLES: names and slots, array types, links between nest mates, String constants -/
abbrev kSk : Type := List (String × Nat × String)
def kK (cl : List vw_C) (aty : List FieldType) (nw : List Cond) (sk : kSk) (D : va_G) (cA aS : Nat → Nat) (U : State) : Prop :=
  (∀ (ci : Nat) (q : vw_C), cl[ci]? = some q → u_Kn U q.1 q.2.1 q.2.2 (D.1 ci) (D.2 ci)) ∧ (∀ (k : Nat) (ty : FieldType), aty[k]? = some ty → ArrOfT U (cA k) ty) ∧ (∀ w ∈ nw, va_Nw w U) ∧ ∀ (i : Nat) (q : String × Nat × String), sk[i]? = some q → vk_R q.1 q.2.1 q.2.2 (aS i) U
def kNest (nw : List Cond) : Prop := ∀ w ∈ nw, ∃ a i x h, w = .methodLinkNest a i x h
theorem kK_warm {cl : List vw_C} {aty : List FieldType} {nw : List Cond} {sk : kSk} {D : va_G} {cA aS : Nat → Nat} {s U : State} (hn : kNest nw) (hW : s.WarmedH U.vm) (h : kK cl aty nw sk D cA aS s) : kK cl aty nw sk D cA aS U := by
  refine ⟨fun ci q hq => u_Kn_moved hW.alike (h.1 ci q hq), fun k ty hk => arrOfT_moved hW.alike (h.2.1 k ty hk), fun w hw => ?_, fun i q hq => vk_R.warm hW (h.2.2.2 i q hq)⟩
  obtain ⟨a, i, x, y, rfl⟩ := hn w hw
  exact va_Nw.warmM hW (h.2.2.1 _ hw)
theorem kK_call {cl : List vw_C} {aty : List FieldType} {nw : List Cond} {sk : kSk} {D : va_G} {cA aS : Nat → Nat} {U : State} {g : JFrame} {mk : MethodId} {a : Array Value} (hn : kNest nw) (h : kK cl aty nw sk D cA aS U) : kK cl aty nw sk D cA aS (U.calling g mk a) := by
  refine ⟨fun ci q hq => u_Kn_moved (Vm.Alike.refl U.vm) (h.1 ci q hq), fun k ty hk => arrOfT_moved (Vm.Alike.refl U.vm) (h.2.1 k ty hk), fun w hw => ?_, fun i q hq => vk_R.same (u := U) rfl (h.2.2.2 i q hq)⟩
  obtain ⟨a', i, x, y, rfl⟩ := hn w hw
  exact va_Nw.same rfl (u := U) rfl (h.2.2.1 _ hw)
/-- the list of names, as the tables have them -/
def kclok (cl : List vw_C) (lw : List Cond) : Prop := ∀ (ci : Nat) (C : String) (Tf : u_T) (N : Nat), cl[ci]? = some (C, Tf, N) → (∃ ty0 : Nat → FieldType, (∀ k, k < N → parseFieldDescriptor (Tf k).2.2.1 = some (ty0 k)) ∧ ∀ a, a < N → ∀ b, b < N → a ≠ b → (Tf a).2.1 ≠ (Tf b).2.1) ∧ ∀ w ∈ u_ws C Tf N, w ∈ lw
section KROW
variable {p : Program} {l : Launch} {e : Env} {R : Room} {s : State} {m : MethodId} {args : Array Value} {below : List Frame} {meth : Method} {c : Code} {H : Heap} {locs : List Loc} {cells slots : Nat} {Q : State → Prop}
variable {cc : ByteArray} {pc : Nat} {ls : Array Slot} {rest : List Value} {cl : List vw_C} {aty : List FieldType} {nw lw : List Cond} {sk : kSk} {D : va_G} {cA aS : Nat → Nat} {T : kT} {a : Nat} {V : Nat → Value}
theorem r_get (hexec : p.tables.exec = Jvm.exec) (hb : c.code = cc) {own C : String} {Tf : u_T} {N index j : Nat} (hts : ∀ w ∈ lw, w.before args s = true) (hcl : kclok cl lw) (hown : s.vm.findClass own = some m.cls) (hK : kK cl aty nw sk D cA aS s) (hc : cl[T.1]? = some (C, Tf, N)) (hk : Nat.blt T.1 100 = true) (hj : j < N) (hjT : j < T.2.1) (hlink : (Cond.fieldLink own index (Tf j).1 (Tf j).2.1 (Tf j).2.2.1).before args s = true) (hcell : kcell D cA T a H V) (hdg : decode cc pc = .ok (.getfield index, 3))
    (kk : W p l e R s m args below meth c H locs cells slots Q (F0 m (pc + 3) ls (V j :: rest))) : W p l e R s m args below meth c H locs cells slots Q (F0 m pc ls (.ref a :: rest)) := by
  unfold kcell at hcell
  rw [hk] at hcell
  obtain ⟨cell, q1, q2, q3, q4⟩ := hcell
  obtain ⟨hS, hfc, kC, hkC, hkind⟩ := hK.1 T.1 _ hc
  obtain ⟨cf, kf, fi, f, hi, hsl⟩ := hS j hj
  refine W.getf hexec hb hown hlink hi (u_facts hfc hkC (u_lays hts (hcl _ _ _ _ hc).2 hj) hi).1 q1 (by rw [q3]; exact fun h => by cases h) (v := V j) ?_ rfl rfl hdg kk
  rw [hsl]
  exact q4 j hjT
theorem r_put (hexec : p.tables.exec = Jvm.exec) (hb : c.code = cc) {own C : String} {Tf : u_T} {N index j : Nat} {ty : FieldType} {v : Value} (hts : ∀ w ∈ lw, w.before args s = true) (hcl : kclok cl lw) (hown : s.vm.findClass own = some m.cls) (hK : kK cl aty nw sk D cA aS s) (hc : cl[T.1]? = some (C, Tf, N)) (hk : Nat.blt T.1 100 = true) (hj : j < N) (hN : T.2.1 = N) (hlink : (Cond.fieldLink own index (Tf j).1 (Tf j).2.1 (Tf j).2.2.1).before args s = true) (hfin : (Tf j).2.2.2 = false) (hd : parseFieldDescriptor (Tf j).2.2.1 = some ty) (hn : narrow ty v = v) (hfit : fits ty v = true) (hcell : kcell D cA T a H V) (hdg : decode cc pc = .ok (.putfield index, 3))
    (kk : ∀ (H1 : Heap) (i : Nat), kcell D cA T a H1 (updV V j v) → H1.size = H.size → (∀ q, q ≠ a → H1[q]? = H[q]?) → W p l e R s m args below meth c H1 (locs ++ [⟨a, i⟩]) cells slots Q (F0 m (pc + 3) ls rest)) : W p l e R s m args below meth c H locs cells slots Q (F0 m pc ls (v :: .ref a :: rest)) := by
  unfold kcell at hcell kk
  rw [hk] at hcell kk
  obtain ⟨cell, q1, q2, q3, q4⟩ := hcell
  obtain ⟨hS, hfc, kC, hkC, hkind⟩ := hK.1 T.1 _ hc
  obtain ⟨⟨ty0, hty, hnm⟩, hin⟩ := hcl _ _ _ _ hc
  have hap := va_apart (own := own) (D := D) (cl := cl) (tys := []) hts hin ty0 hty hnm ⟨hK.1, fun k q h => by simp at h⟩ hc
  obtain ⟨cf, kf, fi, f, hi, hsl⟩ := hS j hj
  have hlay := hts _ (hin _ (u_in_lay hj))
  unfold u_lay at hlay
  rw [if_neg (by rw [hfin]; decide)] at hlay
  have hst := (u_facts hfc hkC (u_lays hts hin hj) hi).1
  have h6 := u_store hfc hkC hkind hlay hi hd hn hfit
  refine W.putK hexec hb (f := f) ⟨hown, hlink, ⟨_, _, _, hi⟩, hst⟩ (by rw [q2]; exact h6) q1 q3 (by rw [hsl]; exact k2_hasslot (q4 j (by rw [hN]; exact hj))) rfl rfl hdg fun H' e1 e2 e3 => ?_
  rw [hsl] at e1
  rw [hsl]
  exact kk H' _ ⟨_, e1, q2, q3, t_set q4 (by rw [hN]; exact hap) (by rw [hN]; exact hj) v⟩ e2 e3
/-- which loads fit which arrays -/
def klt (ins : Instr) (ty : FieldType) : Bool := match ins, ty with
  | .iaload, .int => true
  | .baload, .boolean => true
  | .baload, .byte => true
  | .laload, .long => true
  | .aaload, .object _ => true
  | _, _ => false
theorem r_ald (hexec : p.tables.exec = Jvm.exec) (hb : c.code = cc) (hK : kK cl aty nw sk D cA aS s) {ins : Instr} {ty : FieldType} (ht : aty[T.1 - 100]? = some ty) (hk : Nat.blt T.1 100 = false) (hl : klt ins ty = true) {i : Int32} {z : Nat} (hi : i.toInt = (z : Int)) (hz : z < T.2.1) (hcell : kcell D cA T a H V) (hdg : decode cc pc = .ok (ins, 1))
    (kk : W p l e R s m args below meth c H locs cells slots Q (F0 m (pc + 1) ls (V z :: rest))) : W p l e R s m args below meth c H locs cells slots Q (F0 m pc ls (.int i :: .ref a :: rest)) := by
  unfold kcell at hcell
  rw [hk] at hcell
  have hn : i.toNatClampNeg = z := by
    show i.toInt.toNat = z
    rw [hi]; rfl
  have h0 : ¬ (i < 0 ∨ (arrV (cA (T.1 - 100)) T.2.1 V).slots.size ≤ i.toNatClampNeg) := by
    rw [arrV_size, hn, Int32.lt_iff_toInt_lt, hi]
    show ¬ ((z : Int) < 0 ∨ T.2.1 ≤ z)
    omega
  have hr : (arrV (cA (T.1 - 100)) T.2.1 V).slots[i.toNatClampNeg]? = some (V z) := by rw [hn]; exact arrV_read _ _ hz
  have hA := hK.2.1 _ _ ht T.2.1 V
  unfold klt at hl
  split at hl
  · exact W.iald hexec hb hcell hA (fun q => by cases q) h0 hr rfl rfl hdg kk
  · exact W.zald hexec hb hcell hA (fun q => by cases q) h0 hr rfl rfl hdg kk
  · exact W.bald hexec hb hcell hA (fun q => by cases q) h0 hr rfl rfl hdg kk
  · exact W.lald hexec hb hcell hA (fun q => by cases q) h0 hr rfl rfl hdg kk
  · exact W.aald hexec hb hcell hA rfl (fun q => by cases q) h0 hr rfl rfl hdg kk
  · cases hl
/-- which stores fit which arrays -/
def kstt (ins : Instr) (ty : FieldType) : Bool := match ins, ty with
  | .iastore, .int => true
  | .bastore, .boolean => true
  | .bastore, .byte => true
  | .lastore, .long => true
  | _, _ => false
/-- a value that stays as it is when it is stored as of a type -/
def kfix (ty : FieldType) (v : Value) : Prop := match ty, v with
  | .int, .int _ => True
  | .long, .long _ => True
  | .boolean, .int n => 0 ≤ n.toInt ∧ n.toInt ≤ 1
  | .byte, .int n => -128 ≤ n.toInt ∧ n.toInt ≤ 127
  | _, _ => False
theorem kfix_narrow {ty : FieldType} {v : Value} (h : kfix ty v) : narrow ty v = v ∧ fits ty v = true := by
  unfold kfix at h
  split at h
  · exact ⟨rfl, rfl⟩
  · exact ⟨rfl, rfl⟩
  · rename_i n
    have e : n = 0 ∨ n = 1 := by
      have h1 : n.toInt = 0 ∨ n.toInt = 1 := by omega
      rcases h1 with h1 | h1
      · exact Or.inl (Int32.toInt_inj.mp (by rw [h1]; rfl))
      · exact Or.inr (Int32.toInt_inj.mp (by rw [h1]; rfl))
    rcases e with rfl | rfl
    · exact ⟨by decide +kernel, by decide +kernel⟩
    · exact ⟨by decide +kernel, by decide +kernel⟩
  · rename_i n
    have e : n = n.toInt8.toInt32 := by
      apply Int32.toInt_inj.mp
      exact (k_i2b h.1 h.2).symm
    rw [e]
    exact ⟨pk_nb n, pk_fb n⟩
  · exact h.elim
theorem r_ast (hexec : p.tables.exec = Jvm.exec) (hb : c.code = cc) (hK : kK cl aty nw sk D cA aS s) {ins : Instr} {ty : FieldType} {v : Value} (ht : aty[T.1 - 100]? = some ty) (hk : Nat.blt T.1 100 = false) (hl : kstt ins ty = true) (hv : kfix ty v) {i : Int32} {z : Nat} (hi : i.toInt = (z : Int)) (hz : z < T.2.1) (hcell : kcell D cA T a H V) (hdg : decode cc pc = .ok (ins, 1))
    (kk : ∀ (H1 : Heap) (q0 : Nat), kcell D cA T a H1 (updV V z v) → H1.size = H.size → (∀ q, q ≠ a → H1[q]? = H[q]?) → W p l e R s m args below meth c H1 (locs ++ [⟨a, q0⟩]) cells slots Q (F0 m (pc + 1) ls rest)) : W p l e R s m args below meth c H locs cells slots Q (F0 m pc ls (v :: .int i :: .ref a :: rest)) := by
  unfold kcell at hcell kk
  rw [hk] at hcell kk
  have hn : i.toNatClampNeg = z := by
    show i.toInt.toNat = z
    rw [hi]; rfl
  have h0 : ¬ (i < 0 ∨ (arrV (cA (T.1 - 100)) T.2.1 V).slots.size ≤ i.toNatClampNeg) := by
    rw [arrV_size, hn, Int32.lt_iff_toInt_lt, hi]
    show ¬ ((z : Int) < 0 ∨ T.2.1 ≤ z)
    omega
  have hA := hK.2.1 _ _ ht T.2.1 V
  obtain ⟨hn1, -⟩ := kfix_narrow hv
  have hs : ∀ x : Value, (arrV (cA (T.1 - 100)) T.2.1 V).setSlot i.toNatClampNeg x = arrV (cA (T.1 - 100)) T.2.1 (updV V z x) := fun x => by rw [hn]; exact arrV_store _ _ _ _ _
  unfold kstt at hl
  split at hl
  · match v, hv with
    | .int n, _ => exact W.iast hexec hb hcell hA (fun q => by cases q) h0 rfl rfl hdg fun H' e1 e2 e3 => kk H' _ (by rw [← hs]; exact e1) e2 e3
  · match v, hv, hn1 with
    | .int n, _, hn1 => exact W.zast hexec hb hcell hA (fun q => by cases q) h0 rfl rfl hdg fun H' e1 e2 e3 => kk H' _ (by rw [hn1, hs] at e1; exact e1) e2 e3
  · match v, hv, hn1 with
    | .int n, _, hn1 => exact W.bast hexec hb hcell hA (fun q => by cases q) h0 rfl rfl hdg fun H' e1 e2 e3 => kk H' _ (by rw [hn1, hs] at e1; exact e1) e2 e3
  · match v, hv with
    | .long n, _ => exact W.last hexec hb hcell hA (fun q => by cases q) h0 rfl rfl hdg fun H' e1 e2 e3 => kk H' _ (by rw [← hs]; exact e1) e2 e3
  · cases hl
end KROW
end
section
/-! TEMPLATES: a state over symbols of its own, and where each symbol is found -/
abbrev kB : Type := Nat × Nat × kL × Int × Int
abbrev kTm : Type := kS × List kB
def ksubT (sg : List kL) : List (Nat × Int) → Option kL
  | [] => some ([], 0)
  | q :: t => match sg[q.1]?, ksubT sg t with
    | some g, some r => some (kadd (ksc q.2 g) r)
    | _, _ => none
def ksubst (sg : List kL) (f : kL) : Option kL := match ksubT sg f.1 with
  | some r => some (kofs r f.2)
  | none => none
/-- the forms sg have the values zs -/
def kSg (env : List Int) : List kL → List Int → Prop
  | [], [] => True
  | g :: l, z :: m => kev env g = some z ∧ kSg env l m
  | _, _ => False
theorem kSg_at {env : List Int} : ∀ {l : List kL} {m : List Int} {k : Nat} {g : kL}, kSg env l m → l[k]? = some g → ∃ z, m[k]? = some z ∧ kev env g = some z
  | [], _, k, g, _, h => by simp at h
  | a :: l, [], k, g, h, _ => h.elim
  | a :: l, z :: m, 0, g, h, hk => by
    have e : a = g := by simpa using hk
    subst e
    exact ⟨z, rfl, h.1⟩
  | a :: l, z :: m, k + 1, g, h, hk => by
    obtain ⟨w, h1, h2⟩ := kSg_at (k := k) (g := g) h.2 (by simpa using hk)
    exact ⟨w, by simpa using h1, h2⟩
theorem kSg_ext {env e : List Int} : ∀ {l : List kL} {m : List Int}, kSg env l m → kSg (env ++ e) l m
  | [], [], _ => trivial
  | a :: l, [], h => h.elim
  | [], _ :: _, h => h.elim
  | a :: l, z :: m, h => ⟨kev_ext h.1, kSg_ext h.2⟩
theorem kSg_push {env : List Int} {g : kL} {z : Int} (hg : kev env g = some z) : ∀ {l : List kL} {m : List Int}, kSg env l m → kSg env (l ++ [g]) (m ++ [z])
  | [], [], _ => ⟨hg, trivial⟩
  | a :: l, [], h => h.elim
  | [], _ :: _, h => h.elim
  | a :: l, w :: m, h => ⟨h.1, kSg_push hg h.2⟩
theorem kSg_len {env : List Int} : ∀ {l : List kL} {m : List Int}, kSg env l m → l.length = m.length
  | [], [], _ => rfl
  | a :: l, [], h => h.elim
  | [], _ :: _, h => h.elim
  | a :: l, z :: m, h => by simp [kSg_len h.2]
theorem ksubT_ok {env zs : List Int} {sg : List kL} (hs : kSg env sg zs) : ∀ {l : List (Nat × Int)} {r : kL}, ksubT sg l = some r → ∃ z, kevT zs l = some z ∧ kev env r = some z
  | [], r, h => by
    obtain rfl := Option.some.inj h
    exact ⟨0, rfl, rfl⟩
  | q :: t, r, h => by
    unfold ksubT at h
    cases h1 : sg[q.1]? with
    | none => rw [h1] at h; simp at h
    | some g =>
      cases h2 : ksubT sg t with
      | none => rw [h1, h2] at h; simp at h
      | some r' =>
        rw [h1, h2] at h
        obtain rfl := Option.some.inj h
        obtain ⟨w, e1, e2⟩ := kSg_at hs h1
        obtain ⟨y, e3, e4⟩ := ksubT_ok hs h2
        exact ⟨_, kevT_mk e1 e3, kadd_ev (ksc_ev e2) e4⟩
theorem ksubst_ok {env zs : List Int} {sg : List kL} {f r : kL} (hs : kSg env sg zs) (h : ksubst sg f = some r) : ∃ z, kev zs f = some z ∧ kev env r = some z := by
  unfold ksubst at h
  cases h1 : ksubT sg f.1 with
  | none => rw [h1] at h; cases h
  | some r' =>
    rw [h1] at h
    obtain rfl := Option.some.inj h
    obtain ⟨z, e1, e2⟩ := ksubT_ok hs h1
    exact ⟨_, kev_mk e1, kofs_ev e2⟩
theorem ksubst_gh {sg : List kL} {f r : kL} (h : ksubst sg f = some r) (hg : kghx f = true) : r = kcst 5000 := by
  have e := kLeq_eq hg
  subst e
  exact (Option.some.inj h).symm
/-- references: sr picks out of ren -/
def kSr (ren : List Nat) : List Nat → List Nat → Prop
  | [], [] => True
  | k :: l, a :: m => ren[k]? = some a ∧ kSr ren l m
  | _, _ => False
theorem kSr_at {ren : List Nat} : ∀ {l m : List Nat} {k g : Nat}, kSr ren l m → l[k]? = some g → ∃ z, m[k]? = some z ∧ ren[g]? = some z
  | [], _, k, g, _, h => by simp at h
  | a :: l, [], k, g, h, _ => h.elim
  | a :: l, z :: m, 0, g, h, hk => by
    have e : a = g := by simpa using hk
    subst e
    exact ⟨z, rfl, h.1⟩
  | a :: l, z :: m, k + 1, g, h, hk => by
    obtain ⟨w, h1, h2⟩ := kSr_at (k := k) (g := g) h.2 (by simpa using hk)
    exact ⟨w, by simpa using h1, h2⟩
theorem kSr_ext {ren u : List Nat} : ∀ {l m : List Nat}, kSr ren l m → kSr (ren ++ u) l m
  | [], [], _ => trivial
  | a :: l, [], h => h.elim
  | [], _ :: _, h => h.elim
  | a :: l, z :: m, h => ⟨kget_ext h.1, kSr_ext h.2⟩
theorem kSr_push {ren : List Nat} {k a : Nat} (hg : ren[k]? = some a) : ∀ {l m : List Nat}, kSr ren l m → kSr ren (l ++ [k]) (m ++ [a])
  | [], [], _ => ⟨hg, trivial⟩
  | a :: l, [], h => h.elim
  | [], _ :: _, h => h.elim
  | a :: l, w :: m, h => ⟨h.1, kSr_push hg h.2⟩
def ksubV (sg : List kL) (sr : List Nat) (v : kV) : Option kV := match v with
  | .inl f => match ksubst sg f with
    | some g => some (.inl g)
    | none => none
  | .inr (.inl f) => match ksubst sg f with
    | some g => some (.inr (.inl g))
    | none => none
  | .inr (.inr (.inl k)) => match sr[k]? with
    | some j => some (.inr (.inr (.inl j)))
    | none => none
  | .inr (.inr (.inr _)) => none
/-- over the template's symbols and over the state's: the same values -/
theorem ksubV_ok {env zs : List Int} {ren as : List Nat} {sg : List kL} {sr : List Nat} {v w : kV} {x : Value} (hs : kSg env sg zs) (hr : kSr ren sr as) (h : ksubV sg sr v = some w) : kvok zs as v x ↔ kvok env ren w x := by
  match v, h with
  | .inl f, h =>
    unfold ksubV at h
    cases h1 : ksubst sg f with
    | none => simp [h1] at h
    | some g =>
      simp only [h1] at h
      obtain rfl := Option.some.inj h
      obtain ⟨z, e1, e2⟩ := ksubst_ok hs h1
      constructor
      · rintro ⟨n, h2, h3⟩
        exact ⟨n, h2, by rw [e2, ← e1]; exact h3⟩
      · rintro ⟨n, h2, h3⟩
        exact ⟨n, h2, by rw [e1, ← e2]; exact h3⟩
  | .inr (.inl f), h =>
    unfold ksubV at h
    cases h1 : ksubst sg f with
    | none => simp [h1] at h
    | some g =>
      simp only [h1] at h
      obtain rfl := Option.some.inj h
      obtain ⟨z, e1, e2⟩ := ksubst_ok hs h1
      constructor
      · rintro ⟨n, h2, h3⟩
        exact ⟨n, h2, by rw [e2, ← e1]; exact h3⟩
      · rintro ⟨n, h2, h3⟩
        exact ⟨n, h2, by rw [e1, ← e2]; exact h3⟩
  | .inr (.inr (.inl k)), h =>
    unfold ksubV at h
    cases h1 : sr[k]? with
    | none => simp [h1] at h
    | some j =>
      simp only [h1] at h
      obtain rfl := Option.some.inj h
      obtain ⟨z, e1, e2⟩ := kSr_at hr h1
      constructor
      · rintro ⟨n, h2, h3⟩
        exact ⟨n, h2, by rw [e2, ← e1]; exact h3⟩
      · rintro ⟨n, h2, h3⟩
        exact ⟨n, h2, by rw [e1, ← e2]; exact h3⟩
  | .inr (.inr (.inr _)), h => cases h
/-- equal values -/
def kfeq (S : kS) (f g : kL) : Bool := match kLeq f g with
  | true => true
  | false => match kgeS S (ksub f g) with
    | true => kgeS S (ksub g f)
    | false => false
def kveq (S : kS) (v w : kV) : Bool := match v, w with
  | .inl f, .inl g => kfeq S f g
  | .inr (.inl f), .inr (.inl g) => kfeq S f g
  | .inr (.inr (.inl k)), .inr (.inr (.inl j)) => Nat.beq k j
  | _, _ => false
/-- the value of a place; a fact that isn't there is loaded -/
def klocv (l : List (Nat × kV)) (i : Nat) : Option kV := match l with
  | [] => none
  | q :: t => match Nat.beq q.1 i with
    | true => some q.2
    | false => klocv t i
/-- what the index 5000 stands for -/
def kplaceG (tt : List kT) (S : kS) (r : Nat) : Option (kS × kV) := match kfind0 S.2.2.2.2.1 r (kcst 5000) with
  | some v => some (S, v)
  | none => match S.2.1[r]? with
    | none => none
    | some t => match Nat.beq t 36 with
      | false => none
      | true => match tt[36]?, tt[40]? with
        | some T, some _ => match kspR S (kcst 4) T.2.2.1 with
          | some (.inr (.inr t')) => match Nat.beq t' 40 with
            | true => some (kfadd (kpush S (0, 4)) (r, kcst 5000, .inl (ksym S.1.length)), .inl (ksym S.1.length))
            | false => none
          | _ => none
        | _, _ => none
def kplace (tt : List kT) (S : kS) (sg : List kL) (sr : List Nat) (b : kB) : Option (kS × kV) := match b.1 with
  | 0 => match klocv S.2.2.1 b.2.1 with
    | some v => some (S, v)
    | none => none
  | 1 => match S.2.2.2.1[b.2.1]? with
    | some v => some (S, v)
    | none => none
  | _ => match Nat.beq b.1 3 with
    | true => match sr[b.2.1]? with
      | some r => kplaceG tt S r
      | none => none
    | false => match sr[b.2.1]?, ksubst sg b.2.2.1 with
      | some r, some x => match kload tt S r x with
        | some [q] => some q
        | _ => none
      | _, _ => none
def kbind1 (tt : List kT) (S : kS) (sg : List kL) (sr : List Nat) (b : kB) : Option (kS × List kL × List Nat) := match kplace tt S sg sr b with
  | some (S', .inl f) => match kdv b.2.2.2.1 (kofs f (-b.2.2.2.2)) with
    | some g => some (S', sg ++ [g], sr)
    | none => none
  | some (S', .inr (.inl f)) => match kdv b.2.2.2.1 (kofs f (-b.2.2.2.2)) with
    | some g => some (S', sg ++ [g], sr)
    | none => none
  | some (S', .inr (.inr (.inl r))) => some (S', sg, sr ++ [r])
  | _ => none
def kbind (tt : List kT) : List kB → kS → List kL → List Nat → Option (kS × List kL × List Nat)
  | [], S, sg, sr => some (S, sg, sr)
  | b :: t, S, sg, sr => match kbind1 tt S sg sr b with
    | some q => kbind tt t q.1 q.2.1 q.2.2
    | none => none
def kchI (S : kS) : kQ → List kL → Bool
  | [], [] => true
  | q :: t, g :: u => match kbt S g q.1 q.2 with
    | true => kchI S t u
    | false => false
  | _, _ => false
def kchR (S : kS) : List Nat → List Nat → Bool
  | [], [] => true
  | t :: l, k :: u => match S.2.1[k]? with
    | some t' => match Nat.beq t' t with
      | true => kchR S l u
      | false => false
    | none => false
  | _, _ => false
def kchV (S : kS) (sg : List kL) (sr : List Nat) (v w : kV) : Bool := match ksubV sg sr v with
  | some v' => kveq S v' w
  | none => false
def kchL (S : kS) (sg : List kL) (sr : List Nat) : List (Nat × kV) → Bool
  | [] => true
  | q :: t => match klocv S.2.2.1 q.1 with
    | some w => match kchV S sg sr q.2 w with
      | true => kchL S sg sr t
      | false => false
    | none => false
def kchS (S : kS) (sg : List kL) (sr : List Nat) : List kV → List kV → Bool
  | [], [] => true
  | v :: t, w :: u => match kchV S sg sr v w with
    | true => kchS S sg sr t u
    | false => false
  | _, _ => false
def kfindT (fa : List kF) (g : kL) (r : Nat) (x : kL) : Option kV := match kghx g with
  | true => kfind0 fa r x
  | false => kfind fa r x
def kchF (S : kS) (sg : List kL) (sr : List Nat) : List kF → Bool
  | [] => true
  | q :: t => match sr[q.1]?, ksubst sg q.2.1 with
    | some r, some x => match kfindT S.2.2.2.2.1 q.2.1 r x with
      | some w => match kchV S sg sr q.2.2 w with
        | true => kchF S sg sr t
        | false => false
      | none => false
    | _, _ => false
def kchC (S : kS) (sg : List kL) : List kL → Bool
  | [] => true
  | f :: t => match ksubst sg f with
    | some g => match kgeS S g with
      | true => kchC S sg t
      | false => false
    | none => false
/-- the state is as the template says, its symbols being sg, sr -/
def kch (S : kS) (sg : List kL) (sr : List Nat) (T : kS) : Bool := match kchI S T.1 sg with
  | true => match kchR S T.2.1 sr with
    | true => match kchL S sg sr T.2.2.1 with
      | true => match kchS S sg sr T.2.2.2.1 S.2.2.2.1 with
        | true => match kchF S sg sr T.2.2.2.2.1 with
          | true => kchC S sg T.2.2.2.2.2
          | false => false
        | false => false
      | false => false
    | false => false
  | false => false
section KENT
variable {D : va_G} {cA : Nat → ClassId} {tt : List kT} {Ty : Nat → Nat → Prop} {env : List Int} {ren : List Nat} {S : kS} {H : Heap} {lv : List (Nat × Value)} {st : List Value}
theorem kfeq_ok {f g : kL} {x y : Int} (h : kst D cA tt Ty env ren S H lv st) (hf : kev env f = some x) (hg : kev env g = some y) (he : kfeq S f g = true) : x = y := by
  unfold kfeq at he
  cases h1 : kLeq f g with
  | true =>
    have e := kLeq_eq h1
    subst e
    exact Option.some.inj (hf.symm.trans hg)
  | false =>
    simp only [h1] at he
    cases h2 : kgeS S (ksub f g) with
    | false => simp [h2] at he
    | true =>
      simp only [h2] at he
      have a := kgeS_ok h (ksub_ev hf hg) h2
      have b := kgeS_ok h (ksub_ev hg hf) he
      omega
theorem kveq_ok {v w : kV} {x : Value} (h : kst D cA tt Ty env ren S H lv st) (hv : ∃ y, kvok env ren v y) (hw : kvok env ren w x) (he : kveq S v w = true) : kvok env ren v x := by
  obtain ⟨y, hv⟩ := hv
  match v, w, hv, hw, he with
  | .inl f, .inl g, ⟨n, e1, e2⟩, ⟨n', e3, e4⟩, he => exact ⟨n', e3, by rw [e2, kfeq_ok h e2 e4 he]⟩
  | .inr (.inl f), .inr (.inl g), ⟨n, e1, e2⟩, ⟨n', e3, e4⟩, he => exact ⟨n', e3, by rw [e2, kfeq_ok h e2 e4 he]⟩
  | .inr (.inr (.inl k)), .inr (.inr (.inl j)), ⟨n, e1, e2⟩, ⟨n', e3, e4⟩, he =>
    have e : k = j := Nat.beq_eq.mp he
    subst e
    exact ⟨n', e3, e4⟩
  | .inl _, .inr (.inl _), _, _, he => cases he
  | .inl _, .inr (.inr (.inl _)), _, _, he => cases he
  | .inl _, .inr (.inr (.inr _)), _, _, he => cases he
  | .inr (.inl _), .inl _, _, _, he => cases he
  | .inr (.inl _), .inr (.inr (.inl _)), _, _, he => cases he
  | .inr (.inl _), .inr (.inr (.inr _)), _, _, he => cases he
  | .inr (.inr (.inl _)), .inl _, _, _, he => cases he
  | .inr (.inr (.inl _)), .inr (.inl _), _, _, he => cases he
  | .inr (.inr (.inl _)), .inr (.inr (.inr _)), _, _, he => cases he
  | .inr (.inr (.inr _)), .inl _, _, _, he => cases he
  | .inr (.inr (.inr _)), .inr (.inl _), _, _, he => cases he
  | .inr (.inr (.inr _)), .inr (.inr (.inl _)), _, _, he => cases he
  | .inr (.inr (.inr _)), .inr (.inr (.inr _)), _, _, he => cases he
end KENT
end
section
section KEOK
variable {D : va_G} {cA : Nat → ClassId} {tt : List kT} {Ty : Nat → Nat → Prop} {env zs : List Int} {ren as : List Nat} {S : kS} {H : Heap} {lv : List (Nat × Value)} {st : List Value} {sg : List kL} {sr : List Nat}
theorem kchV_ok {v w : kV} {x : Value} (h : kst D cA tt Ty env ren S H lv st) (hs : kSg env sg zs) (hr : kSr ren sr as) (hw : kvok env ren w x) (he : kchV S sg sr v w = true) : kvok zs as v x := by
  unfold kchV at he
  cases h1 : ksubV sg sr v with
  | none => rw [h1] at he; cases he
  | some v' =>
    rw [h1] at he
    refine (ksubV_ok hs hr h1).mpr ?_
    match v, h1 with
    | .inl f, h1 =>
      unfold ksubV at h1
      cases h2 : ksubst sg f with
      | none => simp [h2] at h1
      | some g =>
        simp only [h2] at h1
        obtain rfl := Option.some.inj h1
        obtain ⟨z, -, e2⟩ := ksubst_ok hs h2
        match w, hw, he with
        | .inl g', ⟨n, e3, e4⟩, he => exact ⟨n, e3, by rw [e2, kfeq_ok h e2 e4 he]⟩
        | .inr (.inl _), _, he => cases he
        | .inr (.inr (.inl _)), _, he => cases he
        | .inr (.inr (.inr _)), _, he => cases he
    | .inr (.inl f), h1 =>
      unfold ksubV at h1
      cases h2 : ksubst sg f with
      | none => simp [h2] at h1
      | some g =>
        simp only [h2] at h1
        obtain rfl := Option.some.inj h1
        obtain ⟨z, -, e2⟩ := ksubst_ok hs h2
        match w, hw, he with
        | .inr (.inl g'), ⟨n, e3, e4⟩, he => exact ⟨n, e3, by rw [e2, kfeq_ok h e2 e4 he]⟩
        | .inl _, _, he => cases he
        | .inr (.inr (.inl _)), _, he => cases he
        | .inr (.inr (.inr _)), _, he => cases he
    | .inr (.inr (.inl k)), h1 =>
      unfold ksubV at h1
      cases h2 : sr[k]? with
      | none => simp [h2] at h1
      | some g =>
        simp only [h2] at h1
        obtain rfl := Option.some.inj h1
        match w, hw, he with
        | .inr (.inr (.inl j)), hw, he =>
          have e : g = j := Nat.beq_eq.mp he
          subst e
          exact hw
        | .inl _, _, he => cases he
        | .inr (.inl _), _, he => cases he
        | .inr (.inr (.inr _)), _, he => cases he
    | .inr (.inr (.inr _)), h1 => cases h1
theorem klocv_mem : ∀ {l : List (Nat × kV)} {i : Nat} {v : kV}, klocv l i = some v → (i, v) ∈ l
  | [], i, v, h => by cases h
  | q :: t, i, v, h => by
    unfold klocv at h
    cases h1 : Nat.beq q.1 i with
    | false => rw [h1] at h; exact List.mem_cons_of_mem _ (klocv_mem h)
    | true =>
      rw [h1] at h
      have e1 := Nat.beq_eq.mp h1
      have e3 : q.2 = v := Option.some.inj h
      subst e1; subst e3
      exact List.mem_cons_self
theorem kLoc_mem : ∀ {l : List (Nat × kV)} {m : List (Nat × Value)} {i : Nat} {v : kV}, kLoc env ren l m → (i, v) ∈ l → ∃ x, (i, x) ∈ m ∧ kvok env ren v x
  | [], _, i, v, _, hm => by cases hm
  | a :: l, [], i, v, h, _ => h.elim
  | a :: l, b :: m, i, v, h, hm => by
    rcases List.mem_cons.mp hm with e | hm
    · subst e
      refine ⟨b.2, ?_, h.2.1⟩
      have e : i = b.1 := h.1
      rw [e]
      exact List.mem_cons_self
    · obtain ⟨x, h1, h2⟩ := kLoc_mem h.2.2 hm
      exact ⟨x, List.mem_cons_of_mem _ h1, h2⟩
theorem kStk_at : ∀ {l : List kV} {m : List Value} {i : Nat} {v : kV}, kStk env ren l m → l[i]? = some v → ∃ x, m[i]? = some x ∧ kvok env ren v x
  | [], _, i, v, _, hm => by simp at hm
  | a :: l, [], i, v, h, _ => h.elim
  | a :: l, b :: m, 0, v, h, hm => by
    have e : a = v := by simpa using hm
    subst e
    exact ⟨b, rfl, h.1⟩
  | a :: l, b :: m, i + 1, v, h, hm => by
    obtain ⟨x, h1, h2⟩ := kStk_at (i := i) (v := v) h.2 (by simpa using hm)
    exact ⟨x, by simpa using h1, h2⟩
theorem kchI_ok (h : kst D cA tt Ty env ren S H lv st) : ∀ {iv : kQ} {l : List kL} {zs : List Int}, kSg env l zs → kchI S iv l = true → kI zs iv
  | [], [], [], _, _ => ⟨rfl, fun k q z hk => by simp at hk⟩
  | [], [], _ :: _, hs, _ => hs.elim
  | [], _ :: _, _, _, hc => by simp [kchI] at hc
  | _ :: _, [], _, _, hc => by simp [kchI] at hc
  | _ :: _, _ :: _, [], hs, _ => hs.elim
  | q :: iv, g :: l, z :: zs, hs, hc => by
    unfold kchI at hc
    cases h1 : kbt S g q.1 q.2 with
    | false => rw [h1] at hc; cases hc
    | true =>
      rw [h1] at hc
      have h2 := kchI_ok h hs.2 hc
      refine ⟨by simp [h2.1], fun k r w hk hw => ?_⟩
      cases k with
      | zero =>
        have e1 : q = r := by simpa using hk
        have e2 : z = w := by simpa using hw
        subst e1; subst e2
        exact kbt_ok h hs.1 h1
      | succ k => exact h2.2 k r w (by simpa using hk) (by simpa using hw)
theorem kchR_ok (h : kst D cA tt Ty env ren S H lv st) : ∀ {rt l as : List Nat}, kSr ren l as → kchR S rt l = true → kRt Ty as rt
  | [], [], [], _, _ => ⟨rfl, fun k t a hk => by simp at hk⟩
  | [], [], _ :: _, hs, _ => hs.elim
  | [], _ :: _, _, _, hc => by simp [kchR] at hc
  | _ :: _, [], _, _, hc => by simp [kchR] at hc
  | _ :: _, _ :: _, [], hs, _ => hs.elim
  | t :: rt, g :: l, a :: as, hs, hc => by
    unfold kchR at hc
    cases h1 : S.2.1[g]? with
    | none => rw [h1] at hc; cases hc
    | some t' =>
      simp only [h1] at hc
      cases h3 : Nat.beq t' t with
      | false => rw [h3] at hc; cases hc
      | true =>
        rw [h3] at hc
        have e := Nat.beq_eq.mp h3
        subst e
        have h2 := kchR_ok h hs.2 hc
        refine ⟨by simp [h2.1], fun k r w hk hw => ?_⟩
        cases k with
        | zero =>
          have e1 : t' = r := by simpa using hk
          have e2 : a = w := by simpa using hw
          subst e1; subst e2
          exact h.2.2.1.2 g t' a h1 hs.1
        | succ k => exact h2.2 k r w (by simpa using hk) (by simpa using hw)
theorem kchL_ok (h : kst D cA tt Ty env ren S H lv st) (hs : kSg env sg zs) (hr : kSr ren sr as) : ∀ {l : List (Nat × kV)}, kchL S sg sr l = true → ∃ lv', kLoc zs as l lv' ∧ ∀ q ∈ lv', q ∈ lv
  | [], _ => ⟨[], trivial, fun _ hq => by cases hq⟩
  | q :: t, hc => by
    unfold kchL at hc
    cases h1 : klocv S.2.2.1 q.1 with
    | none => rw [h1] at hc; cases hc
    | some w =>
      simp only [h1] at hc
      cases h2 : kchV S sg sr q.2 w with
      | false => rw [h2] at hc; cases hc
      | true =>
        rw [h2] at hc
        obtain ⟨lv', h3, h4⟩ := kchL_ok h hs hr hc
        obtain ⟨x, h5, h6⟩ := kLoc_mem h.2.2.2.1 (klocv_mem h1)
        refine ⟨(q.1, x) :: lv', ⟨rfl, kchV_ok h hs hr h6 h2, h3⟩, fun p hp => ?_⟩
        rcases List.mem_cons.mp hp with rfl | hp
        · exact h5
        · exact h4 p hp
theorem kchS_ok (h : kst D cA tt Ty env ren S H lv st) (hs : kSg env sg zs) (hr : kSr ren sr as) : ∀ {l u : List kV} {st' : List Value}, kStk env ren u st' → kchS S sg sr l u = true → kStk zs as l st'
  | [], [], [], _, _ => trivial
  | [], [], _ :: _, hk, _ => hk.elim
  | [], _ :: _, _, _, hc => by simp [kchS] at hc
  | _ :: _, [], _, _, hc => by simp [kchS] at hc
  | _ :: _, _ :: _, [], hk, _ => hk.elim
  | v :: l, w :: u, x :: st', hk, hc => by
    unfold kchS at hc
    cases h2 : kchV S sg sr v w with
    | false => rw [h2] at hc; cases hc
    | true =>
      rw [h2] at hc
      exact ⟨kchV_ok h hs hr hk.1 h2, kchS_ok h hs hr hk.2 hc⟩
theorem kchF_G {q : kF} {r : Nat} {w : kV} (h : kst D cA tt Ty env ren S H lv st) (hs : kSg env sg zs) (hr : kSr ren sr as) (h1 : sr[q.1]? = some r) (hw : kfokG D cA tt Ty env ren H (r, kcst 5000, w)) (hv : kchV S sg sr q.2.2 w = true) : kfokG D cA tt Ty zs as H q := by
  obtain ⟨a, b, T, Tt, V, Vt, f, f1, f2, f3, f4, f5, f6, f7, f8, f9, f10⟩ := hw
  obtain ⟨a', g1, g2⟩ := kSr_at hr h1
  have ea : a' = a := Option.some.inj (g2.symm.trans f1)
  subst ea
  have f9 : w = .inl f := f9
  subst f9
  unfold kchV at hv
  match hq : q.2.2 with
  | .inl g =>
    rw [hq] at hv
    cases h3 : ksubst sg g with
    | none => simp [ksubV, h3] at hv
    | some g' =>
      simp only [ksubV, h3] at hv
      obtain ⟨z, e1, e2⟩ := ksubst_ok hs h3
      have hv : kfeq S g' f = true := hv
      have e3 := kfeq_ok h e2 f10 hv
      exact ⟨a', b, T, Tt, V, Vt, g, g1, f2, f3, f4, f5, f6, f7, f8, hq, by rw [e1, e3]⟩
  | .inr (.inl g) =>
    rw [hq] at hv
    cases h3 : ksubst sg g with
    | none => simp [ksubV, h3] at hv
    | some g' => simp only [ksubV, h3] at hv; cases hv
  | .inr (.inr (.inl g)) =>
    rw [hq] at hv
    cases h3 : sr[g]? with
    | none => simp [ksubV, h3] at hv
    | some g' => simp only [ksubV, h3] at hv; cases hv
  | .inr (.inr (.inr g)) =>
    rw [hq] at hv
    simp [ksubV] at hv
theorem kchF_ok (hTy : kTyp tt Ty) (h : kst D cA tt Ty env ren S H lv st) (hs : kSg env sg zs) (hr : kSr ren sr as) : ∀ {l : List kF}, kchF S sg sr l = true → ∀ q ∈ l, kfok D cA tt Ty zs as H q
  | [], _, q, hq => by cases hq
  | q :: t, hc, p, hp => by
    unfold kchF at hc
    cases h1 : sr[q.1]? with
    | none => rw [h1] at hc; simp at hc
    | some r =>
      cases h2 : ksubst sg q.2.1 with
      | none => rw [h1, h2] at hc; simp at hc
      | some x =>
        simp only [h1, h2] at hc
        cases h3 : kfindT S.2.2.2.2.1 q.2.1 r x with
        | none => rw [h3] at hc; cases hc
        | some w =>
          simp only [h3] at hc
          cases h4 : kchV S sg sr q.2.2 w with
          | false => rw [h4] at hc; cases hc
          | true =>
            rw [h4] at hc
            rcases List.mem_cons.mp hp with rfl | hp
            · cases hgx : kghx p.2.1 with
              | true =>
                simp only [kfindT, hgx] at h3
                have ex := ksubst_gh h2 hgx
                subst ex
                have hf := h.2.2.2.2.2 _ (kfind0_mem h3)
                unfold kfok at hf ⊢
                rw [hgx]
                exact kchF_G h hs hr h1 hf h4
              | false =>
              simp only [kfindT, hgx] at h3
              obtain ⟨a, t', T, V, z, f1, f2, f3, f4, f5, f6, f7⟩ := kfind_ok h h3
              obtain ⟨a', g1, g2⟩ := kSr_at hr h1
              have ea : a' = a := Option.some.inj (g2.symm.trans f1)
              subst ea
              obtain ⟨z', g3, g4⟩ := ksubst_ok hs h2
              have ez : z' = (z : Int) := Option.some.inj (g4.symm.trans f5)
              subst ez
              exact kfok_mk hTy ⟨a', t', T, V, z, g1, f2, f3, f4, g3, f6, kchV_ok h hs hr f7 h4⟩
            · exact kchF_ok hTy h hs hr hc p hp
theorem kchC_ok (h : kst D cA tt Ty env ren S H lv st) (hs : kSg env sg zs) : ∀ {l : List kL}, kchC S sg l = true → kC zs l
  | [], _, q, hq => by cases hq
  | f :: t, hc, p, hp => by
    unfold kchC at hc
    cases h1 : ksubst sg f with
    | none => rw [h1] at hc; cases hc
    | some g =>
      simp only [h1] at hc
      cases h2 : kgeS S g with
      | false => rw [h2] at hc; cases hc
      | true =>
        rw [h2] at hc
        rcases List.mem_cons.mp hp with rfl | hp
        · obtain ⟨z, e1, e2⟩ := ksubst_ok hs h1
          exact ⟨z, e1, kgeS_ok h e2 h2⟩
        · exact kchC_ok h hs hc p hp
theorem kch_ok {T : kS} (hTy : kTyp tt Ty) (h : kst D cA tt Ty env ren S H lv st) (hs : kSg env sg zs) (hr : kSr ren sr as) (hc : kch S sg sr T = true) : ∃ lv', kst D cA tt Ty zs as T H lv' st ∧ ∀ q ∈ lv', q ∈ lv := by
  unfold kch at hc
  cases h1 : kchI S T.1 sg with
  | false => rw [h1] at hc; cases hc
  | true =>
    simp only [h1] at hc
    cases h2 : kchR S T.2.1 sr with
    | false => rw [h2] at hc; cases hc
    | true =>
      simp only [h2] at hc
      cases h3 : kchL S sg sr T.2.2.1 with
      | false => rw [h3] at hc; cases hc
      | true =>
        simp only [h3] at hc
        cases h4 : kchS S sg sr T.2.2.2.1 S.2.2.2.1 with
        | false => rw [h4] at hc; cases hc
        | true =>
          simp only [h4] at hc
          cases h5 : kchF S sg sr T.2.2.2.2.1 with
          | false => rw [h5] at hc; cases hc
          | true =>
            simp only [h5] at hc
            obtain ⟨lv', g1, g2⟩ := kchL_ok h hs hr h3
            exact ⟨lv', ⟨kchI_ok h hs h1, kchC_ok h hs hc, kchR_ok h hr h2, g1, kchS_ok h hs hr h.2.2.2.2.1 h4, kchF_ok hTy h hs hr h5⟩, g2⟩
theorem kplaceG_ok {lo r : Nat} {S' : kS} {v : kV} (hTy : kTyp tt Ty) (hG : kgood D cA tt Ty lo H) (h : kst D cA tt Ty env ren S H lv st) (hp : kplaceG tt S r = some (S', v)) : ∃ e u x, kst D cA tt Ty (env ++ e) (ren ++ u) S' H lv st ∧ kvok (env ++ e) (ren ++ u) v x := by
  have k : ∀ (V Vt : Nat → Value), (Int32.ofInt (kwhich V Vt)).toInt = kwhich V Vt := fun V Vt => by
    obtain ⟨b1, b2⟩ := kwhich_in V Vt
    exact Int32.toInt_ofInt_of_le (by omega) (by omega)
  unfold kplaceG at hp
  cases h1 : kfind0 S.2.2.2.2.1 r (kcst 5000) with
  | some w =>
    simp only [h1] at hp
    cases hp
    have hf := h.2.2.2.2.2 _ (kfind0_mem h1)
    unfold kfok at hf
    rw [show kghx (kcst 5000) = true from rfl] at hf
    obtain ⟨a, b, T, Tt, V, Vt, f, f1, f2, f3, f4, f5, f6, f7, f8, f9, f10⟩ := hf
    have f9 : v = .inl f := f9
    subst f9
    exact ⟨[], [], .int (Int32.ofInt (kwhich V Vt)), by rw [List.append_nil, List.append_nil]; exact h, kvok_ext ⟨_, rfl, by rw [k]; exact f10⟩⟩
  | none =>
    simp only [h1] at hp
    cases h2 : S.2.1[r]? with
    | none => simp [h2] at hp
    | some t =>
      simp only [h2] at hp
      cases h3 : Nat.beq t 36 with
      | false => simp [h3] at hp
      | true =>
        simp only [h3] at hp
        have et := Nat.beq_eq.mp h3
        subst et
        cases h4 : tt[36]? with
        | none => simp [h4] at hp
        | some T =>
          cases h5 : tt[40]? with
          | none => simp [h4, h5] at hp
          | some Tt =>
            simp only [h4, h5] at hp
            split at hp
            · rename_i t' h6
              cases h7 : Nat.beq t' 40 with
              | false => simp [h7] at hp
              | true =>
                simp only [h7] at hp
                cases hp
                have et := Nat.beq_eq.mp h7
                subst et
                obtain ⟨a, ha, ht⟩ := kRt_at h.2.2.1 h2
                obtain ⟨hlo, V, hc, hv⟩ := hG.1 a 36 T ht h4
                obtain ⟨b, hb, htb⟩ : kpok Ty (.inr (.inr 40)) (V 4) := kspR_ok (T := T) h (z := 4) kcst_ev hv.1 h6
                obtain ⟨-, Vt, hct, -⟩ := hG.1 b 40 Tt htb h5
                obtain ⟨b1, b2⟩ := kwhich_in V Vt
                obtain ⟨g1, g2⟩ := kpush_ok (q := (0, 4)) h b1 b2
                refine ⟨[kwhich V Vt], [], .int (Int32.ofInt (kwhich V Vt)), kfadd_ok g1 ?_, ⟨_, rfl, by rw [k]; exact g2⟩⟩
                unfold kfok
                rw [show kghx (kcst 5000) = true from rfl]
                exact ⟨a, b, T, Tt, V, Vt, _, kget_ext ha, ht, h4, hc, hb, htb, h5, hct, rfl, g2⟩
            · cases hp
theorem kplace_ok {lo : Nat} {b : kB} {S' : kS} {v : kV} (hTy : kTyp tt Ty) (hG : kgood D cA tt Ty lo H) (h : kst D cA tt Ty env ren S H lv st) (hs : kSg env sg zs) (hr : kSr ren sr as) (hp : kplace tt S sg sr b = some (S', v)) : ∃ e u x, kst D cA tt Ty (env ++ e) (ren ++ u) S' H lv st ∧ kvok (env ++ e) (ren ++ u) v x := by
  unfold kplace at hp
  split at hp
  · cases h1 : klocv S.2.2.1 b.2.1 with
    | none => rw [h1] at hp; cases hp
    | some w =>
      simp only [h1] at hp
      cases hp
      obtain ⟨x, -, h2⟩ := kLoc_mem h.2.2.2.1 (klocv_mem h1)
      exact ⟨[], [], x, by rw [List.append_nil, List.append_nil]; exact h, kvok_ext h2⟩
  · cases h1 : S.2.2.2.1[b.2.1]? with
    | none => rw [h1] at hp; cases hp
    | some w =>
      simp only [h1] at hp
      cases hp
      obtain ⟨x, -, h2⟩ := kStk_at h.2.2.2.2.1 h1
      exact ⟨[], [], x, by rw [List.append_nil, List.append_nil]; exact h, kvok_ext h2⟩
  · split at hp
    · split at hp
      · exact kplaceG_ok hTy hG h hp
      · cases hp
    cases h1 : sr[b.2.1]? with
    | none => rw [h1] at hp; simp at hp
    | some r =>
      cases h2 : ksubst sg b.2.2.1 with
      | none => rw [h1, h2] at hp; simp at hp
      | some x =>
        simp only [h1, h2] at hp
        split at hp
        · rename_i q hq
          cases hp
          obtain ⟨z, -, g2⟩ := ksubst_ok hs h2
          obtain ⟨a, t, T, V, z', -, -, -, -, -, -, -, -, -, alt, ha, e, u, g3, g4⟩ := kload_ok hTy hG h g2 hq
          have e1 : alt = (S', v) := by simpa using ha
          subst e1
          exact ⟨e, u, _, g3, g4⟩
        · cases hp
theorem kbind1_ok {lo : Nat} {b : kB} {q : kS × List kL × List Nat} (hTy : kTyp tt Ty) (hG : kgood D cA tt Ty lo H) (h : kst D cA tt Ty env ren S H lv st) (hs : kSg env sg zs) (hr : kSr ren sr as) (hp : kbind1 tt S sg sr b = some q) : ∃ e u zs' as', kst D cA tt Ty (env ++ e) (ren ++ u) q.1 H lv st ∧ kSg (env ++ e) q.2.1 (zs ++ zs') ∧ kSr (ren ++ u) q.2.2 (as ++ as') := by
  unfold kbind1 at hp
  split at hp
  · rename_i S' f hq
    obtain ⟨e, u, x, g1, n, -, g2⟩ := kplace_ok hTy hG h hs hr hq
    split at hp
    · rename_i g hg
      cases hp
      obtain ⟨w, g3, -⟩ := kdv_ok hg (kofs_ev g2)
      exact ⟨e, u, [w], [], g1, kSg_push g3 (kSg_ext hs), by rw [List.append_nil]; exact kSr_ext hr⟩
    · cases hp
  · rename_i S' f hq
    obtain ⟨e, u, x, g1, n, -, g2⟩ := kplace_ok hTy hG h hs hr hq
    split at hp
    · rename_i g hg
      cases hp
      obtain ⟨w, g3, -⟩ := kdv_ok hg (kofs_ev g2)
      exact ⟨e, u, [w], [], g1, kSg_push g3 (kSg_ext hs), by rw [List.append_nil]; exact kSr_ext hr⟩
    · cases hp
  · rename_i S' r hq
    obtain ⟨e, u, x, g1, a, -, g2⟩ := kplace_ok hTy hG h hs hr hq
    cases hp
    exact ⟨e, u, [], [a], g1, by rw [List.append_nil]; exact kSg_ext hs, kSr_push g2 (kSr_ext hr)⟩
  · cases hp
end KEOK
theorem kbind_ok {D : va_G} {cA : Nat → ClassId} {tt : List kT} {Ty : Nat → Nat → Prop} {lo : Nat} {H : Heap} {lv : List (Nat × Value)} {st : List Value} (hTy : kTyp tt Ty) (hG : kgood D cA tt Ty lo H) : ∀ {bs : List kB} {env zs : List Int} {ren as : List Nat} {S : kS} {sg : List kL} {sr : List Nat} {q : kS × List kL × List Nat}, kst D cA tt Ty env ren S H lv st → kSg env sg zs → kSr ren sr as → kbind tt bs S sg sr = some q → ∃ e u zs' as', kst D cA tt Ty (env ++ e) (ren ++ u) q.1 H lv st ∧ kSg (env ++ e) q.2.1 (zs ++ zs') ∧ kSr (ren ++ u) q.2.2 (as ++ as')
  | [], env, zs, ren, as, S, sg, sr, q, h, hs, hr, hp => by
    cases hp
    exact ⟨[], [], [], [], by rw [List.append_nil, List.append_nil]; exact h, by rw [List.append_nil, List.append_nil]; exact hs, by rw [List.append_nil, List.append_nil]; exact hr⟩
  | b :: bs, env, zs, ren, as, S, sg, sr, q, h, hs, hr, hp => by
    unfold kbind at hp
    cases h1 : kbind1 tt S sg sr b with
    | none => rw [h1] at hp; cases hp
    | some q1 =>
      simp only [h1] at hp
      obtain ⟨e, u, zs', as', g1, g2, g3⟩ := kbind1_ok hTy hG h hs hr h1
      obtain ⟨e2, u2, zs2, as2, g4, g5, g6⟩ := kbind_ok hTy hG g1 g2 g3 hp
      exact ⟨e ++ e2, u ++ u2, zs' ++ zs2, as' ++ as2, by rw [← List.append_assoc, ← List.append_assoc]; exact g4, by rw [← List.append_assoc, ← List.append_assoc]; exact g5, by rw [← List.append_assoc, ← List.append_assoc]; exact g6⟩
end
section
/-! CONTRACTS. A case: symbols more (their intervals), references more (their types), the answer, facts, constraints, where the symbols are found.
A contract: the method's number, what it wants, where the symbols are found, its cases, what it writes, its depth -/
abbrev kCs : Type := kQ × List Nat × Option kV × List kF × List kL × List kB
abbrev kCt : Type := Nat × kS × List kB × List kCs × kW × Nat
def kcsT (P : kS) (q : kCs) : kS := (P.1 ++ q.1, P.2.1 ++ q.2.1, (match q.2.2.1 with
  | some v => [(0, v)]
  | none => []), [], q.2.2.2.1, q.2.2.2.2.1)
def kans (v : Option Value) : List (Nat × Value) := match v with
  | some x => [(0, x)]
  | none => []
/-- the locals of a call -/
def kcat (v : kV) (i : Nat) : Nat := match v with
  | .inr (.inl _) => i + 2
  | _ => i + 1
theorem kcat_ok {env : List Int} {ren : List Nat} {v : kV} {x : Value} {i : Nat} (h : kvok env ren v x) : kcat v i = (if x.category = 2 then i + 2 else i + 1) := by
  match v, h with
  | .inl f, ⟨n, e, _⟩ => subst e; rfl
  | .inr (.inl f), ⟨n, e, _⟩ => subst e; rfl
  | .inr (.inr (.inl f)), ⟨n, e, _⟩ => subst e; rfl
  | .inr (.inr (.inr f)), ⟨n, _, _, e, _⟩ => subst e; rfl
def klocs : Nat → List kV → List (Nat × kV)
  | _, [] => []
  | i, v :: vs => (i, v) :: klocs (kcat v i) vs
theorem klocs_ok {env : List Int} {ren : List Nat} : ∀ {avs : List kV} {vs : List Value} {i : Nat}, kStk env ren avs vs → kLoc env ren (klocs i avs) (lv_args i vs)
  | [], [], i, _ => trivial
  | [], _ :: _, i, h => h.elim
  | _ :: _, [], i, h => h.elim
  | v :: avs, x :: vs, i, h => by
    refine ⟨rfl, h.1, ?_⟩
    rw [kcat_ok h.1]
    exact klocs_ok h.2
/-- what stays behind a call that writes w -/
def kkeepX (w : kW) : Bool := w.all (fun p => match Nat.beq p.1 40 with
  | true => false
  | false => match Nat.beq p.1 36 with
    | false => true
    | true => match p.2 with
      | none => false
      | some j => !(Nat.beq j 4 || Nat.beq j 8 || Nat.beq j 9 || Nat.beq j 10 || Nat.beq j 12))
def kkeepM (S : kS) (w : kW) (q : kF) : Bool := match S.2.1[q.1]? with
  | some t => match Nat.blt t 1000 with
    | true => w.all (fun p => match Nat.beq p.1 t with
      | true => match p.2 with
        | none => false
        | some j => kneS S q.2.1 (kcst (Int.ofNat j))
      | false => true)
    | false => false
  | none => false
def kkeepW (S : kS) (w : kW) (q : kF) : Bool := match kghx q.2.1 with
  | true => kkeepX w
  | false => kkeepM S w q
def ksyms : Nat → kQ → List kL
  | _, [] => []
  | n, _ :: t => ksym n :: ksyms (n + 1) t
def krefs : Nat → List Nat → List Nat
  | _, [] => []
  | n, _ :: t => n :: krefs (n + 1) t
def kaddF (sg : List kL) (sr : List Nat) : List kF → List kF → List kF
  | [], fa => fa
  | q :: t, fa => match sr[q.1]?, ksubst sg q.2.1, ksubV sg sr q.2.2 with
    | some r, some x, some v => (r, x, v) :: kaddF sg sr t fa
    | _, _, _ => kaddF sg sr t fa
def kaddC (sg : List kL) : List kL → kS → Option kS
  | [], S => some S
  | f :: t, S => match ksubst sg f with
    | some g => match kasmS S g with
      | some S' => kaddC sg t S'
      | none => none
    | none => kaddC sg t S
/-- the state behind a call, by one case: none: it falls; some []: the case can't be -/
def kcase (lo : List (Nat × kV)) (rest : List kV) (S2 : kS) (sg : List kL) (sr : List Nat) (w : kW) (q : kCs) : Option (List kS) :=
  match q.2.2.1 with
  | none => match kaddC (sg ++ ksyms S2.1.length q.1) q.2.2.2.2.1 (S2.1 ++ q.1, S2.2.1 ++ q.2.1, lo, rest, kaddF (sg ++ ksyms S2.1.length q.1) (sr ++ krefs S2.2.1.length q.2.1) q.2.2.2.1 (S2.2.2.2.2.1.filter (kkeepW S2 w)), S2.2.2.2.2.2) with
    | some S' => some [S']
    | none => some []
  | some v => match ksubV (sg ++ ksyms S2.1.length q.1) (sr ++ krefs S2.2.1.length q.2.1) v with
    | none => none
    | some v' => match kaddC (sg ++ ksyms S2.1.length q.1) q.2.2.2.2.1 (S2.1 ++ q.1, S2.2.1 ++ q.2.1, lo, v' :: rest, kaddF (sg ++ ksyms S2.1.length q.1) (sr ++ krefs S2.2.1.length q.2.1) q.2.2.2.1 (S2.2.2.2.2.1.filter (kkeepW S2 w)), S2.2.2.2.2.2) with
      | some S' => some [S']
      | none => some []
def kcases (lo : List (Nat × kV)) (rest : List kV) (S2 : kS) (sg : List kL) (sr : List Nat) (w : kW) : List kCs → Option (List kS)
  | [] => some []
  | q :: t => match kcase lo rest S2 sg sr w q, kcases lo rest S2 sg sr w t with
    | some a, some b => some (a ++ b)
    | _, _ => none
/-- a call of a method by a contract -/
def kcall (tt : List kT) (S : kS) (avs rest : List kV) (C : kCt) : Option (List kS) := match kbind tt C.2.2.1 (S.1, S.2.1, klocs 0 avs, [], S.2.2.2.2) [] [] with
  | some q => match kch q.1 q.2.1 q.2.2 C.2.1 with
    | true => kcases S.2.2.1 rest q.1 q.2.1 q.2.2 C.2.2.2.2.1 C.2.2.2.1
    | false => none
  | none => none
section KCALL
variable {D : va_G} {cA : Nat → ClassId} {tt : List kT} {Ty : Nat → Nat → Prop} {env zs : List Int} {ren as : List Nat} {S : kS} {H H1 : Heap} {lv : List (Nat × Value)} {st : List Value} {sg : List kL} {sr : List Nat}
theorem ksyms_ok : ∀ {q : kQ} {e pre : List Int} {l : List kL} {m : List Int}, q.length = e.length → kSg (pre ++ e) l m → kSg (pre ++ e) (l ++ ksyms pre.length q) (m ++ e)
  | [], [], pre, l, m, _, h => by simpa [ksyms] using h
  | [], _ :: _, pre, l, m, hl, h => by simp at hl
  | _ :: _, [], pre, l, m, hl, h => by simp at hl
  | a :: q, z :: e, pre, l, m, hl, h => by
    have h1 : kSg (pre ++ z :: e) (l ++ [ksym pre.length]) (m ++ [z]) := kSg_push (ksym_ev (by simp)) h
    have e1 : pre ++ z :: e = (pre ++ [z]) ++ e := by simp
    have h2 := ksyms_ok (q := q) (e := e) (pre := pre ++ [z]) (l := l ++ [ksym pre.length]) (m := m ++ [z]) (by simpa using hl) (by rw [← e1]; exact h1)
    rw [← e1] at h2
    simpa [ksyms] using h2
theorem krefs_ok : ∀ {q : List Nat} {e pre : List Nat} {l m : List Nat}, q.length = e.length → kSr (pre ++ e) l m → kSr (pre ++ e) (l ++ krefs pre.length q) (m ++ e)
  | [], [], pre, l, m, _, h => by simpa [krefs] using h
  | [], _ :: _, pre, l, m, hl, h => by simp at hl
  | _ :: _, [], pre, l, m, hl, h => by simp at hl
  | a :: q, z :: e, pre, l, m, hl, h => by
    have h1 : kSr (pre ++ z :: e) (l ++ [pre.length]) (m ++ [z]) := kSr_push (by simp) h
    have e1 : pre ++ z :: e = (pre ++ [z]) ++ e := by simp
    have h2 := krefs_ok (q := q) (e := e) (pre := pre ++ [z]) (l := l ++ [pre.length]) (m := m ++ [z]) (by simpa using hl) (by rw [← e1]; exact h1)
    rw [← e1] at h2
    simpa [krefs] using h2
theorem kaddC_ok (hs : kSg env sg zs) : ∀ {l : List kL} {S : kS}, kst D cA tt Ty env ren S H lv st → kC zs l → ∃ S', kaddC sg l S = some S' ∧ kst D cA tt Ty env ren S' H lv st
  | [], S, h, _ => ⟨S, rfl, h⟩
  | f :: t, S, h, hc => by
    have hc' : kC zs t := fun g hg => hc g (List.mem_cons_of_mem _ hg)
    unfold kaddC
    cases h1 : ksubst sg f with
    | none => exact kaddC_ok hs h hc'
    | some g =>
      obtain ⟨z, e1, e2⟩ := ksubst_ok hs h1
      obtain ⟨z', e3, e4⟩ := hc f List.mem_cons_self
      have e : z' = z := Option.some.inj (e3.symm.trans e1)
      subst e
      obtain ⟨S', g1, g2⟩ := kasmS_ok h e2 e4
      simp only [g1]
      exact kaddC_ok hs g2 hc'
theorem kaddF_ok (hTy : kTyp tt Ty) (hs : kSg env sg zs) (hr : kSr ren sr as) : ∀ {l fa : List kF}, (∀ q ∈ l, kfok D cA tt Ty zs as H q) → (∀ q ∈ fa, kfok D cA tt Ty env ren H q) → ∀ q ∈ kaddF sg sr l fa, kfok D cA tt Ty env ren H q
  | [], fa, _, h => h
  | p :: t, fa, hl, h => by
    have ih := kaddF_ok hTy hs hr (l := t) (fa := fa) (fun q hq => hl q (List.mem_cons_of_mem _ hq)) h
    intro q hq
    unfold kaddF at hq
    split at hq
    · rename_i r x v h1 h2 h3
      rcases List.mem_cons.mp hq with rfl | hq
      · have hf := hl p List.mem_cons_self
        cases hgx : kghx p.2.1 with
        | true =>
          have ex := ksubst_gh h2 hgx
          subst ex
          unfold kfok at hf ⊢
          rw [hgx] at hf
          rw [show kghx (kcst 5000) = true from rfl]
          obtain ⟨a, b, T, Tt, V, Vt, f, f1, f2, f3, f4, f5, f6, f7, f8, f9, f10⟩ := hf
          obtain ⟨a', g1, g2⟩ := kSr_at hr h1
          have ea : a' = a := Option.some.inj (g1.symm.trans f1)
          subst ea
          rw [f9] at h3
          unfold ksubV at h3
          cases h4 : ksubst sg f with
          | none => simp [h4] at h3
          | some g =>
            simp only [h4] at h3
            obtain rfl := Option.some.inj h3
            obtain ⟨z, e1, e2⟩ := ksubst_ok hs h4
            exact ⟨a', b, T, Tt, V, Vt, g, g2, f2, f3, f4, f5, f6, f7, f8, rfl, by rw [e2, ← e1]; exact f10⟩
        | false =>
        obtain ⟨a, t', T, V, z, f1, f2, f3, f4, f5, f6, f7⟩ := kfok_N hf hgx
        obtain ⟨a', g1, g2⟩ := kSr_at hr h1
        have ea : a' = a := Option.some.inj (g1.symm.trans f1)
        subst ea
        obtain ⟨z', g3, g4⟩ := ksubst_ok hs h2
        have ez : z' = (z : Int) := Option.some.inj (g3.symm.trans f5)
        subst ez
        exact kfok_mk hTy ⟨a', t', T, V, z, g2, f2, f3, f4, g4, f6, (ksubV_ok hs hr h3).mp f7⟩
      · exact ih q hq
    · exact ih q hq
theorem kkeepW_ok {lo : Nat} {w : kW} {q : kF} (hTy : kTyp tt Ty) (h : kst D cA tt Ty env ren S H lv st) (hk : kkp D cA tt Ty w H H1) (hq : kfok D cA tt Ty env ren H q) (hw : kkeepW S w q = true) : kfok D cA tt Ty env ren H1 q := by
  unfold kkeepW at hw
  cases hgx : kghx q.2.1 with
  | true =>
    rw [hgx] at hw
    dsimp only at hw
    unfold kfok at hq ⊢
    rw [hgx] at hq ⊢
    dsimp only at hq ⊢
    have kx : ∀ p ∈ w, p.1 ≠ 40 ∧ (p.1 = 36 → p.2 ≠ none ∧ p.2 ≠ some 4 ∧ p.2 ≠ some 8 ∧ p.2 ≠ some 9 ∧ p.2 ≠ some 10 ∧ p.2 ≠ some 12) := by
      intro p hp
      have h3 := List.all_eq_true.mp hw p hp
      cases g1 : Nat.beq p.1 40 with
      | true => simp [g1] at h3
      | false =>
        simp only [g1] at h3
        refine ⟨fun e => (by rw [e] at g1; cases g1), fun e => ?_⟩
        rw [e] at h3
        rw [show Nat.beq 36 36 = true from rfl] at h3
        dsimp only at h3
        cases g2 : p.2 with
        | none => simp [g2] at h3
        | some j =>
          simp only [g2] at h3
          refine ⟨by simp, ?_, ?_, ?_, ?_, ?_⟩ <;> intro e2 <;> cases e2 <;> cases h3
    refine kfokG_kept hq (fun a T V ht hT hc => ?_) (fun b T V ht hT hc => ?_)
    · have l38 := hTy.2.2.2.1 T hT
      obtain ⟨V', c1, e4⟩ := hk a 36 T V 4 ht hT hc (by omega) (fun p hp e => ⟨((kx p hp).2 e).1, ((kx p hp).2 e).2.1⟩)
      obtain ⟨V8, c8, e8⟩ := hk a 36 T V 8 ht hT hc (by omega) (fun p hp e => ⟨((kx p hp).2 e).1, ((kx p hp).2 e).2.2.1⟩)
      obtain ⟨V9, c9, e9⟩ := hk a 36 T V 9 ht hT hc (by omega) (fun p hp e => ⟨((kx p hp).2 e).1, ((kx p hp).2 e).2.2.2.1⟩)
      obtain ⟨V10, c10, e10⟩ := hk a 36 T V 10 ht hT hc (by omega) (fun p hp e => ⟨((kx p hp).2 e).1, ((kx p hp).2 e).2.2.2.2.1⟩)
      obtain ⟨V12, c12, e12⟩ := hk a 36 T V 12 ht hT hc (by omega) (fun p hp e => ⟨((kx p hp).2 e).1, ((kx p hp).2 e).2.2.2.2.2⟩)
      exact ⟨V', c1, e4, (kcell_uniq c1 c8 (by omega)).trans e8, (kcell_uniq c1 c9 (by omega)).trans e9, (kcell_uniq c1 c10 (by omega)).trans e10, (kcell_uniq c1 c12 (by omega)).trans e12⟩
    · have l900 := hTy.2.2.2.2 T hT
      obtain ⟨V', c1, -⟩ := hk b 40 T V 0 ht hT hc (by omega) (fun p hp e => absurd e (kx p hp).1)
      refine ⟨V', c1, fun j hj => ?_⟩
      obtain ⟨V2, c2, e2⟩ := hk b 40 T V j ht hT hc (by omega) (fun p hp e => absurd e (kx p hp).1)
      exact (kcell_uniq c1 c2 (by omega)).trans e2
  | false =>
  rw [hgx] at hw
  dsimp only at hw
  obtain ⟨a, t, T, V, z, f1, f2, f3, f4, f5, f6, f7⟩ := kfok_N hq hgx
  unfold kkeepM at hw
  cases h1 : S.2.1[q.1]? with
  | none => rw [h1] at hw; cases hw
  | some t' =>
    simp only [h1] at hw
    cases h2 : Nat.blt t' 1000 with
    | false => rw [h2] at hw; cases hw
    | true =>
      simp only [h2] at hw
      have ft := h.2.2.1.2 q.1 t' a h1 f1
      have l1 : t' < 1000 := Nat.blt_eq.mp h2
      have l2 : t < 1000 := Nat.lt_of_lt_of_le (List.getElem?_eq_some_iff.mp f3).1 hTy.2.1
      have e := hTy.1 _ _ _ l1 l2 ft f2
      subst e
      obtain ⟨V', c1, c2⟩ := hk a t' T V z f2 f3 f4 f6 (fun p hp e => by
        have h3 := List.all_eq_true.mp hw p hp
        have e2 : Nat.beq p.1 t' = true := Nat.beq_eq.mpr e
        simp only [e2] at h3
        cases h4 : p.2 with
        | none => simp [h4] at h3
        | some j =>
          simp only [h4] at h3
          have := kneS_ok h f5 kcst_ev h3
          refine ⟨by simp, fun e3 => this ?_⟩
          have e4 := Option.some.inj e3
          subst e4
          rfl)
      exact kfok_mk hTy ⟨a, t', T, V', z, f1, f2, f3, c1, f5, f6, by rw [c2]; exact f7⟩
/-- behind a call -/
theorem kcase_ok {lo : Nat} {locs : List (Nat × kV)} {rest : List kV} {P : kS} {w : kW} {q : kCs} {v : Option Value} {e : List Int} {u : List Nat} {L : List kS} {lv0 : List (Nat × Value)} {st0 : List Value} (hTy : kTyp tt Ty) (h : kst D cA tt Ty env ren S H lv0 st0) (hs : kSg env sg zs) (hr : kSr ren sr as) (hP : kI zs P.1) (hPr : kRt Ty as P.2.1) (hk : kkp D cA tt Ty w H H1)
    (hl : kLoc env ren locs lv) (hst : kStk env ren rest st) (hq : kst D cA tt Ty (zs ++ e) (as ++ u) (kcsT P q) H1 (kans v) []) (hc : kcase locs rest S sg sr w q = some L) : ∃ S' ∈ L, kst D cA tt Ty (env ++ e) (ren ++ u) S' H1 lv (v.toList ++ st) := by
  obtain ⟨a1, a2, a3, a4, a5, a6⟩ := hq
  have le : q.1.length = e.length := by
    have := a1.1
    have := hP.1
    simp [kcsT] at *
    omega
  have lu : q.2.1.length = u.length := by
    have := a3.1
    have := hPr.1
    simp [kcsT] at *
    omega
  have hs' : kSg (env ++ e) (sg ++ ksyms S.1.length q.1) (zs ++ e) := by
    rw [← h.1.1]
    exact ksyms_ok le (kSg_ext hs)
  have hr' : kSr (ren ++ u) (sr ++ krefs S.2.1.length q.2.1) (as ++ u) := by
    rw [← h.2.2.1.1]
    exact krefs_ok lu (kSr_ext hr)
  have hI : kI (env ++ e) (S.1 ++ q.1) := by
    refine ⟨by simp [h.1.1, le], fun k r z hk hz => ?_⟩
    by_cases hlt : k < S.1.length
    · rw [List.getElem?_append_left hlt] at hk
      rw [List.getElem?_append_left (by rw [h.1.1]; exact hlt)] at hz
      exact h.1.2 k r z hk hz
    · rw [List.getElem?_append_right (by omega)] at hk
      rw [List.getElem?_append_right (by rw [h.1.1]; omega), h.1.1] at hz
      have b1 : (P.1 ++ q.1)[P.1.length + (k - S.1.length)]? = some r := by
        rw [List.getElem?_append_right (by omega)]
        simpa using hk
      have b2 : (zs ++ e)[P.1.length + (k - S.1.length)]? = some z := by
        rw [← hP.1, List.getElem?_append_right (by omega)]
        simpa using hz
      exact a1.2 _ r z b1 b2
  have hR : kRt Ty (ren ++ u) (S.2.1 ++ q.2.1) := by
    refine ⟨by simp [h.2.2.1.1, lu], fun k r z hk hz => ?_⟩
    by_cases hlt : k < S.2.1.length
    · rw [List.getElem?_append_left hlt] at hk
      rw [List.getElem?_append_left (by rw [h.2.2.1.1]; exact hlt)] at hz
      exact h.2.2.1.2 k r z hk hz
    · rw [List.getElem?_append_right (by omega)] at hk
      rw [List.getElem?_append_right (by rw [h.2.2.1.1]; omega), h.2.2.1.1] at hz
      have b1 : (P.2.1 ++ q.2.1)[P.2.1.length + (k - S.2.1.length)]? = some r := by
        rw [List.getElem?_append_right (by omega)]
        simpa using hk
      have b2 : (as ++ u)[P.2.1.length + (k - S.2.1.length)]? = some z := by
        rw [← hPr.1, List.getElem?_append_right (by omega)]
        simpa using hz
      exact a3.2 _ r z b1 b2
  have hF : ∀ p ∈ kaddF (sg ++ ksyms S.1.length q.1) (sr ++ krefs S.2.1.length q.2.1) q.2.2.2.1 (S.2.2.2.2.1.filter (kkeepW S w)), kfok D cA tt Ty (env ++ e) (ren ++ u) H1 p := by
    refine kaddF_ok hTy hs' hr' a6 (fun p hp => ?_)
    obtain ⟨p1, p2⟩ := List.mem_filter.mp hp
    exact kfok_ext (kkeepW_ok (lo := lo) hTy h hk (h.2.2.2.2.2 p p1) p2)
  unfold kcase at hc
  cases h1 : q.2.2.1 with
  | none =>
    simp only [h1] at hc
    have hv : v = none := by
      have a4 : kLoc (zs ++ e) (as ++ u) (match q.2.2.1 with
        | some v => [(0, v)]
        | none => []) (kans v) := a4
      rw [h1] at a4
      cases v with
      | none => rfl
      | some x => exact a4.elim
    subst hv
    obtain ⟨S', g1, g2⟩ := kaddC_ok (D := D) (cA := cA) (tt := tt) (Ty := Ty) (ren := ren ++ u) (H := H1) (lv := lv) (st := st) hs' (S := (S.1 ++ q.1, S.2.1 ++ q.2.1, locs, rest, kaddF (sg ++ ksyms S.1.length q.1) (sr ++ krefs S.2.1.length q.2.1) q.2.2.2.1 (S.2.2.2.2.1.filter (kkeepW S w)), S.2.2.2.2.2)) ⟨hI, kC_ext h.2.1, hR, kLoc_ext hl, kStk_ext hst, hF⟩ a2
    rw [show kaddC (sg ++ ksyms S.1.length q.1) q.2.2.2.2.1 _ = some S' from g1] at hc
    obtain rfl := Option.some.inj hc
    exact ⟨S', List.mem_cons_self, g2⟩
  | some b =>
    simp only [h1] at hc
    have a4 : kLoc (zs ++ e) (as ++ u) (match q.2.2.1 with
      | some v => [(0, v)]
      | none => []) (kans v) := a4
    rw [h1] at a4
    cases v with
    | none => exact a4.elim
    | some x =>
      have hx : kvok (zs ++ e) (as ++ u) b x := a4.2.1
      cases h2 : ksubV (sg ++ ksyms S.1.length q.1) (sr ++ krefs S.2.1.length q.2.1) b with
      | none => simp [h2] at hc
      | some b' =>
        simp only [h2] at hc
        have hx' := (ksubV_ok hs' hr' h2).mp hx
        obtain ⟨S', g1, g2⟩ := kaddC_ok (D := D) (cA := cA) (tt := tt) (Ty := Ty) (ren := ren ++ u) (H := H1) (lv := lv) (st := x :: st) hs' (S := (S.1 ++ q.1, S.2.1 ++ q.2.1, locs, b' :: rest, kaddF (sg ++ ksyms S.1.length q.1) (sr ++ krefs S.2.1.length q.2.1) q.2.2.2.1 (S.2.2.2.2.1.filter (kkeepW S w)), S.2.2.2.2.2)) ⟨hI, kC_ext h.2.1, hR, kLoc_ext hl, ⟨hx', kStk_ext hst⟩, hF⟩ a2
        rw [show kaddC (sg ++ ksyms S.1.length q.1) q.2.2.2.2.1 _ = some S' from g1] at hc
        obtain rfl := Option.some.inj hc
        exact ⟨S', List.mem_cons_self, g2⟩
theorem kcases_mem {locs : List (Nat × kV)} {rest : List kV} {w : kW} {q : kCs} : ∀ {l : List kCs} {L : List kS}, kcases locs rest S sg sr w l = some L → q ∈ l → ∃ L', kcase locs rest S sg sr w q = some L' ∧ ∀ S' ∈ L', S' ∈ L
  | [], L, _, hq => by cases hq
  | p :: t, L, h, hq => by
    unfold kcases at h
    split at h
    · rename_i a b h1 h2
      obtain rfl := Option.some.inj h
      rcases List.mem_cons.mp hq with rfl | hq
      · exact ⟨a, h1, fun S' hS => List.mem_append_left _ hS⟩
      · obtain ⟨L', g1, g2⟩ := kcases_mem h2 hq
        exact ⟨L', g1, fun S' hS => List.mem_append_right _ (g2 S' hS)⟩
    · cases h
end KCALL
end
section
/-! ONE INSTRUCTION, without the heap: one state behind it -/
abbrev kOw : Type := List (Nat × Nat × Nat × Nat) × List (Nat × Int) × List (Nat × Int) × List (Nat × Nat) × List (Nat × Nat × Nat × Nat × Nat)
def kfnd {α : Type} (l : List (Nat × α)) (i : Nat) : Option α := match l with
  | [] => none
  | q :: t => match Nat.beq q.1 i with
    | true => some q.2
    | false => kfnd t i
theorem kfnd_mem {α : Type} : ∀ {l : List (Nat × α)} {i : Nat} {v : α}, kfnd l i = some v → (i, v) ∈ l
  | [], i, v, h => by cases h
  | q :: t, i, v, h => by
    unfold kfnd at h
    cases h1 : Nat.beq q.1 i with
    | false => rw [h1] at h; exact List.mem_cons_of_mem _ (kfnd_mem h)
    | true =>
      rw [h1] at h
      have e1 := Nat.beq_eq.mp h1
      have e3 : q.2 = v := Option.some.inj h
      subst e1; subst e3
      exact List.mem_cons_self
def kpsh (S : kS) (v : kV) (st : List kV) : kS := (S.1, S.2.1, S.2.2.1, v :: st, S.2.2.2.2)
/-- an answer of arithmetic onto the stack -/
def kpres (S : kS) (mk : kL → kV) (r : kRes) (st : List kV) : kS := match r with
  | .inl f => kpsh S (mk f) st
  | .inr q => match kz (q.2 - q.1) with
    | true => kpsh S (mk (kcst q.1)) st
    | false => kpsh (kpush S q) (mk (ksym S.1.length)) st
def klong (v : kV) : Bool := match v with
  | .inr (.inl _) => true
  | _ => false
def kput1 (l : List (Nat × kV)) (i : Nat) (v : kV) : List (Nat × kV) := (i, v) :: l.filter (fun q => !(q.1 == i) && !(q.1 + 1 == i && klong q.2))
def kput2 (l : List (Nat × kV)) (i : Nat) (v : kV) : List (Nat × kV) := (i, v) :: l.filter (fun q => !(q.1 == i) && (!(q.1 == i + 1) && !(q.1 + 1 == i && klong q.2)))
def ksloc (S : kS) (l : List (Nat × kV)) (st : List kV) : kS := (S.1, S.2.1, l, st, S.2.2.2.2)
def kin (n lo hi : Int) : Bool := match knn (n - lo) with
  | true => knn (hi - n)
  | false => false
def kload1 (S : kS) (i : Nat) (c : Nat) : Option kS := match klocv S.2.2.1 i with
  | some (.inl f) => match c with
    | 0 => some (kpsh S (.inl f) S.2.2.2.1)
    | _ => none
  | some (.inr (.inl f)) => match c with
    | 1 => some (kpsh S (.inr (.inl f)) S.2.2.2.1)
    | _ => none
  | some (.inr (.inr (.inl r))) => match c with
    | 2 => some (kpsh S (.inr (.inr (.inl r))) S.2.2.2.1)
    | _ => none
  | _ => none
def kstor1 (S : kS) (nL i : Nat) (c : Nat) : Option kS := match S.2.2.2.1 with
  | .inl f :: st => match c with
    | 0 => match Nat.blt i nL with
      | true => some (ksloc S (kput1 S.2.2.1 i (.inl f)) st)
      | false => none
    | _ => none
  | .inr (.inl f) :: st => match c with
    | 1 => match Nat.blt (i + 1) nL with
      | true => some (ksloc S (kput2 S.2.2.1 i (.inr (.inl f))) st)
      | false => none
    | _ => none
  | .inr (.inr (.inl r)) :: st => match c with
    | 2 => match Nat.blt i nL with
      | true => some (ksloc S (kput1 S.2.2.1 i (.inr (.inr (.inl r)))) st)
      | false => none
    | _ => none
  | _ => none
section KS1
variable {D : va_G} {cA : Nat → ClassId} {tt : List kT} {Ty : Nat → Nat → Prop} {env : List Int} {ren : List Nat} {S : kS} {H : Heap} {lv : List (Nat × Value)} {st : List Value}
theorem kpsh_ok {v : kV} {x : Value} {sa : List kV} {sc : List Value} (h : kst D cA tt Ty env ren S H lv st) (hv : kvok env ren v x) (hs : kStk env ren sa sc) : kst D cA tt Ty env ren (kpsh S v sa) H lv (x :: sc) := ⟨h.1, h.2.1, h.2.2.1, h.2.2.2.1, ⟨hv, hs⟩, h.2.2.2.2.2⟩
theorem kpres_i {r : kRes} {n : Int32} {sa : List kV} {sc : List Value} (h : kst D cA tt Ty env ren S H lv st) (hs : kStk env ren sa sc) (hr : kresok env r n.toInt) : ∃ x u, kst D cA tt Ty (env ++ x) (ren ++ u) (kpres S (fun f => .inl f) r sa) H lv (.int n :: sc) := by
  unfold kpres
  match r, hr with
  | .inl f, hr => exact ⟨[], [], by rw [List.append_nil, List.append_nil]; exact kpsh_ok h ⟨n, rfl, hr⟩ hs⟩
  | .inr q, hr =>
    dsimp only
    cases hz : kz (q.2 - q.1) with
    | true =>
      have e := kz_iff.mp hz
      have e2 : kev env (kcst q.1) = some n.toInt := by
        rw [kcst_ev]
        congr 1
        have := hr.1
        have := hr.2
        omega
      exact ⟨[], [], by rw [List.append_nil, List.append_nil]; exact kpsh_ok h ⟨n, rfl, e2⟩ hs⟩
    | false =>
      obtain ⟨g1, g2⟩ := kpush_ok (q := q) h hr.1 hr.2
      exact ⟨[n.toInt], [], kpsh_ok g1 ⟨n, rfl, g2⟩ (kStk_ext hs)⟩
theorem kpres_l {r : kRes} {n : Int64} {sa : List kV} {sc : List Value} (h : kst D cA tt Ty env ren S H lv st) (hs : kStk env ren sa sc) (hr : kresok env r n.toInt) : ∃ x u, kst D cA tt Ty (env ++ x) (ren ++ u) (kpres S (fun f => .inr (.inl f)) r sa) H lv (.long n :: sc) := by
  unfold kpres
  match r, hr with
  | .inl f, hr => exact ⟨[], [], by rw [List.append_nil, List.append_nil]; exact kpsh_ok h ⟨n, rfl, hr⟩ hs⟩
  | .inr q, hr =>
    dsimp only
    cases hz : kz (q.2 - q.1) with
    | true =>
      have e := kz_iff.mp hz
      have e2 : kev env (kcst q.1) = some n.toInt := by
        rw [kcst_ev]
        congr 1
        have := hr.1
        have := hr.2
        omega
      exact ⟨[], [], by rw [List.append_nil, List.append_nil]; exact kpsh_ok h ⟨n, rfl, e2⟩ hs⟩
    | false =>
      obtain ⟨g1, g2⟩ := kpush_ok (q := q) h hr.1 hr.2
      exact ⟨[n.toInt], [], kpsh_ok g1 ⟨n, rfl, g2⟩ (kStk_ext hs)⟩
theorem klong_ok {v : kV} {x : Value} (h : kvok env ren v x) : klong v = (x.category == 2) := by
  match v, h with
  | .inl f, ⟨n, e, _⟩ => subst e; rfl
  | .inr (.inl f), ⟨n, e, _⟩ => subst e; rfl
  | .inr (.inr (.inl f)), ⟨n, e, _⟩ => subst e; rfl
  | .inr (.inr (.inr f)), ⟨n, _, _, e, _⟩ => subst e; rfl
theorem kLoc_filter {pa : Nat × kV → Bool} {pb : Nat × Value → Bool} (hp : ∀ i v x, kvok env ren v x → pa (i, v) = pb (i, x)) : ∀ {l : List (Nat × kV)} {m : List (Nat × Value)}, kLoc env ren l m → kLoc env ren (l.filter pa) (m.filter pb)
  | [], [], _ => trivial
  | a :: l, [], h => h.elim
  | [], _ :: _, h => h.elim
  | a :: l, b :: m, h => by
    obtain ⟨a1, a2⟩ := a
    obtain ⟨b1, b2⟩ := b
    have e1 : a1 = b1 := h.1
    subst e1
    have e := hp a1 a2 b2 h.2.1
    have ih := kLoc_filter hp h.2.2
    cases hb : pb (a1, b2) with
    | true =>
      rw [List.filter_cons_of_pos (by rw [e]; exact hb), List.filter_cons_of_pos hb]
      exact ⟨rfl, h.2.1, ih⟩
    | false =>
      rw [List.filter_cons_of_neg (by rw [e, hb]; decide), List.filter_cons_of_neg (by rw [hb]; decide)]
      exact ih
theorem kput1_ok {l : List (Nat × kV)} {m : List (Nat × Value)} {i : Nat} {v : kV} {x : Value} (h : kLoc env ren l m) (hv : kvok env ren v x) : kLoc env ren (kput1 l i v) ((i, x) :: m.filter (fun q => !(q.1 == i) && !(q.1 + 1 == i && q.2.category == 2))) :=
  ⟨rfl, hv, kLoc_filter (fun j w y hw => by rw [klong_ok hw]) h⟩
theorem kput2_ok {l : List (Nat × kV)} {m : List (Nat × Value)} {i : Nat} {v : kV} {x : Value} (h : kLoc env ren l m) (hv : kvok env ren v x) : kLoc env ren (kput2 l i v) ((i, x) :: m.filter (fun q => !(q.1 == i) && (!(q.1 == i + 1) && !(q.1 + 1 == i && q.2.category == 2)))) :=
  ⟨rfl, hv, kLoc_filter (fun j w y hw => by rw [klong_ok hw]) h⟩
end KS1
/-- one instruction, one state behind it, how long it is -/
def kstep1 (ow : kOw) (nL : Nat) (ins : Instr) (S : kS) : Option kS := match ins with
  | .iconst n => match kin n (-2147483648) 2147483647 with
    | true => some (kpsh S (.inl (kcst n)) S.2.2.2.1)
    | false => none
  | .bipush n => match kin n (-128) 127 with
    | true => some (kpsh S (.inl (kcst n)) S.2.2.2.1)
    | false => none
  | .sipush n => match kin n (-32768) 32767 with
    | true => some (kpsh S (.inl (kcst n)) S.2.2.2.1)
    | false => none
  | .lconst n => some (kpsh S (.inr (.inl (kcst (Int.ofNat n.val)))) S.2.2.2.1)
  | .ldc i => match kfnd ow.2.1 i with
    | some n => some (kpsh S (.inl (kcst n)) S.2.2.2.1)
    | none => match kfnd ow.2.2.2.1 i with
      | some t => some (kpsh (kpushR S t) (.inr (.inr (.inl S.2.1.length))) S.2.2.2.1)
      | none => none
  | .ldc_w i => match kfnd ow.2.1 i with
    | some n => some (kpsh S (.inl (kcst n)) S.2.2.2.1)
    | none => none
  | .ldc2_w i => match kfnd ow.2.2.1 i with
    | some n => some (kpsh S (.inr (.inl (kcst n))) S.2.2.2.1)
    | none => none
  | .iload_n k => kload1 S k.val 0
  | .iload i => kload1 S i 0
  | .lload_n k => kload1 S k.val 1
  | .lload i => kload1 S i 1
  | .aload_n k => kload1 S k.val 2
  | .aload i => kload1 S i 2
  | .istore_n k => kstor1 S nL k.val 0
  | .istore i => kstor1 S nL i 0
  | .lstore_n k => kstor1 S nL k.val 1
  | .lstore i => kstor1 S nL i 1
  | .astore_n k => kstor1 S nL k.val 2
  | .astore i => kstor1 S nL i 2
  | .iinc i n => match klocv S.2.2.1 i with
    | some (.inl f) => match Nat.blt i nL with
      | true => match kin n (-2147483648) 2147483647 with
        | true => match kri S (kofs f n) k32 with
          | .inl g => some (ksloc S (kput1 S.2.2.1 i (.inl g)) S.2.2.2.1)
          | .inr q => some (ksloc (kpush S q) (kput1 S.2.2.1 i (.inl (ksym S.1.length))) S.2.2.2.1)
        | false => none
      | false => none
    | _ => none
  | .dup => match S.2.2.2.1 with
    | v :: st => match klong v with
      | false => some (kpsh S v (v :: st))
      | true => none
    | _ => none
  | .dup2 => match S.2.2.2.1 with
    | v :: w :: st => match klong v with
      | true => some (kpsh S v (v :: w :: st))
      | false => match klong w with
        | false => some (ksloc S S.2.2.1 (v :: w :: v :: w :: st))
        | true => none
    | [v] => match klong v with
      | true => some (kpsh S v [v])
      | false => none
    | _ => none
  | .pop => match S.2.2.2.1 with
    | v :: st => match klong v with
      | false => some (ksloc S S.2.2.1 st)
      | true => none
    | _ => none
  | .pop2 => match S.2.2.2.1 with
    | v :: st => match klong v with
      | true => some (ksloc S S.2.2.1 st)
      | false => none
    | _ => none
  | .ineg => match S.2.2.2.1 with
    | .inl f :: st => some (kpres S (fun g => .inl g) (kri S (kneg f) k32) st)
    | _ => none
  | .i2l => match S.2.2.2.1 with
    | .inl f :: st => some (kpsh S (.inr (.inl f)) st)
    | _ => none
  | .l2i => match S.2.2.2.1 with
    | .inr (.inl f) :: st => some (kpres S (fun g => .inl g) (kri S f k32) st)
    | _ => none
  | .i2b => match S.2.2.2.1 with
    | .inl f :: st => some (kpres S (fun g => .inl g) (kri S f (-128, 127)) st)
    | _ => none
  | .i2s => match S.2.2.2.1 with
    | .inl f :: st => some (kpres S (fun g => .inl g) (kri S f (-32768, 32767)) st)
    | _ => none
  | .lcmp => match S.2.2.2.1 with
    | .inr (.inl g) :: .inr (.inl f) :: st => some (kpsh S (.inr (.inr (.inr (f, g)))) st)
    | _ => none
  | .lshl => match S.2.2.2.1 with
    | .inl _ :: .inr (.inl _) :: st => some (kpres S (fun g => .inr (.inl g)) (.inr k64) st)
    | _ => none
  | .lshr => match S.2.2.2.1 with
    | .inl _ :: .inr (.inl _) :: st => some (kpres S (fun g => .inr (.inl g)) (.inr k64) st)
    | _ => none
  | _ => match S.2.2.2.1 with
    | .inl g :: .inl f :: st => match kib S f g ins with
      | some r => some (kpres S (fun g => .inl g) r st)
      | none => none
    | .inr (.inl g) :: .inr (.inl f) :: st => match klo S f g ins with
      | some r => some (kpres S (fun g => .inr (.inl g)) r st)
      | none => none
    | _ => none
def kln (ins : Instr) : Nat := match ins with
  | .bipush _ => 2
  | .sipush _ => 3
  | .ldc _ => 2
  | .ldc_w _ => 3
  | .ldc2_w _ => 3
  | .iload _ => 2
  | .lload _ => 2
  | .aload _ => 2
  | .istore _ => 2
  | .lstore _ => 2
  | .astore _ => 2
  | .iinc _ _ => 3
  | .ifCond _ _ => 3
  | .if_icmp _ _ => 3
  | .goto _ => 3
  | .getfield _ => 3
  | .putfield _ => 3
  | .invokevirtual _ => 3
  | .invokestatic _ => 3
  | .invokespecial _ => 3
  | _ => 1
end
section
/-- the type of a String constant by its place: those of the first 17 are alike -/
def ksn (j : Nat) : Nat := match Nat.blt j 17 with
  | true => 1000
  | false => 1000 + j
/-- what the pool of a type's file says -/
def kOwC (own : String) (ow : kOw) (lw : List Cond) (sk : kSk) : Prop :=
  (∀ q ∈ ow.2.1, ∃ v : Int32, v.toInt = q.2 ∧ Cond.constant own q.1 v ∈ lw) ∧ (∀ q ∈ ow.2.2.1, ∃ v : Int64, v.toInt = q.2 ∧ Cond.constantLong own q.1 v ∈ lw) ∧ ∀ q ∈ ow.2.2.2.1, ∃ (j : Nat) (tx : String), sk[j]? = some (own, q.1, tx) ∧ q.2 = ksn j
section KS1OK
variable {p : Program} {l : Launch} {e : Env} {R : Room} {s : State} {m : MethodId} {args : Array Value} {below : List Frame} {meth : Method} {c : Code} {H : Heap} {locs : List Loc} {cells slots : Nat} {Q : State → Prop}
variable {cc : ByteArray} {pc : Nat} {ls : Array Slot} {rest : List Value} {cl : List vw_C} {aty : List FieldType} {nw lw : List Cond} {sk : kSk} {cA aS : Nat → Nat}
variable {D : va_G} {tt : List kT} {Ty : Nat → Nat → Prop} {env : List Int} {ren : List Nat} {S : kS} {lv : List (Nat × Value)} {st : List Value}
theorem r_ib (hexec : p.tables.exec = Jvm.exec) (hb : c.code = cc) {ins : Instr} {f g : kL} {r : kRes} {x y : Int32} (hk : kib S f g ins = some r) (hne : (ins = .idiv ∨ ins = .irem) → ¬ y = 0) (hdg : decode cc pc = .ok (ins, kln ins))
    (kk : W p l e R s m args below meth c H locs cells slots Q (F0 m (pc + kln ins) ls (.int (cib x y ins) :: rest))) : W p l e R s m args below meth c H locs cells slots Q (F0 m pc ls (.int y :: .int x :: rest)) := by
  unfold kib at hk
  split at hk
  · exact lv_iadd hexec hb hdg kk
  · exact lv_isub hexec hb hdg kk
  · exact lv_imul hexec hb hdg kk
  · exact lv_idiv hexec hb hdg (hne (Or.inl rfl)) kk
  · exact lv_irem hexec hb hdg (hne (Or.inr rfl)) kk
  · exact lv_iand hexec hb hdg kk
  · exact lv_ior hexec hb hdg kk
  · exact lv_ixor hexec hb hdg kk
  · exact lv_ishl hexec hb hdg kk
  · exact lv_ishr hexec hb hdg kk
  · exact lv_iushr hexec hb hdg rfl kk
  · cases hk
theorem r_lo (hexec : p.tables.exec = Jvm.exec) (hb : c.code = cc) {ins : Instr} {f g : kL} {r : kRes} {x y : Int64} (hk : klo S f g ins = some r) (hne : (ins = .ldiv ∨ ins = .lrem) → ¬ y = 0) (hdg : decode cc pc = .ok (ins, kln ins))
    (kk : W p l e R s m args below meth c H locs cells slots Q (F0 m (pc + kln ins) ls (.long (clo x y ins) :: rest))) : W p l e R s m args below meth c H locs cells slots Q (F0 m pc ls (.long y :: .long x :: rest)) := by
  unfold klo at hk
  split at hk
  · exact lv_ladd hexec hb hdg kk
  · exact lv_lsub hexec hb hdg kk
  · exact lv_lmul hexec hb hdg kk
  · exact lv_ldiv hexec hb hdg (hne (Or.inl rfl)) kk
  · exact lv_lrem hexec hb hdg (hne (Or.inr rfl)) kk
  · exact lv_land hexec hb hdg kk
  · exact lv_lor hexec hb hdg kk
  · cases hk
theorem kload1_ok {S' : kS} {i k : Nat} (h : kst D cA tt Ty env ren S H lv st) {nL : Nat} (hlv : lv_has ls nL lv) (hs : kload1 S i k = some S') : ∃ x, ls[i]? = some (.val x) ∧ kst D cA tt Ty env ren S' H lv (x :: st) ∧ (k = 0 → ∃ n, x = .int n) ∧ (k = 1 → ∃ n, x = .long n) ∧ (k = 2 → ∃ n, x = .ref n) := by
  unfold kload1 at hs
  split at hs
  · rename_i f h1
    obtain ⟨x, g1, g2⟩ := kLoc_mem h.2.2.2.1 (klocv_mem h1)
    split at hs
    · obtain rfl := Option.some.inj hs
      obtain ⟨n, e1, -⟩ := id g2
      exact ⟨x, hlv.2.2 _ g1, kpsh_ok h g2 h.2.2.2.2.1, fun _ => ⟨n, e1⟩, fun e => by omega, fun e => by omega⟩
    · cases hs
  · rename_i f h1
    obtain ⟨x, g1, g2⟩ := kLoc_mem h.2.2.2.1 (klocv_mem h1)
    split at hs
    · obtain rfl := Option.some.inj hs
      obtain ⟨n, e1, -⟩ := id g2
      exact ⟨x, hlv.2.2 _ g1, kpsh_ok h g2 h.2.2.2.2.1, fun e => by omega, fun _ => ⟨n, e1⟩, fun e => by omega⟩
    · cases hs
  · rename_i f h1
    obtain ⟨x, g1, g2⟩ := kLoc_mem h.2.2.2.1 (klocv_mem h1)
    split at hs
    · obtain rfl := Option.some.inj hs
      obtain ⟨n, e1, -⟩ := id g2
      exact ⟨x, hlv.2.2 _ g1, kpsh_ok h g2 h.2.2.2.2.1, fun e => by omega, fun e => by omega, fun _ => ⟨n, e1⟩⟩
    · cases hs
  · cases hs
theorem kstor1_i {S' : kS} {i nL : Nat} (h : kst D cA tt Ty env ren S H lv st) (hs : kstor1 S nL i 0 = some S') : ∃ n st', st = .int n :: st' ∧ i < nL ∧ kst D cA tt Ty env ren S' H ((i, .int n) :: lv.filter (fun q => !(q.1 == i) && !(q.1 + 1 == i && q.2.category == 2))) st' := by
  unfold kstor1 at hs
  have hk := h.2.2.2.2.1
  split at hs
  · rename_i f sa h1
    rw [h1] at hk
    cases st with
    | nil => exact hk.elim
    | cons x st' =>
      cases h2 : Nat.blt i nL with
      | false => simp [h2] at hs
      | true =>
        simp only [h2] at hs
        obtain rfl := Option.some.inj hs
        obtain ⟨n, e1, e2⟩ := hk.1
        subst e1
        exact ⟨n, st', rfl, Nat.blt_eq.mp h2, h.1, h.2.1, h.2.2.1, kput1_ok h.2.2.2.1 ⟨n, rfl, e2⟩, hk.2, h.2.2.2.2.2⟩
  · simp at hs
  · simp at hs
  · cases hs
theorem kstor1_l {S' : kS} {i nL : Nat} (h : kst D cA tt Ty env ren S H lv st) (hs : kstor1 S nL i 1 = some S') : ∃ n st', st = .long n :: st' ∧ i + 1 < nL ∧ kst D cA tt Ty env ren S' H ((i, .long n) :: lv.filter (fun q => !(q.1 == i) && (!(q.1 == i + 1) && !(q.1 + 1 == i && q.2.category == 2)))) st' := by
  unfold kstor1 at hs
  have hk := h.2.2.2.2.1
  split at hs
  · simp at hs
  · rename_i f sa h1
    rw [h1] at hk
    cases st with
    | nil => exact hk.elim
    | cons x st' =>
      cases h2 : Nat.blt (i + 1) nL with
      | false => simp [h2] at hs
      | true =>
        simp only [h2] at hs
        obtain rfl := Option.some.inj hs
        obtain ⟨n, e1, e2⟩ := hk.1
        subst e1
        exact ⟨n, st', rfl, Nat.blt_eq.mp h2, h.1, h.2.1, h.2.2.1, kput2_ok h.2.2.2.1 ⟨n, rfl, e2⟩, hk.2, h.2.2.2.2.2⟩
  · simp at hs
  · cases hs
theorem kstor1_r {S' : kS} {i nL : Nat} (h : kst D cA tt Ty env ren S H lv st) (hs : kstor1 S nL i 2 = some S') : ∃ n st', st = .ref n :: st' ∧ i < nL ∧ kst D cA tt Ty env ren S' H ((i, .ref n) :: lv.filter (fun q => !(q.1 == i) && !(q.1 + 1 == i && q.2.category == 2))) st' := by
  unfold kstor1 at hs
  have hk := h.2.2.2.2.1
  split at hs
  · simp at hs
  · simp at hs
  · rename_i f sa h1
    rw [h1] at hk
    cases st with
    | nil => exact hk.elim
    | cons x st' =>
      cases h2 : Nat.blt i nL with
      | false => simp [h2] at hs
      | true =>
        simp only [h2] at hs
        obtain rfl := Option.some.inj hs
        obtain ⟨n, e1, e2⟩ := hk.1
        subst e1
        exact ⟨n, st', rfl, Nat.blt_eq.mp h2, h.1, h.2.1, h.2.2.1, kput1_ok h.2.2.2.1 ⟨n, rfl, e2⟩, hk.2, h.2.2.2.2.2⟩
  · cases hs
theorem kin_ok {n lo hi : Int} (h : kin n lo hi = true) : lo ≤ n ∧ n ≤ hi := by
  unfold kin at h
  cases h1 : knn (n - lo) with
  | false => rw [h1] at h; cases h
  | true =>
    rw [h1] at h
    have := knn_iff.mp h1
    have := knn_iff.mp h
    omega
theorem k_cat {v : kV} {x : Value} (h : kvok env ren v x) {b : Bool} (hb : klong v = b) : x.category = (if b then 2 else 1) := by
  match v, h with
  | .inl f, ⟨n, e, _⟩ => subst e; subst hb; rfl
  | .inr (.inl f), ⟨n, e, _⟩ => subst e; subst hb; rfl
  | .inr (.inr (.inl f)), ⟨n, e, _⟩ => subst e; subst hb; rfl
  | .inr (.inr (.inr f)), ⟨n, _, _, e, _⟩ => subst e; subst hb; rfl
theorem k_ofInt {n : Int} (h1 : (-2147483648 : Int) ≤ n) (h2 : n ≤ 2147483647) : (Int32.ofInt n).toInt = n := by
  rw [Int32.toInt_ofInt]
  exact k32_bm h1 h2
end KS1OK
end
section
theorem k_lcmp (x y : Int64) : (lg_cmp x y).toInt = kcmp x.toInt y.toInt := by
  unfold kcmp lg_cmp
  by_cases h1 : y < x
  · have g1 := Int64.lt_iff_toInt_lt.mp h1
    have g2 : ¬ x.toInt < y.toInt := by omega
    have g3 : ¬ x.toInt = y.toInt := by omega
    simp [h1, g2, g3]
  · have g1 : ¬ y.toInt < x.toInt := fun g => h1 (Int64.lt_iff_toInt_lt.mpr g)
    by_cases h2 : x < y
    · have g2 := Int64.lt_iff_toInt_lt.mp h2
      have g4 : ¬ x = y := fun e => by rw [e] at g2; omega
      simp [h1, g2, g4]
    · have g2 : ¬ x.toInt < y.toInt := fun g => h2 (Int64.lt_iff_toInt_lt.mpr g)
      have g3 : x.toInt = y.toInt := by omega
      have e : x = y := Int64.toInt_inj.mp g3
      simp [g2, g3, h1, h2, e]
section KS1F
variable {p : Program} {l : Launch} {e : Env} {R : Room} {s : State} {m : MethodId} {args : Array Value} {below : List Frame} {meth : Method} {c : Code} {H : Heap} {locs : List Loc} {cells slots : Nat} {Q : State → Prop}
variable {cc : ByteArray} {pc : Nat} {ls : Array Slot} {cl : List vw_C} {aty : List FieldType} {nw lw : List Cond} {sk : kSk} {cA aS : Nat → Nat}
variable {D : va_G} {tt : List kT} {Ty : Nat → Nat → Prop} {env : List Int} {ren : List Nat} {S : kS} {lv : List (Nat × Value)} {st : List Value}
set_option maxHeartbeats 4000000 in
theorem kstep1_ok (hexec : p.tables.exec = Jvm.exec) (hb : c.code = cc) {own : String} {ow : kOw} {nL : Nat} {ins : Instr} {S' : kS} (hown : s.vm.findClass own = some m.cls) (hts : ∀ w ∈ lw, w.before args s = true) (how : kOwC own ow lw sk) (hK : kK cl aty nw sk D cA aS s) (hTyS : ∀ (j : Nat) (q : String × Nat × String), sk[j]? = some q → Ty (aS j) (ksn j))
    (h : kst D cA tt Ty env ren S H lv st) (hlv : lv_has ls nL lv) (hd : decode cc pc = .ok (ins, kln ins)) (hs : kstep1 ow nL ins S = some S')
    (kk : ∀ x u lv' st' ls', kst D cA tt Ty (env ++ x) (ren ++ u) S' H lv' st' → lv_has ls' nL lv' → W p l e R s m args below meth c H locs cells slots Q (F0 m (pc + kln ins) ls' st')) : W p l e R s m args below meth c H locs cells slots Q (F0 m pc ls st) := by
  have k0 : ∀ {lv' : List (Nat × Value)} {st' : List Value} {ls' : Array Slot}, kst D cA tt Ty env ren S' H lv' st' → lv_has ls' nL lv' → W p l e R s m args below meth c H locs cells slots Q (F0 m (pc + kln ins) ls' st') := fun g1 g2 => kk [] [] _ _ _ (by rw [List.append_nil, List.append_nil]; exact g1) g2
  have hk := h.2.2.2.2.1
  unfold kstep1 at hs
  split at hs
  -- iconst
  · rename_i n
    split at hs
    · rename_i hi
      obtain rfl := Option.some.inj hs
      obtain ⟨i1, i2⟩ := kin_ok hi
      exact lv_iconst hexec hb hd rfl (k0 (kpsh_ok h ⟨_, rfl, by rw [k_ofInt i1 i2]; exact kcst_ev⟩ hk) hlv)
    · cases hs
  -- bipush
  · rename_i n
    split at hs
    · rename_i hi
      obtain rfl := Option.some.inj hs
      obtain ⟨i1, i2⟩ := kin_ok hi
      exact lv_bipush hexec hb hd rfl (k0 (kpsh_ok h ⟨_, rfl, by
        rw [Int8.toInt_toInt32, Int8.toInt_ofInt, show Int8.size = 256 from rfl, Int.bmod_eq_of_le (by omega) (by omega)]
        exact kcst_ev⟩ hk) hlv)
    · cases hs
  -- sipush
  · rename_i n
    split at hs
    · rename_i hi
      obtain rfl := Option.some.inj hs
      obtain ⟨i1, i2⟩ := kin_ok hi
      exact lv_sipush hexec hb hd rfl (k0 (kpsh_ok h ⟨_, rfl, by
        rw [Int16.toInt_toInt32, Int16.toInt_ofInt, show Int16.size = 65536 from rfl, Int.bmod_eq_of_le (by omega) (by omega)]
        exact kcst_ev⟩ hk) hlv)
    · cases hs
  -- lconst
  · rename_i n
    obtain rfl := Option.some.inj hs
    exact lv_lconst hexec hb hd rfl (k0 (kpsh_ok h ⟨_, rfl, by
      have e2 : (Int64.ofNat (n : Nat)).toInt = Int.ofNat n.val := by
        match n with
        | ⟨0, _⟩ => rfl
        | ⟨1, _⟩ => rfl
      rw [e2]
      exact kcst_ev⟩ hk) hlv)
  -- ldc
  · rename_i i
    split at hs
    · rename_i n h1
      obtain rfl := Option.some.inj hs
      obtain ⟨v, e1, e2⟩ := how.1 _ (kfnd_mem h1)
      exact lv_ldc hexec hb hown (hts _ e2) hd (k0 (kpsh_ok h ⟨v, rfl, by rw [e1]; exact kcst_ev⟩ hk) hlv)
    · split at hs
      · rename_i t h1
        obtain rfl := Option.some.inj hs
        obtain ⟨j, tx, e1, e2⟩ := how.2.2 _ (kfnd_mem h1)
        have e2 : t = ksn j := e2
        subst e2
        obtain ⟨g1, g2⟩ := kpushR_ok h (hTyS j _ e1)
        exact va_ldcS hexec hb hown (hK.2.2.2 j _ e1) hd (kk [] [aS j] _ _ _ (kpsh_ok g1 ⟨aS j, rfl, g2⟩ (kStk_ext hk)) hlv)
      · cases hs
  -- ldc_w
  · rename_i i
    split at hs
    · rename_i n h1
      obtain rfl := Option.some.inj hs
      obtain ⟨v, e1, e2⟩ := how.1 _ (kfnd_mem h1)
      exact lv_ldcw hexec hb hown (hts _ e2) hd (k0 (kpsh_ok h ⟨v, rfl, by rw [e1]; exact kcst_ev⟩ hk) hlv)
    · cases hs
  -- ldc2_w
  · rename_i i
    split at hs
    · rename_i n h1
      obtain rfl := Option.some.inj hs
      obtain ⟨v, e1, e2⟩ := how.2.1 _ (kfnd_mem h1)
      exact lv_ldc2 hexec hb hown (hts _ e2) hd (k0 (kpsh_ok h ⟨v, rfl, by rw [e1]; exact kcst_ev⟩ hk) hlv)
    · cases hs
  -- loads
  · obtain ⟨x, g1, g2, g3, -, -⟩ := kload1_ok h hlv hs
    obtain ⟨n, rfl⟩ := g3 rfl
    exact lv_iload_n hexec hb hd rfl g1 (k0 g2 hlv)
  · obtain ⟨x, g1, g2, g3, -, -⟩ := kload1_ok h hlv hs
    obtain ⟨n, rfl⟩ := g3 rfl
    exact lv_iload hexec hb hd g1 (k0 g2 hlv)
  · obtain ⟨x, g1, g2, -, g3, -⟩ := kload1_ok h hlv hs
    obtain ⟨n, rfl⟩ := g3 rfl
    exact lv_lload_n hexec hb hd rfl g1 (k0 g2 hlv)
  · obtain ⟨x, g1, g2, -, g3, -⟩ := kload1_ok h hlv hs
    obtain ⟨n, rfl⟩ := g3 rfl
    exact lv_lload hexec hb hd g1 (k0 g2 hlv)
  · obtain ⟨x, g1, g2, -, -, g3⟩ := kload1_ok h hlv hs
    obtain ⟨n, rfl⟩ := g3 rfl
    exact lv_aload_n hexec hb hd rfl g1 (k0 g2 hlv)
  · obtain ⟨x, g1, g2, -, -, g3⟩ := kload1_ok h hlv hs
    obtain ⟨n, rfl⟩ := g3 rfl
    exact lv_aload hexec hb hd g1 (k0 g2 hlv)
  -- stores
  · obtain ⟨n, st', rfl, g1, g2⟩ := kstor1_i h hs
    exact lv_istore_n hexec hb hd rfl hlv g1 rfl (fun ls' hl' => k0 g2 hl')
  · obtain ⟨n, st', rfl, g1, g2⟩ := kstor1_i h hs
    exact lv_istore hexec hb hd hlv g1 rfl (fun ls' hl' => k0 g2 hl')
  · obtain ⟨n, st', rfl, g1, g2⟩ := kstor1_l h hs
    exact lv_lstore_n hexec hb hd rfl hlv g1 rfl (fun ls' hl' => k0 g2 hl')
  · obtain ⟨n, st', rfl, g1, g2⟩ := kstor1_l h hs
    exact lv_lstore hexec hb hd hlv g1 rfl (fun ls' hl' => k0 g2 hl')
  · obtain ⟨n, st', rfl, g1, g2⟩ := kstor1_r h hs
    exact lv_astore_n hexec hb hd rfl hlv g1 rfl (fun ls' hl' => k0 g2 hl')
  · obtain ⟨n, st', rfl, g1, g2⟩ := kstor1_r h hs
    exact lv_astore hexec hb hd hlv g1 rfl (fun ls' hl' => k0 g2 hl')
  -- iinc
  · rename_i i n
    split at hs
    · rename_i f h1
      split at hs
      · rename_i h2
        split at hs
        · rename_i h3
          obtain ⟨i1, i2⟩ := kin_ok h3
          obtain ⟨x, g1, g2⟩ := kLoc_mem h.2.2.2.1 (klocv_mem h1)
          obtain ⟨a, rfl, g3⟩ := g2
          obtain ⟨k, hk2⟩ := List.getElem?_of_mem g1
          have hr : kresok env (kri S (kofs f n) k32) (a + Int32.ofInt n).toInt := kri_ok h.1 (kofs_ev g3) (fun q1 q2 => by rw [Int32.toInt_add, k_ofInt i1 i2, k32_bm q1 q2]) (k32_in _)
          split at hs
          · rename_i g hg
            obtain rfl := Option.some.inj hs
            rw [hg] at hr
            exact lv_iinc hexec hb hd hlv hk2 rfl (Nat.blt_eq.mp h2) rfl (fun ls' hl' => k0 ⟨h.1, h.2.1, h.2.2.1, kput1_ok h.2.2.2.1 ⟨_, rfl, hr⟩, hk, h.2.2.2.2.2⟩ hl')
          · rename_i q hq
            obtain rfl := Option.some.inj hs
            rw [hq] at hr
            obtain ⟨w1, w2⟩ := kpush_ok (q := q) h hr.1 hr.2
            exact lv_iinc hexec hb hd hlv hk2 rfl (Nat.blt_eq.mp h2) rfl (fun ls' hl' => kk [(a + Int32.ofInt n).toInt] [] _ _ _ ⟨w1.1, w1.2.1, w1.2.2.1, kput1_ok w1.2.2.2.1 ⟨_, rfl, w2⟩, w1.2.2.2.2.1, w1.2.2.2.2.2⟩ hl')
        · cases hs
      · cases hs
    · cases hs
  -- dup
  · split at hs
    · rename_i v sa h1
      rw [h1] at hk
      cases st with
      | nil => exact hk.elim
      | cons x sc =>
        split at hs
        · rename_i h2
          obtain rfl := Option.some.inj hs
          exact lv_dup hexec hb hd (k_cat hk.1 h2) (k0 (kpsh_ok h hk.1 hk) hlv)
        · cases hs
    · cases hs
  -- dup2
  · split at hs
    · rename_i v w sa h1
      rw [h1] at hk
      cases st with
      | nil => exact hk.elim
      | cons x sc =>
        cases sc with
        | nil => exact hk.2.elim
        | cons y sd =>
          split at hs
          · rename_i h2
            obtain rfl := Option.some.inj hs
            exact lv_dup2_2 hexec hb hd (k_cat hk.1 h2) (k0 (kpsh_ok h hk.1 hk) hlv)
          · rename_i h2
            split at hs
            · rename_i h3
              obtain rfl := Option.some.inj hs
              exact lv_dup2_11 hexec hb hd (k_cat hk.1 h2) (k_cat hk.2.1 h3) (k0 ⟨h.1, h.2.1, h.2.2.1, h.2.2.2.1, ⟨hk.1, hk.2.1, hk⟩, h.2.2.2.2.2⟩ hlv)
            · cases hs
    · rename_i v h1
      rw [h1] at hk
      cases st with
      | nil => exact hk.elim
      | cons x sc =>
        split at hs
        · rename_i h2
          obtain rfl := Option.some.inj hs
          exact lv_dup2_2 hexec hb hd (k_cat hk.1 h2) (k0 (kpsh_ok h hk.1 hk) hlv)
        · cases hs
    · cases hs
  -- pop
  · split at hs
    · rename_i v sa h1
      rw [h1] at hk
      cases st with
      | nil => exact hk.elim
      | cons x sc =>
        split at hs
        · rename_i h2
          obtain rfl := Option.some.inj hs
          exact lv_pop hexec hb hd (k_cat hk.1 h2) (k0 ⟨h.1, h.2.1, h.2.2.1, h.2.2.2.1, hk.2, h.2.2.2.2.2⟩ hlv)
        · cases hs
    · cases hs
  -- pop2
  · split at hs
    · rename_i v sa h1
      rw [h1] at hk
      cases st with
      | nil => exact hk.elim
      | cons x sc =>
        split at hs
        · rename_i h2
          obtain rfl := Option.some.inj hs
          exact lv_pop2_2 hexec hb hd (k_cat hk.1 h2) (k0 ⟨h.1, h.2.1, h.2.2.1, h.2.2.2.1, hk.2, h.2.2.2.2.2⟩ hlv)
        · cases hs
    · cases hs
  -- ineg
  · split at hs
    · rename_i f sa h1
      rw [h1] at hk
      cases st with
      | nil => exact hk.elim
      | cons x sc =>
        obtain rfl := Option.some.inj hs
        obtain ⟨⟨n, rfl, e2⟩, hk2⟩ := hk
        obtain ⟨x, u, g⟩ := kpres_i (n := -n) h hk2 (kri_ok h.1 (kneg_ev e2) (fun q1 q2 => by rw [Int32.toInt_neg, k32_bm q1 q2]) (k32_in _))
        exact lv_ineg hexec hb hd (kk x u _ _ _ g hlv)
    · cases hs
  -- i2l
  · split at hs
    · rename_i f sa h1
      rw [h1] at hk
      cases st with
      | nil => exact hk.elim
      | cons x sc =>
        obtain rfl := Option.some.inj hs
        obtain ⟨⟨n, rfl, e2⟩, hk2⟩ := hk
        exact lv_i2l hexec hb hd rfl (k0 (kpsh_ok h ⟨_, rfl, by rw [k_i2l]; exact e2⟩ hk2) hlv)
    · cases hs
  -- l2i
  · split at hs
    · rename_i f sa h1
      rw [h1] at hk
      cases st with
      | nil => exact hk.elim
      | cons x sc =>
        obtain rfl := Option.some.inj hs
        obtain ⟨⟨n, rfl, e2⟩, hk2⟩ := hk
        obtain ⟨x, u, g⟩ := kpres_i (n := n.toInt32) h hk2 (kri_ok h.1 e2 (fun q1 q2 => k_l2i q1 q2) (k32_in _))
        exact lv_l2i hexec hb hd rfl (kk x u _ _ _ g hlv)
    · cases hs
  -- i2b
  · split at hs
    · rename_i f sa h1
      rw [h1] at hk
      cases st with
      | nil => exact hk.elim
      | cons x sc =>
        obtain rfl := Option.some.inj hs
        obtain ⟨⟨n, rfl, e2⟩, hk2⟩ := hk
        obtain ⟨x, u, g⟩ := kpres_i (n := n.toInt8.toInt32) h hk2 (kri_ok (q := (-128, 127)) h.1 e2 (fun q1 q2 => k_i2b q1 q2) (k_i2b_in n))
        exact lv_i2b hexec hb hd rfl (kk x u _ _ _ g hlv)
    · cases hs
  -- i2s
  · split at hs
    · rename_i f sa h1
      rw [h1] at hk
      cases st with
      | nil => exact hk.elim
      | cons x sc =>
        obtain rfl := Option.some.inj hs
        obtain ⟨⟨n, rfl, e2⟩, hk2⟩ := hk
        obtain ⟨x, u, g⟩ := kpres_i (n := n.toInt16.toInt32) h hk2 (kri_ok (q := (-32768, 32767)) h.1 e2 (fun q1 q2 => k_i2s q1 q2) (k_i2s_in n))
        exact lv_i2s hexec hb hd rfl (kk x u _ _ _ g hlv)
    · cases hs
  -- lcmp
  · split at hs
    · rename_i g f sa h1
      rw [h1] at hk
      cases st with
      | nil => exact hk.elim
      | cons x sc =>
        cases sc with
        | nil => exact hk.2.elim
        | cons y sd =>
          obtain rfl := Option.some.inj hs
          obtain ⟨⟨n, rfl, e2⟩, ⟨n', rfl, e3⟩, hk2⟩ := hk
          exact W.lcmp hexec hb hd (k0 (kpsh_ok h ⟨_, _, _, rfl, e3, e2, k_lcmp n' n⟩ hk2) hlv)
    · cases hs
  -- lshl
  · split at hs
    · rename_i g f sa h1
      rw [h1] at hk
      cases st with
      | nil => exact hk.elim
      | cons x sc =>
        cases sc with
        | nil => exact hk.2.elim
        | cons y sd =>
          obtain rfl := Option.some.inj hs
          obtain ⟨⟨n, rfl, e2⟩, ⟨n', rfl, e3⟩, hk2⟩ := hk
          obtain ⟨x, u, g⟩ := kpres_l (n := n' <<< (n.toInt64 &&& 63)) h hk2 (r := .inr k64) (k64_in _)
          exact lv_lshl hexec hb hd rfl (kk x u _ _ _ g hlv)
    · cases hs
  -- lshr
  · split at hs
    · rename_i g f sa h1
      rw [h1] at hk
      cases st with
      | nil => exact hk.elim
      | cons x sc =>
        cases sc with
        | nil => exact hk.2.elim
        | cons y sd =>
          obtain rfl := Option.some.inj hs
          obtain ⟨⟨n, rfl, e2⟩, ⟨n', rfl, e3⟩, hk2⟩ := hk
          obtain ⟨x, u, g⟩ := kpres_l (n := n' >>> (n.toInt64 &&& 63)) h hk2 (r := .inr k64) (k64_in _)
          exact lv_lshr hexec hb hd rfl (kk x u _ _ _ g hlv)
    · cases hs
  -- arithmetic
  · split at hs
    · rename_i g f sa h1
      rw [h1] at hk
      cases st with
      | nil => exact hk.elim
      | cons x sc =>
        cases sc with
        | nil => exact hk.2.elim
        | cons y sd =>
          obtain ⟨⟨n, rfl, e2⟩, ⟨n', rfl, e3⟩, hk2⟩ := hk
          split at hs
          · rename_i r hr
            obtain rfl := Option.some.inj hs
            obtain ⟨g1, g2⟩ := kib_ok h e3 e2 hr
            obtain ⟨x, u, g3⟩ := kpres_i h hk2 g1
            exact r_ib hexec hb hr g2 hd (kk x u _ _ _ g3 hlv)
          · cases hs
    · rename_i g f sa h1
      rw [h1] at hk
      cases st with
      | nil => exact hk.elim
      | cons x sc =>
        cases sc with
        | nil => exact hk.2.elim
        | cons y sd =>
          obtain ⟨⟨n, rfl, e2⟩, ⟨n', rfl, e3⟩, hk2⟩ := hk
          split at hs
          · rename_i r hr
            obtain rfl := Option.some.inj hs
            obtain ⟨g1, g2⟩ := klo_ok h e3 e2 hr
            obtain ⟨x, u, g3⟩ := kpres_l h hk2 g1
            exact r_lo hexec hb hr g2 hd (kk x u _ _ _ g3 hlv)
          · cases hs
    · cases hs
end KS1F
end
section
/-! BRANCHES -/
def ktgt (pc : Nat) (off : Int) : Option Nat := match Int.ofNat pc + off with
  | .ofNat n => some n
  | .negSucc _ => none
theorem ktgt_ok {pc n : Nat} {off : Int} (h : ktgt pc off = some n) : (pc : Int) + off = (n : Int) := by
  unfold ktgt at h
  split at h
  · rename_i k hk
    obtain rfl := Option.some.inj h
    exact hk
  · cases h
def knot (cd : Jvm.ClassFile.Cond) : Jvm.ClassFile.Cond := match cd with
  | .eq => .ne
  | .ne => .eq
  | .lt => .ge
  | .ge => .lt
  | .gt => .le
  | .le => .gt
def kholds (cd : Jvm.ClassFile.Cond) (z : Int) : Prop := match cd with
  | .eq => z = 0
  | .ne => z ≠ 0
  | .lt => z < 0
  | .ge => 0 ≤ z
  | .gt => 0 < z
  | .le => z ≤ 0
theorem kholds_not {cd : Jvm.ClassFile.Cond} {z : Int} (h : ¬ kholds cd z) : kholds (knot cd) z := by
  cases cd <;> simp only [kholds, knot] at h ⊢ <;> omega
def ktk (S : kS) (cd : Jvm.ClassFile.Cond) (f : kL) : Option kS := match cd with
  | .eq => match kasmS S f with
    | some S' => kasmS S' (kneg f)
    | none => none
  | .ne => match kgeS S f with
    | true => kasmS S (kofs f (-1))
    | false => match kgeS S (kneg f) with
      | true => kasmS S (kofs (kneg f) (-1))
      | false => some S
  | .lt => kasmS S (kofs (kneg f) (-1))
  | .ge => kasmS S f
  | .gt => kasmS S (kofs f (-1))
  | .le => kasmS S (kneg f)
def kopt (t : Nat) (o : Option kS) (r : List (Nat × kS)) : List (Nat × kS) := match o with
  | some S => (t, S) :: r
  | none => r
theorem kopt_in {t : Nat} {o : Option kS} {r : List (Nat × kS)} {S : kS} (h : o = some S) : (t, S) ∈ kopt t o r := by
  subst h
  exact List.mem_cons_self
theorem kopt_tl {t : Nat} {o : Option kS} {r : List (Nat × kS)} {q : Nat × kS} (h : q ∈ r) : q ∈ kopt t o r := by
  unfold kopt
  split
  · exact List.mem_cons_of_mem _ h
  · exact h
def ktsw (pc : Nat) (S : kS) (f : kL) : Int → List Int → Option (List (Nat × kS))
  | _, [] => some []
  | v, o :: t => match ktgt pc o, ktsw pc S f (v + 1) t with
    | some tg, some r => match kasmS S (kofs f (-v)) with
      | some S1 => some (kopt tg (kasmS S1 (kofs (kneg f) v)) r)
      | none => some r
    | _, _ => none
/-- branches: the states behind -/
def kbr (pc : Nat) (ins : Instr) (S : kS) : Option (List (Nat × kS)) := match ins with
  | .goto off => match ktgt pc off with
    | some t => some [(t, S)]
    | none => none
  | .ifCond cd off => match S.2.2.2.1, ktgt pc off with
    | .inl f :: st, some t => some (kopt t (ktk (ksloc S S.2.2.1 st) cd f) (kopt (pc + 3) (ktk (ksloc S S.2.2.1 st) (knot cd) f) []))
    | .inr (.inr (.inr w)) :: st, some t => some (kopt t (ktk (ksloc S S.2.2.1 st) cd (ksub w.1 w.2)) (kopt (pc + 3) (ktk (ksloc S S.2.2.1 st) (knot cd) (ksub w.1 w.2)) []))
    | _, _ => none
  | .if_icmp cd off => match S.2.2.2.1, ktgt pc off with
    | .inl g :: .inl f :: st, some t => some (kopt t (ktk (ksloc S S.2.2.1 st) cd (ksub f g)) (kopt (pc + 3) (ktk (ksloc S S.2.2.1 st) (knot cd) (ksub f g)) []))
    | _, _ => none
  | .tableswitch dflt lo hi offs => match S.2.2.2.1, ktgt pc dflt with
    | .inl f :: st, some t => match kz (Int.ofNat offs.toList.length - (hi - lo + 1)) with
      | true => match ktsw pc (ksloc S S.2.2.1 st) f lo offs.toList with
        | some r => some (kopt t (kasmS (ksloc S S.2.2.1 st) (ksub (kcst (lo - 1)) f)) (kopt t (kasmS (ksloc S S.2.2.1 st) (kofs f (-hi - 1))) r))
        | none => none
      | false => none
    | _, _ => none
  | _ => none
section KBR
variable {p : Program} {l : Launch} {e : Env} {R : Room} {s : State} {m : MethodId} {args : Array Value} {below : List Frame} {meth : Method} {c : Code} {H : Heap} {locs : List Loc} {cells slots : Nat} {Q : State → Prop}
variable {cc : ByteArray} {pc : Nat} {ls : Array Slot} {cA : Nat → Nat} {rest : List Value}
variable {D : va_G} {tt : List kT} {Ty : Nat → Nat → Prop} {env : List Int} {ren : List Nat} {S : kS} {lv : List (Nat × Value)} {st : List Value}
theorem ktk_ok {cd : Jvm.ClassFile.Cond} {f : kL} {z : Int} (h : kst D cA tt Ty env ren S H lv st) (hf : kev env f = some z) (hz : kholds cd z) : ∃ S', ktk S cd f = some S' ∧ kst D cA tt Ty env ren S' H lv st := by
  cases cd with
  | eq =>
    have hz : z = 0 := hz
    obtain ⟨S1, g1, g2⟩ := kasmS_ok h hf (by omega)
    obtain ⟨S2, g3, g4⟩ := kasmS_ok g2 (kneg_ev hf) (by omega)
    exact ⟨S2, by simp only [ktk, g1]; exact g3, g4⟩
  | ne =>
    have hz : z ≠ 0 := hz
    unfold ktk
    dsimp only
    cases h1 : kgeS S f with
    | true =>
      have := kgeS_ok h hf h1
      exact kasmS_ok h (kofs_ev hf) (by omega)
    | false =>
      cases h2 : kgeS S (kneg f) with
      | true =>
        have := kgeS_ok h (kneg_ev hf) h2
        exact kasmS_ok h (kofs_ev (kneg_ev hf)) (by omega)
      | false => exact ⟨S, rfl, h⟩
  | lt =>
    have hz : z < 0 := hz
    exact kasmS_ok h (kofs_ev (kneg_ev hf)) (by omega)
  | ge => exact kasmS_ok h hf hz
  | gt =>
    have hz : 0 < z := hz
    exact kasmS_ok h (kofs_ev hf) (by omega)
  | le =>
    have hz : z ≤ 0 := hz
    exact kasmS_ok h (kneg_ev hf) (by omega)
theorem r_if (hexec : p.tables.exec = Jvm.exec) (hb : c.code = cc) {cd : Jvm.ClassFile.Cond} {x : Int32} {off : Int} {tgt : Nat} (hdg : decode cc pc = .ok (.ifCond cd off, 3)) (ht : (pc : Int) + off = (tgt : Int))
    (kt : kholds cd x.toInt → W p l e R s m args below meth c H locs cells slots Q (F0 m tgt ls rest)) (kf : kholds (knot cd) x.toInt → W p l e R s m args below meth c H locs cells slots Q (F0 m (pc + 3) ls rest)) : W p l e R s m args below meth c H locs cells slots Q (F0 m pc ls (.int x :: rest)) := by
  have z0 : (0 : Int32).toInt = 0 := rfl
  have ez : x = 0 ↔ x.toInt = 0 := ⟨fun h => by rw [h]; rfl, fun h => Int32.toInt_inj.mp (by rw [h]; rfl)⟩
  cases cd with
  | eq => exact lv_if_eq hexec hb hdg ht (fun h => kt (ez.mp h)) (fun h => kf (fun g => h (ez.mpr g)))
  | ne => exact lv_if_ne hexec hb hdg ht (fun h => kt (fun g => h (ez.mpr g))) (fun h => kf (ez.mp h))
  | lt => exact lv_if_lt hexec hb hdg ht (fun h => kt (Int32.lt_iff_toInt_lt.mp h)) (fun h => kf (Int.not_lt.mp (fun g => h (Int32.lt_iff_toInt_lt.mpr g))))
  | ge => exact lv_if_ge hexec hb hdg ht (fun h => kt (Int32.le_iff_toInt_le.mp h)) (fun h => kf (Int.not_le.mp (fun g => h (Int32.le_iff_toInt_le.mpr g))))
  | gt => exact lv_if_gt hexec hb hdg ht (fun h => kt (Int32.lt_iff_toInt_lt.mp h)) (fun h => kf (Int.not_lt.mp (fun g => h (Int32.lt_iff_toInt_lt.mpr g))))
  | le => exact lv_if_le hexec hb hdg ht (fun h => kt (Int32.le_iff_toInt_le.mp h)) (fun h => kf (Int.not_le.mp (fun g => h (Int32.le_iff_toInt_le.mpr g))))
theorem r_icmp (hexec : p.tables.exec = Jvm.exec) (hb : c.code = cc) {cd : Jvm.ClassFile.Cond} {x y : Int32} {off : Int} {tgt : Nat} (hdg : decode cc pc = .ok (.if_icmp cd off, 3)) (ht : (pc : Int) + off = (tgt : Int))
    (kt : kholds cd (x.toInt - y.toInt) → W p l e R s m args below meth c H locs cells slots Q (F0 m tgt ls rest)) (kf : kholds (knot cd) (x.toInt - y.toInt) → W p l e R s m args below meth c H locs cells slots Q (F0 m (pc + 3) ls rest)) : W p l e R s m args below meth c H locs cells slots Q (F0 m pc ls (.int y :: .int x :: rest)) := by
  have ez : x = y ↔ x.toInt = y.toInt := Int32.toInt_inj.symm
  have lt : ∀ {a b : Int32}, a < b ↔ a.toInt < b.toInt := Int32.lt_iff_toInt_lt
  have le : ∀ {a b : Int32}, a ≤ b ↔ a.toInt ≤ b.toInt := Int32.le_iff_toInt_le
  cases cd with
  | eq => exact lv_icmp_eq hexec hb hdg ht (fun h => kt (by have := ez.mp h; show _ - _ = (0 : Int); omega)) (fun h => kf (fun g => h (ez.mpr (by have g : _ - _ = (0 : Int) := g; omega))))
  | ne => exact lv_icmp_ne hexec hb hdg ht (fun h => kt (fun g => h (ez.mpr (by have g : _ - _ = (0 : Int) := g; omega)))) (fun h => kf (by have := ez.mp h; show _ - _ = (0 : Int); omega))
  | lt => exact lv_icmp_lt hexec hb hdg ht (fun h => kt (by have := lt.mp h; show _ - _ < (0 : Int); omega)) (fun h => kf (by have := Int.not_lt.mp (fun g => h (lt.mpr g)); show (0 : Int) ≤ _ - _; omega))
  | ge => exact lv_icmp_ge hexec hb hdg ht (fun h => kt (by have := le.mp h; show (0 : Int) ≤ _ - _; omega)) (fun h => kf (by have := Int.not_le.mp (fun g => h (le.mpr g)); show _ - _ < (0 : Int); omega))
  | gt => exact lv_icmp_gt hexec hb hdg ht (fun h => kt (by have := lt.mp h; show (0 : Int) < _ - _; omega)) (fun h => kf (by have := Int.not_lt.mp (fun g => h (lt.mpr g)); show _ - _ ≤ (0 : Int); omega))
  | le => exact lv_icmp_le hexec hb hdg ht (fun h => kt (by have := le.mp h; show _ - _ ≤ (0 : Int); omega)) (fun h => kf (by have := Int.not_le.mp (fun g => h (le.mpr g)); show (0 : Int) < _ - _; omega))
theorem kcmp_holds {cd : Jvm.ClassFile.Cond} {a b : Int} (h : kholds cd (kcmp a b)) : kholds cd (a - b) := by
  unfold kcmp at h
  cases cd <;> simp only [kholds] at h ⊢ <;> (split at h) <;> (try split at h) <;> omega
theorem ktsw_ok {f : kL} {z : Int} (h : kst D cA tt Ty env ren S H lv st) (hf : kev env f = some z) : ∀ {l : List Int} {v : Int} {L : List (Nat × kS)}, ktsw pc S f v l = some L → v ≤ z → z < v + Int.ofNat l.length → ∃ (off : Int) (t : Nat) (S' : kS), l[(z - v).toNat]? = some off ∧ (pc : Int) + off = (t : Int) ∧ (t, S') ∈ L ∧ kst D cA tt Ty env ren S' H lv st
  | [], v, L, _, h1, h2 => by
    have h2 : z < v + ((0 : Nat) : Int) := h2
    omega
  | o :: t, v, L, hL, h1, h2 => by
    have h2 : z < v + (((t.length + 1 : Nat)) : Int) := h2
    unfold ktsw at hL
    cases g1 : ktgt pc o with
    | none => simp [g1] at hL
    | some tg =>
      cases g2 : ktsw pc S f (v + 1) t with
      | none => simp [g1, g2] at hL
      | some r =>
        simp only [g1, g2] at hL
        by_cases e : z = v
        · subst e
          obtain ⟨S1, a1, a2⟩ := kasmS_ok h (kofs_ev (n := -z) hf) (by omega)
          obtain ⟨S2, a3, a4⟩ := kasmS_ok a2 (kofs_ev (n := z) (kneg_ev hf)) (by omega)
          simp only [a1] at hL
          obtain rfl := Option.some.inj hL
          exact ⟨o, tg, S2, by simp, ktgt_ok g1, kopt_in a3, a4⟩
        · obtain ⟨off, t', S', b1, b2, b3, b4⟩ := ktsw_ok h hf g2 (by omega) (by
            show z < v + 1 + ((t.length : Nat) : Int)
            omega)
          refine ⟨off, t', S', ?_, b2, ?_, b4⟩
          · rw [show (z - v).toNat = (z - (v + 1)).toNat + 1 by omega]
            simpa using b1
          · split at hL
            · obtain rfl := Option.some.inj hL
              exact kopt_tl b3
            · obtain rfl := Option.some.inj hL
              exact b3
theorem kbr_ok (hexec : p.tables.exec = Jvm.exec) (hb : c.code = cc) {ins : Instr} {nL len : Nat} {L : List (Nat × kS)} (h : kst D cA tt Ty env ren S H lv st) (hlv : lv_has ls nL lv) (hd : decode cc pc = .ok (ins, len)) (hlen : (∀ a b x y, ins ≠ .tableswitch a b x y) → len = 3) (hs : kbr pc ins S = some L)
    (kk : ∀ q ∈ L, ∀ lv' st' ls', kst D cA tt Ty env ren q.2 H lv' st' → lv_has ls' nL lv' → W p l e R s m args below meth c H locs cells slots Q (F0 m q.1 ls' st')) : W p l e R s m args below meth c H locs cells slots Q (F0 m pc ls st) := by
  have hk := h.2.2.2.2.1
  unfold kbr at hs
  split at hs
  · rename_i off
    have hl := hlen (fun _ _ _ _ h => by cases h)
    subst hl
    split at hs
    · rename_i t ht
      obtain rfl := Option.some.inj hs
      exact lv_goto hexec hb hd (ktgt_ok ht) (kk _ List.mem_cons_self _ _ _ h hlv)
    · cases hs
  · rename_i cd off
    have hl := hlen (fun _ _ _ _ h => by cases h)
    subst hl
    split at hs
    · rename_i f sa t h1 ht
      obtain rfl := Option.some.inj hs
      rw [h1] at hk
      cases st with
      | nil => exact hk.elim
      | cons x sc =>
        obtain ⟨⟨n, rfl, e2⟩, hk2⟩ := hk
        have h' : kst D cA tt Ty env ren (ksloc S S.2.2.1 sa) H lv sc := ⟨h.1, h.2.1, h.2.2.1, h.2.2.2.1, hk2, h.2.2.2.2.2⟩
        refine r_if hexec hb hd (ktgt_ok ht) (fun hz => ?_) (fun hz => ?_)
        · obtain ⟨S', g1, g2⟩ := ktk_ok h' e2 hz
          exact kk _ (kopt_in g1) _ _ _ g2 hlv
        · obtain ⟨S', g1, g2⟩ := ktk_ok h' e2 hz
          exact kk _ (kopt_tl (kopt_in g1)) _ _ _ g2 hlv
    · rename_i w sa t h1 ht
      obtain rfl := Option.some.inj hs
      rw [h1] at hk
      cases st with
      | nil => exact hk.elim
      | cons x sc =>
        obtain ⟨⟨n, a, b, rfl, e2, e3, e4⟩, hk2⟩ := hk
        have h' : kst D cA tt Ty env ren (ksloc S S.2.2.1 sa) H lv sc := ⟨h.1, h.2.1, h.2.2.1, h.2.2.2.1, hk2, h.2.2.2.2.2⟩
        refine r_if hexec hb hd (ktgt_ok ht) (fun hz => ?_) (fun hz => ?_)
        · rw [e4] at hz
          obtain ⟨S', g1, g2⟩ := ktk_ok h' (ksub_ev e2 e3) (kcmp_holds hz)
          exact kk _ (kopt_in g1) _ _ _ g2 hlv
        · rw [e4] at hz
          obtain ⟨S', g1, g2⟩ := ktk_ok h' (ksub_ev e2 e3) (kcmp_holds hz)
          exact kk _ (kopt_tl (kopt_in g1)) _ _ _ g2 hlv
    · cases hs
  · rename_i cd off
    have hl := hlen (fun _ _ _ _ h => by cases h)
    subst hl
    split at hs
    · rename_i g f sa t h1 ht
      obtain rfl := Option.some.inj hs
      rw [h1] at hk
      cases st with
      | nil => exact hk.elim
      | cons x sc =>
        cases sc with
        | nil => exact hk.2.elim
        | cons y sd =>
          obtain ⟨⟨n, rfl, e2⟩, ⟨n', rfl, e3⟩, hk2⟩ := hk
          have h' : kst D cA tt Ty env ren (ksloc S S.2.2.1 sa) H lv sd := ⟨h.1, h.2.1, h.2.2.1, h.2.2.2.1, hk2, h.2.2.2.2.2⟩
          refine r_icmp hexec hb hd (ktgt_ok ht) (fun hz => ?_) (fun hz => ?_)
          · obtain ⟨S', g1, g2⟩ := ktk_ok h' (ksub_ev e3 e2) hz
            exact kk _ (kopt_in g1) _ _ _ g2 hlv
          · obtain ⟨S', g1, g2⟩ := ktk_ok h' (ksub_ev e3 e2) hz
            exact kk _ (kopt_tl (kopt_in g1)) _ _ _ g2 hlv
    · cases hs
  · rename_i dflt lo hi offs
    split at hs
    · rename_i f sa t h1 ht
      split at hs
      · rename_i h2
        split at hs
        · rename_i r hr
          obtain rfl := Option.some.inj hs
          rw [h1] at hk
          cases st with
          | nil => exact hk.elim
          | cons x sc =>
            obtain ⟨⟨n, rfl, e2⟩, hk2⟩ := hk
            have h' : kst D cA tt Ty env ren (ksloc S S.2.2.1 sa) H lv sc := ⟨h.1, h.2.1, h.2.2.1, h.2.2.2.1, hk2, h.2.2.2.2.2⟩
            by_cases c1 : n.toInt < lo
            · obtain ⟨S', g1, g2⟩ := kasmS_ok h' (ksub_ev (kcst_ev (n := lo - 1)) e2) (by omega)
              exact lv_tableOut hexec hb hd (Or.inl c1) (ktgt_ok ht) (kk _ (kopt_in g1) _ _ _ g2 hlv)
            · by_cases c2 : hi < n.toInt
              · obtain ⟨S', g1, g2⟩ := kasmS_ok h' (kofs_ev (n := -hi - 1) e2) (by omega)
                exact lv_tableOut hexec hb hd (Or.inr c2) (ktgt_ok ht) (kk _ (kopt_tl (kopt_in g1)) _ _ _ g2 hlv)
              · have h3 := kz_iff.mp h2
                obtain ⟨off, t', S', b1, b2, b3, b4⟩ := ktsw_ok (pc := pc) h' e2 hr (by omega) (by omega)
                exact lv_tableIn hexec hb hd c1 c2 (by rw [← Array.getElem?_toList]; exact b1) b2 (kk (t', S') (kopt_tl (kopt_tl b3)) _ _ _ b4 hlv)
        · cases hs
      · cases hs
    · cases hs
  · cases hs
end KBR
end
section
/-! INSTRUCTIONS ON THE HEAP -/
def kfixA (S : kS) (ty : FieldType) (v : kV) : Bool := match ty, v with
  | .int, .inl _ => true
  | .long, .inr (.inl _) => true
  | .boolean, .inl f => kbt S f 0 1
  | .byte, .inl f => kbt S f (-128) 127
  | _, _ => false
def kfty (n : Nat) : FieldType := match n with
  | 0 => .int
  | 1 => .boolean
  | _ => .long
def kmapP (st : List kV) : List (kS × kV) → List kS
  | [] => []
  | q :: t => kpsh q.1 q.2 st :: kmapP st t
/-- the states behind; the next instruction is the one that stands behind -/
def kmemi (tt : List kT) (aty : List FieldType) (ow : kOw) (wr : kW) (ins : Instr) (S : kS) : Option (List kS) := match ins with
  | .getfield idx => match S.2.2.2.1, kfnd ow.1 idx with
    | .inr (.inr (.inl r)) :: st, some q => match S.2.1[r]? with
      | some t => match tt[t]? with
        | some T => match Nat.beq T.1 q.1 with
          | true => match Nat.blt T.1 100 with
            | true => match kload tt (ksloc S S.2.2.1 st) r (kcst (Int.ofNat q.2.1)) with
              | some L => some (kmapP st L)
              | none => none
            | false => none
          | false => none
        | none => none
      | none => none
    | _, _ => none
  | .putfield idx => match S.2.2.2.1, kfnd ow.1 idx with
    | v :: .inr (.inr (.inl r)) :: st, some q => match S.2.1[r]? with
      | some t => match tt[t]? with
        | some T => match Nat.beq T.1 q.1 with
          | true => match Nat.blt T.1 100 with
            | true => match Nat.blt q.2.2 3 with
              | true => match kfixA S (kfty q.2.2) v with
                | true => match kstore tt wr (ksloc S S.2.2.1 st) r (kcst (Int.ofNat q.2.1)) v with
                  | some S' => some [S']
                  | none => none
                | false => none
              | false => none
            | false => none
          | false => none
        | none => none
      | none => none
    | _, _ => none
  | _ => match S.2.2.2.1 with
    | .inl x :: .inr (.inr (.inl r)) :: st => match S.2.1[r]? with
      | some t => match tt[t]? with
        | some T => match Nat.blt T.1 100 with
          | false => match aty[T.1 - 100]? with
            | some ty => match klt ins ty with
              | true => match kload tt (ksloc S S.2.2.1 st) r x with
                | some L => some (kmapP st L)
                | none => none
              | false => none
            | none => none
          | true => none
        | none => none
      | none => none
    | v :: .inl x :: .inr (.inr (.inl r)) :: st => match S.2.1[r]? with
      | some t => match tt[t]? with
        | some T => match Nat.blt T.1 100 with
          | false => match aty[T.1 - 100]? with
            | some ty => match kstt ins ty with
              | true => match kfixA S ty v with
                | true => match kstore tt wr (ksloc S S.2.2.1 st) r x v with
                  | some S' => some [S']
                  | none => none
                | false => none
              | false => none
            | none => none
          | true => none
        | none => none
      | none => none
    | _ => none
/-- the links to fields, as the tables have them -/
def kOwF (own : String) (ow : kOw) (cl : List vw_C) (lw : List Cond) : Prop := ∀ q ∈ ow.1, ∃ (C : String) (Tf : u_T) (N : Nat), cl[q.2.1]? = some (C, Tf, N) ∧ q.2.2.1 < N ∧ Cond.fieldLink own q.1 (Tf q.2.2.1).1 (Tf q.2.2.1).2.1 (Tf q.2.2.1).2.2.1 ∈ lw ∧ (q.2.2.2 < 3 → (Tf q.2.2.1).2.2.2 = false ∧ parseFieldDescriptor (Tf q.2.2.1).2.2.1 = some (kfty q.2.2.2))
/-- the sizes of the objects are those of the tables -/
def ktok (tt : List kT) (cl : List vw_C) : Prop := ∀ (t : Nat) (T : kT), tt[t]? = some T → Nat.blt T.1 100 = true → ∃ (C : String) (Tf : u_T), cl[T.1]? = some (C, Tf, T.2.1)
/-- nothing new, nothing below lo written -/
def kfr (lo : Nat) (H H1 : Heap) : Prop := H1.size = H.size ∧ ∀ q, q < lo → H1[q]? = H[q]?
theorem kfr_rfl {lo : Nat} {H : Heap} : kfr lo H H := ⟨rfl, fun _ _ => rfl⟩
theorem kfr_trans {lo : Nat} {H H1 H2 : Heap} (h1 : kfr lo H H1) (h2 : kfr lo H1 H2) : kfr lo H H2 := ⟨h2.1.trans h1.1, fun q hq => (h2.2 q hq).trans (h1.2 q hq)⟩
section KMI
variable {p : Program} {l : Launch} {e : Env} {R : Room} {s : State} {m : MethodId} {args : Array Value} {below : List Frame} {meth : Method} {c : Code} {H : Heap} {locs : List Loc} {cells slots : Nat} {Q : State → Prop}
variable {cc : ByteArray} {pc : Nat} {ls : Array Slot} {cl : List vw_C} {aty : List FieldType} {nw lw : List Cond} {sk : kSk} {cA aS : Nat → Nat}
variable {D : va_G} {tt : List kT} {Ty : Nat → Nat → Prop} {env : List Int} {ren : List Nat} {S : kS} {lv : List (Nat × Value)} {st : List Value}
theorem kfixA_ok {ty : FieldType} {v : kV} {x : Value} (h : kst D cA tt Ty env ren S H lv st) (hv : kvok env ren v x) (hf : kfixA S ty v = true) : kfix ty x := by
  unfold kfixA at hf
  split at hf
  · obtain ⟨n, rfl, -⟩ := hv
    exact trivial
  · obtain ⟨n, rfl, -⟩ := hv
    exact trivial
  · obtain ⟨n, rfl, e2⟩ := hv
    exact kbt_ok h e2 hf
  · obtain ⟨n, rfl, e2⟩ := hv
    exact kbt_ok h e2 hf
  · cases hf
theorem kmapP_in {sa : List kV} : ∀ {L : List (kS × kV)} {q : kS × kV}, q ∈ L → kpsh q.1 q.2 sa ∈ kmapP sa L
  | [], q, h => by cases h
  | a :: L, q, h => by
    rcases List.mem_cons.mp h with rfl | h
    · exact List.mem_cons_self
    · exact List.mem_cons_of_mem _ (kmapP_in h)
set_option maxHeartbeats 4000000 in
theorem kmemi_ok (hexec : p.tables.exec = Jvm.exec) (hb : c.code = cc) {own : String} {ow : kOw} {wr : kW} {lo nL : Nat} {ins : Instr} {L : List kS} (hown : s.vm.findClass own = some m.cls) (hts : ∀ w ∈ lw, w.before args s = true) (hcl : kclok cl lw) (htok : ktok tt cl) (how : kOwF own ow cl lw) (hK : kK cl aty nw sk D cA aS s) (hTy : kTyp tt Ty) (hG : kgood D cA tt Ty lo H)
    (h : kst D cA tt Ty env ren S H lv st) (hlv : lv_has ls nL lv) (hd : decode cc pc = .ok (ins, kln ins)) (hs : kmemi tt aty ow wr ins S = some L)
    (kk : ∀ S' ∈ L, ∀ x u st' H' L', kgood D cA tt Ty lo H' → kfr lo H H' → kkp D cA tt Ty wr H H' → (∀ q ∈ L', lo ≤ q.base) → kst D cA tt Ty (env ++ x) (ren ++ u) S' H' lv st' → W p l e R s m args below meth c H' (locs ++ L') cells slots Q (F0 m (pc + kln ins) ls st')) : W p l e R s m args below meth c H locs cells slots Q (F0 m pc ls st) := by
  have hk := h.2.2.2.2.1
  have k0 : ∀ S' ∈ L, ∀ x u st', kst D cA tt Ty (env ++ x) (ren ++ u) S' H lv st' → W p l e R s m args below meth c H locs cells slots Q (F0 m (pc + kln ins) ls st') := fun S' hS x u st' g => by
    have := kk S' hS x u st' H [] hG kfr_rfl kkp_rfl (fun _ hq => by cases hq) g
    rwa [List.append_nil] at this
  unfold kmemi at hs
  split at hs
  -- getfield
  · rename_i idx
    split at hs
    · rename_i r sa q h1 h2
      rw [h1] at hk
      cases st with
      | nil => exact hk.elim
      | cons y sc =>
        obtain ⟨⟨a, rfl, ea⟩, hk2⟩ := hk
        have h' : kst D cA tt Ty env ren (ksloc S S.2.2.1 sa) H lv sc := ⟨h.1, h.2.1, h.2.2.1, h.2.2.2.1, hk2, h.2.2.2.2.2⟩
        split at hs
        · rename_i t h3
          split at hs
          · rename_i T h4
            split at hs
            · rename_i h5
              split at hs
              · rename_i h6
                split at hs
                · rename_i L' h7
                  obtain rfl := Option.some.inj hs
                  obtain ⟨a', t', T', V, z, g1, g2, g3, g4, g5, g6, g7, g8, g9, alt, g10, x, u, g11, g12⟩ := kload_ok hTy hG h' kcst_ev h7
                  have e1 : a' = a := Option.some.inj (g2.symm.trans ea)
                  subst e1
                  have e2 : t' = t := Option.some.inj (g1.symm.trans h3)
                  subst e2
                  have e3 : T' = T := Option.some.inj (g4.symm.trans h4)
                  subst e3
                  have e4 : q.2.1 = z := Int.ofNat.inj g8
                  subst e4
                  obtain ⟨C, Tf, N, c1, c2, c3, -⟩ := how _ (kfnd_mem h2)
                  have e5 : T'.1 = q.1 := Nat.beq_eq.mp h5
                  exact r_get hexec hb hts hcl hown hK (by rw [e5]; exact c1) h6 c2 g9 (hts _ c3) g6 hd (k0 _ (kmapP_in g10) x u _ (kpsh_ok g11 g12 (kStk_ext hk2)))
                · cases hs
              · cases hs
            · cases hs
          · cases hs
        · cases hs
    · cases hs
  -- putfield
  · rename_i idx
    split at hs
    · rename_i v r sa q h1 h2
      rw [h1] at hk
      cases st with
      | nil => exact hk.elim
      | cons y sc =>
        cases sc with
        | nil => exact hk.2.elim
        | cons y2 sd =>
          obtain ⟨hv, ⟨a, rfl, ea⟩, hk2⟩ := hk
          have h' : kst D cA tt Ty env ren (ksloc S S.2.2.1 sa) H lv sd := ⟨h.1, h.2.1, h.2.2.1, h.2.2.2.1, hk2, h.2.2.2.2.2⟩
          split at hs
          · rename_i t h3
            split at hs
            · rename_i T h4
              split at hs
              · rename_i h5
                split at hs
                · rename_i h6
                  split at hs
                  · rename_i h8
                    split at hs
                    · rename_i h9
                      split at hs
                      · rename_i S' h7
                        obtain rfl := Option.some.inj hs
                        obtain ⟨a', t', T', V, z, g1, g2, g3, g4, g5, g6, g8, g9, g10⟩ := kstore_ok hTy hG h' kcst_ev hv h7
                        have e1 : a' = a := Option.some.inj (g2.symm.trans ea)
                        subst e1
                        have e2 : t' = t := Option.some.inj (g1.symm.trans h3)
                        subst e2
                        have e3 : T' = T := Option.some.inj (g4.symm.trans h4)
                        subst e3
                        have e4 : q.2.1 = z := Int.ofNat.inj g8
                        subst e4
                        obtain ⟨C, Tf, N, c1, c2, c3, c4⟩ := how _ (kfnd_mem h2)
                        have e5 : T'.1 = q.1 := Nat.beq_eq.mp h5
                        obtain ⟨c5, c6⟩ := c4 (Nat.blt_eq.mp h8)
                        obtain ⟨C', Tf', c7⟩ := htok _ _ h4 h6
                        have e6 : (C', Tf', T'.2.1) = (C, Tf, N) := Option.some.inj (c7.symm.trans (by rw [e5]; exact c1))
                        have e7 : T'.2.1 = N := congrArg (fun w => w.2.2) e6
                        obtain ⟨n1, n2⟩ := kfix_narrow (kfixA_ok h hv h9)
                        refine r_put hexec hb hts hcl hown hK (by rw [e5]; exact c1) h6 c2 e7 (hts _ c3) c5 c6 n1 n2 g6 hd (fun H1 i w1 w2 w3 => ?_)
                        obtain ⟨b1, b2, b3⟩ := g10 H1 w1 w3
                        exact kk S' List.mem_cons_self [] [] _ H1 _ b1 ⟨w2, fun p hp => w3 p (fun e => by subst e; omega)⟩ b3 (fun p hp => by
                          have : p = ⟨a', i⟩ := by simpa using hp
                          subst this
                          exact g5) (by rw [List.append_nil, List.append_nil]; exact b2)
                      · cases hs
                    · cases hs
                  · cases hs
                · cases hs
              · cases hs
            · cases hs
          · cases hs
    · cases hs
  -- arrays
  · rename_i hn1 hn2
    split at hs
    · rename_i x0 r sa h1
      rw [h1] at hk
      cases st with
      | nil => exact hk.elim
      | cons y sc =>
        cases sc with
        | nil => exact hk.2.elim
        | cons y2 sd =>
          obtain ⟨⟨n, rfl, en⟩, ⟨a, rfl, ea⟩, hk2⟩ := hk
          have h' : kst D cA tt Ty env ren (ksloc S S.2.2.1 sa) H lv sd := ⟨h.1, h.2.1, h.2.2.1, h.2.2.2.1, hk2, h.2.2.2.2.2⟩
          split at hs
          · rename_i t h3
            split at hs
            · rename_i T h4
              split at hs
              · rename_i h6
                split at hs
                · rename_i ty h5
                  split at hs
                  · rename_i h8
                    split at hs
                    · rename_i L' h7
                      obtain rfl := Option.some.inj hs
                      obtain ⟨a', t', T', V, z, g1, g2, g3, g4, g5, g6, g7, g8, g9, alt, g10, x, u, g11, g12⟩ := kload_ok hTy hG h' en h7
                      have e1 : a' = a := Option.some.inj (g2.symm.trans ea)
                      subst e1
                      have e2 : t' = t := Option.some.inj (g1.symm.trans h3)
                      subst e2
                      have e3 : T' = T := Option.some.inj (g4.symm.trans h4)
                      subst e3
                      have hln : kln ins = 1 := by
                        unfold klt at h8
                        split at h8 <;> first | rfl | cases h8
                      rw [hln] at hd
                      have k1 := k0 _ (kmapP_in g10) x u _ (kpsh_ok g11 g12 (kStk_ext hk2))
                      rw [hln] at k1
                      exact r_ald hexec hb hK h5 h6 h8 g8 g9 g6 hd k1
                    · cases hs
                  · cases hs
                · cases hs
              · cases hs
            · cases hs
          · cases hs
    · rename_i v x0 r sa h1
      rw [h1] at hk
      cases st with
      | nil => exact hk.elim
      | cons y sc =>
        cases sc with
        | nil => exact hk.2.elim
        | cons y2 sd =>
          cases sd with
          | nil => exact hk.2.2.elim
          | cons y3 se =>
            obtain ⟨hv, ⟨n, rfl, en⟩, ⟨a, rfl, ea⟩, hk2⟩ := hk
            have h' : kst D cA tt Ty env ren (ksloc S S.2.2.1 sa) H lv se := ⟨h.1, h.2.1, h.2.2.1, h.2.2.2.1, hk2, h.2.2.2.2.2⟩
            split at hs
            · rename_i t h3
              split at hs
              · rename_i T h4
                split at hs
                · rename_i h6
                  split at hs
                  · rename_i ty h5
                    split at hs
                    · rename_i h8
                      split at hs
                      · rename_i h9
                        split at hs
                        · rename_i S' h7
                          obtain rfl := Option.some.inj hs
                          obtain ⟨a', t', T', V, z, g1, g2, g3, g4, g5, g6, g8, g9, g10⟩ := kstore_ok hTy hG h' en hv h7
                          have e1 : a' = a := Option.some.inj (g2.symm.trans ea)
                          subst e1
                          have e2 : t' = t := Option.some.inj (g1.symm.trans h3)
                          subst e2
                          have e3 : T' = T := Option.some.inj (g4.symm.trans h4)
                          subst e3
                          have hln : kln ins = 1 := by
                            unfold kstt at h8
                            split at h8 <;> first | rfl | cases h8
                          rw [hln] at hd
                          refine r_ast hexec hb hK h5 h6 h8 (kfixA_ok h hv h9) g8 g9 g6 hd (fun H1 i w1 w2 w3 => ?_)
                          obtain ⟨b1, b2, b3⟩ := g10 H1 w1 w3
                          have k1 := kk S' List.mem_cons_self [] [] _ H1 [⟨a', i⟩] b1 ⟨w2, fun p hp => w3 p (fun e => by subst e; omega)⟩ b3 (fun p hp => by
                            have : p = ⟨a', i⟩ := by simpa using hp
                            subst this
                            exact g5) (by rw [List.append_nil, List.append_nil]; exact b2)
                          rw [hln] at k1
                          exact k1
                        · cases hs
                      · cases hs
                    · cases hs
                  · cases hs
                · cases hs
              · cases hs
            · cases hs
    · cases hs
end KMI
end
section
/-! CALLS -/
abbrev kMd : Type := MethodName × ByteArray × Nat × Option FieldType
def krm (d : Nat) : Room := { frames := d, cells := 0, slots := 0, locals := 40 * d }
def ktake : Nat → List kV → List kV → Option (List kV × List kV)
  | 0, l, acc => some (acc, l)
  | _ + 1, [], _ => none
  | n + 1, v :: l, acc => ktake n l (v :: acc)
def kcsum : List kV → Nat
  | [] => 0
  | v :: l => (match klong v with
    | true => 2
    | false => 1) + kcsum l
def kwsub (a b : kW) : Bool := a.all (fun w => b.any (fun w' => match Nat.beq w.1 w'.1 with
  | true => match w'.2 with
    | none => true
    | some j => match w.2 with
      | some i => Nat.beq i j
      | none => false
  | false => false))
/-- the first contract that fits -/
def ktry (tt : List kT) (ct : List kCt) (wr : kW) (d mno : Nat) (S : kS) (avs rest : List kV) : List Nat → Option (List kS)
  | [] => none
  | i :: t => match ct[i]? with
    | some C => match Nat.beq C.1 mno with
      | true => match Nat.blt C.2.2.2.2.2 d with
        | true => match kwsub C.2.2.2.2.1 wr with
          | true => match kcall tt S avs rest C with
            | some L => some L
            | none => ktry tt ct wr d mno S avs rest t
          | false => ktry tt ct wr d mno S avs rest t
        | false => ktry tt ct wr d mno S avs rest t
      | false => ktry tt ct wr d mno S avs rest t
    | none => ktry tt ct wr d mno S avs rest t
/-- a row copied into one of the same type, all of whose numbers are of one kind -/
def kcpT (aty : List FieldType) (T : kT) : Bool := match T.2.2.1, T.2.2.2, aty[T.1 - 100]? with
  | [(0, 1, k, .inl _)], [], some .int => Nat.beq k T.2.1
  | [(0, 1, k, .inr (.inl _))], [], some .long => Nat.beq k T.2.1
  | [(0, 1, k, .inl q)], [], some .boolean => match Nat.beq k T.2.1 with
    | true => q.all (fun r => Nat.ble (r.2 - r.1).toNat 1 && (match r.1 with
      | .ofNat 0 => match r.2 with
        | .ofNat 0 => true
        | .ofNat 1 => true
        | _ => false
      | .ofNat 1 => match r.2 with
        | .ofNat 1 => true
        | _ => false
      | _ => false))
    | false => false
  | _, _, _ => false
def kcopy (tt : List kT) (aty : List FieldType) (wr : kW) (d : Nat) (S : kS) : Option (List kS) := match S.2.2.2.1 with
  | .inl n :: .inl dp :: .inr (.inr (.inl b)) :: .inl sp :: .inr (.inr (.inl a)) :: st => match S.2.1[a]?, S.2.1[b]? with
    | some t, some t' => match Nat.beq t t' with
      | true => match tt[t]? with
        | some T => match Nat.blt T.1 100 with
          | false => match (match kcpT aty T with
              | true => kyf t
              | false => false) with
            | true => match kgeS S n with
              | true => match kgeS S sp with
                | true => match kgeS S dp with
                  | true => match kgeS S (ksub (ksub (kcst (Int.ofNat T.2.1)) sp) n) with
                    | true => match kgeS S (ksub (ksub (kcst (Int.ofNat T.2.1)) dp) n) with
                      | true => match wr.any (fun w => match Nat.beq w.1 t with
                          | true => match w.2 with
                            | none => true
                            | some _ => false
                          | false => false) with
                        | true => match Nat.blt 0 d with
                          | true => match Nat.ble (kcsum st) 8 with
                            | true => some [(S.1, S.2.1, S.2.2.1, st, S.2.2.2.2.1.filter (kkeepW S [(t, none)]), S.2.2.2.2.2)]
                            | false => none
                          | false => none
                        | false => none
                      | false => none
                    | false => none
                  | false => none
                | false => none
              | false => none
            | false => none
          | true => none
        | none => none
      | false => none
    | _, _ => none
  | _ => none
/-- an instruction that calls: the states behind -/
def kinv (tt : List kT) (aty : List FieldType) (ct : List kCt) (ow : kOw) (cal : List (Nat × List Nat)) (wr : kW) (d pc : Nat) (ins : Instr) (S : kS) : Option (List kS) := match ins with
  | .invokevirtual idx => match kfnd ow.2.2.2.2 idx, kfnd cal pc with
    | some q, some ids => match ktake (q.2.1 + 1) S.2.2.2.1 [] with
      | some (.inr (.inr (.inl r)) :: avs, rest) => match S.2.1[r]? with
        | some t => match tt[t]? with
          | some T => match Nat.beq T.1 q.2.2.1 with
            | true => match Nat.blt T.1 100 with
              | true => match Nat.ble (kcsum rest) 8 with
                | true => match Nat.ble (1 + kcsum avs) q.2.2.2 with
                  | true => ktry tt ct wr d q.1 S (.inr (.inr (.inl r)) :: avs) rest ids
                  | false => none
                | false => none
              | false => none
            | false => none
          | none => none
        | none => none
      | _ => none
    | _, _ => none
  | .invokestatic idx => match kfnd ow.2.2.2.2 idx with
    | some q => match Nat.beq q.2.2.1 102 with
      | true => kcopy tt aty wr d S
      | false => match kfnd cal pc with
        | some ids => match Nat.ble 100 q.2.2.1 with
          | true => match ktake q.2.1 S.2.2.2.1 [] with
            | some (avs, rest) => match Nat.ble (kcsum rest) 8 with
              | true => match Nat.ble (kcsum avs) q.2.2.2 with
                | true => ktry tt ct wr d q.1 S avs rest ids
                | false => none
              | false => none
            | none => none
          | false => none
        | none => none
    | none => none
  | _ => none
/-- the links to methods, as the tables have them -/
def kOwM (own : String) (ow : kOw) (cl : List vw_C) (mt : List kMd) (lg nw : List Cond) : Prop := ∀ q ∈ ow.2.2.2.2, match Nat.beq q.2.2.2.1 102 with
  | true => Cond.methodLink own q.1 arraycopyName ∈ lg ∧ Cond.native arraycopyName ∈ lg ∧ Cond.static arraycopyName ∈ lg ∧ Cond.initialized "java/lang/System" ∈ lg
  | false => ∃ (y : MethodName) (b : ByteArray) (mL : Nat) (r : Option FieldType), mt[q.2.1]? = some (y, b, mL, r) ∧ Cond.code y b mL r ∈ lg ∧ Cond.initialized y.cls ∈ lg ∧ (parseMethodDescriptor y.desc).map (fun d => d.parameters.length) = some q.2.2.1 ∧ (y.cls ≠ "java/lang/invoke/MethodHandle" ∧ y.cls ≠ "java/lang/invoke/VarHandle") ∧ mL ≤ 21 ∧ q.2.2.2.2 ≤ mL ∧
    (q.2.2.2.1 < 100 → Cond.methodLink own q.1 y ∈ lg ∧ Cond.instanceMethod y ∈ lg ∧ Cond.selects y.cls y y ∈ lg ∧ ∃ (Tf : u_T) (N : Nat), cl[q.2.2.2.1]? = some (y.cls, Tf, N)) ∧
    (100 ≤ q.2.2.2.1 → Cond.static y ∈ lg ∧ (Cond.methodLink own q.1 y ∈ lg ∨ ∃ host, Cond.methodLinkNest own q.1 y host ∈ nw))
/-- what a contract says of the machine -/
def kPc (cl : List vw_C) (aty : List FieldType) (nw : List Cond) (sk : kSk) (D : va_G) (cA aS : Nat → Nat) (tt : List kT) (Ty : Nat → Nat → Prop) (lo : Nat) (X : State → Heap → Prop) (mL : Nat) (P : kS) (env : List Int) (ren : List Nat) (vs : List Value) (a : Array Value) (U : State) : Prop :=
  (a = vs.toArray ∧ (lg_sl vs).length ≤ mL) ∧ kK cl aty nw sk D cA aS U ∧ X U U.heap ∧ kgood D cA tt Ty lo U.heap ∧ ∃ lv', kst D cA tt Ty env ren P U.heap lv' [] ∧ ∀ q ∈ lv', q ∈ lv_args 0 vs
def kQc (D : va_G) (cA : Nat → Nat) (tt : List kT) (Ty : Nat → Nat → Prop) (lo : Nat) (C : kCt) (env : List Int) (ren : List Nat) (_ : Array Value) (st : State) (oc : Outcome) (t : State) : Prop :=
  ∃ (v : Option Value) (q : kCs) (x : List Int) (u : List Nat), oc = .returned v ∧ q ∈ C.2.2.2.1 ∧ kst D cA tt Ty (env ++ x) (ren ++ u) (kcsT C.2.1 q) t.heap (kans v) [] ∧ kgood D cA tt Ty lo t.heap ∧ kkp D cA tt Ty C.2.2.2.2.1 st.heap t.heap ∧ kfr lo st.heap t.heap
def kMet (l : Launch) (cl : List vw_C) (aty : List FieldType) (lg nw : List Cond) (sk : kSk) (mt : List kMd) (D : va_G) (cA aS : Nat → Nat) (tt : List kT) (Ty : Nat → Nat → Prop) (lo : Nat) (X : State → Heap → Prop) (C : kCt) : Prop :=
  ∀ (y : MethodName) (b : ByteArray) (mL : Nat) (r : Option FieldType), mt[C.1]? = some (y, b, mL, r) → ∀ (env : List Int) (ren : List Nat) (vs : List Value), Met l y (Cond.code y b mL r :: lg) (krm C.2.2.2.2.2) (kPc cl aty nw sk D cA aS tt Ty lo X mL C.2.1 env ren vs) (kQc D cA tt Ty lo C env ren) 0 0 (fun q => lo ≤ q)
/-- what else is known of the heap below lo stays -/
def kXok (X : State → Heap → Prop) (lo : Nat) : Prop := (∀ (s U : State) (H H' : Heap), s.WarmedH U.vm → X s H → (∀ q, q < lo → H'[q]? = H[q]?) → X U H') ∧ ∀ (U : State) (H : Heap) (g : JFrame) (mk : MethodId) (a : Array Value), X U H → X (U.calling g mk a) H
section KINV
variable {p : Program} {l : Launch} {e : Env} {R : Room} {s : State} {m : MethodId} {args : Array Value} {below : List Frame} {meth : Method} {c : Code} {H : Heap} {locs : List Loc} {cells slots : Nat} {Q : State → Prop}
variable {cc : ByteArray} {pc : Nat} {ls : Array Slot} {rest : List Value} {cl : List vw_C} {aty : List FieldType} {nw lg : List Cond} {sk : kSk} {cA aS : Nat → Nat} {mt : List kMd} {X : State → Heap → Prop} {lo : Nat}
variable {D : va_G} {tt : List kT} {Ty : Nat → Nat → Prop} {env : List Int} {ren : List Nat} {S : kS} {lv : List (Nat × Value)} {st : List Value}
theorem ktake_ok : ∀ {n : Nat} {l acc avs ra : List kV} {st va : List Value}, ktake n l acc = some (avs, ra) → kStk env ren l st → kStk env ren acc va → ∃ front rs, st = front ++ rs ∧ kStk env ren ra rs ∧ kStk env ren avs (front.reverse ++ va) ∧ front.length = n
  | 0, l, acc, avs, ra, st, va, h, h1, h2 => by
    cases h
    exact ⟨[], st, rfl, h1, h2, rfl⟩
  | n + 1, [], acc, avs, ra, st, va, h, h1, h2 => by cases h
  | n + 1, v :: l, acc, avs, ra, [], va, h, h1, h2 => h1.elim
  | n + 1, v :: l, acc, avs, ra, x :: st, va, h, h1, h2 => by
    obtain ⟨front, rs, e1, e2, e3, e4⟩ := ktake_ok (n := n) (l := l) (acc := v :: acc) (va := x :: va) h h1.2 ⟨h1.1, h2⟩
    exact ⟨x :: front, rs, by rw [e1]; rfl, e2, by simpa using e3, by simp [e4]⟩
theorem kcsum_ok : ∀ {l : List kV} {st : List Value}, kStk env ren l st → (st.map fun v => v.category).sum = kcsum l
  | [], [], _ => rfl
  | [], _ :: _, h => h.elim
  | _ :: _, [], h => h.elim
  | v :: l, x :: st, h => by
    have h1 := kcsum_ok h.2
    simp only [List.map_cons, List.sum_cons, kcsum, h1]
    cases hb : klong v with
    | true => rw [k_cat h.1 hb]; rfl
    | false => rw [k_cat h.1 hb]; rfl
theorem k_slen : ∀ {l : List kV} {st : List Value}, kStk env ren l st → (lg_sl st).length = kcsum l
  | [], [], _ => rfl
  | [], _ :: _, h => h.elim
  | _ :: _, [], h => h.elim
  | v :: l, x :: st, h => by
    have h1 := k_slen h.2
    have e : lg_sl (x :: st) = (if x.category = 2 then [.val x, .second] else [.val x]) ++ lg_sl st := by simp [lg_sl]
    rw [e, List.length_append, h1]
    simp only [kcsum]
    cases hb : klong v with
    | true =>
      have e2 : x.category = 2 := k_cat h.1 hb
      rw [if_pos e2]
      rfl
    | false =>
      have e2 := k_cat h.1 hb
      rw [if_neg (by rw [e2]; decide)]
      rfl
theorem kwsub_ok {a b : kW} {H1 : Heap} (h : kwsub a b = true) (hk : kkp D cA tt Ty a H H1) : kkp D cA tt Ty b H H1 := by
  intro ad t T V j h1 h2 h3 h4 h5
  refine hk ad t T V j h1 h2 h3 h4 (fun w hw e => ?_)
  obtain ⟨w', g1, g2⟩ := List.any_eq_true.mp (List.all_eq_true.mp h w hw)
  cases hb : Nat.beq w.1 w'.1 with
  | false => simp [hb] at g2
  | true =>
    simp only [hb] at g2
    have e1 := Nat.beq_eq.mp hb
    obtain ⟨n1, n2⟩ := h5 w' g1 (by rw [← e1]; exact e)
    cases h6 : w'.2 with
    | none => exact absurd h6 n1
    | some i =>
      simp only [h6] at g2
      cases h7 : w.2 with
      | none => simp [h7] at g2
      | some k =>
        simp only [h7] at g2
        have e2 := Nat.beq_eq.mp g2
        subst e2
        exact ⟨by simp, fun e3 => n2 (by rw [h6]; exact e3)⟩
theorem ktry_ok {ct : List kCt} {wr : kW} {d mno : Nat} {avs ra : List kV} : ∀ {ids : List Nat} {L : List kS}, ktry tt ct wr d mno S avs ra ids = some L → ∃ (i : Nat) (C : kCt), ct[i]? = some C ∧ C.1 = mno ∧ C.2.2.2.2.2 < d ∧ kwsub C.2.2.2.2.1 wr = true ∧ kcall tt S avs ra C = some L
  | [], L, h => by cases h
  | i :: t, L, h => by
    unfold ktry at h
    split at h
    · rename_i C h1
      split at h
      · rename_i h2
        split at h
        · rename_i h3
          split at h
          · rename_i h4
            split at h
            · rename_i L' h5
              obtain rfl := Option.some.inj h
              exact ⟨i, C, h1, Nat.beq_eq.mp h2, Nat.blt_eq.mp h3, h4, h5⟩
            · exact ktry_ok h
          · exact ktry_ok h
        · exact ktry_ok h
      · exact ktry_ok h
    · exact ktry_ok h
/-- behind a call -/
theorem k_then {st0 : List Value} {Qa : State → Outcome → State → Prop} {free : Addr → Prop} (hr : va_Run p l e R s m args below meth c H locs cells slots 0 0 (F0 m pc ls st0) rest Qa free)
    (kk : ∀ (v : Option Value) (s0 t : State) (L : List Loc), s0.heap = H → Qa s0 (.returned v) t → (∀ q ∈ L, free q.base) → W p l e R s m args below meth c t.heap (locs ++ L) cells slots Q (F0 m (pc + 3) ls (v.toList ++ rest))) : W p l e R s m args below meth c H locs cells slots Q (F0 m pc ls st0) := by
  intro T hT X
  obtain ⟨v, s0, t, T', L, h0, X', hL, e1, e2, hq, st⟩ := hr T hT X
  obtain ⟨t2, a1, b1⟩ := kk v s0 t L h0 hq hL T' e1 X'
  exact ⟨t2, st t2 a1, b1⟩
/-- the words of a callee, out of the caller's -/
theorem k_callB {own : String} {index n d d' : Nat} {y : MethodName} {b : ByteArray} {mL : Nat} {r : Option FieldType} (hts : ∀ w ∈ lg, w.before args s = true) (hlg : ∀ w ∈ lg, goodWord w = true) (hR : R = krm d) (hd : d' < d) (hmL : mL ≤ 21) (h1 : Cond.code y b mL r ∈ lg) : (krm d').cells = 0 ∧ (krm d').slots = 0 ∧ (krm d').frames + 1 ≤ R.frames ∧ 8 + (mL + 11) + (krm d').locals ≤ R.locals ∧ (∀ w ∈ (Cond.code y b mL r :: lg), ∀ (a' : Array Value) (U : State), s.WarmedH U.vm → w.before a' U = true) ∧ Cond.code y b mL r ∈ (Cond.code y b mL r :: lg) := by
  subst hR
  refine ⟨rfl, rfl, ?_, ?_, pay_in hts (fun w hw => ?_), List.mem_cons_self⟩
  · show d' + 1 ≤ d
    omega
  · show 8 + (mL + 11) + 40 * d' ≤ 40 * d
    omega
  · rcases List.mem_cons.mp hw with rfl | hw
    · exact ⟨h1, good_of_word (hlg _ h1)⟩
    · exact ⟨hw, good_of_word (hlg _ hw)⟩
theorem kPc_blind {P : kS} {mL : Nat} {vs : List Value} (hn : kNest nw) (hX : kXok X lo) : FrameBlind (kPc cl aty nw sk D cA aS tt Ty lo X mL P env ren vs) := fun a U g mk h => ⟨h.1, kK_call hn h.2.1, hX.2 _ _ g mk a h.2.2.1, h.2.2.2.1, h.2.2.2.2⟩
/-- behind a call by a contract: its cases -/
theorem kcall_ok {C : kCt} {avs ra : List kV} {vs sr : List Value} {L : List kS} (hTy : kTyp tt Ty) (hG : kgood D cA tt Ty lo H) (h : kst D cA tt Ty env ren S H lv st) (ha : kStk env ren avs vs) (hr : kStk env ren ra sr) (hc : kcall tt S avs ra C = some L) :
    ∃ zs as lv', kst D cA tt Ty zs as C.2.1 H lv' [] ∧ (∀ q ∈ lv', q ∈ lv_args 0 vs) ∧ ∀ (v : Option Value) (q : kCs) (x : List Int) (u : List Nat) (H1 : Heap), q ∈ C.2.2.2.1 → kst D cA tt Ty (zs ++ x) (as ++ u) (kcsT C.2.1 q) H1 (kans v) [] → kkp D cA tt Ty C.2.2.2.2.1 H H1 → ∃ S' ∈ L, ∃ x' u', kst D cA tt Ty (env ++ x') (ren ++ u') S' H1 lv (v.toList ++ sr) := by
  unfold kcall at hc
  split at hc
  · rename_i q hq
    split at hc
    · rename_i hch
      have h1 : kst D cA tt Ty env ren (S.1, S.2.1, klocs 0 avs, [], S.2.2.2.2) H (lv_args 0 vs) [] := ⟨h.1, h.2.1, h.2.2.1, klocs_ok ha, trivial, h.2.2.2.2.2⟩
      obtain ⟨x, u, zs, as, g1, g2, g3⟩ := kbind_ok (zs := []) (as := []) (sg := []) (sr := []) hTy hG h1 trivial trivial hq
      rw [List.nil_append] at g2 g3
      obtain ⟨lv', g4, g5⟩ := kch_ok hTy g1 g2 g3 hch
      refine ⟨zs, as, lv', g4, g5, fun v p x2 u2 H1 hp hk hkk => ?_⟩
      obtain ⟨L', w1, w2⟩ := kcases_mem hc hp
      obtain ⟨S', w3, w4⟩ := kcase_ok (lo := lo) hTy g1 g2 g3 g4.1 g4.2.2.1 hkk (kLoc_ext h.2.2.2.1) (kStk_ext hr) hk w1
      exact ⟨S', w2 S' w3, x ++ x2, u ++ u2, by rw [← List.append_assoc, ← List.append_assoc]; exact w4⟩
    · cases hc
  · cases hc
end KINV
end
section
section KINV2
variable {p : Program} {l : Launch} {e : Env} {R : Room} {s : State} {m : MethodId} {args : Array Value} {below : List Frame} {meth : Method} {c : Code} {H : Heap} {locs : List Loc} {cells slots : Nat} {Q : State → Prop}
variable {cc : ByteArray} {pc : Nat} {ls : Array Slot} {rest : List Value} {cl : List vw_C} {aty : List FieldType} {nw lg : List Cond} {sk : kSk} {cA aS : Nat → Nat} {mt : List kMd} {X : State → Heap → Prop} {lo : Nat}
variable {D : va_G} {tt : List kT} {Ty : Nat → Nat → Prop} {env : List Int} {ren : List Nat} {S : kS} {lv : List (Nat × Value)} {st : List Value}
/-- a row copied -/
theorem r_copy {own : String} {index a b na nb : Nat} {ca cb : ClassId} {V V' : Nat → Value} {ty : FieldType} {sp dp n : Int32} (hexec : p.tables.exec = Jvm.exec) (hb : c.code = cc) (hml : c.maxLocals = ls.size) (hown : s.vm.findClass own = some m.cls) (hlink : (Cond.methodLink own index arraycopyName).before args s = true) (hnat : (Cond.native arraycopyName).before args s = true) (hstat : (Cond.static arraycopyName).before args s = true) (hini : (Cond.initialized "java/lang/System").before args s = true)
    (hA : ArrOfT s ca ty) (hB : ArrOfT s cb ty) (hprim : refKind ty = false) (hc0 : H[a]? = some (arrV ca na V)) (hc1 : H[b]? = some (arrV cb nb V'))
    (h1 : 0 ≤ sp.toInt) (h2 : 0 ≤ dp.toInt) (h3 : 0 ≤ n.toInt) (h4 : sp.toInt + n.toInt ≤ na) (h5 : dp.toInt + n.toInt ≤ nb) (hfit : ∀ i, i < na → fits ty (V i) = true ∧ ((∃ w, V i = .int w) ∨ ∃ w, V i = .long w))
    (hframes : 1 ≤ R.frames) (hlocals : (rest.map fun v => v.category).sum + (nativeFrameWords "java/lang/System" "arraycopy" 5 + 11) ≤ R.locals) (hdg : decode cc pc = .ok (.invokestatic index, 3))
    (kk : ∀ (H1 : Heap) (L : List Loc), H1[b]? = some (arrV cb nb (va_cpy V V' sp.toInt.toNat dp.toInt.toNat n.toInt.toNat)) → H1.size = H.size → (∀ q, q ≠ b → H1[q]? = H[q]?) → (∀ q ∈ L, q.base = b) → W p l e R s m args below meth c H1 (locs ++ L) cells slots Q (F0 m (pc + 3) ls rest)) : W p l e R s m args below meth c H locs cells slots Q (F0 m pc ls (.int n :: .int dp :: .ref b :: .int sp :: .ref a :: rest)) := by
  intro T hT X
  have c1 : ∀ z : Int32, z.toNatClampNeg = z.toInt.toNat := fun z => rfl
  have nl : ∀ z : Int32, 0 ≤ z.toInt → ¬ z < 0 := fun z hz hlt => by
    have := Int32.lt_iff_toInt_lt.mp hlt
    have e0 : (0 : Int32).toInt = 0 := rfl
    omega
  obtain ⟨-, k0, hk0, cm0, hkk0⟩ := hA na V
  obtain ⟨-, k1, hk1, cm1, hkk1⟩ := hB nb V'
  obtain ⟨vm', X', step⟩ := X.arraycopy hexec hown hlink hnat hstat hini (src := a) (dst := b) (cs := arrV ca na V) (cd := arrV cb nb V') (srcPos := sp) (destPos := dp) (n := n) (by rw [hT]; exact hc0) (by rw [hT]; exact hc1)
    (fun _ h => by cases h) (fun _ h => by cases h) (fun h => by cases h) (fun h => by cases h) hk0 hk1 hkk0 hkk1 (by simp [hprim]) (nl sp h1) (nl dp h2) (nl n h3)
    (by rw [arrV_size]; omega)
    (by rw [arrV_size]; omega)
    (fun vm₁ _ i hi => by
      rw [c1] at hi
      have hi2 : sp.toNatClampNeg + i < na := by rw [c1]; omega
      have e : (arrV ca na V).slots.getD (sp.toNatClampNeg + i) .null = V (sp.toNatClampNeg + i) := by
        rw [Array.getD_eq_getD_getElem?, arrV_read _ _ hi2]
        rfl
      obtain ⟨f1, f2⟩ := hfit _ hi2
      refine ⟨?_, ?_⟩
      · rw [e]
        exact f1
      · rw [e]
        rcases f2 with ⟨w, f2⟩ | ⟨w, f2⟩ <;> rw [f2] <;> exact trivial)
    (g := F0 m pc ls (.int n :: .int dp :: .ref b :: .int sp :: .ref a :: rest)) rfl (by rw [hml]) (rest := rest) rfl (by rw [hb]; exact hdg) hframes (by show 2 * 0 + _ + _ ≤ _; omega)
  have e1 : copied (arrV ca na V) (arrV cb nb V') sp dp n = arrV cb nb (va_cpy V V' sp.toInt.toNat dp.toInt.toNat n.toInt.toNat) := va_copied (fun z => z) ca cb V V' (sp := sp.toInt.toNat) (dp := dp.toInt.toNat) (n := n.toInt.toNat) (by omega)
  rw [e1] at X' step
  have hl : b < H.size := (Array.getElem?_eq_some_iff.mp hc1).1
  obtain ⟨t, a1, b1⟩ := kk (H.setIfInBounds b (arrV cb nb (va_cpy V V' sp.toInt.toNat dp.toInt.toNat n.toInt.toNat))) _ (by simp [Array.getElem?_setIfInBounds, hl]) (by simp) (fun q hq => by simp [Array.getElem?_setIfInBounds, Ne.symm hq]) (fun q hq => by
    obtain ⟨z, -, hz⟩ := List.mem_map.mp hq
    rw [← hz]) _ (by rw [← hT]; rfl) X'
  exact ⟨t, step t a1, b1⟩
/-- a copied row is as its type says, and only rows of that type change -/
theorem kcopy_core {a b t k : Nat} {T : kT} {V V' : Nat → Value} {sp dp n : Nat} {P : kP} {H1 : Heap} {wr : kW} (hTy : kTyp tt Ty) (hG : kgood D cA tt Ty lo H) (h : kst D cA tt Ty env ren S H lv st) (htb : Ty b t) (hT : tt[t]? = some T) (hyt : kyf t = true) (hk : Nat.blt T.1 100 = false) (hr : T.2.2.1 = [(0, 1, k, P)]) (hse : T.2.2.2 = []) (hkN : k = T.2.1) (hv : kvals Ty T V) (hv' : kvals Ty T V') (hc' : kcell D cA T b H V') (hs : sp + n ≤ T.2.1)
    (hw : ∃ w ∈ wr, w.1 = t ∧ w.2 = none) (hH : H1[b]? = some (arrV (cA (T.1 - 100)) T.2.1 (va_cpy V V' sp dp n))) (ho : ∀ q, q ≠ b → H1[q]? = H[q]?) :
    kgood D cA tt Ty lo H1 ∧ kkp D cA tt Ty wr H H1 ∧ ∀ q ∈ S.2.2.2.2.1.filter (kkeepW S [(t, none)]), kfok D cA tt Ty env ren H1 q := by
  have hcell : kcell D cA T b H1 (va_cpy V V' sp dp n) := by
    unfold kcell
    rw [hk]
    exact hH
  have hvals : kvals Ty T (va_cpy V V' sp dp n) := by
    refine ⟨fun q hq j hj => ?_, fun q hq => by rw [hse] at hq; cases hq⟩
    have hq2 := hq
    rw [hr] at hq2
    have e : q = (0, 1, k, P) := by simpa using hq2
    subst e
    have hj : j < k := hj
    show kpok Ty P (va_cpy V V' sp dp n (0 + 1 * j))
    rw [Nat.zero_add, Nat.one_mul]
    unfold va_cpy
    split
    · have := hv.1 _ hq (sp + (j - dp)) (show sp + (j - dp) < k by omega)
      have this : kpok Ty P (V (0 + 1 * (sp + (j - dp)))) := this
      rwa [Nat.zero_add, Nat.one_mul] at this
    · have := hv'.1 _ hq j hj
      have this : kpok Ty P (V' (0 + 1 * j)) := this
      rwa [Nat.zero_add, Nat.one_mul] at this
  have hkp : ∀ w0 : kW, (∃ w ∈ w0, w.1 = t ∧ w.2 = none) → kkp D cA tt Ty w0 H H1 := by
    intro w0 hw0 a' t' T' W' j ht' hT' hc2 hj hno
    by_cases e : a' = b
    · subst e
      have et := kTyp_eq hTy ht' htb hT' hT
      subst et
      obtain ⟨w, g1, g2, g3⟩ := hw0
      exact absurd g3 (hno w g1 g2).1
    · exact ⟨W', kcell_kept hc2 (ho a' e), rfl⟩
  refine ⟨⟨fun a' t' T' ht' hT' => ?_, kY_kept hTy hG.2 htb hT hyt ho⟩, hkp wr hw, fun q hq => ?_⟩
  · by_cases e : a' = b
    · subst e
      have et := kTyp_eq hTy ht' htb hT' hT
      subst et
      have eT : T' = T := Option.some.inj (hT'.symm.trans hT)
      subst eT
      exact ⟨(hG.1 a' t' T' ht' hT').1, _, hcell, hvals⟩
    · obtain ⟨g1, W', g2, g3⟩ := hG.1 a' t' T' ht' hT'
      exact ⟨g1, W', kcell_kept g2 (ho a' e), g3⟩
  · obtain ⟨q1, q2⟩ := List.mem_filter.mp hq
    exact kkeepW_ok (lo := lo) hTy h (hkp [(t, none)] ⟨(t, none), List.mem_cons_self, rfl, rfl⟩) (h.2.2.2.2.2 q q1) q2
theorem k_nat : nativeFrameWords "java/lang/System" "arraycopy" 5 + 11 ≤ 32 := by decide +kernel
end KINV2
end
section
section KINV3
variable {p : Program} {l : Launch} {e : Env} {R : Room} {s : State} {m : MethodId} {args : Array Value} {below : List Frame} {meth : Method} {c : Code} {H : Heap} {locs : List Loc} {cells slots : Nat} {Q : State → Prop}
variable {cc : ByteArray} {pc : Nat} {ls : Array Slot} {rest : List Value} {cl : List vw_C} {aty : List FieldType} {nw lg : List Cond} {sk : kSk} {cA aS : Nat → Nat} {mt : List kMd} {X : State → Heap → Prop} {lo : Nat}
variable {D : va_G} {tt : List kT} {Ty : Nat → Nat → Prop} {env : List Int} {ren : List Nat} {S : kS} {lv : List (Nat × Value)} {st : List Value}
theorem kcpT_ok {T : kT} (h : kcpT aty T = true) : ∃ ty k P, aty[T.1 - 100]? = some ty ∧ T.2.2.1 = [(0, 1, k, P)] ∧ T.2.2.2 = [] ∧ k = T.2.1 ∧ refKind ty = false ∧ ∀ v, kpok Ty P v → fits ty v = true ∧ ((∃ w, v = .int w) ∨ ∃ w, v = .long w) := by
  unfold kcpT at h
  split at h
  · rename_i k q h1 h2 h3
    exact ⟨.int, k, .inl q, h3, h1, h2, Nat.beq_eq.mp h, rfl, fun v hv => by
      obtain ⟨n, rfl, -⟩ := hv
      exact ⟨rfl, Or.inl ⟨n, rfl⟩⟩⟩
  · rename_i k q h1 h2 h3
    exact ⟨.long, k, .inr (.inl q), h3, h1, h2, Nat.beq_eq.mp h, rfl, fun v hv => by
      obtain ⟨n, rfl, -⟩ := hv
      exact ⟨rfl, Or.inr ⟨n, rfl⟩⟩⟩
  · rename_i k q h1 h2 h3
    split at h
    · rename_i hk
      refine ⟨.boolean, k, .inl q, h3, h1, h2, Nat.beq_eq.mp hk, rfl, fun v hv => ?_⟩
      obtain ⟨n, rfl, r, hr, b1, b2⟩ := hv
      refine ⟨?_, Or.inl ⟨n, rfl⟩⟩
      have hr2 := List.all_eq_true.mp h r hr
      simp only [Bool.and_eq_true] at hr2
      have hb : 0 ≤ r.1 ∧ r.2 ≤ 1 := by
        have h5 := hr2.2
        split at h5
        · rename_i e1
          split at h5
          · rename_i e2; rw [e1, e2]; exact ⟨by decide, by decide⟩
          · rename_i e2; rw [e1, e2]; exact ⟨by decide, by decide⟩
          · cases h5
        · rename_i e1
          split at h5
          · rename_i e2; rw [e1, e2]; exact ⟨by decide, by decide⟩
          · cases h5
        · cases h5
      have hn : n.toInt = 0 ∨ n.toInt = 1 := by omega
      have : n = 0 ∨ n = 1 := by
        rcases hn with e | e
        · exact Or.inl (Int32.toInt_inj.mp e)
        · exact Or.inr (Int32.toInt_inj.mp e)
      show (n == 0 || n == 1) = true
      rcases this with rfl | rfl <;> rfl
    · cases h
  · cases h
set_option maxHeartbeats 4000000 in
theorem kcopy_ok {own : String} {index d nL : Nat} {wr : kW} {L : List kS} (hexec : p.tables.exec = Jvm.exec) (hb : c.code = cc) (hml : c.maxLocals = nL) (hR : R = krm d) (hown : s.vm.findClass own = some m.cls) (hts : ∀ w ∈ lg, w.before args s = true) (how : Cond.methodLink own index arraycopyName ∈ lg ∧ Cond.native arraycopyName ∈ lg ∧ Cond.static arraycopyName ∈ lg ∧ Cond.initialized "java/lang/System" ∈ lg) (hK : kK cl aty nw sk D cA aS s) (hTy : kTyp tt Ty) (hG : kgood D cA tt Ty lo H)
    (h : kst D cA tt Ty env ren S H lv st) (hlv : lv_has ls nL lv) (hd : decode cc pc = .ok (.invokestatic index, 3)) (hs : kcopy tt aty wr d S = some L)
    (kk : ∀ S' ∈ L, ∀ x u st' H' L', kgood D cA tt Ty lo H' → kfr lo H H' → kkp D cA tt Ty wr H H' → (∀ q ∈ L', lo ≤ q.base) → kst D cA tt Ty (env ++ x) (ren ++ u) S' H' lv st' → W p l e R s m args below meth c H' (locs ++ L') cells slots Q (F0 m (pc + 3) ls st')) : W p l e R s m args below meth c H locs cells slots Q (F0 m pc ls st) := by
  have hk := h.2.2.2.2.1
  unfold kcopy at hs
  split at hs
  · rename_i n dp b sp a sa h1
    rw [h1] at hk
    match st, hk with
    | x1 :: x2 :: x3 :: x4 :: x5 :: sc, hk =>
      obtain ⟨⟨n', rfl, en⟩, ⟨dp', rfl, ed⟩, ⟨b', rfl, eb⟩, ⟨sp', rfl, es⟩, ⟨a', rfl, ea⟩, hk2⟩ := hk
      split at hs
      · rename_i t t2 h2 h3
        split at hs
        · rename_i h4
          have e4 := Nat.beq_eq.mp h4
          subst e4
          split at hs
          · rename_i T h5
            split at hs
            · rename_i h6
              split at hs
              · rename_i h70
                have h71 : kcpT aty T = true ∧ kyf t = true := by
                  cases g1 : kcpT aty T with
                  | false => simp [g1] at h70
                  | true =>
                    simp only [g1] at h70
                    exact ⟨rfl, h70⟩
                obtain ⟨h7, h7y⟩ := h71
                split at hs
                · rename_i h8
                  split at hs
                  · rename_i h9
                    split at hs
                    · rename_i h10
                      split at hs
                      · rename_i h11
                        split at hs
                        · rename_i h12
                          split at hs
                          · rename_i h13
                            split at hs
                            · rename_i h14
                              split at hs
                              · rename_i h15
                                obtain rfl := Option.some.inj hs
                                have hta := h.2.2.1.2 a t a' h2 ea
                                have htb := h.2.2.1.2 b t b' h3 eb
                                obtain ⟨la, V, hca, hva⟩ := hG.1 a' t T hta h5
                                obtain ⟨lb, V', hcb, hvb⟩ := hG.1 b' t T htb h5
                                obtain ⟨ty, k, P, c1, c2, c3, c4, c5, c6⟩ := kcpT_ok (Ty := Ty) h7
                                have z1 := kgeS_ok h en h8
                                have z2 := kgeS_ok h es h9
                                have z3 := kgeS_ok h ed h10
                                have z4 := kgeS_ok h (ksub_ev (ksub_ev (kcst_ev (n := Int.ofNat T.2.1)) es) en) h11
                                have z5 := kgeS_ok h (ksub_ev (ksub_ev (kcst_ev (n := Int.ofNat T.2.1)) ed) en) h12
                                have z4 : 0 ≤ (T.2.1 : Int) - sp'.toInt - n'.toInt := z4
                                have z5 : 0 ≤ (T.2.1 : Int) - dp'.toInt - n'.toInt := z5
                                have hca2 := hca
                                have hcb2 := hcb
                                unfold kcell at hca2 hcb2
                                rw [h6] at hca2 hcb2
                                have hA := hK.2.1 _ _ c1
                                subst hR
                                have d0 : 0 < d := Nat.blt_eq.mp h14
                                refine r_copy (a := a') (b := b') hexec hb (by rw [hml]; exact hlv.1.symm) hown (hts _ how.1) (hts _ how.2.1) (hts _ how.2.2.1) (hts _ how.2.2.2) hA hA c5 hca2 hcb2 z2 z3 z1 (by omega) (by omega) (fun i hi => c6 _ (by
                                  have hq := hva.1 (0, 1, k, P) (by rw [c2]; exact List.mem_cons_self) i (show i < k by omega)
                                  have hq : kpok Ty P (V (0 + 1 * i)) := hq
                                  rwa [Nat.zero_add, Nat.one_mul] at hq)) (show 1 ≤ d by omega) (by
                                  rw [kcsum_ok hk2]
                                  have := Nat.le_of_ble_eq_true h15
                                  have := k_nat
                                  show _ ≤ 40 * d
                                  omega) hd (fun H1 L w1 w2 w3 w4 => ?_)
                                have hw : ∃ w ∈ wr, w.1 = t ∧ w.2 = none := by
                                  obtain ⟨w, g1, g2⟩ := List.any_eq_true.mp h13
                                  cases hb2 : Nat.beq w.1 t with
                                  | false => simp [hb2] at g2
                                  | true =>
                                    cases hb3 : w.2 with
                                    | some j => simp [hb2, hb3] at g2
                                    | none => exact ⟨w, g1, Nat.beq_eq.mp hb2, hb3⟩
                                obtain ⟨g1, g2, g3⟩ := kcopy_core (a := a') hTy hG h htb h5 h7y h6 c2 c3 c4 hva hvb hcb (by omega) hw w1 w3
                                exact kk _ List.mem_cons_self [] [] _ H1 L g1 ⟨w2, fun q hq => w3 q (fun e => by subst e; omega)⟩ g2 (fun q hq => by rw [w4 q hq]; exact lb) (by
                                  rw [List.append_nil, List.append_nil]
                                  exact ⟨h.1, h.2.1, h.2.2.1, h.2.2.2.1, hk2, g3⟩)
                              · cases hs
                            · cases hs
                          · cases hs
                        · cases hs
                      · cases hs
                    · cases hs
                  · cases hs
                · cases hs
              · cases hs
            · cases hs
          · cases hs
        · cases hs
      · cases hs
    | [], hk => exact hk.elim
    | [_], hk => exact hk.2.elim
    | [_, _], hk => exact hk.2.2.elim
    | [_, _, _], hk => exact hk.2.2.2.elim
    | [_, _, _, _], hk => exact hk.2.2.2.2.elim
  · cases hs
set_option maxHeartbeats 4000000 in
theorem kinv_ok {own : String} {ow : kOw} {cal : List (Nat × List Nat)} {ct : List kCt} {d nL : Nat} {wr : kW} {ins : Instr} {L : List kS} (hexec : p.tables.exec = Jvm.exec) (hb : c.code = cc) (hml : c.maxLocals = nL) (hR : R = krm d) (hc0 : cells = 0 ∧ slots = 0) (hown : s.vm.findClass own = some m.cls) (hts : ∀ w ∈ lg, w.before args s = true) (hlg : ∀ w ∈ lg, goodWord w = true) (how : kOwM own ow cl mt lg nw) (hK : kK cl aty nw sk D cA aS s) (hn : kNest nw) (hX : kXok X lo) (hXs : X s s.heap) (hTy : kTyp tt Ty) (hG : kgood D cA tt Ty lo H) (hfr : kfr lo s.heap H)
    (hM : ∀ (i : Nat) (C : kCt), ct[i]? = some C → C.2.2.2.2.2 < d → kMet l cl aty lg nw sk mt D cA aS tt Ty lo X C)
    (h : kst D cA tt Ty env ren S H lv st) (hlv : lv_has ls nL lv) (hd : decode cc pc = .ok (ins, kln ins)) (hs : kinv tt aty ct ow cal wr d pc ins S = some L)
    (kk : ∀ S' ∈ L, ∀ x u st' H' L', kgood D cA tt Ty lo H' → kfr lo H H' → kkp D cA tt Ty wr H H' → (∀ q ∈ L', lo ≤ q.base) → kst D cA tt Ty (env ++ x) (ren ++ u) S' H' lv st' → W p l e R s m args below meth c H' (locs ++ L') cells slots Q (F0 m (pc + kln ins) ls st')) : W p l e R s m args below meth c H locs cells slots Q (F0 m pc ls st) := by
  have hk := h.2.2.2.2.1
  obtain ⟨rfl, rfl⟩ := hc0
  unfold kinv at hs
  split at hs
  -- virtual
  · rename_i idx
    split at hs
    · rename_i q ids h1 h2
      split at hs
      · rename_i r avs ra h3
        split at hs
        · rename_i t h4
          split at hs
          · rename_i T h5
            split at hs
            · rename_i h6
              split at hs
              · rename_i h7
                split at hs
                · rename_i h8
                  split at hs
                  case h_2 => cases hs
                  rename_i h9
                  obtain ⟨i, C, g1, g2, g3, g4, g5⟩ := ktry_ok hs
                  have hq := how _ (kfnd_mem h1)
                  have e6 := Nat.beq_eq.mp h6
                  have l7 : T.1 < 100 := Nat.blt_eq.mp h7
                  have hne : Nat.beq q.2.2.1 102 = false := by
                    cases hb2 : Nat.beq q.2.2.1 102 with
                    | false => rfl
                    | true =>
                      have := Nat.beq_eq.mp hb2
                      omega
                  simp only [hne] at hq
                  obtain ⟨y, b, mL, rt, m1, m2, m3, m4, m5, m6, m8, m7, -⟩ := hq
                  obtain ⟨w1, w2, w3, Tf, N, w4⟩ := m7 (by rw [← e6]; exact l7)
                  obtain ⟨front, rs, f1, f2, f3, f4⟩ := ktake_ok (va := []) h3 hk trivial
                  rw [List.append_nil] at f3
                  cases hfv : front.reverse with
                  | nil => rw [hfv] at f3; exact f3.elim
                  | cons x0 As =>
                    rw [hfv] at f3
                    obtain ⟨⟨a, ea1, ea2⟩, f5⟩ := id f3
                    subst ea1
                    have hfr2 : front = As.reverse ++ [.ref a] := by
                      rw [← List.reverse_reverse front, hfv]
                      simp
                    have hlen : As.length = q.2.1 := by
                      have := congrArg List.length hfv
                      simp at this
                      omega
                    obtain ⟨zs, as, lv', c1, c2, c3⟩ := kcall_ok hTy hG h f3 f2 g5
                    have hta := h.2.2.1.2 r t a h4 ea2
                    obtain ⟨la, V, hca, hva⟩ := hG.1 a t T hta h5
                    unfold kcell at hca
                    rw [h7] at hca
                    obtain ⟨cell, p1, p2, p3, -⟩ := hca
                    have hMC := hM i C g1 g3 y b mL rt (by rw [g2]; exact m1) zs as (Value.ref a :: As)
                    obtain ⟨b1, b2, b3, b4, b5, b6⟩ := k_callB (R := R) (own := own) (index := idx) (n := q.2.1) (d' := C.2.2.2.2.2) hts hlg hR g3 m6 m2
                    have hcls : s.vm.findClass y.cls = some cell.cls := by
                      obtain ⟨-, hfc, -⟩ := hK.1 q.2.2.1 _ w4
                      rw [p2, e6]
                      exact hfc
                    have hsl : (lg_sl (Value.ref a :: As)).length ≤ mL := by
                      rw [k_slen f3]
                      have g9 : 1 + kcsum avs ≤ q.2.2.2 := Nat.le_of_ble_eq_true h9
                      show 1 + kcsum avs ≤ mL
                      omega
                    have hrun := va_runV (cells := 0) (slots := 0) (locs := locs) (below := below) (e := e) (meth := meth) (H := H) (b := a) (As := As) (rest := rs) (C := y.cls) (g := F0 m pc ls st) ⟨hexec, hb, hml, hown, hts⟩ hMC ⟨⟨b1, b2, b3, b4, b5, b6, hts _ m2, hts _ m3, m5, fun sig hsig => by rw [hsig] at m4; exact (Option.some.inj m4).symm, hts _ w1⟩, hts _ w2, hts _ w3⟩
                      ⟨kPc_blind hn hX, ⟨cell, p1, by rw [p3]; rfl, hcls⟩, fun U hU hW => ⟨⟨rfl, hsl⟩, kK_warm hn hW hK, by rw [hU]; exact hX.1 s U s.heap H hW hXs hfr.2, by rw [hU]; exact hG, lv', by rw [hU]; exact c1, c2⟩⟩
                      rfl hlen hlv.1 (by show st = _; rw [f1, hfr2]; simp) (by
                        show 2 * 0 + _ ≤ 8
                        rw [kcsum_ok f2]
                        have := Nat.le_of_ble_eq_true h8
                        omega) hd ⟨by omega, by omega⟩
                    refine k_then hrun (fun v s0 t2 L2 hs0 hQ hL2 => ?_)
                    obtain ⟨v', q', x, u, ov, q1, q2, q3, q4, q5⟩ := hQ
                    cases ov
                    rw [hs0] at q4 q5
                    obtain ⟨S', r1, x', u', r2⟩ := c3 v q' x u t2.heap q1 q2 q4
                    exact kk S' r1 x' u' _ t2.heap L2 q3 q5 (kwsub_ok g4 q4) hL2 r2
                · cases hs
              · cases hs
            · cases hs
          · cases hs
        · cases hs
      · cases hs
    · cases hs
  -- static
  · rename_i idx
    split at hs
    · rename_i q h1
      have hq := how _ (kfnd_mem h1)
      split at hs
      · rename_i h2
        simp only [h2] at hq
        exact kcopy_ok hexec hb hml hR hown hts hq hK hTy hG h hlv hd hs kk
      · rename_i h2
        simp only [h2] at hq
        split at hs
        · rename_i ids h3
          split at hs
          · rename_i h4
            split at hs
            · rename_i avs ra h5
              split at hs
              · rename_i h8
                split at hs
                case h_2 => cases hs
                rename_i h9
                obtain ⟨i, C, g1, g2, g3, g4, g5⟩ := ktry_ok hs
                obtain ⟨y, b, mL, rt, m1, m2, m3, m4, m5, m6, m8, -, m7⟩ := hq
                obtain ⟨w1, w2⟩ := m7 (Nat.le_of_ble_eq_true h4)
                obtain ⟨front, rs, f1, f2, f3, f4⟩ := ktake_ok (va := []) h5 hk trivial
                rw [List.append_nil] at f3
                obtain ⟨zs, as, lv', c1, c2, c3⟩ := kcall_ok hTy hG h f3 f2 g5
                have hMC := hM i C g1 g3 y b mL rt (by rw [g2]; exact m1) zs as front.reverse
                obtain ⟨b1, b2, b3, b4, b5, b6⟩ := k_callB (R := R) (own := own) (index := idx) (n := q.2.1) (d' := C.2.2.2.2.2) hts hlg hR g3 m6 m2
                have hsl : (lg_sl front.reverse).length ≤ mL := by
                  rw [k_slen f3]
                  have g9 : kcsum avs ≤ q.2.2.2 := Nat.le_of_ble_eq_true h9
                  omega
                have hpre : PreS s H (kPc cl aty nw sk D cA aS tt Ty lo X mL C.2.1 zs as front.reverse) front.reverse := ⟨kPc_blind hn hX, fun U hU hW => ⟨⟨rfl, hsl⟩, kK_warm hn hW hK, by rw [hU]; exact hX.1 s U s.heap H hW hXs hfr.2, by rw [hU]; exact hG, lv', by rw [hU]; exact c1, c2⟩⟩
                have hstk : (F0 m pc ls st).stack = front.reverse.reverse ++ rs := by show st = _; rw [f1]; simp
                have hsum : 2 * (F0 m pc ls st).monitorRoom + (rs.map fun v => v.category).sum ≤ 8 := by
                  show 2 * 0 + _ ≤ 8
                  rw [kcsum_ok f2]
                  have := Nat.le_of_ble_eq_true h8
                  omega
                have hpar : ∀ sig, parseMethodDescriptor y.desc = some sig → q.2.1 = sig.parameters.length := fun sig hsig => by rw [hsig] at m4; exact (Option.some.inj m4).symm
                have hrun : va_Run p l e R s m args below meth c H locs 0 0 0 0 (F0 m pc ls st) rs (kQc D cA tt Ty lo C zs as front.reverse.toArray) (fun q => lo ≤ q) := by
                  rcases w2 with w2 | ⟨host, w2⟩
                  · exact va_runS (nL := nL) (n := q.2.1) ⟨hexec, hb, hml, hown, hts⟩ hMC ⟨⟨b1, b2, b3, b4, b5, b6, hts _ m2, hts _ m3, m5, hpar, hts _ w2⟩, hts _ w1⟩ hpre rfl (by simp [f4]) hlv.1 hstk hsum hd ⟨by omega, by omega⟩
                  · exact va_runSN (nL := nL) (n := q.2.1) (host := host) ⟨hexec, hb, hml, hown, hts⟩ hMC ⟨⟨⟨b1, b2, b3, b4, b5, b6⟩, hts _ m2, hts _ m3, m5, hpar, va_Nw.use rfl (hK.2.2.1 _ w2)⟩, hts _ w1, trivial⟩ hpre rfl (by simp [f4]) hlv.1 hstk hsum hd ⟨by omega, by omega⟩
                refine k_then hrun (fun v s0 t2 L2 hs0 hQ hL2 => ?_)
                obtain ⟨v', q', x, u, ov, q1, q2, q3, q4, q5⟩ := hQ
                cases ov
                rw [hs0] at q4 q5
                obtain ⟨S', r1, x', u', r2⟩ := c3 v q' x u t2.heap q1 q2 q4
                exact kk S' r1 x' u' _ t2.heap L2 q3 q5 (kwsub_ok g4 q4) hL2 r2
              · cases hs
            · cases hs
          · cases hs
        · cases hs
    · cases hs
  · cases hs
end KINV3
end
section
/-! THE WALK OF A BODY -/
abbrev kCd : Type := List (Nat × Instr × Nat)
abbrev kCut : Type := Nat × kTm × kL
def kdrop (pc : Nat) : kCd → Option kCd
  | [] => none
  | q :: t => match Nat.beq q.1 pc with
    | true => some (q :: t)
    | false => kdrop pc t
def knext (code tl : kCd) (pc : Nat) : Option kCd := match tl with
  | q :: t => match Nat.beq q.1 pc with
    | true => some (q :: t)
    | false => kdrop pc code
  | [] => kdrop pc code
theorem kdrop_ok {pc : Nat} : ∀ {l r : kCd}, kdrop pc l = some r → (∀ q ∈ r, q ∈ l) ∧ ∃ ins len t, r = (pc, ins, len) :: t
  | [], r, h => by cases h
  | q :: t, r, h => by
    unfold kdrop at h
    cases hb : Nat.beq q.1 pc with
    | true =>
      simp only [hb] at h
      obtain rfl := Option.some.inj h
      have e := Nat.beq_eq.mp hb
      subst e
      exact ⟨fun _ h => h, q.2.1, q.2.2, t, rfl⟩
    | false =>
      simp only [hb] at h
      obtain ⟨h1, h2⟩ := kdrop_ok h
      exact ⟨fun p hp => List.mem_cons_of_mem _ (h1 p hp), h2⟩
theorem knext_ok {code tl r : kCd} {pc : Nat} (h : knext code tl pc = some r) (ht : ∀ q ∈ tl, q ∈ code) : (∀ q ∈ r, q ∈ code) ∧ ∃ ins len t, r = (pc, ins, len) :: t := by
  unfold knext at h
  split at h
  · rename_i q t
    split at h
    · rename_i hb
      obtain rfl := Option.some.inj h
      have e := Nat.beq_eq.mp hb
      subst e
      exact ⟨ht, q.2.1, q.2.2, t, rfl⟩
    · exact kdrop_ok h
  · exact kdrop_ok h
/-- at a cut: the state is as the template says, and the rank has fallen -/
def kcut (tt : List kT) (P : kS) (S : kS) (rb : Option kL) (T : kTm) (rk : kL) : Bool := match kbind tt T.2 S (ksyms 0 P.1) (krefs 0 P.2.1) with
  | some q => match kch q.1 q.2.1 q.2.2 T.1 with
    | true => match ksubst q.2.1 rk with
      | some g => match kgeS q.1 g with
        | true => match rb with
          | none => true
          | some f => kgeS q.1 (kofs (ksub f g) (-1))
        | false => false
      | none => false
    | false => false
  | none => false
/-- at a return: one of the cases holds -/
def kret1 (tt : List kT) (P : kS) (S : kS) (v : List (Nat × kV)) (q : kCs) : Bool := match kbind tt q.2.2.2.2.2 (S.1, S.2.1, v, [], S.2.2.2.2) (ksyms 0 P.1) (krefs 0 P.2.1) with
  | some r => kch r.1 r.2.1 r.2.2 (kcsT P q)
  | none => false
def kret (tt : List kT) (P : kS) (cs : List kCs) (rt : Option FieldType) (ins : Instr) (S : kS) : Bool := match ins, rt, S.2.2.2.1 with
  | .ireturn, some ty, [.inl f] => match kfixA S ty (.inl f) with
    | true => cs.any (fun q => match q.2.2.1 with
      | some _ => kret1 tt P S [(0, .inl f)] q
      | none => false)
    | false => false
  | .lreturn, some .long, [v] => match klong v with
    | true => cs.any (fun q => match q.2.2.1 with
      | some _ => kret1 tt P S [(0, v)] q
      | none => false)
    | false => false
  | .return_, none, [] => cs.any (kret1 tt P S [])
  | _, _, _ => false
def kgrp (ins : Instr) : Nat := match ins with
  | .goto _ => 1
  | .ifCond _ _ => 1
  | .if_icmp _ _ => 1
  | .tableswitch _ _ _ _ => 1
  | .getfield _ => 2
  | .putfield _ => 2
  | .iaload => 2
  | .baload => 2
  | .laload => 2
  | .aaload => 2
  | .iastore => 2
  | .bastore => 2
  | .lastore => 2
  | .invokevirtual _ => 3
  | .invokestatic _ => 3
  | .ireturn => 4
  | .lreturn => 4
  | .return_ => 4
  | _ => 0
def kistab (ins : Instr) : Bool := match ins with
  | .tableswitch _ _ _ _ => true
  | _ => false
def kgo (k : kCd → kS → Bool) (code tl : kCd) (pc : Nat) (S : kS) : Bool := match knext code tl pc with
  | some c => k c S
  | none => false
/-- what a body's walk needs: types of cells, of arrays, contracts, the pool, how many locals, what is wanted, the cases, the answer's type, what may be written, the depth -/
abbrev kEn : Type := List kT × List FieldType × List kCt × kOw × Nat × kS × List kCs × Option FieldType × kW × Nat
/-- the code, which contracts are called where, where is split, the cuts -/
abbrev kBd : Type := kCd × List (Nat × List Nat) × List (Nat × Nat × List Int) × List kCut
def kdo (E : kEn) (B : kBd) (k : kCd → kS → Bool) (q : Nat × Instr × Nat) (tl : kCd) (S : kS) : Bool := match kgrp q.2.1 with
  | 0 => match Nat.beq q.2.2 (kln q.2.1) with
    | true => match kstep1 E.2.2.2.1 E.2.2.2.2.1 q.2.1 S with
      | some S' => kgo k B.1 tl (q.1 + q.2.2) S'
      | none => false
    | false => false
  | 1 => match (match kistab q.2.1 with
      | true => true
      | false => Nat.beq q.2.2 3) with
    | true => match kbr q.1 q.2.1 S with
      | some L => L.all (fun w => kgo k B.1 tl w.1 w.2)
      | none => false
    | false => false
  | 2 => match Nat.beq q.2.2 (kln q.2.1) with
    | true => match kmemi E.1 E.2.1 E.2.2.2.1 E.2.2.2.2.2.2.2.2.1 q.2.1 S with
      | some L => L.all (fun S' => kgo k B.1 tl (q.1 + q.2.2) S')
      | none => false
    | false => false
  | 3 => match Nat.beq q.2.2 (kln q.2.1) with
    | true => match kinv E.1 E.2.1 E.2.2.1 E.2.2.2.1 B.2.1 E.2.2.2.2.2.2.2.2.1 E.2.2.2.2.2.2.2.2.2 q.1 q.2.1 S with
      | some L => L.all (fun S' => kgo k B.1 tl (q.1 + q.2.2) S')
      | none => false
    | false => false
  | _ => match Nat.beq q.2.2 1 with
    | true => kret E.1 E.2.2.2.2.2.1 E.2.2.2.2.2.2.1 E.2.2.2.2.2.2.2.1 q.2.1 S
    | false => false
def ksplit (f : kL) : List Int → kS → List kS
  | [], S => [S]
  | t :: ts, S => (match kasmS S (ksub (kcst t) f) with
    | some S1 => [S1]
    | none => []) ++ (match kasmS S (kofs f (-(t + 1))) with
    | some S2 => ksplit f ts S2
    | none => [])
def kexec (E : kEn) (B : kBd) (rb : Option kL) : Nat → Bool → kCd → kS → Bool
  | 0, _, _, _ => false
  | n + 1, b, cur, S => match cur with
    | [] => false
    | q :: tl => match (match b with
        | true => B.2.2.2.any (fun c => Nat.beq c.1 q.1)
        | false => false) with
      | true => B.2.2.2.any (fun c => match Nat.beq c.1 q.1 with
        | true => kcut E.1 E.2.2.2.2.2.1 S rb c.2.1 c.2.2
        | false => false)
      | false => match kfnd B.2.2.1 q.1 with
        | some w => match klocv S.2.2.1 w.1 with
          | some (.inl f) => (ksplit f w.2 S).all (fun S' => kdo E B (kexec E B rb n true) q tl S')
          | _ => false
        | none => kdo E B (kexec E B rb n true) q tl S
/-- a body is as its contract says: from its start, and from every cut -/
def kbody (E : kEn) (B : kBd) (n : Nat) : Bool := match kexec E B none n false B.1 E.2.2.2.2.2.1 with
  | true => B.2.2.2.all (fun c => match kdrop c.1 B.1 with
    | some cur => kexec E B (some c.2.2) n false cur c.2.1.1
    | none => false)
  | false => false
section KEX
variable {D : va_G} {cA : Nat → Nat} {tt : List kT} {Ty : Nat → Nat → Prop} {env : List Int} {ren : List Nat} {S : kS} {H : Heap} {lv : List (Nat × Value)} {st : List Value}
theorem ksplit_ok {f : kL} {z : Int} : ∀ {ts : List Int} {S : kS}, kst D cA tt Ty env ren S H lv st → kev env f = some z → ∃ S' ∈ ksplit f ts S, kst D cA tt Ty env ren S' H lv st
  | [], S, h, _ => ⟨S, List.mem_cons_self, h⟩
  | t :: ts, S, h, hf => by
    unfold ksplit
    by_cases hz : z ≤ t
    · obtain ⟨S1, g1, g2⟩ := kasmS_ok h (ksub_ev (kcst_ev (n := t)) hf) (by omega)
      rw [g1]
      exact ⟨S1, List.mem_append_left _ List.mem_cons_self, g2⟩
    · obtain ⟨S1, g1, g2⟩ := kasmS_ok h (kofs_ev (n := -(t + 1)) hf) (by omega)
      obtain ⟨S', g3, g4⟩ := ksplit_ok (ts := ts) g2 hf
      rw [g1]
      exact ⟨S', List.mem_append_right _ g3, g4⟩
/-- the contract's own symbols stand first -/
theorem ksyms_pre {q : kQ} {zs x : List Int} (h : q.length = zs.length) : kSg (zs ++ x) (ksyms 0 q) zs := by
  have := ksyms_ok (q := q) (e := zs) (pre := []) (l := []) (m := []) h trivial
  simp only [List.nil_append, List.length_nil] at this
  exact kSg_ext this
theorem krefs_pre {q : List Nat} {zs x : List Nat} (h : q.length = zs.length) : kSr (zs ++ x) (krefs 0 q) zs := by
  have := krefs_ok (q := q) (e := zs) (pre := []) (l := []) (m := []) h trivial
  simp only [List.nil_append, List.length_nil] at this
  exact kSr_ext this
end KEX
end
section
def kEof (tt : List kT) (aty : List FieldType) (ct : List kCt) (ow : kOw) (nL : Nat) (rt : Option FieldType) (C : kCt) : kEn := (tt, aty, ct, ow, nL, C.2.1, C.2.2.2.1, rt, C.2.2.2.2.1, C.2.2.2.2.2)
/-- all that a body's walk rests on -/
def kRest (l : Launch) (cl : List vw_C) (aty : List FieldType) (lg nw : List Cond) (sk : kSk) (mt : List kMd) (D : va_G) (cA aS : Nat → Nat) (tt : List kT) (Ty : Nat → Nat → Prop) (lo : Nat) (X : State → Heap → Prop) (ct : List kCt) (own : String) (ow : kOw) (d : Nat) : Prop :=
  (∀ w ∈ lg, goodWord w = true) ∧ kOwC own ow lg sk ∧ kOwF own ow cl lg ∧ kOwM own ow cl mt lg nw ∧ kclok cl lg ∧ ktok tt cl ∧ kNest nw ∧ kXok X lo ∧ kTyp tt Ty ∧ (∀ (j : Nat) (q : String × Nat × String), sk[j]? = some q → Ty (aS j) (ksn j)) ∧ ∀ (i : Nat) (C : kCt), ct[i]? = some C → C.2.2.2.2.2 < d → kMet l cl aty lg nw sk mt D cA aS tt Ty lo X C
section KXO
variable {p : Program} {l : Launch} {e : Env} {s : State} {m : MethodId} {args : Array Value} {below : List Frame} {meth : Method} {c : Code} {H : Heap} {locs : List Loc}
variable {cc : ByteArray} {ls : Array Slot} {cl : List vw_C} {aty : List FieldType} {nw lg : List Cond} {sk : kSk} {cA aS : Nat → Nat} {mt : List kMd} {X : State → Heap → Prop} {lo : Nat}
variable {D : va_G} {tt : List kT} {Ty : Nat → Nat → Prop} {zs : List Int} {as : List Nat} {S : kS} {lv : List (Nat × Value)} {st : List Value} {ct : List kCt} {own : String} {ow : kOw} {nL : Nat} {rt : Option FieldType} {C : kCt} {B : kBd}
/-- how far the heap may have moved since the method began -/
def kmov (D : va_G) (cA : Nat → Nat) (tt : List kT) (Ty : Nat → Nat → Prop) (lo : Nat) (wr : kW) (H0 H : Heap) (locs : List Loc) : Prop := kgood D cA tt Ty lo H ∧ kfr lo H0 H ∧ kkp D cA tt Ty wr H0 H ∧ ∀ q ∈ locs, lo ≤ q.base
theorem kmov_step {wr : kW} {H0 H1 : Heap} {L : List Loc} (h : kmov D cA tt Ty lo wr H0 H locs) (h1 : kgood D cA tt Ty lo H1) (h2 : kfr lo H H1) (h3 : kkp D cA tt Ty wr H H1) (h4 : ∀ q ∈ L, lo ≤ q.base) : kmov D cA tt Ty lo wr H0 H1 (locs ++ L) :=
  ⟨h1, kfr_trans h.2.1 h2, kkp_trans h.2.2.1 h3, fun q hq => by
    rcases List.mem_append.mp hq with g | g
    · exact h.2.2.2 q g
    · exact h4 q g⟩
theorem kret1_ok {x : List Int} {u : List Nat} {P : kS} {q : kCs} {va : List (Nat × kV)} {vc : List (Nat × Value)} (hTy : kTyp tt Ty) (hG : kgood D cA tt Ty lo H) (hP : P.1.length = zs.length) (hP2 : P.2.1.length = as.length) (h : kst D cA tt Ty (zs ++ x) (as ++ u) S H lv st) (hv : kLoc (zs ++ x) (as ++ u) va vc) (hr : kret1 tt P S va q = true) : ∃ x' u' vc', kst D cA tt Ty (zs ++ x') (as ++ u') (kcsT P q) H vc' [] ∧ ∀ w ∈ vc', w ∈ vc := by
  unfold kret1 at hr
  split at hr
  · rename_i r hb
    have h1 : kst D cA tt Ty (zs ++ x) (as ++ u) (S.1, S.2.1, va, [], S.2.2.2.2) H vc [] := ⟨h.1, h.2.1, h.2.2.1, hv, trivial, h.2.2.2.2.2⟩
    obtain ⟨e1, u1, zs', as', g1, g2, g3⟩ := kbind_ok hTy hG h1 (ksyms_pre hP) (krefs_pre hP2) hb
    obtain ⟨lv', g4, g5⟩ := kch_ok hTy g1 g2 g3 hr
    exact ⟨zs', as', lv', g4, g5⟩
  · cases hr
/-- a list of at most one answer is the answer -/
theorem kans_of {P : kS} {q : kCs} {env : List Int} {ren : List Nat} {v : Option Value} {vc' : List (Nat × Value)} {sa : List kV} (h : kst D cA tt Ty env ren (kcsT P q) H vc' []) (hs : ∀ w ∈ vc', w ∈ kans v) (hne : v ≠ none → q.2.2.1 ≠ none) : kst D cA tt Ty env ren (kcsT P q) H (kans v) [] := by
  obtain ⟨a1, a2, a3, a4, a5, a6⟩ := h
  refine ⟨a1, a2, a3, ?_, a5, a6⟩
  have a4 : kLoc env ren (match q.2.2.1 with
    | some v => [(0, v)]
    | none => []) vc' := a4
  show kLoc env ren (match q.2.2.1 with
    | some v => [(0, v)]
    | none => []) (kans v)
  cases h1 : q.2.2.1 with
  | none =>
    cases v with
    | none => exact trivial
    | some y => exact absurd h1 (hne (by simp))
  | some b =>
    rw [h1] at a4
    match vc', a4, hs with
    | [w], a4, hs =>
      have hw := hs w List.mem_cons_self
      cases v with
      | none => cases hw
      | some y =>
        have e : w = (0, y) := by simpa [kans] using hw
        subst e
        exact a4
    | [], a4, _ => exact a4.elim
    | _ :: _ :: _, a4, _ => exact a4.2.2.elim
end KXO
end
section
section KDO
variable {p : Program} {l : Launch} {e : Env} {s : State} {m : MethodId} {args : Array Value} {below : List Frame} {meth : Method} {c : Code} {H : Heap} {locs : List Loc}
variable {cc : ByteArray} {ls : Array Slot} {cl : List vw_C} {aty : List FieldType} {nw lg : List Cond} {sk : kSk} {cA aS : Nat → Nat} {mt : List kMd} {X : State → Heap → Prop} {lo : Nat}
variable {D : va_G} {tt : List kT} {Ty : Nat → Nat → Prop} {zs : List Int} {as : List Nat} {S : kS} {lv : List (Nat × Value)} {st : List Value} {ct : List kCt} {own : String} {ow : kOw} {nL : Nat} {rt : Option FieldType} {C : kCt} {B : kBd}
theorem kret_ok {x : List Int} {u : List Nat} {pc : Nat} {ins : Instr} (hexec : p.tables.exec = Jvm.exec) (hb : c.code = cc) (hrt : meth.sig.returnType = rt) (hlk : meth.locks = false) (hTy : kTyp tt Ty) (hP : C.2.1.1.length = zs.length) (hP2 : C.2.1.2.1.length = as.length) (hm : kmov D cA tt Ty lo C.2.2.2.2.1 s.heap H locs)
    (h : kst D cA tt Ty (zs ++ x) (as ++ u) S H lv st) (hd : decode cc pc = .ok (ins, 1)) (hs : kret tt C.2.1 C.2.2.2.1 rt ins S = true) : W p l e (krm C.2.2.2.2.2) s m args below meth c H locs 0 0 (MQ below (kQc D cA tt Ty lo C zs as) args s 0 0 (fun q => lo ≤ q)) (F0 m pc ls st) := by
  have hk := h.2.2.2.2.1
  have fin : ∀ (v : Option Value) (va : List (Nat × kV)) (q : kCs), q ∈ C.2.2.2.1 → kret1 tt C.2.1 S va q = true → kLoc (zs ++ x) (as ++ u) va (kans v) → (v ≠ none → q.2.2.1 ≠ none) → ∀ t : State, t.heap = H → s.WarmedH t.vm → kQc D cA tt Ty lo C zs as args s (.returned v) t := by
    intro v va q hq hr hv hne t ht _
    obtain ⟨x', u', vc', g1, g2⟩ := kret1_ok hTy hm.1 hP hP2 h hv hr
    refine ⟨v, q, x', u', rfl, hq, ?_, by rw [ht]; exact hm.1, by rw [ht]; exact hm.2.2.1, by rw [ht]; exact hm.2.1⟩
    rw [ht]
    exact kans_of (sa := []) g1 g2 hne
  unfold kret at hs
  split at hs
  · rename_i ty f h1
    rw [h1] at hk
    split at hs
    · rename_i hf
      obtain ⟨q, q1, q2⟩ := List.any_eq_true.mp hs
      match st, hk with
      | [y], hk =>
        cases h2 : q.2.2.1 with
        | none => simp [h2] at q2
        | some b =>
          simp only [h2] at q2
          obtain ⟨n1, -⟩ := kfix_narrow (kfixA_ok h hk.1 hf)
          have fq := fin (some y) [(0, .inl f)] q q1 q2 ⟨rfl, hk.1, trivial⟩ (fun _ => by rw [h2]; simp)
          obtain ⟨n, e1, -⟩ := id hk.1
          subst e1
          exact W.zret hexec hb hrt n1 fq hm.2.2.2 hd hlk
      | [], hk => exact hk.elim
      | _ :: _ :: _, hk => exact hk.2.elim
    · cases hs
  · rename_i v h1
    rw [h1] at hk
    split at hs
    · rename_i hf
      obtain ⟨q, q1, q2⟩ := List.any_eq_true.mp hs
      match st, hk with
      | [y], hk =>
        cases h2 : q.2.2.1 with
        | none => simp [h2] at q2
        | some b =>
          simp only [h2] at q2
          have fq := fin (some y) [(0, v)] q q1 q2 ⟨rfl, hk.1, trivial⟩ (fun _ => by rw [h2]; simp)
          match v, hk.1, hf with
          | .inr (.inl f), ⟨n, e1, _⟩, _ =>
            subst e1
            exact W.lret hexec hb hrt fq hm.2.2.2 hd hlk
          | .inl f, _, hf => cases hf
          | .inr (.inr (.inl f)), _, hf => cases hf
          | .inr (.inr (.inr f)), _, hf => cases hf
      | [], hk => exact hk.elim
      | _ :: _ :: _, hk => exact hk.2.elim
    · cases hs
  · rename_i h1
    rw [h1] at hk
    obtain ⟨q, q1, q2⟩ := List.any_eq_true.mp hs
    match st, hk with
    | [], hk =>
      exact W.vret hexec hb hrt (fin none [] q q1 q2 trivial (fun hne => absurd rfl hne)) hm.2.2.2 hd hlk
    | _ :: _, hk => exact hk.elim
  · cases hs
end KDO
end
section
section KWALK
variable {p : Program} {l : Launch} {e : Env} {s : State} {m : MethodId} {args : Array Value} {below : List Frame} {meth : Method} {c : Code}
variable {cc : ByteArray} {cl : List vw_C} {aty : List FieldType} {nw lg : List Cond} {sk : kSk} {cA aS : Nat → Nat} {mt : List kMd} {X : State → Heap → Prop} {lo : Nat}
variable {D : va_G} {tt : List kT} {Ty : Nat → Nat → Prop} {zs : List Int} {as : List Nat} {ct : List kCt} {own : String} {ow : kOw} {nL : Nat} {rt : Option FieldType} {C : kCt} {B : kBd}
theorem kdo_ok {k : kCd → kS → Bool} {x : List Int} (hexec : p.tables.exec = Jvm.exec) (hb : c.code = cc) (hml : c.maxLocals = nL) (hown : s.vm.findClass own = some m.cls) (hts : ∀ w ∈ lg, w.before args s = true) (hrt : meth.sig.returnType = rt) (hlk : meth.locks = false) (hK : kK cl aty nw sk D cA aS s) (hXs : X s s.heap) (hR : kRest l cl aty lg nw sk mt D cA aS tt Ty lo X ct own ow C.2.2.2.2.2) (hP : C.2.1.1.length = zs.length) (hP2 : C.2.1.2.1.length = as.length) (hcode : ∀ q ∈ B.1, decode cc q.1 = .ok (q.2.1, q.2.2))
    (kk : ∀ (cur : kCd) (S : kS) (x1 : List Int) (u : List Nat) (H : Heap) (locs : List Loc) (lv : List (Nat × Value)) (st : List Value) (ls : Array Slot) (pc : Nat) (w : Instr × Nat) (t : kCd), k cur S = true → cur = (pc, w) :: t → (∀ q ∈ cur, q ∈ B.1) → (∃ y, x1 = x ++ y) → kst D cA tt Ty (zs ++ x1) (as ++ u) S H lv st → lv_has ls nL lv → kmov D cA tt Ty lo C.2.2.2.2.1 s.heap H locs → W p l e (krm C.2.2.2.2.2) s m args below meth c H locs 0 0 (MQ below (kQc D cA tt Ty lo C zs as) args s 0 0 (fun q => lo ≤ q)) (F0 m pc ls st))
    {q : Nat × Instr × Nat} {tl : kCd} {S : kS} {u : List Nat} {H : Heap} {locs : List Loc} {lv : List (Nat × Value)} {st : List Value} {ls : Array Slot} (hq : q ∈ B.1) (htl : ∀ w ∈ tl, w ∈ B.1) (h : kst D cA tt Ty (zs ++ x) (as ++ u) S H lv st) (hlv : lv_has ls nL lv) (hm : kmov D cA tt Ty lo C.2.2.2.2.1 s.heap H locs) (hs : kdo (kEof tt aty ct ow nL rt C) B k q tl S = true) :
    W p l e (krm C.2.2.2.2.2) s m args below meth c H locs 0 0 (MQ below (kQc D cA tt Ty lo C zs as) args s 0 0 (fun q => lo ≤ q)) (F0 m q.1 ls st) := by
  obtain ⟨r1, r2, r3, r4, r5, r6, r7, r8, r9, r10, r11⟩ := hR
  have go : ∀ (S' : kS) (x' : List Int) (u' : List Nat) (H' : Heap) (locs' : List Loc) (lv' : List (Nat × Value)) (st' : List Value) (ls' : Array Slot) (pc' : Nat), kgo k B.1 tl pc' S' = true → (∃ y, x' = x ++ y) → kst D cA tt Ty (zs ++ x') (as ++ u') S' H' lv' st' → lv_has ls' nL lv' → kmov D cA tt Ty lo C.2.2.2.2.1 s.heap H' locs' → W p l e (krm C.2.2.2.2.2) s m args below meth c H' locs' 0 0 (MQ below (kQc D cA tt Ty lo C zs as) args s 0 0 (fun q => lo ≤ q)) (F0 m pc' ls' st') := by
    intro S' x' u' H' locs' lv' st' ls' pc' hg g0 g1 g2 g3
    unfold kgo at hg
    split at hg
    · rename_i cur hc
      obtain ⟨w1, ins, len, t, w2⟩ := knext_ok hc htl
      exact kk cur S' x' u' H' locs' lv' st' ls' pc' (ins, len) t hg w2 w1 g0 g1 g2 g3
    · cases hg
  have hd := hcode q hq
  unfold kdo at hs
  split at hs
  · split at hs
    · rename_i hl
      have el := Nat.beq_eq.mp hl
      rw [el] at hd
      split at hs
      · rename_i S' h1
        refine kstep1_ok (S' := S') hexec hb hown hts r2 hK r10 h hlv hd h1 (fun x' u' lv' st' ls' g1 g2 => ?_)
        rw [← el]
        exact go S' (x ++ x') (u ++ u') H locs lv' st' ls' _ hs ⟨x', rfl⟩ (by rw [← List.append_assoc, ← List.append_assoc]; exact g1) g2 hm
      · cases hs
    · cases hs
  · split at hs
    · rename_i hl
      split at hs
      · rename_i L h1
        refine kbr_ok hexec hb h hlv hd (fun hno => ?_) h1 (fun w hw lv' st' ls' g1 g2 => go w.2 x u H locs lv' st' ls' w.1 (List.all_eq_true.mp hs w hw) ⟨[], by simp⟩ g1 g2 hm)
        cases ht : kistab q.2.1 with
        | true =>
          exfalso
          unfold kistab at ht
          split at ht
          · rename_i a b y z hx
            exact hno _ _ _ _ hx
          · cases ht
        | false =>
          simp only [ht] at hl
          exact Nat.beq_eq.mp hl
      · cases hs
    · cases hs
  · split at hs
    · rename_i hl
      have el := Nat.beq_eq.mp hl
      rw [el] at hd
      split at hs
      · rename_i L h1
        refine kmemi_ok hexec hb hown hts r5 r6 r3 hK r9 hm.1 h hlv hd h1 (fun S' hS x' u' st' H' L' g1 g2 g3 g4 g5 => ?_)
        rw [← el]
        exact go S' (x ++ x') (u ++ u') H' (locs ++ L') lv st' ls _ (List.all_eq_true.mp hs S' hS) ⟨x', rfl⟩ (by rw [← List.append_assoc, ← List.append_assoc]; exact g5) hlv (kmov_step hm g1 g2 g3 g4)
      · cases hs
    · cases hs
  · split at hs
    · rename_i hl
      have el := Nat.beq_eq.mp hl
      rw [el] at hd
      split at hs
      · rename_i L h1
        refine kinv_ok hexec hb hml rfl ⟨rfl, rfl⟩ hown hts r1 r4 hK r7 r8 hXs r9 hm.1 hm.2.1 r11 h hlv hd h1 (fun S' hS x' u' st' H' L' g1 g2 g3 g4 g5 => ?_)
        rw [← el]
        exact go S' (x ++ x') (u ++ u') H' (locs ++ L') lv st' ls _ (List.all_eq_true.mp hs S' hS) ⟨x', rfl⟩ (by rw [← List.append_assoc, ← List.append_assoc]; exact g5) hlv (kmov_step hm g1 g2 g3 g4)
      · cases hs
    · cases hs
  · split at hs
    · rename_i hl
      have el := Nat.beq_eq.mp hl
      rw [el] at hd
      exact kret_ok hexec hb hrt hlk r9 hP hP2 hm h hd hs
    · cases hs
theorem kcut_ok {x : List Int} {u : List Nat} {S : kS} {H : Heap} {lv : List (Nat × Value)} {st : List Value} {rb : Option kL} {T : kTm} {rk : kL} (hTy : kTyp tt Ty) (hG : kgood D cA tt Ty lo H) (hP : C.2.1.1.length = zs.length) (hP2 : C.2.1.2.1.length = as.length) (h : kst D cA tt Ty (zs ++ x) (as ++ u) S H lv st) (hc : kcut tt C.2.1 S rb T rk = true) :
    ∃ x' u' lv' z, kst D cA tt Ty (zs ++ x') (as ++ u') T.1 H lv' st ∧ (∀ w ∈ lv', w ∈ lv) ∧ kev (zs ++ x') rk = some z ∧ 0 ≤ z ∧ ∀ f r, rb = some f → kev (zs ++ x) f = some r → z < r := by
  unfold kcut at hc
  split at hc
  · rename_i q hb
    obtain ⟨e1, u1, zs', as', g1, g2, g3⟩ := kbind_ok hTy hG h (ksyms_pre hP) (krefs_pre hP2) hb
    split at hc
    · rename_i hch
      obtain ⟨lv', g4, g5⟩ := kch_ok hTy g1 g2 g3 hch
      split at hc
      · rename_i g hg
        obtain ⟨z, w1, w2⟩ := ksubst_ok g2 hg
        split at hc
        · rename_i h0
          refine ⟨zs', as', lv', z, g4, g5, w1, kgeS_ok g1 w2 h0, fun f r hf hr => ?_⟩
          subst hf
          dsimp only at hc
          have := kgeS_ok g1 (kofs_ev (ksub_ev (kev_ext hr) w2)) hc
          omega
        · cases hc
      · cases hc
    · cases hc
  · cases hc
theorem kexec_ok {rb : Option kL} (hexec : p.tables.exec = Jvm.exec) (hb : c.code = cc) (hml : c.maxLocals = nL) (hown : s.vm.findClass own = some m.cls) (hts : ∀ w ∈ lg, w.before args s = true) (hrt : meth.sig.returnType = rt) (hlk : meth.locks = false) (hK : kK cl aty nw sk D cA aS s) (hXs : X s s.heap) (hR : kRest l cl aty lg nw sk mt D cA aS tt Ty lo X ct own ow C.2.2.2.2.2) (hP : C.2.1.1.length = zs.length) (hP2 : C.2.1.2.1.length = as.length) (hcode : ∀ q ∈ B.1, decode cc q.1 = .ok (q.2.1, q.2.2)) {x0 : List Int}
    (hcut : ∀ (cu : kCut) (x : List Int) (u : List Nat) (H : Heap) (locs : List Loc) (lv : List (Nat × Value)) (st : List Value) (ls : Array Slot) (z : Int), cu ∈ B.2.2.2 → kst D cA tt Ty (zs ++ x) (as ++ u) cu.2.1.1 H lv st → lv_has ls nL lv → kmov D cA tt Ty lo C.2.2.2.2.1 s.heap H locs → kev (zs ++ x) cu.2.2 = some z → 0 ≤ z → (∀ f r, rb = some f → kev (zs ++ x0) f = some r → z < r) → W p l e (krm C.2.2.2.2.2) s m args below meth c H locs 0 0 (MQ below (kQc D cA tt Ty lo C zs as) args s 0 0 (fun q => lo ≤ q)) (F0 m cu.1 ls st)) :
    ∀ (n : Nat) (b : Bool) (cur : kCd) (S : kS) (x : List Int) (u : List Nat) (H : Heap) (locs : List Loc) (lv : List (Nat × Value)) (st : List Value) (ls : Array Slot) (pc : Nat) (w : Instr × Nat) (t : kCd), kexec (kEof tt aty ct ow nL rt C) B rb n b cur S = true → cur = (pc, w) :: t → (∀ q ∈ cur, q ∈ B.1) → (∃ y, x = x0 ++ y) → kst D cA tt Ty (zs ++ x) (as ++ u) S H lv st → lv_has ls nL lv → kmov D cA tt Ty lo C.2.2.2.2.1 s.heap H locs → W p l e (krm C.2.2.2.2.2) s m args below meth c H locs 0 0 (MQ below (kQc D cA tt Ty lo C zs as) args s 0 0 (fun q => lo ≤ q)) (F0 m pc ls st) := by
  intro n
  induction n with
  | zero => intro b cur S x u H locs lv st ls pc w t hs; cases hs
  | succ n ih =>
    intro b cur S x u H locs lv st ls pc w t hs hcur hsub hx h hlv hm
    subst hcur
    obtain ⟨y0, hx⟩ := hx
    have hq : (pc, w) ∈ B.1 := hsub _ List.mem_cons_self
    have htl : ∀ q ∈ t, q ∈ B.1 := fun q hq => hsub q (List.mem_cons_of_mem _ hq)
    have run : ∀ S' : kS, kst D cA tt Ty (zs ++ x) (as ++ u) S' H lv st → kdo (kEof tt aty ct ow nL rt C) B (kexec (kEof tt aty ct ow nL rt C) B rb n true) (pc, w) t S' = true → W p l e (krm C.2.2.2.2.2) s m args below meth c H locs 0 0 (MQ below (kQc D cA tt Ty lo C zs as) args s 0 0 (fun q => lo ≤ q)) (F0 m pc ls st) := by
      intro S' h' hs'
      refine kdo_ok (x := x) hexec hb hml hown hts hrt hlk hK hXs hR hP hP2 hcode (fun cur2 S2 x2 u2 H2 locs2 lv2 st2 ls2 pc2 w2 t2 g1 g2 g3 g4 g5 g6 g7 => ?_) hq htl h' hlv hm hs'
      obtain ⟨y, g4⟩ := g4
      exact ih true cur2 S2 x2 u2 H2 locs2 lv2 st2 ls2 pc2 w2 t2 g1 g2 g3 ⟨y0 ++ y, by rw [g4, hx, List.append_assoc]⟩ g5 g6 g7
    unfold kexec at hs
    dsimp only at hs
    split at hs
    · obtain ⟨cu, g1, g2⟩ := List.any_eq_true.mp hs
      cases hbq : Nat.beq cu.1 pc with
      | false => simp [hbq] at g2
      | true =>
        simp only [hbq] at g2
        have e := Nat.beq_eq.mp hbq
        obtain ⟨x', u', lv', z, w1, w2, w3, w4, w5⟩ := kcut_ok hR.2.2.2.2.2.2.2.2.1 hm.1 hP hP2 h g2
        rw [← e]
        exact hcut cu x' u' H locs lv' st ls z g1 w1 ⟨hlv.1, hlv.2.1, fun q hq => hlv.2.2 q (w2 q hq)⟩ hm w3 w4 (fun f r hf hr => w5 f r hf (by rw [hx, ← List.append_assoc]; exact kev_ext hr))
    · split at hs
      · rename_i w1 hw1
        split at hs
        · rename_i f hf
          obtain ⟨v, -, k, -, k2⟩ := kLoc_mem h.2.2.2.1 (klocv_mem hf)
          obtain ⟨S', k3, k4⟩ := ksplit_ok (ts := w1.2) h k2
          exact run S' k4 (List.all_eq_true.mp hs S' k3)
        · cases hs
      · exact run S h hs
end KWALK
end
section
section KMETS
variable {l : Launch} {cl : List vw_C} {aty : List FieldType} {nw lg : List Cond} {sk : kSk} {cA aS : Nat → Nat} {mt : List kMd} {X : State → Heap → Prop} {lo : Nat}
variable {D : va_G} {tt : List kT} {Ty : Nat → Nat → Prop} {ct : List kCt} {ow : kOw} {C : kCt} {B : kBd}
/-- a body that the checker takes keeps its contract -/
theorem kbody_met {y : MethodName} {b : ByteArray} {mL n : Nat} {r : Option FieldType} {w : Instr × Nat} {t : kCd} (hy : plainName y.cls = true) (hmt : mt[C.1]? = some (y, b, mL, r)) (hR : kRest l cl aty lg nw sk mt D cA aS tt Ty lo X ct y.cls ow C.2.2.2.2.2) (hcode : ∀ q ∈ B.1, decode b q.1 = .ok (q.2.1, q.2.2)) (hst : B.1 = (0, w) :: t) (hbody : kbody (kEof tt aty ct ow mL r C) B n = true) : kMet l cl aty lg nw sk mt D cA aS tt Ty lo X C := by
  intro y' b' mL' r' hmt' zs as vs
  have e0 : (y', b', mL', r') = (y, b, mL, r) := Option.some.inj (hmt'.symm.trans hmt)
  obtain ⟨rfl, rfl, rfl, rfl⟩ : y' = y ∧ b' = b ∧ mL' = mL ∧ r' = r := by
    simpa using e0
  refine Met.ofW (cc := b') (maxL := mL') (ret := r') hy rfl ?_
  intro p e s m args below meth c s₁ Bd hml hv
  obtain ⟨⟨rfl, hsl⟩, hK, hXs, hG, lv', hs0, hsub⟩ := hv
  have hts : ∀ w ∈ lg, w.before vs.toArray s = true := fun w hw => atoms_spec (ws := Cond.code y' b' mL' r' :: lg) Bd.pre w (List.mem_cons_of_mem _ hw)
  have hown : s.vm.findClass y'.cls = some m.cls := findClass_of_methodNamed Bd.named
  have hP : C.2.1.1.length = zs.length := hs0.1.1.symm
  have hP2 : C.2.1.2.1.length = as.length := hs0.2.2.1.1.symm
  have hlv0 := lv_entry vs hsl
  have hlv : lv_has ((lg_sl vs ++ List.replicate (mL' - (lg_sl vs).length) Slot.unset).toArray) mL' lv' := ⟨hlv0.1, hlv0.2.1, fun q hq => hlv0.2.2 q (hsub q hq)⟩
  have hm : kmov D cA tt Ty lo C.2.2.2.2.1 s.heap s.heap [] := ⟨hG, kfr_rfl, kkp_rfl, fun q hq => by cases hq⟩
  unfold kbody at hbody
  split at hbody
  case h_2 => cases hbody
  rename_i hb0
  have cuts : ∀ (N : Nat) (cu : kCut) (x : List Int) (u : List Nat) (H : Heap) (locs : List Loc) (lv : List (Nat × Value)) (st : List Value) (ls : Array Slot) (z : Int), cu ∈ B.2.2.2 → kst D cA tt Ty (zs ++ x) (as ++ u) cu.2.1.1 H lv st → lv_has ls mL' lv → kmov D cA tt Ty lo C.2.2.2.2.1 s.heap H locs → kev (zs ++ x) cu.2.2 = some z → 0 ≤ z → z < N → W p l e (krm C.2.2.2.2.2) s m vs.toArray below meth c H locs 0 0 (MQ below (kQc D cA tt Ty lo C zs as) vs.toArray s 0 0 (fun q => lo ≤ q)) (F0 m cu.1 ls st) := by
    intro N
    induction N with
    | zero => intro cu x u H locs lv st ls z _ _ _ _ _ h0 h1; omega
    | succ N ih =>
      intro cu x u H locs lv st ls z hcu h1 h2 h3 h4 h5 h6
      have hb1 := List.all_eq_true.mp hbody cu hcu
      split at hb1
      · rename_i cur hcur
        obtain ⟨g1, ins, len, t2, g2⟩ := kdrop_ok hcur
        refine kexec_ok (x0 := x) (rb := some cu.2.2) Bd.exec Bd.bytes hml hown hts Bd.returns Bd.notSynchronized hK hXs hR hP hP2 hcode (fun cu2 x2 u2 H2 locs2 lv2 st2 ls2 z2 w1 w2 w3 w4 w5 w6 w7 => ?_) n false cur cu.2.1.1 x u H locs lv st ls cu.1 (ins, len) t2 hb1 g2 g1 ⟨[], by simp⟩ h1 h2 h3
        have := w7 _ _ rfl h4
        exact ih cu2 x2 u2 H2 locs2 lv2 st2 ls2 z2 w1 w2 w3 w4 w5 w6 (by omega)
      · cases hb1
  show W p l e (krm C.2.2.2.2.2) s m vs.toArray below meth c s.heap [] 0 0 _ (entryFrame m vs.toArray mL')
  rw [lg_entry_eq]
  refine kexec_ok (x0 := []) (rb := none) Bd.exec Bd.bytes hml hown hts Bd.returns Bd.notSynchronized hK hXs hR hP hP2 hcode (fun cu2 x2 u2 H2 locs2 lv2 st2 ls2 z2 w1 w2 w3 w4 w5 w6 _ => cuts (z2.toNat + 1) cu2 x2 u2 H2 locs2 lv2 st2 ls2 z2 w1 w2 w3 w4 w5 w6 (by omega)) n false B.1 C.2.1 [] [] s.heap [] lv' [] _ 0 w t hb0 hst (fun q hq => hq) ⟨[], rfl⟩ (by rw [List.append_nil, List.append_nil]; exact hs0) hlv hm
/-- all contracts, by their depths: each kept by its body, or by a walk of its own -/
theorem kall_met (h : ∀ (i : Nat) (C : kCt), ct[i]? = some C → (∀ (j : Nat) (C' : kCt), ct[j]? = some C' → C'.2.2.2.2.2 < C.2.2.2.2.2 → kMet l cl aty lg nw sk mt D cA aS tt Ty lo X C') → kMet l cl aty lg nw sk mt D cA aS tt Ty lo X C) : ∀ (i : Nat) (C : kCt), ct[i]? = some C → kMet l cl aty lg nw sk mt D cA aS tt Ty lo X C := by
  have key : ∀ (d i : Nat) (C : kCt), ct[i]? = some C → C.2.2.2.2.2 < d → kMet l cl aty lg nw sk mt D cA aS tt Ty lo X C := by
    intro d
    induction d with
    | zero => intro i C _ h0; omega
    | succ d ih => exact fun i C hi hd => h i C hi (fun j C' hj hlt => ih j C' hj (by omega))
  exact fun i C hi => key (C.2.2.2.2.2 + 1) i C hi (by omega)
end KMETS
end
section
/-! THE TABLES' WORDS BY THEIR PLACES: what the pools, names and methods rest on -/
def k_lg : List Cond := lw_tbl.filter goodWord
theorem k_lg_good : ∀ w ∈ k_lg, goodWord w = true := fun w hw => (List.mem_filter.mp hw).2
/-- the word w stands at place p of the tables, and is a good one -/
def kwd (p : Nat) (w : Cond) : Bool := match lw_tbl[p]? with
  | some w' => match decide (w' = w) with
    | true => goodWord w
    | false => false
  | none => false
theorem kwd_ok {p : Nat} {w : Cond} (h : kwd p w = true) : w ∈ k_lg := by
  unfold kwd at h
  cases h1 : lw_tbl[p]? with
  | none => simp [h1] at h
  | some w' =>
    simp only [h1] at h
    cases h2 : decide (w' = w) with
    | false => simp [h2] at h
    | true =>
      simp only [h2] at h
      have e := of_decide_eq_true h2
      subst e
      exact List.mem_filter.mpr ⟨List.mem_of_getElem? h1, h⟩
/-- two lists, item by item -/
def kzip {α : Type} (f : α → Nat → Bool) : List α → List Nat → Bool
  | [], _ => true
  | a :: l, p :: ps => match f a p with
    | true => kzip f l ps
    | false => false
  | _ :: _, [] => false
theorem kzip_ok {α : Type} {f : α → Nat → Bool} : ∀ {l : List α} {ps : List Nat}, kzip f l ps = true → ∀ a ∈ l, ∃ p, f a p = true
  | [], _, _, a, ha => by cases ha
  | b :: l, [], h, a, ha => by simp [kzip] at h
  | b :: l, p :: ps, h, a, ha => by
    unfold kzip at h
    cases h1 : f b p with
    | false => simp [h1] at h
    | true =>
      simp only [h1] at h
      rcases List.mem_cons.mp ha with rfl | ha
      · exact ⟨p, h1⟩
      · exact kzip_ok h a ha
def kOwCb (own : String) (ow : kOw) (ps ps2 : List Nat) : Bool := kzip (fun (q : Nat × Int) p => decide (-2147483648 ≤ q.2 ∧ q.2 ≤ 2147483647) && kwd p (Cond.constant own q.1 (Int32.ofInt q.2))) ow.2.1 ps && (kzip (fun (q : Nat × Int) p => decide (-9223372036854775808 ≤ q.2 ∧ q.2 ≤ 9223372036854775807) && kwd p (Cond.constantLong own q.1 (Int64.ofInt q.2))) ow.2.2.1 ps2 && ow.2.2.2.1.isEmpty)
theorem kOwCb_ok {own : String} {ow : kOw} {ps ps2 : List Nat} {sk : kSk} (h : kOwCb own ow ps ps2 = true) : kOwC own ow k_lg sk := by
  unfold kOwCb at h
  simp only [Bool.and_eq_true] at h
  obtain ⟨h1, h2, h3⟩ := h
  refine ⟨fun q hq => ?_, fun q hq => ?_, fun q hq => ?_⟩
  · obtain ⟨p, hp⟩ := kzip_ok h1 q hq
    simp only [Bool.and_eq_true, decide_eq_true_eq] at hp
    exact ⟨_, Int32.toInt_ofInt_of_le hp.1.1 (by omega), kwd_ok hp.2⟩
  · obtain ⟨p, hp⟩ := kzip_ok h2 q hq
    simp only [Bool.and_eq_true, decide_eq_true_eq] at hp
    exact ⟨_, Int64.toInt_ofInt_of_le hp.1.1 (by omega), kwd_ok hp.2⟩
  · rw [List.isEmpty_iff.mp h3] at hq
    cases hq
def kOwFb (own : String) (ow : kOw) (cl : List vw_C) (ps : List Nat) : Bool := kzip (fun (q : Nat × Nat × Nat × Nat) p => match cl[q.2.1]? with
  | some (_, Tf, N) => match Nat.blt q.2.2.1 N with
    | true => match kwd p (Cond.fieldLink own q.1 (Tf q.2.2.1).1 (Tf q.2.2.1).2.1 (Tf q.2.2.1).2.2.1) with
      | true => match Nat.blt q.2.2.2 3 with
        | true => match (Tf q.2.2.1).2.2.2 with
          | true => false
          | false => decide (parseFieldDescriptor (Tf q.2.2.1).2.2.1 = some (kfty q.2.2.2))
        | false => true
      | false => false
    | false => false
  | none => false) ow.1 ps
theorem kOwFb_ok {own : String} {ow : kOw} {cl : List vw_C} {ps : List Nat} (h : kOwFb own ow cl ps = true) : kOwF own ow cl k_lg := by
  intro q hq
  obtain ⟨p, hp⟩ := kzip_ok h q hq
  split at hp
  · rename_i C Tf N h1
    split at hp
    · rename_i h2
      split at hp
      · rename_i h3
        refine ⟨C, Tf, N, h1, Nat.blt_eq.mp h2, kwd_ok h3, fun hlt => ?_⟩
        rw [show Nat.blt q.2.2.2 3 = true from Nat.blt_eq.mpr hlt] at hp
        dsimp only at hp
        split at hp
        · cases hp
        · rename_i h4
          exact ⟨h4, of_decide_eq_true hp⟩
      · cases hp
    · cases hp
  · cases hp
/-- a method, as the tables have it: its code, its type's file begun, an instance's method chosen by itself or a static one -/
def kMw (cl : List vw_C) (q : kMd × Nat × Nat) : Prop := Cond.code q.1.1 q.1.2.1 q.1.2.2.1 q.1.2.2.2 ∈ k_lg ∧ Cond.initialized q.1.1.cls ∈ k_lg ∧ (parseMethodDescriptor q.1.1.desc).map (fun d => d.parameters.length) = some q.2.1 ∧ (q.1.1.cls ≠ "java/lang/invoke/MethodHandle" ∧ q.1.1.cls ≠ "java/lang/invoke/VarHandle") ∧ q.1.2.2.1 ≤ 21 ∧ (q.2.2 < 100 → Cond.instanceMethod q.1.1 ∈ k_lg ∧ Cond.selects q.1.1.cls q.1.1 q.1.1 ∈ k_lg ∧ ∃ (Tf : u_T) (N : Nat), cl[q.2.2]? = some (q.1.1.cls, Tf, N)) ∧ (100 ≤ q.2.2 → Cond.static q.1.1 ∈ k_lg)
def kMwb (cl : List vw_C) (q : kMd × Nat × Nat) (p1 p2 p3 : Nat) : Bool := kwd p1 (Cond.initialized q.1.1.cls) && (decide ((parseMethodDescriptor q.1.1.desc).map (fun d => d.parameters.length) = some q.2.1) && (decide (q.1.1.cls ≠ "java/lang/invoke/MethodHandle" ∧ q.1.1.cls ≠ "java/lang/invoke/VarHandle") && (Nat.ble q.1.2.2.1 21 && (match Nat.blt q.2.2 100 with
  | true => kwd p2 (Cond.instanceMethod q.1.1) && (kwd p3 (Cond.selects q.1.1.cls q.1.1 q.1.1) && (match cl[q.2.2]? with
    | some (C, _, _) => decide (C = q.1.1.cls)
    | none => false))
  | false => kwd p2 (Cond.static q.1.1)))))
theorem kMwb_ok {cl : List vw_C} {q : kMd × Nat × Nat} {p1 p2 p3 : Nat} (h : kMwb cl q p1 p2 p3 = true) (hc : Cond.code q.1.1 q.1.2.1 q.1.2.2.1 q.1.2.2.2 ∈ k_lg) : kMw cl q := by
  unfold kMwb at h
  simp only [Bool.and_eq_true, decide_eq_true_eq] at h
  obtain ⟨h1, h2, h3, h4, h5⟩ := h
  refine ⟨hc, kwd_ok h1, h2, h3, Nat.le_of_ble_eq_true h4, fun hlt => ?_, fun hge => ?_⟩
  · rw [show Nat.blt q.2.2 100 = true from Nat.blt_eq.mpr hlt] at h5
    simp only [Bool.and_eq_true] at h5
    obtain ⟨g1, g2, g3⟩ := h5
    refine ⟨kwd_ok g1, kwd_ok g2, ?_⟩
    split at g3
    · rename_i C Tf N e
      have e2 := of_decide_eq_true g3
      subst e2
      exact ⟨Tf, N, e⟩
    · cases g3
  · rw [show Nat.blt q.2.2 100 = false from by
      cases hb : Nat.blt q.2.2 100 with
      | false => rfl
      | true => have := Nat.blt_eq.mp hb; omega] at h5
    exact kwd_ok h5
/-- the links to methods: each to a method of the list -/
def kOwMb (own : String) (ow : kOw) (mw : List (kMd × Nat × Nat)) (ps : List Nat) : Bool := kzip (fun (q : Nat × Nat × Nat × Nat × Nat) p => match Nat.beq q.2.2.2.1 102 with
  | true => kwd p (Cond.methodLink own q.1 arraycopyName)
  | false => match mw[q.2.1]? with
    | some x => match Nat.beq q.2.2.1 x.2.1 with
      | true => match Nat.beq q.2.2.2.1 x.2.2 with
        | true => match Nat.ble q.2.2.2.2 x.1.2.2.1 with
          | true => kwd p (Cond.methodLink own q.1 x.1.1)
          | false => false
        | false => false
      | false => false
    | none => false) ow.2.2.2.2 ps
theorem kOwMb_ok {own : String} {ow : kOw} {cl : List vw_C} {mw : List (kMd × Nat × Nat)} {ps : List Nat} {nw : List Cond} (hmw : ∀ x ∈ mw, kMw cl x) (hcp : Cond.native arraycopyName ∈ k_lg ∧ Cond.static arraycopyName ∈ k_lg ∧ Cond.initialized "java/lang/System" ∈ k_lg) (h : kOwMb own ow mw ps = true) : kOwM own ow cl (mw.map (fun x => x.1)) k_lg nw := by
  intro q hq
  obtain ⟨p, hp⟩ := kzip_ok h q hq
  cases h1 : Nat.beq q.2.2.2.1 102 with
  | true =>
    simp only [h1] at hp ⊢
    exact ⟨kwd_ok hp, hcp⟩
  | false =>
    simp only [h1] at hp ⊢
    cases h2 : mw[q.2.1]? with
    | none => simp [h2] at hp
    | some x =>
      simp only [h2] at hp
      cases h3 : Nat.beq q.2.2.1 x.2.1 with
      | false => simp [h3] at hp
      | true =>
        simp only [h3] at hp
        cases h4 : Nat.beq q.2.2.2.1 x.2.2 with
        | false => simp [h4] at hp
        | true =>
          simp only [h4] at hp
          cases h5 : Nat.ble q.2.2.2.2 x.1.2.2.1 with
          | false => simp [h5] at hp
          | true =>
            simp only [h5] at hp
            have e3 := Nat.beq_eq.mp h3
            have e4 := Nat.beq_eq.mp h4
            obtain ⟨w1, w2, w3, w4, w5, w6, w7⟩ := hmw x (List.mem_of_getElem? h2)
            refine ⟨x.1.1, x.1.2.1, x.1.2.2.1, x.1.2.2.2, by rw [List.getElem?_map, h2]; rfl, w1, w2, by rw [e3]; exact w3, w4, w5, Nat.le_of_ble_eq_true h5, fun hlt => ?_, fun hge => ?_⟩
            · obtain ⟨g1, g2, g3⟩ := w6 (by omega)
              exact ⟨kwd_ok hp, g1, g2, by rw [e4]; exact g3⟩
            · exact ⟨w7 (by omega), Or.inl (kwd_ok hp)⟩
end
section
/-! names and types by the tables' places -/
def knub : List String → Bool
  | [] => true
  | a :: l => match l.any (fun b => decide (b = a)) with
    | true => false
    | false => knub l
theorem knub_ok : ∀ {l : List String}, knub l = true → l.Nodup
  | [], _ => List.nodup_nil
  | a :: l, h => by
    unfold knub at h
    split at h
    · cases h
    · rename_i h1
      refine List.nodup_cons.mpr ⟨fun hm => ?_, knub_ok h⟩
      have : l.any (fun b => decide (b = a)) = true := List.any_eq_true.mpr ⟨a, hm, decide_eq_true rfl⟩
      rw [this] at h1
      cases h1
def kclb (q : vw_C) (ps : List Nat) : Bool := (List.range q.2.2).all (fun k => (parseFieldDescriptor (q.2.1 k).2.2.1).isSome) && (knub ((List.range q.2.2).map (fun k => (q.2.1 k).2.1)) && kzip (fun k p => kwd p (u_lay q.1 q.2.1 k)) (List.range q.2.2) ps)
theorem kclb_ok {C : String} {Tf : u_T} {N : Nat} {ps : List Nat} (h : kclb (C, Tf, N) ps = true) : (∃ ty0 : Nat → FieldType, (∀ k, k < N → parseFieldDescriptor (Tf k).2.2.1 = some (ty0 k)) ∧ ∀ a, a < N → ∀ b, b < N → a ≠ b → (Tf a).2.1 ≠ (Tf b).2.1) ∧ ∀ w ∈ u_ws C Tf N, w ∈ k_lg := by
  unfold kclb at h
  simp only [Bool.and_eq_true] at h
  obtain ⟨h1, h2, h3⟩ := h
  refine ⟨⟨fun k => (parseFieldDescriptor (Tf k).2.2.1).getD .int, fun k hk => ?_, fun a ha b hb hab e => ?_⟩, fun w hw => ?_⟩
  · have := List.all_eq_true.mp h1 k (List.mem_range.mpr hk)
    cases h4 : parseFieldDescriptor (Tf k).2.2.1 with
    | none => simp [h4] at this
    | some ty => simp [h4]
  · have hn := knub_ok h2
    have ga : ((List.range N).map (fun k => (Tf k).2.1))[a]? = some (Tf a).2.1 := by simp [ha]
    have gb : ((List.range N).map (fun k => (Tf k).2.1))[b]? = some (Tf b).2.1 := by simp [hb]
    obtain ⟨la, ea⟩ := List.getElem?_eq_some_iff.mp ga
    obtain ⟨lb, eb⟩ := List.getElem?_eq_some_iff.mp gb
    rcases Nat.lt_or_gt_of_ne hab with hlt | hlt
    · exact List.pairwise_iff_getElem.mp hn a b la lb hlt (by rw [ea, eb, e])
    · exact List.pairwise_iff_getElem.mp hn b a lb la hlt (by rw [ea, eb, e])
  · obtain ⟨k, hk, rfl⟩ := List.mem_map.mp hw
    obtain ⟨p, hp⟩ := kzip_ok h3 k hk
    exact kwd_ok hp
theorem kclok_of {cl : List vw_C} (h : ∀ q ∈ cl, ∃ ps, kclb q ps = true) : kclok cl k_lg := fun ci C Tf N hc => by
  obtain ⟨ps, hp⟩ := h _ (List.mem_of_getElem? hc)
  exact kclb_ok hp
def ktokb (tt : List kT) (cl : List vw_C) : Bool := tt.all (fun T => match Nat.blt T.1 100 with
  | true => match cl[T.1]? with
    | some (_, _, N) => Nat.beq N T.2.1
    | none => false
  | false => true)
theorem ktokb_ok {tt : List kT} {cl : List vw_C} (h : ktokb tt cl = true) : ktok tt cl := fun t T ht hb => by
  have h1 := List.all_eq_true.mp h T (List.mem_of_getElem? ht)
  simp only [hb] at h1
  split at h1
  · rename_i C Tf N e
    have e2 := Nat.beq_eq.mp h1
    subst e2
    exact ⟨C, Tf, e⟩
  · cases h1
def kTypb (tt : List kT) : Bool := Nat.ble tt.length 1000 && (tt.all (fun T => Nat.blt T.2.1 5000) && ((match tt[36]? with
  | some T => Nat.beq T.2.1 38
  | none => true) && (match tt[40]? with
  | some T => Nat.beq T.2.1 900
  | none => true)))
theorem kTypb_ok {tt : List kT} {Ty : Nat → Nat → Prop} (h : kTypb tt = true) (hf : ∀ a t t', t < 1000 → t' < 1000 → Ty a t → Ty a t' → t = t') : kTyp tt Ty := by
  unfold kTypb at h
  simp only [Bool.and_eq_true] at h
  obtain ⟨h1, h2, h3, h4⟩ := h
  refine ⟨hf, Nat.le_of_ble_eq_true h1, fun t T ht => Nat.blt_eq.mp (List.all_eq_true.mp h2 T (List.mem_of_getElem? ht)), fun T hT => ?_, fun T hT => ?_⟩
  · rw [hT] at h3
    exact Nat.beq_eq.mp h3
  · rw [hT] at h4
    exact Nat.beq_eq.mp h4
/-- what all bodies of a table rest on -/
theorem kRest_of {l : Launch} {cl : List vw_C} {aty : List FieldType} {mw : List (kMd × Nat × Nat)} {D : va_G} {cA aS : Nat → Nat} {tt : List kT} {Ty : Nat → Nat → Prop} {lo : Nat} {X : State → Heap → Prop} {ct : List kCt} {own : String} {ow : kOw} {d : Nat} (h1 : kOwC own ow k_lg []) (h2 : kOwF own ow cl k_lg) (h3 : kOwM own ow cl (mw.map (fun x => x.1)) k_lg []) (h4 : kclok cl k_lg) (h5 : ktok tt cl) (h6 : kXok X lo) (h7 : kTyp tt Ty) (h8 : ∀ (i : Nat) (C : kCt), ct[i]? = some C → C.2.2.2.2.2 < d → kMet l cl aty k_lg [] [] (mw.map (fun x => x.1)) D cA aS tt Ty lo X C) : kRest l cl aty k_lg [] [] (mw.map (fun x => x.1)) D cA aS tt Ty lo X ct own ow d :=
  ⟨k_lg_good, h1, h2, h3, h4, h5, fun w hw => (by cases hw), h6, h7, fun j q hq => (by simp at hq), h8⟩
/-- a contract is kept if all of lesser depth are -/
def kGo (l : Launch) (cl : List vw_C) (aty : List FieldType) (mw : List (kMd × Nat × Nat)) (D : va_G) (cA aS : Nat → Nat) (tt : List kT) (Ty : Nat → Nat → Prop) (lo : Nat) (X : State → Heap → Prop) (ct : List kCt) (C : kCt) : Prop :=
  (∀ (j : Nat) (C' : kCt), ct[j]? = some C' → C'.2.2.2.2.2 < C.2.2.2.2.2 → kMet l cl aty k_lg [] [] (mw.map (fun x => x.1)) D cA aS tt Ty lo X C') → kMet l cl aty k_lg [] [] (mw.map (fun x => x.1)) D cA aS tt Ty lo X C
theorem kGo_all {l : Launch} {cl : List vw_C} {aty : List FieldType} {mw : List (kMd × Nat × Nat)} {D : va_G} {cA aS : Nat → Nat} {tt : List kT} {Ty : Nat → Nat → Prop} {lo : Nat} {X : State → Heap → Prop} {ct : List kCt} (h : ∀ C ∈ ct, kGo l cl aty mw D cA aS tt Ty lo X ct C) : ∀ (i : Nat) (C : kCt), ct[i]? = some C → kMet l cl aty k_lg [] [] (mw.map (fun x => x.1)) D cA aS tt Ty lo X C :=
  kall_met (fun i C hi hlt => h C (List.mem_of_getElem? hi) hlt)
end
