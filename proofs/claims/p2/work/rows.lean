section
-- ===== PART A: goes FIRST, ahead of the names: the tables' words, and 'selects' of the private methods out of them =====
/-- a private method of a class that the tables say can be made, by its rows of tables_1 -/
def lw_okq (q : MethodName × Nat) : Prop := (q.1.cls ≠ "java/lang/invoke/MethodHandle" ∧ q.1.cls ≠ "java/lang/invoke/VarHandle") ∧ Cond.instantiable q.1.cls q.2 ∈ tables_1 ∧ Cond.privateMethod q.1 ∈ tables_1 ∧ Cond.instanceMethod q.1 ∈ tables_1
theorem lw_p0 : lw_okq (⟨"SandRails$Reader", "advance", "()V"⟩, 6) := ⟨⟨by decide +kernel, by decide +kernel⟩, List.mem_of_getElem? (i := 196) (by decide +kernel), List.mem_of_getElem? (i := 520) (by decide +kernel), List.mem_of_getElem? (i := 521) (by decide +kernel)⟩
theorem lw_p1 : lw_okq (⟨"SandRails$Reader", "readRow", "(I)Z"⟩, 6) := ⟨⟨by decide +kernel, by decide +kernel⟩, List.mem_of_getElem? (i := 196) (by decide +kernel), List.mem_of_getElem? (i := 531) (by decide +kernel), List.mem_of_getElem? (i := 532) (by decide +kernel)⟩
theorem lw_p2 : lw_okq (⟨"SandRails$Reader", "readOrder", "(I)Z"⟩, 6) := ⟨⟨by decide +kernel, by decide +kernel⟩, List.mem_of_getElem? (i := 196) (by decide +kernel), List.mem_of_getElem? (i := 535) (by decide +kernel), List.mem_of_getElem? (i := 536) (by decide +kernel)⟩
theorem lw_p3 : lw_okq (⟨"SandRails$Reader", "orderWord", "()I"⟩, 6) := ⟨⟨by decide +kernel, by decide +kernel⟩, List.mem_of_getElem? (i := 196) (by decide +kernel), List.mem_of_getElem? (i := 539) (by decide +kernel), List.mem_of_getElem? (i := 540) (by decide +kernel)⟩
theorem lw_p4 : lw_okq (⟨"SandRails$Reader", "isWord", "(Ljava/lang/String;)Z"⟩, 6) := ⟨⟨by decide +kernel, by decide +kernel⟩, List.mem_of_getElem? (i := 196) (by decide +kernel), List.mem_of_getElem? (i := 544) (by decide +kernel), List.mem_of_getElem? (i := 545) (by decide +kernel)⟩
theorem lw_p5 : lw_okq (⟨"SandRails$Reader", "isRefused", "()Z"⟩, 6) := ⟨⟨by decide +kernel, by decide +kernel⟩, List.mem_of_getElem? (i := 196) (by decide +kernel), List.mem_of_getElem? (i := 605) (by decide +kernel), List.mem_of_getElem? (i := 606) (by decide +kernel)⟩
theorem lw_p6 : lw_okq (⟨"SandRails$Reader", "readWay", "(I)Z"⟩, 6) := ⟨⟨by decide +kernel, by decide +kernel⟩, List.mem_of_getElem? (i := 196) (by decide +kernel), List.mem_of_getElem? (i := 609) (by decide +kernel), List.mem_of_getElem? (i := 610) (by decide +kernel)⟩
theorem lw_p7 : lw_okq (⟨"SandRails$Reader", "wayWord", "()I"⟩, 6) := ⟨⟨by decide +kernel, by decide +kernel⟩, List.mem_of_getElem? (i := 196) (by decide +kernel), List.mem_of_getElem? (i := 613) (by decide +kernel), List.mem_of_getElem? (i := 614) (by decide +kernel)⟩
theorem lw_p8 : lw_okq (⟨"SandRails$Reader", "readRest", "(I)Z"⟩, 6) := ⟨⟨by decide +kernel, by decide +kernel⟩, List.mem_of_getElem? (i := 196) (by decide +kernel), List.mem_of_getElem? (i := 625) (by decide +kernel), List.mem_of_getElem? (i := 626) (by decide +kernel)⟩
theorem lw_p9 : lw_okq (⟨"SandRails$Reader", "takeNumber", "(II)I"⟩, 6) := ⟨⟨by decide +kernel, by decide +kernel⟩, List.mem_of_getElem? (i := 196) (by decide +kernel), List.mem_of_getElem? (i := 629) (by decide +kernel), List.mem_of_getElem? (i := 630) (by decide +kernel)⟩
theorem lw_p10 : lw_okq (⟨"SandRails$Reader", "readAgain", "(I)Z"⟩, 6) := ⟨⟨by decide +kernel, by decide +kernel⟩, List.mem_of_getElem? (i := 196) (by decide +kernel), List.mem_of_getElem? (i := 633) (by decide +kernel), List.mem_of_getElem? (i := 634) (by decide +kernel)⟩
theorem lw_p11 : lw_okq (⟨"SandRails$Reader", "readBlock", "(I)Z"⟩, 6) := ⟨⟨by decide +kernel, by decide +kernel⟩, List.mem_of_getElem? (i := 196) (by decide +kernel), List.mem_of_getElem? (i := 637) (by decide +kernel), List.mem_of_getElem? (i := 638) (by decide +kernel)⟩
theorem lw_p12 : lw_okq (⟨"SandRails$Reader", "isSign", "(I)Z"⟩, 6) := ⟨⟨by decide +kernel, by decide +kernel⟩, List.mem_of_getElem? (i := 196) (by decide +kernel), List.mem_of_getElem? (i := 641) (by decide +kernel), List.mem_of_getElem? (i := 642) (by decide +kernel)⟩
theorem lw_p13 : lw_okq (⟨"SandRails$Reader", "takeSign", "(I)Z"⟩, 6) := ⟨⟨by decide +kernel, by decide +kernel⟩, List.mem_of_getElem? (i := 196) (by decide +kernel), List.mem_of_getElem? (i := 645) (by decide +kernel), List.mem_of_getElem? (i := 646) (by decide +kernel)⟩
theorem lw_p14 : lw_okq (⟨"SandRails$Reader", "readIf", "(I)Z"⟩, 6) := ⟨⟨by decide +kernel, by decide +kernel⟩, List.mem_of_getElem? (i := 196) (by decide +kernel), List.mem_of_getElem? (i := 649) (by decide +kernel), List.mem_of_getElem? (i := 650) (by decide +kernel)⟩
theorem lw_p15 : lw_okq (⟨"SandRails$Reader", "readEither", "(I)Z"⟩, 6) := ⟨⟨by decide +kernel, by decide +kernel⟩, List.mem_of_getElem? (i := 196) (by decide +kernel), List.mem_of_getElem? (i := 653) (by decide +kernel), List.mem_of_getElem? (i := 654) (by decide +kernel)⟩
def lw_privs_1 : List (MethodName × Nat) := [(⟨"SandRails$Reader", "advance", "()V"⟩, 6), (⟨"SandRails$Reader", "readRow", "(I)Z"⟩, 6), (⟨"SandRails$Reader", "readOrder", "(I)Z"⟩, 6), (⟨"SandRails$Reader", "orderWord", "()I"⟩, 6), (⟨"SandRails$Reader", "isWord", "(Ljava/lang/String;)Z"⟩, 6), (⟨"SandRails$Reader", "isRefused", "()Z"⟩, 6), (⟨"SandRails$Reader", "readWay", "(I)Z"⟩, 6), (⟨"SandRails$Reader", "wayWord", "()I"⟩, 6), (⟨"SandRails$Reader", "readRest", "(I)Z"⟩, 6), (⟨"SandRails$Reader", "takeNumber", "(II)I"⟩, 6), (⟨"SandRails$Reader", "readAgain", "(I)Z"⟩, 6), (⟨"SandRails$Reader", "readBlock", "(I)Z"⟩, 6), (⟨"SandRails$Reader", "isSign", "(I)Z"⟩, 6), (⟨"SandRails$Reader", "takeSign", "(I)Z"⟩, 6), (⟨"SandRails$Reader", "readIf", "(I)Z"⟩, 6), (⟨"SandRails$Reader", "readEither", "(I)Z"⟩, 6)]
theorem lw_r1 : ∀ q ∈ lw_privs_1, lw_okq q := List.forall_mem_cons.mpr ⟨lw_p0, List.forall_mem_cons.mpr ⟨lw_p1, List.forall_mem_cons.mpr ⟨lw_p2, List.forall_mem_cons.mpr ⟨lw_p3, List.forall_mem_cons.mpr ⟨lw_p4, List.forall_mem_cons.mpr ⟨lw_p5, List.forall_mem_cons.mpr ⟨lw_p6, List.forall_mem_cons.mpr ⟨lw_p7, List.forall_mem_cons.mpr ⟨lw_p8, List.forall_mem_cons.mpr ⟨lw_p9, List.forall_mem_cons.mpr ⟨lw_p10, List.forall_mem_cons.mpr ⟨lw_p11, List.forall_mem_cons.mpr ⟨lw_p12, List.forall_mem_cons.mpr ⟨lw_p13, List.forall_mem_cons.mpr ⟨lw_p14, List.forall_mem_cons.mpr ⟨lw_p15, fun _ h => absurd h List.not_mem_nil⟩⟩⟩⟩⟩⟩⟩⟩⟩⟩⟩⟩⟩⟩⟩⟩
theorem lw_p16 : lw_okq (⟨"SandRails$Reader", "readBoth", "(I)Z"⟩, 6) := ⟨⟨by decide +kernel, by decide +kernel⟩, List.mem_of_getElem? (i := 196) (by decide +kernel), List.mem_of_getElem? (i := 657) (by decide +kernel), List.mem_of_getElem? (i := 658) (by decide +kernel)⟩
theorem lw_p17 : lw_okq (⟨"SandRails$Reader", "readAtom", "(I)Z"⟩, 6) := ⟨⟨by decide +kernel, by decide +kernel⟩, List.mem_of_getElem? (i := 196) (by decide +kernel), List.mem_of_getElem? (i := 661) (by decide +kernel), List.mem_of_getElem? (i := 662) (by decide +kernel)⟩
theorem lw_p18 : lw_okq (⟨"SandRails$Reader", "readDenied", "(I)Z"⟩, 6) := ⟨⟨by decide +kernel, by decide +kernel⟩, List.mem_of_getElem? (i := 196) (by decide +kernel), List.mem_of_getElem? (i := 666) (by decide +kernel), List.mem_of_getElem? (i := 667) (by decide +kernel)⟩
theorem lw_p19 : lw_okq (⟨"SandRails$Reader", "readFact", "()Z"⟩, 6) := ⟨⟨by decide +kernel, by decide +kernel⟩, List.mem_of_getElem? (i := 196) (by decide +kernel), List.mem_of_getElem? (i := 671) (by decide +kernel), List.mem_of_getElem? (i := 672) (by decide +kernel)⟩
theorem lw_p20 : lw_okq (⟨"SandRails$Reader", "factWord", "()I"⟩, 6) := ⟨⟨by decide +kernel, by decide +kernel⟩, List.mem_of_getElem? (i := 196) (by decide +kernel), List.mem_of_getElem? (i := 675) (by decide +kernel), List.mem_of_getElem? (i := 676) (by decide +kernel)⟩
theorem lw_p21 : lw_okq (⟨"SandRails$Reader", "readWhile", "(I)Z"⟩, 6) := ⟨⟨by decide +kernel, by decide +kernel⟩, List.mem_of_getElem? (i := 196) (by decide +kernel), List.mem_of_getElem? (i := 697) (by decide +kernel), List.mem_of_getElem? (i := 698) (by decide +kernel)⟩
theorem lw_p22 : lw_okq (⟨"java/lang/Throwable", "fillInStackTrace", "(I)Ljava/lang/Throwable;"⟩, 6) := ⟨⟨by decide +kernel, by decide +kernel⟩, List.mem_of_getElem? (i := 741) (by decide +kernel), List.mem_of_getElem? (i := 739) (by decide +kernel), List.mem_of_getElem? (i := 740) (by decide +kernel)⟩
theorem lw_p23 : lw_okq (⟨"SandRails$World", "putRail", "(III)V"⟩, 10) := ⟨⟨by decide +kernel, by decide +kernel⟩, List.mem_of_getElem? (i := 36) (by decide +kernel), List.mem_of_getElem? (i := 974) (by decide +kernel), List.mem_of_getElem? (i := 975) (by decide +kernel)⟩
theorem lw_p24 : lw_okq (⟨"SandRails$Log", "slotOf", "(I)I"⟩, 7) := ⟨⟨by decide +kernel, by decide +kernel⟩, List.mem_of_getElem? (i := 119) (by decide +kernel), List.mem_of_getElem? (i := 986) (by decide +kernel), List.mem_of_getElem? (i := 987) (by decide +kernel)⟩
theorem lw_p25 : lw_okq (⟨"SandRails$World", "lastOfTrain", "()I"⟩, 10) := ⟨⟨by decide +kernel, by decide +kernel⟩, List.mem_of_getElem? (i := 36) (by decide +kernel), List.mem_of_getElem? (i := 1013) (by decide +kernel), List.mem_of_getElem? (i := 1014) (by decide +kernel)⟩
theorem lw_p26 : lw_okq (⟨"SandRails$Desert", "blow", "(II)V"⟩, 3) := ⟨⟨by decide +kernel, by decide +kernel⟩, List.mem_of_getElem? (i := 42) (by decide +kernel), List.mem_of_getElem? (i := 1045) (by decide +kernel), List.mem_of_getElem? (i := 1046) (by decide +kernel)⟩
theorem lw_p27 : lw_okq (⟨"SandRails$World", "isStuck", "(I)Z"⟩, 10) := ⟨⟨by decide +kernel, by decide +kernel⟩, List.mem_of_getElem? (i := 36) (by decide +kernel), List.mem_of_getElem? (i := 1094) (by decide +kernel), List.mem_of_getElem? (i := 1095) (by decide +kernel)⟩
theorem lw_p28 : lw_okq (⟨"SandRails$Runner", "judge", "(LSandRails$World;III)V"⟩, 5) := ⟨⟨by decide +kernel, by decide +kernel⟩, List.mem_of_getElem? (i := 259) (by decide +kernel), List.mem_of_getElem? (i := 1169) (by decide +kernel), List.mem_of_getElem? (i := 1170) (by decide +kernel)⟩
theorem lw_p29 : lw_okq (⟨"SandRails$Runner", "push", "(Z)V"⟩, 5) := ⟨⟨by decide +kernel, by decide +kernel⟩, List.mem_of_getElem? (i := 259) (by decide +kernel), List.mem_of_getElem? (i := 1177) (by decide +kernel), List.mem_of_getElem? (i := 1178) (by decide +kernel)⟩
theorem lw_p30 : lw_okq (⟨"SandRails$Runner", "turn", "(III)V"⟩, 5) := ⟨⟨by decide +kernel, by decide +kernel⟩, List.mem_of_getElem? (i := 259) (by decide +kernel), List.mem_of_getElem? (i := 1182) (by decide +kernel), List.mem_of_getElem? (i := 1183) (by decide +kernel)⟩
theorem lw_p31 : lw_okq (⟨"SandRails$Router", "solve", "(LSandRails$World;I)V"⟩, 9) := ⟨⟨by decide +kernel, by decide +kernel⟩, List.mem_of_getElem? (i := 281) (by decide +kernel), List.mem_of_getElem? (i := 1233) (by decide +kernel), List.mem_of_getElem? (i := 1234) (by decide +kernel)⟩
def lw_privs_2 : List (MethodName × Nat) := [(⟨"SandRails$Reader", "readBoth", "(I)Z"⟩, 6), (⟨"SandRails$Reader", "readAtom", "(I)Z"⟩, 6), (⟨"SandRails$Reader", "readDenied", "(I)Z"⟩, 6), (⟨"SandRails$Reader", "readFact", "()Z"⟩, 6), (⟨"SandRails$Reader", "factWord", "()I"⟩, 6), (⟨"SandRails$Reader", "readWhile", "(I)Z"⟩, 6), (⟨"java/lang/Throwable", "fillInStackTrace", "(I)Ljava/lang/Throwable;"⟩, 6), (⟨"SandRails$World", "putRail", "(III)V"⟩, 10), (⟨"SandRails$Log", "slotOf", "(I)I"⟩, 7), (⟨"SandRails$World", "lastOfTrain", "()I"⟩, 10), (⟨"SandRails$Desert", "blow", "(II)V"⟩, 3), (⟨"SandRails$World", "isStuck", "(I)Z"⟩, 10), (⟨"SandRails$Runner", "judge", "(LSandRails$World;III)V"⟩, 5), (⟨"SandRails$Runner", "push", "(Z)V"⟩, 5), (⟨"SandRails$Runner", "turn", "(III)V"⟩, 5), (⟨"SandRails$Router", "solve", "(LSandRails$World;I)V"⟩, 9)]
theorem lw_r2 : ∀ q ∈ lw_privs_2, lw_okq q := List.forall_mem_cons.mpr ⟨lw_p16, List.forall_mem_cons.mpr ⟨lw_p17, List.forall_mem_cons.mpr ⟨lw_p18, List.forall_mem_cons.mpr ⟨lw_p19, List.forall_mem_cons.mpr ⟨lw_p20, List.forall_mem_cons.mpr ⟨lw_p21, List.forall_mem_cons.mpr ⟨lw_p22, List.forall_mem_cons.mpr ⟨lw_p23, List.forall_mem_cons.mpr ⟨lw_p24, List.forall_mem_cons.mpr ⟨lw_p25, List.forall_mem_cons.mpr ⟨lw_p26, List.forall_mem_cons.mpr ⟨lw_p27, List.forall_mem_cons.mpr ⟨lw_p28, List.forall_mem_cons.mpr ⟨lw_p29, List.forall_mem_cons.mpr ⟨lw_p30, List.forall_mem_cons.mpr ⟨lw_p31, fun _ h => absurd h List.not_mem_nil⟩⟩⟩⟩⟩⟩⟩⟩⟩⟩⟩⟩⟩⟩⟩⟩
theorem lw_p32 : lw_okq (⟨"SandRails$Router", "isAsBefore", "(LSandRails$World;I)Z"⟩, 9) := ⟨⟨by decide +kernel, by decide +kernel⟩, List.mem_of_getElem? (i := 281) (by decide +kernel), List.mem_of_getElem? (i := 1239) (by decide +kernel), List.mem_of_getElem? (i := 1240) (by decide +kernel)⟩
theorem lw_p33 : lw_okq (⟨"SandRails$Router", "spread", "()V"⟩, 9) := ⟨⟨by decide +kernel, by decide +kernel⟩, List.mem_of_getElem? (i := 281) (by decide +kernel), List.mem_of_getElem? (i := 1250) (by decide +kernel), List.mem_of_getElem? (i := 1251) (by decide +kernel)⟩
theorem lw_p34 : lw_okq (⟨"SandRails$Router", "spreadAt", "(I)Z"⟩, 9) := ⟨⟨by decide +kernel, by decide +kernel⟩, List.mem_of_getElem? (i := 281) (by decide +kernel), List.mem_of_getElem? (i := 1254) (by decide +kernel), List.mem_of_getElem? (i := 1255) (by decide +kernel)⟩
theorem lw_p35 : lw_okq (⟨"SandRails$Router", "bestStep", "(III)J"⟩, 9) := ⟨⟨by decide +kernel, by decide +kernel⟩, List.mem_of_getElem? (i := 281) (by decide +kernel), List.mem_of_getElem? (i := 1258) (by decide +kernel), List.mem_of_getElem? (i := 1259) (by decide +kernel)⟩
theorem lw_p36 : lw_okq (⟨"SandRails$Router", "stepTo", "(III)J"⟩, 9) := ⟨⟨by decide +kernel, by decide +kernel⟩, List.mem_of_getElem? (i := 281) (by decide +kernel), List.mem_of_getElem? (i := 1263) (by decide +kernel), List.mem_of_getElem? (i := 1264) (by decide +kernel)⟩
theorem lw_p37 : lw_okq (⟨"SandRails$Router", "leftWith", "(II)J"⟩, 9) := ⟨⟨by decide +kernel, by decide +kernel⟩, List.mem_of_getElem? (i := 281) (by decide +kernel), List.mem_of_getElem? (i := 1268) (by decide +kernel), List.mem_of_getElem? (i := 1269) (by decide +kernel)⟩
theorem lw_p38 : lw_okq (⟨"SandRails$Router", "takeAnew", "()Z"⟩, 9) := ⟨⟨by decide +kernel, by decide +kernel⟩, List.mem_of_getElem? (i := 281) (by decide +kernel), List.mem_of_getElem? (i := 1276) (by decide +kernel), List.mem_of_getElem? (i := 1277) (by decide +kernel)⟩
theorem lw_p39 : lw_okq (⟨"SandRails$Router", "leftFrom", "(II)J"⟩, 9) := ⟨⟨by decide +kernel, by decide +kernel⟩, List.mem_of_getElem? (i := 281) (by decide +kernel), List.mem_of_getElem? (i := 1280) (by decide +kernel), List.mem_of_getElem? (i := 1281) (by decide +kernel)⟩
theorem lw_p40 : lw_okq (⟨"SandRails$Router", "step", "()V"⟩, 9) := ⟨⟨by decide +kernel, by decide +kernel⟩, List.mem_of_getElem? (i := 281) (by decide +kernel), List.mem_of_getElem? (i := 1287) (by decide +kernel), List.mem_of_getElem? (i := 1288) (by decide +kernel)⟩
theorem lw_p41 : lw_okq (⟨"SandRails$Router", "stepThatKeeps", "(JII)I"⟩, 9) := ⟨⟨by decide +kernel, by decide +kernel⟩, List.mem_of_getElem? (i := 281) (by decide +kernel), List.mem_of_getElem? (i := 1291) (by decide +kernel), List.mem_of_getElem? (i := 1292) (by decide +kernel)⟩
theorem lw_p42 : lw_okq (⟨"SandRailsModel", "readAll", "()Z"⟩, 25) := ⟨⟨by decide +kernel, by decide +kernel⟩, List.mem_of_getElem? (i := 1352) (by decide +kernel), List.mem_of_getElem? (i := 1458) (by decide +kernel), List.mem_of_getElem? (i := 1459) (by decide +kernel)⟩
theorem lw_p43 : lw_okq (⟨"SandRailsModel", "blanks", "()V"⟩, 25) := ⟨⟨by decide +kernel, by decide +kernel⟩, List.mem_of_getElem? (i := 1352) (by decide +kernel), List.mem_of_getElem? (i := 1462) (by decide +kernel), List.mem_of_getElem? (i := 1463) (by decide +kernel)⟩
theorem lw_p44 : lw_okq (⟨"SandRailsModel", "isAt", "(II)Z"⟩, 25) := ⟨⟨by decide +kernel, by decide +kernel⟩, List.mem_of_getElem? (i := 1352) (by decide +kernel), List.mem_of_getElem? (i := 1466) (by decide +kernel), List.mem_of_getElem? (i := 1467) (by decide +kernel)⟩
theorem lw_p45 : lw_okq (⟨"SandRailsModel", "readRow", "()Z"⟩, 25) := ⟨⟨by decide +kernel, by decide +kernel⟩, List.mem_of_getElem? (i := 1352) (by decide +kernel), List.mem_of_getElem? (i := 1470) (by decide +kernel), List.mem_of_getElem? (i := 1471) (by decide +kernel)⟩
theorem lw_p46 : lw_okq (⟨"SandRailsModel", "readOrder", "()Z"⟩, 25) := ⟨⟨by decide +kernel, by decide +kernel⟩, List.mem_of_getElem? (i := 1352) (by decide +kernel), List.mem_of_getElem? (i := 1474) (by decide +kernel), List.mem_of_getElem? (i := 1475) (by decide +kernel)⟩
theorem lw_p47 : lw_okq (⟨"SandRailsModel", "letters", "()V"⟩, 25) := ⟨⟨by decide +kernel, by decide +kernel⟩, List.mem_of_getElem? (i := 1352) (by decide +kernel), List.mem_of_getElem? (i := 1478) (by decide +kernel), List.mem_of_getElem? (i := 1479) (by decide +kernel)⟩
def lw_privs_3 : List (MethodName × Nat) := [(⟨"SandRails$Router", "isAsBefore", "(LSandRails$World;I)Z"⟩, 9), (⟨"SandRails$Router", "spread", "()V"⟩, 9), (⟨"SandRails$Router", "spreadAt", "(I)Z"⟩, 9), (⟨"SandRails$Router", "bestStep", "(III)J"⟩, 9), (⟨"SandRails$Router", "stepTo", "(III)J"⟩, 9), (⟨"SandRails$Router", "leftWith", "(II)J"⟩, 9), (⟨"SandRails$Router", "takeAnew", "()Z"⟩, 9), (⟨"SandRails$Router", "leftFrom", "(II)J"⟩, 9), (⟨"SandRails$Router", "step", "()V"⟩, 9), (⟨"SandRails$Router", "stepThatKeeps", "(JII)I"⟩, 9), (⟨"SandRailsModel", "readAll", "()Z"⟩, 25), (⟨"SandRailsModel", "blanks", "()V"⟩, 25), (⟨"SandRailsModel", "isAt", "(II)Z"⟩, 25), (⟨"SandRailsModel", "readRow", "()Z"⟩, 25), (⟨"SandRailsModel", "readOrder", "()Z"⟩, 25), (⟨"SandRailsModel", "letters", "()V"⟩, 25)]
theorem lw_r3 : ∀ q ∈ lw_privs_3, lw_okq q := List.forall_mem_cons.mpr ⟨lw_p32, List.forall_mem_cons.mpr ⟨lw_p33, List.forall_mem_cons.mpr ⟨lw_p34, List.forall_mem_cons.mpr ⟨lw_p35, List.forall_mem_cons.mpr ⟨lw_p36, List.forall_mem_cons.mpr ⟨lw_p37, List.forall_mem_cons.mpr ⟨lw_p38, List.forall_mem_cons.mpr ⟨lw_p39, List.forall_mem_cons.mpr ⟨lw_p40, List.forall_mem_cons.mpr ⟨lw_p41, List.forall_mem_cons.mpr ⟨lw_p42, List.forall_mem_cons.mpr ⟨lw_p43, List.forall_mem_cons.mpr ⟨lw_p44, List.forall_mem_cons.mpr ⟨lw_p45, List.forall_mem_cons.mpr ⟨lw_p46, List.forall_mem_cons.mpr ⟨lw_p47, fun _ h => absurd h List.not_mem_nil⟩⟩⟩⟩⟩⟩⟩⟩⟩⟩⟩⟩⟩⟩⟩⟩
theorem lw_p48 : lw_okq (⟨"SandRailsModel", "isWord", "(Ljava/lang/String;)Z"⟩, 25) := ⟨⟨by decide +kernel, by decide +kernel⟩, List.mem_of_getElem? (i := 1352) (by decide +kernel), List.mem_of_getElem? (i := 1483) (by decide +kernel), List.mem_of_getElem? (i := 1484) (by decide +kernel)⟩
theorem lw_p49 : lw_okq (⟨"SandRailsModel", "puts", "(III)I"⟩, 25) := ⟨⟨by decide +kernel, by decide +kernel⟩, List.mem_of_getElem? (i := 1352) (by decide +kernel), List.mem_of_getElem? (i := 1489) (by decide +kernel), List.mem_of_getElem? (i := 1490) (by decide +kernel)⟩
theorem lw_p50 : lw_okq (⟨"SandRailsModel", "readAgain", "()Z"⟩, 25) := ⟨⟨by decide +kernel, by decide +kernel⟩, List.mem_of_getElem? (i := 1352) (by decide +kernel), List.mem_of_getElem? (i := 1504) (by decide +kernel), List.mem_of_getElem? (i := 1505) (by decide +kernel)⟩
theorem lw_p51 : lw_okq (⟨"SandRailsModel", "number", "(II)I"⟩, 25) := ⟨⟨by decide +kernel, by decide +kernel⟩, List.mem_of_getElem? (i := 1352) (by decide +kernel), List.mem_of_getElem? (i := 1508) (by decide +kernel), List.mem_of_getElem? (i := 1509) (by decide +kernel)⟩
theorem lw_p52 : lw_okq (⟨"SandRailsModel", "opens", "(I)Z"⟩, 25) := ⟨⟨by decide +kernel, by decide +kernel⟩, List.mem_of_getElem? (i := 1352) (by decide +kernel), List.mem_of_getElem? (i := 1512) (by decide +kernel), List.mem_of_getElem? (i := 1513) (by decide +kernel)⟩
theorem lw_p53 : lw_okq (⟨"SandRailsModel", "sign", "(I)Z"⟩, 25) := ⟨⟨by decide +kernel, by decide +kernel⟩, List.mem_of_getElem? (i := 1352) (by decide +kernel), List.mem_of_getElem? (i := 1516) (by decide +kernel), List.mem_of_getElem? (i := 1517) (by decide +kernel)⟩
theorem lw_p54 : lw_okq (⟨"SandRailsModel", "deeper", "()Z"⟩, 25) := ⟨⟨by decide +kernel, by decide +kernel⟩, List.mem_of_getElem? (i := 1352) (by decide +kernel), List.mem_of_getElem? (i := 1520) (by decide +kernel), List.mem_of_getElem? (i := 1521) (by decide +kernel)⟩
theorem lw_p55 : lw_okq (⟨"SandRailsModel", "closes", "(I)Z"⟩, 25) := ⟨⟨by decide +kernel, by decide +kernel⟩, List.mem_of_getElem? (i := 1352) (by decide +kernel), List.mem_of_getElem? (i := 1524) (by decide +kernel), List.mem_of_getElem? (i := 1525) (by decide +kernel)⟩
theorem lw_p56 : lw_okq (⟨"SandRailsModel", "readTest", "(Z)Z"⟩, 25) := ⟨⟨by decide +kernel, by decide +kernel⟩, List.mem_of_getElem? (i := 1352) (by decide +kernel), List.mem_of_getElem? (i := 1529) (by decide +kernel), List.mem_of_getElem? (i := 1530) (by decide +kernel)⟩
theorem lw_p57 : lw_okq (⟨"SandRailsModel", "readCond", "()Z"⟩, 25) := ⟨⟨by decide +kernel, by decide +kernel⟩, List.mem_of_getElem? (i := 1352) (by decide +kernel), List.mem_of_getElem? (i := 1533) (by decide +kernel), List.mem_of_getElem? (i := 1534) (by decide +kernel)⟩
theorem lw_p58 : lw_okq (⟨"SandRailsModel", "readAllOf", "()Z"⟩, 25) := ⟨⟨by decide +kernel, by decide +kernel⟩, List.mem_of_getElem? (i := 1352) (by decide +kernel), List.mem_of_getElem? (i := 1537) (by decide +kernel), List.mem_of_getElem? (i := 1538) (by decide +kernel)⟩
theorem lw_p59 : lw_okq (⟨"SandRailsModel", "readAtom", "()Z"⟩, 25) := ⟨⟨by decide +kernel, by decide +kernel⟩, List.mem_of_getElem? (i := 1352) (by decide +kernel), List.mem_of_getElem? (i := 1541) (by decide +kernel), List.mem_of_getElem? (i := 1542) (by decide +kernel)⟩
theorem lw_p60 : lw_okq (⟨"SandRailsModel", "passes", "(Ljava/lang/String;)Z"⟩, 25) := ⟨⟨by decide +kernel, by decide +kernel⟩, List.mem_of_getElem? (i := 1352) (by decide +kernel), List.mem_of_getElem? (i := 1546) (by decide +kernel), List.mem_of_getElem? (i := 1547) (by decide +kernel)⟩
theorem lw_p61 : lw_okq (⟨"SandRailsModel", "emits", "(II)Z"⟩, 25) := ⟨⟨by decide +kernel, by decide +kernel⟩, List.mem_of_getElem? (i := 1352) (by decide +kernel), List.mem_of_getElem? (i := 1550) (by decide +kernel), List.mem_of_getElem? (i := 1551) (by decide +kernel)⟩
theorem lw_p62 : lw_okq (⟨"SandRailsModel", "factAt", "()I"⟩, 25) := ⟨⟨by decide +kernel, by decide +kernel⟩, List.mem_of_getElem? (i := 1352) (by decide +kernel), List.mem_of_getElem? (i := 1558) (by decide +kernel), List.mem_of_getElem? (i := 1559) (by decide +kernel)⟩
theorem lw_p63 : lw_okq (⟨"SandRailsModel", "wayAt", "()I"⟩, 25) := ⟨⟨by decide +kernel, by decide +kernel⟩, List.mem_of_getElem? (i := 1352) (by decide +kernel), List.mem_of_getElem? (i := 1575) (by decide +kernel), List.mem_of_getElem? (i := 1576) (by decide +kernel)⟩
def lw_privs_4 : List (MethodName × Nat) := [(⟨"SandRailsModel", "isWord", "(Ljava/lang/String;)Z"⟩, 25), (⟨"SandRailsModel", "puts", "(III)I"⟩, 25), (⟨"SandRailsModel", "readAgain", "()Z"⟩, 25), (⟨"SandRailsModel", "number", "(II)I"⟩, 25), (⟨"SandRailsModel", "opens", "(I)Z"⟩, 25), (⟨"SandRailsModel", "sign", "(I)Z"⟩, 25), (⟨"SandRailsModel", "deeper", "()Z"⟩, 25), (⟨"SandRailsModel", "closes", "(I)Z"⟩, 25), (⟨"SandRailsModel", "readTest", "(Z)Z"⟩, 25), (⟨"SandRailsModel", "readCond", "()Z"⟩, 25), (⟨"SandRailsModel", "readAllOf", "()Z"⟩, 25), (⟨"SandRailsModel", "readAtom", "()Z"⟩, 25), (⟨"SandRailsModel", "passes", "(Ljava/lang/String;)Z"⟩, 25), (⟨"SandRailsModel", "emits", "(II)Z"⟩, 25), (⟨"SandRailsModel", "factAt", "()I"⟩, 25), (⟨"SandRailsModel", "wayAt", "()I"⟩, 25)]
theorem lw_r4 : ∀ q ∈ lw_privs_4, lw_okq q := List.forall_mem_cons.mpr ⟨lw_p48, List.forall_mem_cons.mpr ⟨lw_p49, List.forall_mem_cons.mpr ⟨lw_p50, List.forall_mem_cons.mpr ⟨lw_p51, List.forall_mem_cons.mpr ⟨lw_p52, List.forall_mem_cons.mpr ⟨lw_p53, List.forall_mem_cons.mpr ⟨lw_p54, List.forall_mem_cons.mpr ⟨lw_p55, List.forall_mem_cons.mpr ⟨lw_p56, List.forall_mem_cons.mpr ⟨lw_p57, List.forall_mem_cons.mpr ⟨lw_p58, List.forall_mem_cons.mpr ⟨lw_p59, List.forall_mem_cons.mpr ⟨lw_p60, List.forall_mem_cons.mpr ⟨lw_p61, List.forall_mem_cons.mpr ⟨lw_p62, List.forall_mem_cons.mpr ⟨lw_p63, fun _ h => absurd h List.not_mem_nil⟩⟩⟩⟩⟩⟩⟩⟩⟩⟩⟩⟩⟩⟩⟩⟩
theorem lw_p64 : lw_okq (⟨"SandRailsModel", "throwsIf", "(ZI)Z"⟩, 25) := ⟨⟨by decide +kernel, by decide +kernel⟩, List.mem_of_getElem? (i := 1352) (by decide +kernel), List.mem_of_getElem? (i := 1583) (by decide +kernel), List.mem_of_getElem? (i := 1584) (by decide +kernel)⟩
theorem lw_p65 : lw_okq (⟨"SandRailsModel", "isLine", "(I)Z"⟩, 25) := ⟨⟨by decide +kernel, by decide +kernel⟩, List.mem_of_getElem? (i := 1352) (by decide +kernel), List.mem_of_getElem? (i := 1599) (by decide +kernel), List.mem_of_getElem? (i := 1600) (by decide +kernel)⟩
theorem lw_p66 : lw_okq (⟨"SandRailsModel", "lineMany", "()I"⟩, 25) := ⟨⟨by decide +kernel, by decide +kernel⟩, List.mem_of_getElem? (i := 1352) (by decide +kernel), List.mem_of_getElem? (i := 1603) (by decide +kernel), List.mem_of_getElem? (i := 1604) (by decide +kernel)⟩
theorem lw_p67 : lw_okq (⟨"SandRailsModel", "cellAt", "(I)I"⟩, 25) := ⟨⟨by decide +kernel, by decide +kernel⟩, List.mem_of_getElem? (i := 1352) (by decide +kernel), List.mem_of_getElem? (i := 1607) (by decide +kernel), List.mem_of_getElem? (i := 1608) (by decide +kernel)⟩
theorem lw_p68 : lw_okq (⟨"SandRailsModel", "railAt", "(I)I"⟩, 25) := ⟨⟨by decide +kernel, by decide +kernel⟩, List.mem_of_getElem? (i := 1352) (by decide +kernel), List.mem_of_getElem? (i := 1611) (by decide +kernel), List.mem_of_getElem? (i := 1612) (by decide +kernel)⟩
theorem lw_p69 : lw_okq (⟨"SandRailsModel", "ofRail", "(II)I"⟩, 25) := ⟨⟨by decide +kernel, by decide +kernel⟩, List.mem_of_getElem? (i := 1352) (by decide +kernel), List.mem_of_getElem? (i := 1615) (by decide +kernel), List.mem_of_getElem? (i := 1616) (by decide +kernel)⟩
theorem lw_p70 : lw_okq (⟨"SandRailsModel", "kindAt", "(I)I"⟩, 25) := ⟨⟨by decide +kernel, by decide +kernel⟩, List.mem_of_getElem? (i := 1352) (by decide +kernel), List.mem_of_getElem? (i := 1623) (by decide +kernel), List.mem_of_getElem? (i := 1624) (by decide +kernel)⟩
theorem lw_p71 : lw_okq (⟨"SandRailsModel", "setsRail", "(III)V"⟩, 25) := ⟨⟨by decide +kernel, by decide +kernel⟩, List.mem_of_getElem? (i := 1352) (by decide +kernel), List.mem_of_getElem? (i := 1631) (by decide +kernel), List.mem_of_getElem? (i := 1632) (by decide +kernel)⟩
theorem lw_p72 : lw_okq (⟨"SandRailsModel", "isStore", "(II)Z"⟩, 25) := ⟨⟨by decide +kernel, by decide +kernel⟩, List.mem_of_getElem? (i := 1352) (by decide +kernel), List.mem_of_getElem? (i := 1647) (by decide +kernel), List.mem_of_getElem? (i := 1648) (by decide +kernel)⟩
theorem lw_p73 : lw_okq (⟨"SandRailsModel", "isSet", "()Z"⟩, 25) := ⟨⟨by decide +kernel, by decide +kernel⟩, List.mem_of_getElem? (i := 1352) (by decide +kernel), List.mem_of_getElem? (i := 1651) (by decide +kernel), List.mem_of_getElem? (i := 1652) (by decide +kernel)⟩
theorem lw_p74 : lw_okq (⟨"SandRailsModel", "carried", "()I"⟩, 25) := ⟨⟨by decide +kernel, by decide +kernel⟩, List.mem_of_getElem? (i := 1352) (by decide +kernel), List.mem_of_getElem? (i := 1659) (by decide +kernel), List.mem_of_getElem? (i := 1660) (by decide +kernel)⟩
theorem lw_p75 : lw_okq (⟨"SandRailsModel", "isWay", "(III)Z"⟩, 25) := ⟨⟨by decide +kernel, by decide +kernel⟩, List.mem_of_getElem? (i := 1352) (by decide +kernel), List.mem_of_getElem? (i := 1663) (by decide +kernel), List.mem_of_getElem? (i := 1664) (by decide +kernel)⟩
theorem lw_p76 : lw_okq (⟨"SandRailsModel", "leastCarried", "()I"⟩, 25) := ⟨⟨by decide +kernel, by decide +kernel⟩, List.mem_of_getElem? (i := 1352) (by decide +kernel), List.mem_of_getElem? (i := 1670) (by decide +kernel), List.mem_of_getElem? (i := 1671) (by decide +kernel)⟩
theorem lw_p77 : lw_okq (⟨"SandRailsModel", "comesOn", "(II)V"⟩, 25) := ⟨⟨by decide +kernel, by decide +kernel⟩, List.mem_of_getElem? (i := 1352) (by decide +kernel), List.mem_of_getElem? (i := 1674) (by decide +kernel), List.mem_of_getElem? (i := 1675) (by decide +kernel)⟩
theorem lw_p78 : lw_okq (⟨"SandRailsModel", "logs", "(IIZ)V"⟩, 25) := ⟨⟨by decide +kernel, by decide +kernel⟩, List.mem_of_getElem? (i := 1352) (by decide +kernel), List.mem_of_getElem? (i := 1678) (by decide +kernel), List.mem_of_getElem? (i := 1679) (by decide +kernel)⟩
theorem lw_p79 : lw_okq (⟨"SandRailsModel", "mayLift", "()Z"⟩, 25) := ⟨⟨by decide +kernel, by decide +kernel⟩, List.mem_of_getElem? (i := 1352) (by decide +kernel), List.mem_of_getElem? (i := 1686) (by decide +kernel), List.mem_of_getElem? (i := 1687) (by decide +kernel)⟩
def lw_privs_5 : List (MethodName × Nat) := [(⟨"SandRailsModel", "throwsIf", "(ZI)Z"⟩, 25), (⟨"SandRailsModel", "isLine", "(I)Z"⟩, 25), (⟨"SandRailsModel", "lineMany", "()I"⟩, 25), (⟨"SandRailsModel", "cellAt", "(I)I"⟩, 25), (⟨"SandRailsModel", "railAt", "(I)I"⟩, 25), (⟨"SandRailsModel", "ofRail", "(II)I"⟩, 25), (⟨"SandRailsModel", "kindAt", "(I)I"⟩, 25), (⟨"SandRailsModel", "setsRail", "(III)V"⟩, 25), (⟨"SandRailsModel", "isStore", "(II)Z"⟩, 25), (⟨"SandRailsModel", "isSet", "()Z"⟩, 25), (⟨"SandRailsModel", "carried", "()I"⟩, 25), (⟨"SandRailsModel", "isWay", "(III)Z"⟩, 25), (⟨"SandRailsModel", "leastCarried", "()I"⟩, 25), (⟨"SandRailsModel", "comesOn", "(II)V"⟩, 25), (⟨"SandRailsModel", "logs", "(IIZ)V"⟩, 25), (⟨"SandRailsModel", "mayLift", "()Z"⟩, 25)]
theorem lw_r5 : ∀ q ∈ lw_privs_5, lw_okq q := List.forall_mem_cons.mpr ⟨lw_p64, List.forall_mem_cons.mpr ⟨lw_p65, List.forall_mem_cons.mpr ⟨lw_p66, List.forall_mem_cons.mpr ⟨lw_p67, List.forall_mem_cons.mpr ⟨lw_p68, List.forall_mem_cons.mpr ⟨lw_p69, List.forall_mem_cons.mpr ⟨lw_p70, List.forall_mem_cons.mpr ⟨lw_p71, List.forall_mem_cons.mpr ⟨lw_p72, List.forall_mem_cons.mpr ⟨lw_p73, List.forall_mem_cons.mpr ⟨lw_p74, List.forall_mem_cons.mpr ⟨lw_p75, List.forall_mem_cons.mpr ⟨lw_p76, List.forall_mem_cons.mpr ⟨lw_p77, List.forall_mem_cons.mpr ⟨lw_p78, List.forall_mem_cons.mpr ⟨lw_p79, fun _ h => absurd h List.not_mem_nil⟩⟩⟩⟩⟩⟩⟩⟩⟩⟩⟩⟩⟩⟩⟩⟩
theorem lw_p80 : lw_okq (⟨"SandRailsModel", "isBuried", "(I)Z"⟩, 25) := ⟨⟨by decide +kernel, by decide +kernel⟩, List.mem_of_getElem? (i := 1352) (by decide +kernel), List.mem_of_getElem? (i := 1690) (by decide +kernel), List.mem_of_getElem? (i := 1691) (by decide +kernel)⟩
theorem lw_p81 : lw_okq (⟨"SandRailsModel", "strength", "(I)I"⟩, 25) := ⟨⟨by decide +kernel, by decide +kernel⟩, List.mem_of_getElem? (i := 1352) (by decide +kernel), List.mem_of_getElem? (i := 1694) (by decide +kernel), List.mem_of_getElem? (i := 1695) (by decide +kernel)⟩
theorem lw_p82 : lw_okq (⟨"SandRailsModel", "lifts", "()I"⟩, 25) := ⟨⟨by decide +kernel, by decide +kernel⟩, List.mem_of_getElem? (i := 1352) (by decide +kernel), List.mem_of_getElem? (i := 1698) (by decide +kernel), List.mem_of_getElem? (i := 1699) (by decide +kernel)⟩
theorem lw_p83 : lw_okq (⟨"SandRailsModel", "elapses", "(I)V"⟩, 25) := ⟨⟨by decide +kernel, by decide +kernel⟩, List.mem_of_getElem? (i := 1352) (by decide +kernel), List.mem_of_getElem? (i := 1705) (by decide +kernel), List.mem_of_getElem? (i := 1706) (by decide +kernel)⟩
theorem lw_p84 : lw_okq (⟨"SandRailsModel", "men", "()I"⟩, 25) := ⟨⟨by decide +kernel, by decide +kernel⟩, List.mem_of_getElem? (i := 1352) (by decide +kernel), List.mem_of_getElem? (i := 1709) (by decide +kernel), List.mem_of_getElem? (i := 1710) (by decide +kernel)⟩
theorem lw_p85 : lw_okq (⟨"SandRailsModel", "night", "()V"⟩, 25) := ⟨⟨by decide +kernel, by decide +kernel⟩, List.mem_of_getElem? (i := 1352) (by decide +kernel), List.mem_of_getElem? (i := 1713) (by decide +kernel), List.mem_of_getElem? (i := 1714) (by decide +kernel)⟩
theorem lw_p86 : lw_okq (⟨"SandRailsModel", "draw", "()I"⟩, 25) := ⟨⟨by decide +kernel, by decide +kernel⟩, List.mem_of_getElem? (i := 1352) (by decide +kernel), List.mem_of_getElem? (i := 1717) (by decide +kernel), List.mem_of_getElem? (i := 1718) (by decide +kernel)⟩
theorem lw_p87 : lw_okq (⟨"SandRailsModel", "mayLay", "(I)Z"⟩, 25) := ⟨⟨by decide +kernel, by decide +kernel⟩, List.mem_of_getElem? (i := 1352) (by decide +kernel), List.mem_of_getElem? (i := 1726) (by decide +kernel), List.mem_of_getElem? (i := 1727) (by decide +kernel)⟩
theorem lw_p88 : lw_okq (⟨"SandRailsModel", "next", "(I)I"⟩, 25) := ⟨⟨by decide +kernel, by decide +kernel⟩, List.mem_of_getElem? (i := 1352) (by decide +kernel), List.mem_of_getElem? (i := 1730) (by decide +kernel), List.mem_of_getElem? (i := 1731) (by decide +kernel)⟩
theorem lw_p89 : lw_okq (⟨"SandRailsModel", "lays", "(I)I"⟩, 25) := ⟨⟨by decide +kernel, by decide +kernel⟩, List.mem_of_getElem? (i := 1352) (by decide +kernel), List.mem_of_getElem? (i := 1734) (by decide +kernel), List.mem_of_getElem? (i := 1735) (by decide +kernel)⟩
theorem lw_p90 : lw_okq (⟨"SandRailsModel", "takes", "(I)V"⟩, 25) := ⟨⟨by decide +kernel, by decide +kernel⟩, List.mem_of_getElem? (i := 1352) (by decide +kernel), List.mem_of_getElem? (i := 1741) (by decide +kernel), List.mem_of_getElem? (i := 1742) (by decide +kernel)⟩
theorem lw_p91 : lw_okq (⟨"SandRailsModel", "mayGo", "(Z)Z"⟩, 25) := ⟨⟨by decide +kernel, by decide +kernel⟩, List.mem_of_getElem? (i := 1352) (by decide +kernel), List.mem_of_getElem? (i := 1749) (by decide +kernel), List.mem_of_getElem? (i := 1750) (by decide +kernel)⟩
theorem lw_p92 : lw_okq (⟨"SandRailsModel", "front", "()I"⟩, 25) := ⟨⟨by decide +kernel, by decide +kernel⟩, List.mem_of_getElem? (i := 1352) (by decide +kernel), List.mem_of_getElem? (i := 1753) (by decide +kernel), List.mem_of_getElem? (i := 1754) (by decide +kernel)⟩
theorem lw_p93 : lw_okq (⟨"SandRailsModel", "goes", "(Z)Z"⟩, 25) := ⟨⟨by decide +kernel, by decide +kernel⟩, List.mem_of_getElem? (i := 1352) (by decide +kernel), List.mem_of_getElem? (i := 1757) (by decide +kernel), List.mem_of_getElem? (i := 1758) (by decide +kernel)⟩
theorem lw_p94 : lw_okq (⟨"SandRailsModel", "widthAt", "(I)I"⟩, 25) := ⟨⟨by decide +kernel, by decide +kernel⟩, List.mem_of_getElem? (i := 1352) (by decide +kernel), List.mem_of_getElem? (i := 1761) (by decide +kernel), List.mem_of_getElem? (i := 1762) (by decide +kernel)⟩
theorem lw_p95 : lw_okq (⟨"SandRailsModel", "mayFill", "()Z"⟩, 25) := ⟨⟨by decide +kernel, by decide +kernel⟩, List.mem_of_getElem? (i := 1352) (by decide +kernel), List.mem_of_getElem? (i := 1773) (by decide +kernel), List.mem_of_getElem? (i := 1774) (by decide +kernel)⟩
def lw_privs_6 : List (MethodName × Nat) := [(⟨"SandRailsModel", "isBuried", "(I)Z"⟩, 25), (⟨"SandRailsModel", "strength", "(I)I"⟩, 25), (⟨"SandRailsModel", "lifts", "()I"⟩, 25), (⟨"SandRailsModel", "elapses", "(I)V"⟩, 25), (⟨"SandRailsModel", "men", "()I"⟩, 25), (⟨"SandRailsModel", "night", "()V"⟩, 25), (⟨"SandRailsModel", "draw", "()I"⟩, 25), (⟨"SandRailsModel", "mayLay", "(I)Z"⟩, 25), (⟨"SandRailsModel", "next", "(I)I"⟩, 25), (⟨"SandRailsModel", "lays", "(I)I"⟩, 25), (⟨"SandRailsModel", "takes", "(I)V"⟩, 25), (⟨"SandRailsModel", "mayGo", "(Z)Z"⟩, 25), (⟨"SandRailsModel", "front", "()I"⟩, 25), (⟨"SandRailsModel", "goes", "(Z)Z"⟩, 25), (⟨"SandRailsModel", "widthAt", "(I)I"⟩, 25), (⟨"SandRailsModel", "mayFill", "()Z"⟩, 25)]
theorem lw_r6 : ∀ q ∈ lw_privs_6, lw_okq q := List.forall_mem_cons.mpr ⟨lw_p80, List.forall_mem_cons.mpr ⟨lw_p81, List.forall_mem_cons.mpr ⟨lw_p82, List.forall_mem_cons.mpr ⟨lw_p83, List.forall_mem_cons.mpr ⟨lw_p84, List.forall_mem_cons.mpr ⟨lw_p85, List.forall_mem_cons.mpr ⟨lw_p86, List.forall_mem_cons.mpr ⟨lw_p87, List.forall_mem_cons.mpr ⟨lw_p88, List.forall_mem_cons.mpr ⟨lw_p89, List.forall_mem_cons.mpr ⟨lw_p90, List.forall_mem_cons.mpr ⟨lw_p91, List.forall_mem_cons.mpr ⟨lw_p92, List.forall_mem_cons.mpr ⟨lw_p93, List.forall_mem_cons.mpr ⟨lw_p94, List.forall_mem_cons.mpr ⟨lw_p95, fun _ h => absurd h List.not_mem_nil⟩⟩⟩⟩⟩⟩⟩⟩⟩⟩⟩⟩⟩⟩⟩⟩
theorem lw_p96 : lw_okq (⟨"SandRailsModel", "isByWell", "(I)Z"⟩, 25) := ⟨⟨by decide +kernel, by decide +kernel⟩, List.mem_of_getElem? (i := 1352) (by decide +kernel), List.mem_of_getElem? (i := 1777) (by decide +kernel), List.mem_of_getElem? (i := 1778) (by decide +kernel)⟩
theorem lw_p97 : lw_okq (⟨"SandRailsModel", "fills", "()I"⟩, 25) := ⟨⟨by decide +kernel, by decide +kernel⟩, List.mem_of_getElem? (i := 1352) (by decide +kernel), List.mem_of_getElem? (i := 1781) (by decide +kernel), List.mem_of_getElem? (i := 1782) (by decide +kernel)⟩
theorem lw_p98 : lw_okq (⟨"SandRailsModel", "mayDig", "()Z"⟩, 25) := ⟨⟨by decide +kernel, by decide +kernel⟩, List.mem_of_getElem? (i := 1352) (by decide +kernel), List.mem_of_getElem? (i := 1789) (by decide +kernel), List.mem_of_getElem? (i := 1790) (by decide +kernel)⟩
theorem lw_p99 : lw_okq (⟨"SandRailsModel", "firstBuried", "()I"⟩, 25) := ⟨⟨by decide +kernel, by decide +kernel⟩, List.mem_of_getElem? (i := 1352) (by decide +kernel), List.mem_of_getElem? (i := 1793) (by decide +kernel), List.mem_of_getElem? (i := 1794) (by decide +kernel)⟩
theorem lw_p100 : lw_okq (⟨"SandRailsModel", "digs", "()I"⟩, 25) := ⟨⟨by decide +kernel, by decide +kernel⟩, List.mem_of_getElem? (i := 1352) (by decide +kernel), List.mem_of_getElem? (i := 1797) (by decide +kernel), List.mem_of_getElem? (i := 1798) (by decide +kernel)⟩
theorem lw_p101 : lw_okq (⟨"SandRailsModel", "acts", "(II)Z"⟩, 25) := ⟨⟨by decide +kernel, by decide +kernel⟩, List.mem_of_getElem? (i := 1352) (by decide +kernel), List.mem_of_getElem? (i := 1809) (by decide +kernel), List.mem_of_getElem? (i := 1810) (by decide +kernel)⟩
theorem lw_p102 : lw_okq (⟨"SandRailsModel", "holds", "(III)Z"⟩, 25) := ⟨⟨by decide +kernel, by decide +kernel⟩, List.mem_of_getElem? (i := 1352) (by decide +kernel), List.mem_of_getElem? (i := 1813) (by decide +kernel), List.mem_of_getElem? (i := 1814) (by decide +kernel)⟩
theorem lw_p103 : lw_okq (⟨"SandRailsModel", "factOf", "(I)I"⟩, 25) := ⟨⟨by decide +kernel, by decide +kernel⟩, List.mem_of_getElem? (i := 1352) (by decide +kernel), List.mem_of_getElem? (i := 1817) (by decide +kernel), List.mem_of_getElem? (i := 1818) (by decide +kernel)⟩
theorem lw_p104 : lw_okq (⟨"SandRailsModel", "noRail", "(I)Z"⟩, 25) := ⟨⟨by decide +kernel, by decide +kernel⟩, List.mem_of_getElem? (i := 1352) (by decide +kernel), List.mem_of_getElem? (i := 1829) (by decide +kernel), List.mem_of_getElem? (i := 1830) (by decide +kernel)⟩
theorem lw_p105 : lw_okq (⟨"SandRailsModel", "isNoEnd", "(I)Z"⟩, 25) := ⟨⟨by decide +kernel, by decide +kernel⟩, List.mem_of_getElem? (i := 1352) (by decide +kernel), List.mem_of_getElem? (i := 1841) (by decide +kernel), List.mem_of_getElem? (i := 1842) (by decide +kernel)⟩
theorem lw_p106 : lw_okq (⟨"SandRailsModel", "hasWay", "(I)Z"⟩, 25) := ⟨⟨by decide +kernel, by decide +kernel⟩, List.mem_of_getElem? (i := 1352) (by decide +kernel), List.mem_of_getElem? (i := 1845) (by decide +kernel), List.mem_of_getElem? (i := 1846) (by decide +kernel)⟩
theorem lw_p107 : lw_okq (⟨"SandRailsModel", "finds", "(I)V"⟩, 25) := ⟨⟨by decide +kernel, by decide +kernel⟩, List.mem_of_getElem? (i := 1352) (by decide +kernel), List.mem_of_getElem? (i := 1849) (by decide +kernel), List.mem_of_getElem? (i := 1850) (by decide +kernel)⟩
theorem lw_p108 : lw_okq (⟨"SandRailsModel", "isFree", "(I)Z"⟩, 25) := ⟨⟨by decide +kernel, by decide +kernel⟩, List.mem_of_getElem? (i := 1352) (by decide +kernel), List.mem_of_getElem? (i := 1853) (by decide +kernel), List.mem_of_getElem? (i := 1854) (by decide +kernel)⟩
theorem lw_p109 : lw_okq (⟨"SandRailsModel", "stepping", "(II)J"⟩, 25) := ⟨⟨by decide +kernel, by decide +kernel⟩, List.mem_of_getElem? (i := 1352) (by decide +kernel), List.mem_of_getElem? (i := 1861) (by decide +kernel), List.mem_of_getElem? (i := 1862) (by decide +kernel)⟩
theorem lw_p110 : lw_okq (⟨"SandRailsModel", "path", "(III)I"⟩, 25) := ⟨⟨by decide +kernel, by decide +kernel⟩, List.mem_of_getElem? (i := 1352) (by decide +kernel), List.mem_of_getElem? (i := 1868) (by decide +kernel), List.mem_of_getElem? (i := 1869) (by decide +kernel)⟩
theorem lw_p111 : lw_okq (⟨"SandRailsModel", "stepOf", "(II)I"⟩, 25) := ⟨⟨by decide +kernel, by decide +kernel⟩, List.mem_of_getElem? (i := 1352) (by decide +kernel), List.mem_of_getElem? (i := 1872) (by decide +kernel), List.mem_of_getElem? (i := 1873) (by decide +kernel)⟩
def lw_privs_7 : List (MethodName × Nat) := [(⟨"SandRailsModel", "isByWell", "(I)Z"⟩, 25), (⟨"SandRailsModel", "fills", "()I"⟩, 25), (⟨"SandRailsModel", "mayDig", "()Z"⟩, 25), (⟨"SandRailsModel", "firstBuried", "()I"⟩, 25), (⟨"SandRailsModel", "digs", "()I"⟩, 25), (⟨"SandRailsModel", "acts", "(II)Z"⟩, 25), (⟨"SandRailsModel", "holds", "(III)Z"⟩, 25), (⟨"SandRailsModel", "factOf", "(I)I"⟩, 25), (⟨"SandRailsModel", "noRail", "(I)Z"⟩, 25), (⟨"SandRailsModel", "isNoEnd", "(I)Z"⟩, 25), (⟨"SandRailsModel", "hasWay", "(I)Z"⟩, 25), (⟨"SandRailsModel", "finds", "(I)V"⟩, 25), (⟨"SandRailsModel", "isFree", "(I)Z"⟩, 25), (⟨"SandRailsModel", "stepping", "(II)J"⟩, 25), (⟨"SandRailsModel", "path", "(III)I"⟩, 25), (⟨"SandRailsModel", "stepOf", "(II)I"⟩, 25)]
theorem lw_r7 : ∀ q ∈ lw_privs_7, lw_okq q := List.forall_mem_cons.mpr ⟨lw_p96, List.forall_mem_cons.mpr ⟨lw_p97, List.forall_mem_cons.mpr ⟨lw_p98, List.forall_mem_cons.mpr ⟨lw_p99, List.forall_mem_cons.mpr ⟨lw_p100, List.forall_mem_cons.mpr ⟨lw_p101, List.forall_mem_cons.mpr ⟨lw_p102, List.forall_mem_cons.mpr ⟨lw_p103, List.forall_mem_cons.mpr ⟨lw_p104, List.forall_mem_cons.mpr ⟨lw_p105, List.forall_mem_cons.mpr ⟨lw_p106, List.forall_mem_cons.mpr ⟨lw_p107, List.forall_mem_cons.mpr ⟨lw_p108, List.forall_mem_cons.mpr ⟨lw_p109, List.forall_mem_cons.mpr ⟨lw_p110, List.forall_mem_cons.mpr ⟨lw_p111, fun _ h => absurd h List.not_mem_nil⟩⟩⟩⟩⟩⟩⟩⟩⟩⟩⟩⟩⟩⟩⟩⟩
theorem lw_p112 : lw_okq (⟨"SandRailsModel", "isThere", "(I)Z"⟩, 25) := ⟨⟨by decide +kernel, by decide +kernel⟩, List.mem_of_getElem? (i := 1352) (by decide +kernel), List.mem_of_getElem? (i := 1888) (by decide +kernel), List.mem_of_getElem? (i := 1889) (by decide +kernel)⟩
theorem lw_p113 : lw_okq (⟨"SandRailsModel", "dunes", "()I"⟩, 25) := ⟨⟨by decide +kernel, by decide +kernel⟩, List.mem_of_getElem? (i := 1352) (by decide +kernel), List.mem_of_getElem? (i := 1912) (by decide +kernel), List.mem_of_getElem? (i := 1913) (by decide +kernel)⟩
theorem lw_p114 : lw_okq (⟨"SandRailsModel", "buried", "()I"⟩, 25) := ⟨⟨by decide +kernel, by decide +kernel⟩, List.mem_of_getElem? (i := 1352) (by decide +kernel), List.mem_of_getElem? (i := 1916) (by decide +kernel), List.mem_of_getElem? (i := 1917) (by decide +kernel)⟩
def lw_privs_8 : List (MethodName × Nat) := [(⟨"SandRailsModel", "isThere", "(I)Z"⟩, 25), (⟨"SandRailsModel", "dunes", "()I"⟩, 25), (⟨"SandRailsModel", "buried", "()I"⟩, 25)]
theorem lw_r8 : ∀ q ∈ lw_privs_8, lw_okq q := List.forall_mem_cons.mpr ⟨lw_p112, List.forall_mem_cons.mpr ⟨lw_p113, List.forall_mem_cons.mpr ⟨lw_p114, fun _ h => absurd h List.not_mem_nil⟩⟩⟩
def lw_privs : List (MethodName × Nat) := lw_privs_1 ++ (lw_privs_2 ++ (lw_privs_3 ++ (lw_privs_4 ++ (lw_privs_5 ++ (lw_privs_6 ++ (lw_privs_7 ++ (lw_privs_8)))))))
def lw_tbl : List Cond := k2_sels lw_privs ++ tables_1
theorem lw_privs_ok : ∀ q ∈ lw_privs, lw_okq q := by
  show ∀ q ∈ lw_privs_1 ++ (lw_privs_2 ++ (lw_privs_3 ++ (lw_privs_4 ++ (lw_privs_5 ++ (lw_privs_6 ++ (lw_privs_7 ++ (lw_privs_8))))))), lw_okq q
  exact List.forall_mem_append.mpr ⟨lw_r1, List.forall_mem_append.mpr ⟨lw_r2, List.forall_mem_append.mpr ⟨lw_r3, List.forall_mem_append.mpr ⟨lw_r4, List.forall_mem_append.mpr ⟨lw_r5, List.forall_mem_append.mpr ⟨lw_r6, List.forall_mem_append.mpr ⟨lw_r7, lw_r8⟩⟩⟩⟩⟩⟩⟩
end
section
/-! ===== BEGIN words of one list among another's, by their places ===== -/
theorem goodIn_r {big : List Cond} (ws : List Cond) (ps : List Nat) (hp : ws = ps.filterMap (fun i => big[i]?)) (h : ws.all goodWord = true) : GoodIn big ws := by
  intro w hw
  have h1 := List.all_eq_true.mp h w hw
  rw [hp] at hw
  obtain ⟨i, -, hi⟩ := List.mem_filterMap.mp hw
  have hm : w ∈ big := by first | exact List.mem_of_getElem? hi | exact List.getElem?_mem hi
  exact ⟨hm, good_of_word h1⟩
theorem goodIn_app {big a b : List Cond} (ha : GoodIn big a) (hb : GoodIn big b) : GoodIn big (a ++ b) := fun w h => (List.mem_append.mp h).elim (ha w) (hb w)
theorem goodIn_ca {big a b : List Cond} {c : Cond} (ha : GoodIn big (c :: a)) (hb : GoodIn big b) : GoodIn big (c :: (a ++ b)) := fun w h => (List.mem_cons.mp h).elim (fun e => ha w (List.mem_cons.mpr (Or.inl e))) (fun h => (List.mem_append.mp h).elim (fun h => ha w (List.mem_cons.mpr (Or.inr h))) (hb w))
theorem goodIn_sub {big ws : List Cond} (hm : ∀ w ∈ ws, w ∈ big) (h : ws.all goodWord = true) : GoodIn big ws := fun w hw => ⟨hm w hw, good_of_word (List.all_eq_true.mp h w hw)⟩
/-! ===== END ===== -/

def RX0 : String := "SandRails$Desert"
def TX0 : u_T := fun k => match k with
  | 0 => ("SandRails$Desert", "kinds", "[I", true)
  | 1 => ("SandRails$Desert", "before", "[I", true)
  | _ => ("SandRails$Desert", "seed", "I", false)
def tyX0 : Nat → FieldType := fun k => match k with
  | 0 => .array .int
  | 1 => .array .int
  | _ => .int
abbrev wsX00 : List Cond := u_ws RX0 TX0 3
theorem nmX0 : ∀ a, a < 3 → ∀ b, b < 3 → a ≠ b → (TX0 a).2.1 ≠ (TX0 b).2.1 := by decide +kernel
theorem tyX0_ok : ∀ k, k < 3 → parseFieldDescriptor (TX0 k).2.2.1 = some (tyX0 k) := by decide +kernel
abbrev cX0_init : ByteArray := prog_2_method_1_code
def yX0_init : MethodName := ⟨RX0, "<init>", "()V"⟩
abbrev cX0_kindOf : ByteArray := prog_2_method_2_code
def yX0_kindOf : MethodName := ⟨RX0, "kindOf", "(I)I"⟩
abbrev cX0_put : ByteArray := prog_2_method_3_code
def yX0_put : MethodName := ⟨RX0, "put", "(II)V"⟩
abbrev cX0_isBesideWell : ByteArray := prog_2_method_4_code
def yX0_isBesideWell : MethodName := ⟨RX0, "isBesideWell", "(I)Z"⟩
abbrev cX0_dunes : ByteArray := prog_2_method_5_code
def yX0_dunes : MethodName := ⟨RX0, "dunes", "()I"⟩
abbrev cX0_draw : ByteArray := prog_2_method_6_code
def yX0_draw : MethodName := ⟨RX0, "draw", "()I"⟩
abbrev cX0_night : ByteArray := prog_2_method_7_code
def yX0_night : MethodName := ⟨RX0, "night", "(I)V"⟩
abbrev cX0_blow : ByteArray := prog_2_method_8_code
def yX0_blow : MethodName := ⟨RX0, "blow", "(II)V"⟩
abbrev cX0_copyFrom : ByteArray := prog_2_method_9_code
def yX0_copyFrom : MethodName := ⟨RX0, "copyFrom", "(LSandRails$Desert;)V"⟩
def RX1 : String := "SandRails$Gangs"
def TX1 : u_T := fun k => match k with
  | 0 => ("SandRails$Gangs", "strengths", "[I", true)
  | 1 => ("SandRails$Gangs", "men", "[I", true)
  | 2 => ("SandRails$Gangs", "tasks", "[I", true)
  | _ => ("SandRails$Gangs", "size", "I", false)
def tyX1 : Nat → FieldType := fun k => match k with
  | 0 => .array .int
  | 1 => .array .int
  | 2 => .array .int
  | _ => .int
abbrev wsX10 : List Cond := u_ws RX1 TX1 4
theorem nmX1 : ∀ a, a < 4 → ∀ b, b < 4 → a ≠ b → (TX1 a).2.1 ≠ (TX1 b).2.1 := by decide +kernel
theorem tyX1_ok : ∀ k, k < 4 → parseFieldDescriptor (TX1 k).2.2.1 = some (tyX1 k) := by decide +kernel
abbrev cX1_init : ByteArray := prog_3_method_1_code
def yX1_init : MethodName := ⟨RX1, "<init>", "()V"⟩
abbrev cX1_isGang : ByteArray := prog_3_method_2_code
def yX1_isGang : MethodName := ⟨RX1, "isGang", "(I)Z"⟩
abbrev cX1_addGang : ByteArray := prog_3_method_3_code
def yX1_addGang : MethodName := ⟨RX1, "addGang", "(II)I"⟩
abbrev cX1_changeTask : ByteArray := prog_3_method_4_code
def yX1_changeTask : MethodName := ⟨RX1, "changeTask", "(II)I"⟩
abbrev cX1_strengthAt : ByteArray := prog_3_method_5_code
def yX1_strengthAt : MethodName := ⟨RX1, "strengthAt", "(I)I"⟩
abbrev cX1_allMen : ByteArray := prog_3_method_6_code
def yX1_allMen : MethodName := ⟨RX1, "allMen", "()I"⟩
abbrev cX1_copyFrom : ByteArray := prog_3_method_7_code
def yX1_copyFrom : MethodName := ⟨RX1, "copyFrom", "(LSandRails$Gangs;)V"⟩
def RX2 : String := "SandRails$Log"
def TX2 : u_T := fun k => match k with
  | 0 => ("SandRails$Log", "rails", "[I", true)
  | 1 => ("SandRails$Log", "cells", "[I", true)
  | 2 => ("SandRails$Log", "minutes", "[I", true)
  | 3 => ("SandRails$Log", "laid", "[I", true)
  | 4 => ("SandRails$Log", "begin", "I", false)
  | 5 => ("SandRails$Log", "size", "I", false)
  | _ => ("SandRails$Log", "seen", "[Z", true)
def tyX2 : Nat → FieldType := fun k => match k with
  | 0 => .array .int
  | 1 => .array .int
  | 2 => .array .int
  | 3 => .array .int
  | 4 => .int
  | 5 => .int
  | _ => .array .boolean
abbrev wsX20 : List Cond := u_ws RX2 TX2 7
theorem nmX2 : ∀ a, a < 7 → ∀ b, b < 7 → a ≠ b → (TX2 a).2.1 ≠ (TX2 b).2.1 := by decide +kernel
theorem tyX2_ok : ∀ k, k < 7 → parseFieldDescriptor (TX2 k).2.2.1 = some (tyX2 k) := by decide +kernel
abbrev cX2_init : ByteArray := prog_4_method_1_code
def yX2_init : MethodName := ⟨RX2, "<init>", "()V"⟩
abbrev cX2_note : ByteArray := prog_4_method_2_code
def yX2_note : MethodName := ⟨RX2, "note", "(IIIZ)V"⟩
abbrev cX2_slotOf : ByteArray := prog_4_method_3_code
def yX2_slotOf : MethodName := ⟨RX2, "slotOf", "(I)I"⟩
abbrev cX2_railOn : ByteArray := prog_4_method_4_code
def yX2_railOn : MethodName := ⟨RX2, "railOn", "(II)I"⟩
abbrev cX2_cellsUnder : ByteArray := prog_4_method_5_code
def yX2_cellsUnder : MethodName := ⟨RX2, "cellsUnder", "(I)I"⟩
abbrev cX2_copyFrom : ByteArray := prog_4_method_6_code
def yX2_copyFrom : MethodName := ⟨RX2, "copyFrom", "(LSandRails$Log;)V"⟩
def RX3 : String := "SandRails$Orders"
def TX3 : u_T := fun k => match k with
  | 0 => ("SandRails$Orders", "operations", "[I", true)
  | 1 => ("SandRails$Orders", "firsts", "[I", true)
  | 2 => ("SandRails$Orders", "seconds", "[I", true)
  | _ => ("SandRails$Orders", "size", "I", false)
def tyX3 : Nat → FieldType := fun k => match k with
  | 0 => .array .int
  | 1 => .array .int
  | 2 => .array .int
  | _ => .int
abbrev wsX30 : List Cond := u_ws RX3 TX3 4
theorem nmX3 : ∀ a, a < 4 → ∀ b, b < 4 → a ≠ b → (TX3 a).2.1 ≠ (TX3 b).2.1 := by decide +kernel
theorem tyX3_ok : ∀ k, k < 4 → parseFieldDescriptor (TX3 k).2.2.1 = some (tyX3 k) := by decide +kernel
abbrev cX3_init : ByteArray := prog_5_method_1_code
def yX3_init : MethodName := ⟨RX3, "<init>", "()V"⟩
abbrev cX3_has : ByteArray := prog_5_method_2_code
def yX3_has : MethodName := ⟨RX3, "has", "(I)Z"⟩
abbrev cX3_operationAt : ByteArray := prog_5_method_3_code
def yX3_operationAt : MethodName := ⟨RX3, "operationAt", "(I)I"⟩
abbrev cX3_firstAt : ByteArray := prog_5_method_4_code
def yX3_firstAt : MethodName := ⟨RX3, "firstAt", "(I)I"⟩
abbrev cX3_secondAt : ByteArray := prog_5_method_5_code
def yX3_secondAt : MethodName := ⟨RX3, "secondAt", "(I)I"⟩
abbrev cX3_add : ByteArray := prog_5_method_6_code
def yX3_add : MethodName := ⟨RX3, "add", "(III)V"⟩
abbrev cX3_leadHere : ByteArray := prog_5_method_7_code
def yX3_leadHere : MethodName := ⟨RX3, "leadHere", "(I)V"⟩
abbrev cX3_copyFrom : ByteArray := prog_5_method_8_code
def yX3_copyFrom : MethodName := ⟨RX3, "copyFrom", "(LSandRails$Orders;)V"⟩
def RX4 : String := "SandRails$Reader"
def TX4 : u_T := fun k => match k with
  | 0 => ("SandRails$Reader", "out", "LSandRails$Orders;", true)
  | 1 => ("SandRails$Reader", "tape", "LSandRails$Tape;", true)
  | 2 => ("SandRails$Reader", "type", "I", false)
  | 3 => ("SandRails$Reader", "begin", "I", false)
  | 4 => ("SandRails$Reader", "stop", "I", false)
  | _ => ("SandRails$Reader", "wrong", "I", false)
def tyX4 : Nat → FieldType := fun k => match k with
  | 0 => .object "SandRails$Orders"
  | 1 => .object "SandRails$Tape"
  | 2 => .int
  | 3 => .int
  | 4 => .int
  | _ => .int
abbrev wsX40 : List Cond := u_ws RX4 TX4 6
theorem nmX4 : ∀ a, a < 6 → ∀ b, b < 6 → a ≠ b → (TX4 a).2.1 ≠ (TX4 b).2.1 := by decide +kernel
theorem tyX4_ok : ∀ k, k < 6 → parseFieldDescriptor (TX4 k).2.2.1 = some (tyX4 k) := by decide +kernel
abbrev cX4_init : ByteArray := prog_6_method_1_code
def yX4_init : MethodName := ⟨RX4, "<init>", "()V"⟩
abbrev cX4_read : ByteArray := prog_6_method_2_code
def yX4_read : MethodName := ⟨RX4, "read", "()I"⟩
abbrev cX4_isRefused : ByteArray := prog_6_method_3_code
def yX4_isRefused : MethodName := ⟨RX4, "isRefused", "()Z"⟩
abbrev cX4_advance : ByteArray := prog_6_method_4_code
def yX4_advance : MethodName := ⟨RX4, "advance", "()V"⟩
abbrev cX4_typeOf : ByteArray := prog_6_method_5_code
def yX4_typeOf : MethodName := ⟨RX4, "typeOf", "(I)I"⟩
abbrev cX4_isSign : ByteArray := prog_6_method_6_code
def yX4_isSign : MethodName := ⟨RX4, "isSign", "(I)Z"⟩
abbrev cX4_isWord : ByteArray := prog_6_method_7_code
def yX4_isWord : MethodName := ⟨RX4, "isWord", "(Ljava/lang/String;)Z"⟩
abbrev cX4_takeSign : ByteArray := prog_6_method_8_code
def yX4_takeSign : MethodName := ⟨RX4, "takeSign", "(I)Z"⟩
abbrev cX4_takeNumber : ByteArray := prog_6_method_9_code
def yX4_takeNumber : MethodName := ⟨RX4, "takeNumber", "(II)I"⟩
abbrev cX4_readRow : ByteArray := prog_6_method_10_code
def yX4_readRow : MethodName := ⟨RX4, "readRow", "(I)Z"⟩
abbrev cX4_readOrder : ByteArray := prog_6_method_11_code
def yX4_readOrder : MethodName := ⟨RX4, "readOrder", "(I)Z"⟩
abbrev cX4_orderWord : ByteArray := prog_6_method_12_code
def yX4_orderWord : MethodName := ⟨RX4, "orderWord", "()I"⟩
abbrev cX4_readWay : ByteArray := prog_6_method_13_code
def yX4_readWay : MethodName := ⟨RX4, "readWay", "(I)Z"⟩
abbrev cX4_wayWord : ByteArray := prog_6_method_14_code
def yX4_wayWord : MethodName := ⟨RX4, "wayWord", "()I"⟩
abbrev cX4_readRest : ByteArray := prog_6_method_15_code
def yX4_readRest : MethodName := ⟨RX4, "readRest", "(I)Z"⟩
abbrev cX4_readAgain : ByteArray := prog_6_method_16_code
def yX4_readAgain : MethodName := ⟨RX4, "readAgain", "(I)Z"⟩
abbrev cX4_readIf : ByteArray := prog_6_method_17_code
def yX4_readIf : MethodName := ⟨RX4, "readIf", "(I)Z"⟩
abbrev cX4_readWhile : ByteArray := prog_6_method_18_code
def yX4_readWhile : MethodName := ⟨RX4, "readWhile", "(I)Z"⟩
abbrev cX4_readBlock : ByteArray := prog_6_method_19_code
def yX4_readBlock : MethodName := ⟨RX4, "readBlock", "(I)Z"⟩
abbrev cX4_readEither : ByteArray := prog_6_method_20_code
def yX4_readEither : MethodName := ⟨RX4, "readEither", "(I)Z"⟩
abbrev cX4_readBoth : ByteArray := prog_6_method_21_code
def yX4_readBoth : MethodName := ⟨RX4, "readBoth", "(I)Z"⟩
abbrev cX4_readAtom : ByteArray := prog_6_method_22_code
def yX4_readAtom : MethodName := ⟨RX4, "readAtom", "(I)Z"⟩
abbrev cX4_readDenied : ByteArray := prog_6_method_23_code
def yX4_readDenied : MethodName := ⟨RX4, "readDenied", "(I)Z"⟩
abbrev cX4_readFact : ByteArray := prog_6_method_24_code
def yX4_readFact : MethodName := ⟨RX4, "readFact", "()Z"⟩
abbrev cX4_factWord : ByteArray := prog_6_method_25_code
def yX4_factWord : MethodName := ⟨RX4, "factWord", "()I"⟩
def RX5 : String := "SandRails$Router"
def TX5 : u_T := fun k => match k with
  | 0 => ("SandRails$Router", "left", "[J", true)
  | 1 => ("SandRails$Router", "costs", "[I", true)
  | 2 => ("SandRails$Router", "isWet", "[Z", true)
  | 3 => ("SandRails$Router", "taking", "[J", true)
  | 4 => ("SandRails$Router", "tank", "I", false)
  | 5 => ("SandRails$Router", "goal", "I", false)
  | 6 => ("SandRails$Router", "enough", "I", false)
  | 7 => ("SandRails$Router", "cell", "I", false)
  | _ => ("SandRails$Router", "water", "I", false)
def tyX5 : Nat → FieldType := fun k => match k with
  | 0 => .array .long
  | 1 => .array .int
  | 2 => .array .boolean
  | 3 => .array .long
  | 4 => .int
  | 5 => .int
  | 6 => .int
  | 7 => .int
  | _ => .int
abbrev wsX50 : List Cond := u_ws RX5 TX5 9
theorem nmX5 : ∀ a, a < 9 → ∀ b, b < 9 → a ≠ b → (TX5 a).2.1 ≠ (TX5 b).2.1 := by decide +kernel
theorem tyX5_ok : ∀ k, k < 9 → parseFieldDescriptor (TX5 k).2.2.1 = some (tyX5 k) := by decide +kernel
abbrev cX5_init : ByteArray := prog_7_method_1_code
def yX5_init : MethodName := ⟨RX5, "<init>", "()V"⟩
abbrev cX5_tell : ByteArray := prog_7_method_2_code
def yX5_tell : MethodName := ⟨RX5, "tell", "(LSandRails$World;II)I"⟩
abbrev cX5_cellsWithin : ByteArray := prog_7_method_3_code
def yX5_cellsWithin : MethodName := ⟨RX5, "cellsWithin", "(LSandRails$World;II)I"⟩
abbrev cX5_minutesOf : ByteArray := prog_7_method_4_code
def yX5_minutesOf : MethodName := ⟨RX5, "minutesOf", "(J)I"⟩
abbrev cX5_solve : ByteArray := prog_7_method_5_code
def yX5_solve : MethodName := ⟨RX5, "solve", "(LSandRails$World;I)V"⟩
abbrev cX5_isAsBefore : ByteArray := prog_7_method_6_code
def yX5_isAsBefore : MethodName := ⟨RX5, "isAsBefore", "(LSandRails$World;I)Z"⟩
abbrev cX5_spread : ByteArray := prog_7_method_7_code
def yX5_spread : MethodName := ⟨RX5, "spread", "()V"⟩
abbrev cX5_spreadAt : ByteArray := prog_7_method_8_code
def yX5_spreadAt : MethodName := ⟨RX5, "spreadAt", "(I)Z"⟩
abbrev cX5_takeAnew : ByteArray := prog_7_method_9_code
def yX5_takeAnew : MethodName := ⟨RX5, "takeAnew", "()Z"⟩
abbrev cX5_leftWith : ByteArray := prog_7_method_10_code
def yX5_leftWith : MethodName := ⟨RX5, "leftWith", "(II)J"⟩
abbrev cX5_stepTo : ByteArray := prog_7_method_11_code
def yX5_stepTo : MethodName := ⟨RX5, "stepTo", "(III)J"⟩
abbrev cX5_bestStep : ByteArray := prog_7_method_12_code
def yX5_bestStep : MethodName := ⟨RX5, "bestStep", "(III)J"⟩
abbrev cX5_leftFrom : ByteArray := prog_7_method_13_code
def yX5_leftFrom : MethodName := ⟨RX5, "leftFrom", "(II)J"⟩
abbrev cX5_step : ByteArray := prog_7_method_14_code
def yX5_step : MethodName := ⟨RX5, "step", "()V"⟩
abbrev cX5_stepThatKeeps : ByteArray := prog_7_method_15_code
def yX5_stepThatKeeps : MethodName := ⟨RX5, "stepThatKeeps", "(JII)I"⟩
def RX6 : String := "SandRails$Runner"
def TX6 : u_T := fun k => match k with
  | 0 => ("SandRails$Runner", "turns", "[I", true)
  | 1 => ("SandRails$Runner", "marks", "[I", true)
  | 2 => ("SandRails$Runner", "done", "I", false)
  | 3 => ("SandRails$Runner", "next", "I", false)
  | _ => ("SandRails$Runner", "truths", "I", false)
def tyX6 : Nat → FieldType := fun k => match k with
  | 0 => .array .int
  | 1 => .array .int
  | 2 => .int
  | 3 => .int
  | _ => .int
abbrev wsX60 : List Cond := u_ws RX6 TX6 5
theorem nmX6 : ∀ a, a < 5 → ∀ b, b < 5 → a ≠ b → (TX6 a).2.1 ≠ (TX6 b).2.1 := by decide +kernel
theorem tyX6_ok : ∀ k, k < 5 → parseFieldDescriptor (TX6 k).2.2.1 = some (tyX6 k) := by decide +kernel
abbrev cX6_init : ByteArray := prog_8_method_1_code
def yX6_init : MethodName := ⟨RX6, "<init>", "()V"⟩
abbrev cX6_perform : ByteArray := prog_8_method_2_code
def yX6_perform : MethodName := ⟨RX6, "perform", "(LSandRails$World;LSandRails$Orders;I)I"⟩
abbrev cX6_turn : ByteArray := prog_8_method_3_code
def yX6_turn : MethodName := ⟨RX6, "turn", "(III)V"⟩
abbrev cX6_judge : ByteArray := prog_8_method_4_code
def yX6_judge : MethodName := ⟨RX6, "judge", "(LSandRails$World;III)V"⟩
abbrev cX6_push : ByteArray := prog_8_method_5_code
def yX6_push : MethodName := ⟨RX6, "push", "(Z)V"⟩
def RX7 : String := "SandRails$Tape"
def TX7 : u_T := fun k => match k with
  | 0 => ("SandRails$Tape", "bytes", "[I", true)
  | _ => ("SandRails$Tape", "size", "I", false)
def tyX7 : Nat → FieldType := fun k => match k with
  | 0 => .array .int
  | _ => .int
abbrev wsX70 : List Cond := u_ws RX7 TX7 2
theorem nmX7 : ∀ a, a < 2 → ∀ b, b < 2 → a ≠ b → (TX7 a).2.1 ≠ (TX7 b).2.1 := by decide +kernel
theorem tyX7_ok : ∀ k, k < 2 → parseFieldDescriptor (TX7 k).2.2.1 = some (tyX7 k) := by decide +kernel
abbrev cX7_init : ByteArray := prog_9_method_1_code
def yX7_init : MethodName := ⟨RX7, "<init>", "()V"⟩
abbrev cX7_hasRoom : ByteArray := prog_9_method_2_code
def yX7_hasRoom : MethodName := ⟨RX7, "hasRoom", "()Z"⟩
abbrev cX7_append : ByteArray := prog_9_method_3_code
def yX7_append : MethodName := ⟨RX7, "append", "(I)V"⟩
abbrev cX7_cut : ByteArray := prog_9_method_4_code
def yX7_cut : MethodName := ⟨RX7, "cut", "(I)Z"⟩
abbrev cX7_byteAt : ByteArray := prog_9_method_5_code
def yX7_byteAt : MethodName := ⟨RX7, "byteAt", "(I)I"⟩
def RX8 : String := "SandRails$Track"
def TX8 : u_T := fun k => match k with
  | 0 => ("SandRails$Track", "wears", "[I", true)
  | 1 => ("SandRails$Track", "widths", "[I", true)
  | 2 => ("SandRails$Track", "states", "[I", true)
  | 3 => ("SandRails$Track", "cells", "[I", true)
  | 4 => ("SandRails$Track", "rails", "I", false)
  | 5 => ("SandRails$Track", "row", "[I", true)
  | 6 => ("SandRails$Track", "rowCells", "[I", true)
  | 7 => ("SandRails$Track", "size", "I", false)
  | _ => ("SandRails$Track", "front", "I", false)
def tyX8 : Nat → FieldType := fun k => match k with
  | 0 => .array .int
  | 1 => .array .int
  | 2 => .array .int
  | 3 => .array .int
  | 4 => .int
  | 5 => .array .int
  | 6 => .array .int
  | 7 => .int
  | _ => .int
abbrev wsX80 : List Cond := u_ws RX8 TX8 9
theorem nmX8 : ∀ a, a < 9 → ∀ b, b < 9 → a ≠ b → (TX8 a).2.1 ≠ (TX8 b).2.1 := by decide +kernel
theorem tyX8_ok : ∀ k, k < 9 → parseFieldDescriptor (TX8 k).2.2.1 = some (tyX8 k) := by decide +kernel
abbrev cX8_init : ByteArray := prog_10_method_1_code
def yX8_init : MethodName := ⟨RX8, "<init>", "()V"⟩
abbrev cX8_isRail : ByteArray := prog_10_method_2_code
def yX8_isRail : MethodName := ⟨RX8, "isRail", "(I)Z"⟩
abbrev cX8_isSetOut : ByteArray := prog_10_method_3_code
def yX8_isSetOut : MethodName := ⟨RX8, "isSetOut", "()Z"⟩
abbrev cX8_wearOf : ByteArray := prog_10_method_4_code
def yX8_wearOf : MethodName := ⟨RX8, "wearOf", "(I)I"⟩
abbrev cX8_widthOf : ByteArray := prog_10_method_5_code
def yX8_widthOf : MethodName := ⟨RX8, "widthOf", "(I)I"⟩
abbrev cX8_stateOf : ByteArray := prog_10_method_6_code
def yX8_stateOf : MethodName := ⟨RX8, "stateOf", "(I)I"⟩
abbrev cX8_cellOf : ByteArray := prog_10_method_7_code
def yX8_cellOf : MethodName := ⟨RX8, "cellOf", "(I)I"⟩
abbrev cX8_railAt : ByteArray := prog_10_method_8_code
def yX8_railAt : MethodName := ⟨RX8, "railAt", "(I)I"⟩
abbrev cX8_cellAt : ByteArray := prog_10_method_9_code
def yX8_cellAt : MethodName := ⟨RX8, "cellAt", "(I)I"⟩
abbrev cX8_head : ByteArray := prog_10_method_10_code
def yX8_head : MethodName := ⟨RX8, "head", "()I"⟩
abbrev cX8_addRail : ByteArray := prog_10_method_11_code
def yX8_addRail : MethodName := ⟨RX8, "addRail", "(II)I"⟩
abbrev cX8_changeState : ByteArray := prog_10_method_12_code
def yX8_changeState : MethodName := ⟨RX8, "changeState", "(II)V"⟩
abbrev cX8_age : ByteArray := prog_10_method_13_code
def yX8_age : MethodName := ⟨RX8, "age", "(III)V"⟩
abbrev cX8_leastCarried : ByteArray := prog_10_method_14_code
def yX8_leastCarried : MethodName := ⟨RX8, "leastCarried", "()I"⟩
abbrev cX8_inState : ByteArray := prog_10_method_15_code
def yX8_inState : MethodName := ⟨RX8, "inState", "(I)I"⟩
abbrev cX8_covers : ByteArray := prog_10_method_16_code
def yX8_covers : MethodName := ⟨RX8, "covers", "(I)Z"⟩
abbrev cX8_append : ByteArray := prog_10_method_17_code
def yX8_append : MethodName := ⟨RX8, "append", "(II)V"⟩
abbrev cX8_removeTail : ByteArray := prog_10_method_18_code
def yX8_removeTail : MethodName := ⟨RX8, "removeTail", "()V"⟩
abbrev cX8_isBuried : ByteArray := prog_10_method_19_code
def yX8_isBuried : MethodName := ⟨RX8, "isBuried", "(ILSandRails$Desert;)Z"⟩
abbrev cX8_buriedIn : ByteArray := prog_10_method_20_code
def yX8_buriedIn : MethodName := ⟨RX8, "buriedIn", "(LSandRails$Desert;)I"⟩
abbrev cX8_firstBuried : ByteArray := prog_10_method_21_code
def yX8_firstBuried : MethodName := ⟨RX8, "firstBuried", "(LSandRails$Desert;)I"⟩
abbrev cX8_jointOf : ByteArray := prog_10_method_22_code
def yX8_jointOf : MethodName := ⟨RX8, "jointOf", "(II)I"⟩
abbrev cX8_widestJoint : ByteArray := prog_10_method_23_code
def yX8_widestJoint : MethodName := ⟨RX8, "widestJoint", "()I"⟩
abbrev cX8_firstJointAbove : ByteArray := prog_10_method_24_code
def yX8_firstJointAbove : MethodName := ⟨RX8, "firstJointAbove", "(I)I"⟩
abbrev cX8_mostWorn : ByteArray := prog_10_method_25_code
def yX8_mostWorn : MethodName := ⟨RX8, "mostWorn", "()I"⟩
abbrev cX8_copyFrom : ByteArray := prog_10_method_26_code
def yX8_copyFrom : MethodName := ⟨RX8, "copyFrom", "(LSandRails$Track;)V"⟩
def RX9 : String := "SandRails$World"
def TX9 : u_T := fun k => match k with
  | 0 => ("SandRails$World", "desert", "LSandRails$Desert;", true)
  | 1 => ("SandRails$World", "track", "LSandRails$Track;", true)
  | 2 => ("SandRails$World", "gangs", "LSandRails$Gangs;", true)
  | 3 => ("SandRails$World", "log", "LSandRails$Log;", true)
  | 4 => ("SandRails$World", "stores", "[I", true)
  | 5 => ("SandRails$World", "clock", "I", false)
  | 6 => ("SandRails$World", "dry", "I", false)
  | 7 => ("SandRails$World", "timesLeft", "I", false)
  | 8 => ("SandRails$World", "orders", "I", false)
  | _ => ("SandRails$World", "where", "I", false)
def tyX9 : Nat → FieldType := fun k => match k with
  | 0 => .object "SandRails$Desert"
  | 1 => .object "SandRails$Track"
  | 2 => .object "SandRails$Gangs"
  | 3 => .object "SandRails$Log"
  | 4 => .array .int
  | 5 => .int
  | 6 => .int
  | 7 => .int
  | 8 => .int
  | _ => .int
abbrev wsX90 : List Cond := u_ws RX9 TX9 10
theorem nmX9 : ∀ a, a < 10 → ∀ b, b < 10 → a ≠ b → (TX9 a).2.1 ≠ (TX9 b).2.1 := by decide +kernel
theorem tyX9_ok : ∀ k, k < 10 → parseFieldDescriptor (TX9 k).2.2.1 = some (tyX9 k) := by decide +kernel
abbrev cX9_init : ByteArray := prog_11_method_1_code
def yX9_init : MethodName := ⟨RX9, "<init>", "()V"⟩
abbrev cX9_storeOf : ByteArray := prog_11_method_2_code
def yX9_storeOf : MethodName := ⟨RX9, "storeOf", "(I)I"⟩
abbrev cX9_mayStore : ByteArray := prog_11_method_3_code
def yX9_mayStore : MethodName := ⟨RX9, "mayStore", "(II)Z"⟩
abbrev cX9_changeStore : ByteArray := prog_11_method_4_code
def yX9_changeStore : MethodName := ⟨RX9, "changeStore", "(II)I"⟩
abbrev cX9_takePlates : ByteArray := prog_11_method_5_code
def yX9_takePlates : MethodName := ⟨RX9, "takePlates", "(I)I"⟩
abbrev cX9_shape : ByteArray := prog_11_method_6_code
def yX9_shape : MethodName := ⟨RX9, "shape", "(III)I"⟩
abbrev cX9_isFree : ByteArray := prog_11_method_7_code
def yX9_isFree : MethodName := ⟨RX9, "isFree", "(I)Z"⟩
abbrev cX9_maySetOut : ByteArray := prog_11_method_8_code
def yX9_maySetOut : MethodName := ⟨RX9, "maySetOut", "(III)Z"⟩
abbrev cX9_setOut : ByteArray := prog_11_method_9_code
def yX9_setOut : MethodName := ⟨RX9, "setOut", "(III)I"⟩
abbrev cX9_putRail : ByteArray := prog_11_method_10_code
def yX9_putRail : MethodName := ⟨RX9, "putRail", "(III)V"⟩
abbrev cX9_lastOfTrain : ByteArray := prog_11_method_11_code
def yX9_lastOfTrain : MethodName := ⟨RX9, "lastOfTrain", "()I"⟩
abbrev cX9_tryAct : ByteArray := prog_11_method_12_code
def yX9_tryAct : MethodName := ⟨RX9, "tryAct", "(II)I"⟩
abbrev cX9_tryLift : ByteArray := prog_11_method_13_code
def yX9_tryLift : MethodName := ⟨RX9, "tryLift", "()I"⟩
abbrev cX9_tryLay : ByteArray := prog_11_method_14_code
def yX9_tryLay : MethodName := ⟨RX9, "tryLay", "(I)I"⟩
abbrev cX9_tryGo : ByteArray := prog_11_method_15_code
def yX9_tryGo : MethodName := ⟨RX9, "tryGo", "(Z)I"⟩
abbrev cX9_isStuck : ByteArray := prog_11_method_16_code
def yX9_isStuck : MethodName := ⟨RX9, "isStuck", "(I)Z"⟩
abbrev cX9_tryFill : ByteArray := prog_11_method_17_code
def yX9_tryFill : MethodName := ⟨RX9, "tryFill", "()I"⟩
abbrev cX9_tryDig : ByteArray := prog_11_method_18_code
def yX9_tryDig : MethodName := ⟨RX9, "tryDig", "()I"⟩
abbrev cX9_pass : ByteArray := prog_11_method_19_code
def yX9_pass : MethodName := ⟨RX9, "pass", "(I)V"⟩
abbrev cX9_factOf : ByteArray := prog_11_method_20_code
def yX9_factOf : MethodName := ⟨RX9, "factOf", "(I)I"⟩
abbrev cX9_tellOfRail : ByteArray := prog_11_method_21_code
def yX9_tellOfRail : MethodName := ⟨RX9, "tellOfRail", "(II)I"⟩
abbrev cX9_copyFrom : ByteArray := prog_11_method_22_code
def yX9_copyFrom : MethodName := ⟨RX9, "copyFrom", "(LSandRails$World;)V"⟩
def RX10 : String := "SandRails"
def TX10 : u_T := fun k => match k with
  | 0 => ("SandRails", "world", "LSandRails$World;", true)
  | 1 => ("SandRails", "kept", "LSandRails$World;", true)
  | 2 => ("SandRails", "isKept", "Z", false)
  | 3 => ("SandRails", "dream", "LSandRails$Desert;", true)
  | 4 => ("SandRails", "reader", "LSandRails$Reader;", true)
  | 5 => ("SandRails", "texts", "[LSandRails$Orders;", true)
  | 6 => ("SandRails", "wrongByte", "I", false)
  | 7 => ("SandRails", "runner", "LSandRails$Runner;", true)
  | _ => ("SandRails", "router", "LSandRails$Router;", true)
def tyX10 : Nat → FieldType := fun k => match k with
  | 0 => .object "SandRails$World"
  | 1 => .object "SandRails$World"
  | 2 => .boolean
  | 3 => .object "SandRails$Desert"
  | 4 => .object "SandRails$Reader"
  | 5 => .array (.object "SandRails$Orders")
  | 6 => .int
  | 7 => .object "SandRails$Runner"
  | _ => .object "SandRails$Router"
abbrev wsX100 : List Cond := u_ws RX10 TX10 9
theorem nmX10 : ∀ a, a < 9 → ∀ b, b < 9 → a ≠ b → (TX10 a).2.1 ≠ (TX10 b).2.1 := by decide +kernel
theorem tyX10_ok : ∀ k, k < 9 → parseFieldDescriptor (TX10 k).2.2.1 = some (tyX10 k) := by decide +kernel
abbrev cX10_init : ByteArray := prog_1_method_1_code
def yX10_init : MethodName := ⟨RX10, "<init>", "()V"⟩
abbrev cX10_feed : ByteArray := prog_1_method_2_code
def yX10_feed : MethodName := ⟨RX10, "feed", "(IIIII)I"⟩
abbrev cX10_end : ByteArray := prog_1_method_3_code
def yX10_end : MethodName := ⟨RX10, "end", "(I)Z"⟩
abbrev cX10_orders : ByteArray := prog_1_method_4_code
def yX10_orders : MethodName := ⟨RX10, "orders", "()I"⟩
abbrev cX10_fault : ByteArray := prog_1_method_5_code
def yX10_fault : MethodName := ⟨RX10, "fault", "()I"⟩
abbrev cX10_run : ByteArray := prog_1_method_6_code
def yX10_run : MethodName := ⟨RX10, "run", "(II)I"⟩
abbrev cX10_where : ByteArray := prog_1_method_7_code
def yX10_where : MethodName := ⟨RX10, "where", "()I"⟩
abbrev cX10_ground : ByteArray := prog_1_method_8_code
def yX10_ground : MethodName := ⟨RX10, "ground", "(III)I"⟩
abbrev cX10_kind : ByteArray := prog_1_method_9_code
def yX10_kind : MethodName := ⟨RX10, "kind", "(I)I"⟩
abbrev cX10_rail : ByteArray := prog_1_method_10_code
def yX10_rail : MethodName := ⟨RX10, "rail", "(II)I"⟩
abbrev cX10_gang : ByteArray := prog_1_method_11_code
def yX10_gang : MethodName := ⟨RX10, "gang", "(II)I"⟩
abbrev cX10_task : ByteArray := prog_1_method_12_code
def yX10_task : MethodName := ⟨RX10, "task", "(II)I"⟩
abbrev cX10_store : ByteArray := prog_1_method_13_code
def yX10_store : MethodName := ⟨RX10, "store", "(II)I"⟩
abbrev cX10_steal : ByteArray := prog_1_method_14_code
def yX10_steal : MethodName := ⟨RX10, "steal", "(I)I"⟩
abbrev cX10_lose : ByteArray := prog_1_method_15_code
def yX10_lose : MethodName := ⟨RX10, "lose", "(I)V"⟩
abbrev cX10_set : ByteArray := prog_1_method_16_code
def yX10_set : MethodName := ⟨RX10, "set", "(III)I"⟩
abbrev cX10_lift : ByteArray := prog_1_method_17_code
def yX10_lift : MethodName := ⟨RX10, "lift", "()I"⟩
abbrev cX10_lay : ByteArray := prog_1_method_18_code
def yX10_lay : MethodName := ⟨RX10, "lay", "(I)I"⟩
abbrev cX10_go : ByteArray := prog_1_method_19_code
def yX10_go : MethodName := ⟨RX10, "go", "(Z)Z"⟩
abbrev cX10_fill : ByteArray := prog_1_method_20_code
def yX10_fill : MethodName := ⟨RX10, "fill", "()I"⟩
abbrev cX10_dig : ByteArray := prog_1_method_21_code
def yX10_dig : MethodName := ⟨RX10, "dig", "()I"⟩
abbrev cX10_rest : ByteArray := prog_1_method_22_code
def yX10_rest : MethodName := ⟨RX10, "rest", "(I)I"⟩
abbrev cX10_look : ByteArray := prog_1_method_23_code
def yX10_look : MethodName := ⟨RX10, "look", "(II)I"⟩
abbrev cX10_line : ByteArray := prog_1_method_24_code
def yX10_line : MethodName := ⟨RX10, "line", "(IZ)I"⟩
abbrev cX10_route : ByteArray := prog_1_method_25_code
def yX10_route : MethodName := ⟨RX10, "route", "(II)I"⟩
abbrev cX10_reach : ByteArray := prog_1_method_26_code
def yX10_reach : MethodName := ⟨RX10, "reach", "(II)I"⟩
abbrev cX10_joints : ByteArray := prog_1_method_27_code
def yX10_joints : MethodName := ⟨RX10, "joints", "(Z)I"⟩
abbrev cX10_worn : ByteArray := prog_1_method_28_code
def yX10_worn : MethodName := ⟨RX10, "worn", "()I"⟩
abbrev cX10_few : ByteArray := prog_1_method_29_code
def yX10_few : MethodName := ⟨RX10, "few", "()Z"⟩
abbrev cX10_which : ByteArray := prog_1_method_30_code
def yX10_which : MethodName := ⟨RX10, "which", "(II)I"⟩
abbrev cX10_ahead : ByteArray := prog_1_method_31_code
def yX10_ahead : MethodName := ⟨RX10, "ahead", "(IZ)I"⟩
abbrev cX10_count : ByteArray := prog_1_method_32_code
def yX10_count : MethodName := ⟨RX10, "count", "(I)I"⟩
abbrev cX10_image : ByteArray := prog_1_method_33_code
def yX10_image : MethodName := ⟨RX10, "image", "()V"⟩
abbrev cX10_back : ByteArray := prog_1_method_34_code
def yX10_back : MethodName := ⟨RX10, "back", "()Z"⟩
abbrev cX10_isCell : ByteArray := prog_1_method_35_code
def yX10_isCell : MethodName := ⟨RX10, "isCell", "(I)Z"⟩
abbrev cX10_isWay : ByteArray := prog_1_method_36_code
def yX10_isWay : MethodName := ⟨RX10, "isWay", "(I)Z"⟩
abbrev cX10_beside : ByteArray := prog_1_method_37_code
def yX10_beside : MethodName := ⟨RX10, "beside", "(II)I"⟩
abbrev cX10_minutesOn : ByteArray := prog_1_method_38_code
def yX10_minutesOn : MethodName := ⟨RX10, "minutesOn", "(I)I"⟩
abbrev cX10_wearOn : ByteArray := prog_1_method_39_code
def yX10_wearOn : MethodName := ⟨RX10, "wearOn", "(I)I"⟩
abbrev cX10_workMinutes : ByteArray := prog_1_method_40_code
def yX10_workMinutes : MethodName := ⟨RX10, "workMinutes", "(II)I"⟩
def RX11 : String := "SandRailsModel"
def TX11 : u_T := fun k => match k with
  | 0 => ("SandRailsModel", "thrown", "I", false)
  | 1 => ("SandRailsModel", "world", "[I", true)
  | 2 => ("SandRailsModel", "image", "[I", true)
  | 3 => ("SandRailsModel", "hasImage", "Z", false)
  | 4 => ("SandRailsModel", "tape", "[B", true)
  | 5 => ("SandRailsModel", "taped", "I", false)
  | 6 => ("SandRailsModel", "point", "I", false)
  | 7 => ("SandRailsModel", "end", "I", false)
  | 8 => ("SandRailsModel", "begin", "I", false)
  | 9 => ("SandRailsModel", "deep", "I", false)
  | 10 => ("SandRailsModel", "faultAt", "I", false)
  | 11 => ("SandRailsModel", "five", "[I", true)
  | 12 => ("SandRailsModel", "ops", "I", false)
  | 13 => ("SandRailsModel", "steps", "I", false)
  | 14 => ("SandRailsModel", "row", "[I", true)
  | 15 => ("SandRailsModel", "wasDune", "[Z", true)
  | 16 => ("SandRailsModel", "value", "[I", true)
  | 17 => ("SandRailsModel", "left", "[I", true)
  | 18 => ("SandRailsModel", "since", "[I", true)
  | 19 => ("SandRailsModel", "rest", "[J", true)
  | 20 => ("SandRailsModel", "open", "[Z", true)
  | 21 => ("SandRailsModel", "wells", "[Z", true)
  | 22 => ("SandRailsModel", "pathMany", "I", false)
  | 23 => ("SandRailsModel", "pathWithin", "I", false)
  | _ => ("SandRailsModel", "kept", "[I", true)
def tyX11 : Nat → FieldType := fun k => match k with
  | 0 => .int
  | 1 => .array .int
  | 2 => .array .int
  | 3 => .boolean
  | 4 => .array .byte
  | 5 => .int
  | 6 => .int
  | 7 => .int
  | 8 => .int
  | 9 => .int
  | 10 => .int
  | 11 => .array .int
  | 12 => .int
  | 13 => .int
  | 14 => .array .int
  | 15 => .array .boolean
  | 16 => .array .int
  | 17 => .array .int
  | 18 => .array .int
  | 19 => .array .long
  | 20 => .array .boolean
  | 21 => .array .boolean
  | 22 => .int
  | 23 => .int
  | _ => .array .int
abbrev wsX110 : List Cond := u_ws RX11 TX11 25
theorem nmX11 : ∀ a, a < 25 → ∀ b, b < 25 → a ≠ b → (TX11 a).2.1 ≠ (TX11 b).2.1 := by decide +kernel
theorem tyX11_ok : ∀ k, k < 25 → parseFieldDescriptor (TX11 k).2.2.1 = some (tyX11 k) := by decide +kernel
abbrev cX11_throwsIf : ByteArray := prog_13_method_2_code
def yX11_throwsIf : MethodName := ⟨RX11, "throwsIf", "(ZI)Z"⟩
abbrev cX11_in : ByteArray := prog_13_method_3_code
def yX11_in : MethodName := ⟨RX11, "in", "(III)Z"⟩
abbrev cX11_init : ByteArray := prog_13_method_4_code
def yX11_init : MethodName := ⟨RX11, "<init>", "()V"⟩
abbrev cX11_image : ByteArray := prog_13_method_5_code
def yX11_image : MethodName := ⟨RX11, "image", "()V"⟩
abbrev cX11_back : ByteArray := prog_13_method_6_code
def yX11_back : MethodName := ⟨RX11, "back", "()Z"⟩
abbrev cX11_feed : ByteArray := prog_13_method_7_code
def yX11_feed : MethodName := ⟨RX11, "feed", "(IIIII)I"⟩
abbrev cX11_end : ByteArray := prog_13_method_8_code
def yX11_end : MethodName := ⟨RX11, "end", "(I)Z"⟩
abbrev cX11_isAt : ByteArray := prog_13_method_9_code
def yX11_isAt : MethodName := ⟨RX11, "isAt", "(II)Z"⟩
abbrev cX11_blanks : ByteArray := prog_13_method_10_code
def yX11_blanks : MethodName := ⟨RX11, "blanks", "()V"⟩
abbrev cX11_letters : ByteArray := prog_13_method_11_code
def yX11_letters : MethodName := ⟨RX11, "letters", "()V"⟩
abbrev cX11_isWord : ByteArray := prog_13_method_12_code
def yX11_isWord : MethodName := ⟨RX11, "isWord", "(Ljava/lang/String;)Z"⟩
abbrev cX11_passes : ByteArray := prog_13_method_13_code
def yX11_passes : MethodName := ⟨RX11, "passes", "(Ljava/lang/String;)Z"⟩
abbrev cX11_sign : ByteArray := prog_13_method_14_code
def yX11_sign : MethodName := ⟨RX11, "sign", "(I)Z"⟩
abbrev cX11_number : ByteArray := prog_13_method_15_code
def yX11_number : MethodName := ⟨RX11, "number", "(II)I"⟩
abbrev cX11_fault : ByteArray := prog_13_method_16_code
def yX11_fault : MethodName := ⟨RX11, "fault", "()I"⟩
abbrev cX11_textAt : ByteArray := prog_13_method_17_code
def yX11_textAt : MethodName := ⟨RX11, "textAt", "(I)I"⟩
abbrev cX11_opAt : ByteArray := prog_13_method_18_code
def yX11_opAt : MethodName := ⟨RX11, "opAt", "(II)I"⟩
abbrev cX11_stepAt : ByteArray := prog_13_method_19_code
def yX11_stepAt : MethodName := ⟨RX11, "stepAt", "(II)I"⟩
abbrev cX11_puts : ByteArray := prog_13_method_20_code
def yX11_puts : MethodName := ⟨RX11, "puts", "(III)I"⟩
abbrev cX11_emits : ByteArray := prog_13_method_21_code
def yX11_emits : MethodName := ⟨RX11, "emits", "(II)Z"⟩
abbrev cX11_deeper : ByteArray := prog_13_method_22_code
def yX11_deeper : MethodName := ⟨RX11, "deeper", "()Z"⟩
abbrev cX11_opens : ByteArray := prog_13_method_23_code
def yX11_opens : MethodName := ⟨RX11, "opens", "(I)Z"⟩
abbrev cX11_closes : ByteArray := prog_13_method_24_code
def yX11_closes : MethodName := ⟨RX11, "closes", "(I)Z"⟩
abbrev cX11_factAt : ByteArray := prog_13_method_25_code
def yX11_factAt : MethodName := ⟨RX11, "factAt", "()I"⟩
abbrev cX11_readAtom : ByteArray := prog_13_method_26_code
def yX11_readAtom : MethodName := ⟨RX11, "readAtom", "()Z"⟩
abbrev cX11_readAllOf : ByteArray := prog_13_method_27_code
def yX11_readAllOf : MethodName := ⟨RX11, "readAllOf", "()Z"⟩
abbrev cX11_readCond : ByteArray := prog_13_method_28_code
def yX11_readCond : MethodName := ⟨RX11, "readCond", "()Z"⟩
abbrev cX11_wayAt : ByteArray := prog_13_method_29_code
def yX11_wayAt : MethodName := ⟨RX11, "wayAt", "()I"⟩
abbrev cX11_readAgain : ByteArray := prog_13_method_30_code
def yX11_readAgain : MethodName := ⟨RX11, "readAgain", "()Z"⟩
abbrev cX11_readTest : ByteArray := prog_13_method_31_code
def yX11_readTest : MethodName := ⟨RX11, "readTest", "(Z)Z"⟩
abbrev cX11_readOrder : ByteArray := prog_13_method_32_code
def yX11_readOrder : MethodName := ⟨RX11, "readOrder", "()Z"⟩
abbrev cX11_readRow : ByteArray := prog_13_method_33_code
def yX11_readRow : MethodName := ⟨RX11, "readRow", "()Z"⟩
abbrev cX11_readAll : ByteArray := prog_13_method_34_code
def yX11_readAll : MethodName := ⟨RX11, "readAll", "()Z"⟩
abbrev cX11_orders : ByteArray := prog_13_method_35_code
def yX11_orders : MethodName := ⟨RX11, "orders", "()I"⟩
abbrev cX11_noCell : ByteArray := prog_13_method_36_code
def yX11_noCell : MethodName := ⟨RX11, "noCell", "(I)Z"⟩
abbrev cX11_beside : ByteArray := prog_13_method_37_code
def yX11_beside : MethodName := ⟨RX11, "beside", "(II)I"⟩
abbrev cX11_kindAt : ByteArray := prog_13_method_38_code
def yX11_kindAt : MethodName := ⟨RX11, "kindAt", "(I)I"⟩
abbrev cX11_lineMany : ByteArray := prog_13_method_39_code
def yX11_lineMany : MethodName := ⟨RX11, "lineMany", "()I"⟩
abbrev cX11_railAt : ByteArray := prog_13_method_40_code
def yX11_railAt : MethodName := ⟨RX11, "railAt", "(I)I"⟩
abbrev cX11_ofRail : ByteArray := prog_13_method_41_code
def yX11_ofRail : MethodName := ⟨RX11, "ofRail", "(II)I"⟩
abbrev cX11_setsRail : ByteArray := prog_13_method_42_code
def yX11_setsRail : MethodName := ⟨RX11, "setsRail", "(III)V"⟩
abbrev cX11_cellAt : ByteArray := prog_13_method_43_code
def yX11_cellAt : MethodName := ⟨RX11, "cellAt", "(I)I"⟩
abbrev cX11_isLine : ByteArray := prog_13_method_44_code
def yX11_isLine : MethodName := ⟨RX11, "isLine", "(I)Z"⟩
abbrev cX11_ground : ByteArray := prog_13_method_45_code
def yX11_ground : MethodName := ⟨RX11, "ground", "(III)I"⟩
abbrev cX11_kind : ByteArray := prog_13_method_46_code
def yX11_kind : MethodName := ⟨RX11, "kind", "(I)I"⟩
abbrev cX11_rail : ByteArray := prog_13_method_47_code
def yX11_rail : MethodName := ⟨RX11, "rail", "(II)I"⟩
abbrev cX11_gang : ByteArray := prog_13_method_48_code
def yX11_gang : MethodName := ⟨RX11, "gang", "(II)I"⟩
abbrev cX11_task : ByteArray := prog_13_method_49_code
def yX11_task : MethodName := ⟨RX11, "task", "(II)I"⟩
abbrev cX11_isStore : ByteArray := prog_13_method_50_code
def yX11_isStore : MethodName := ⟨RX11, "isStore", "(II)Z"⟩
abbrev cX11_isSet : ByteArray := prog_13_method_51_code
def yX11_isSet : MethodName := ⟨RX11, "isSet", "()Z"⟩
abbrev cX11_store : ByteArray := prog_13_method_52_code
def yX11_store : MethodName := ⟨RX11, "store", "(II)I"⟩
abbrev cX11_carried : ByteArray := prog_13_method_53_code
def yX11_carried : MethodName := ⟨RX11, "carried", "()I"⟩
abbrev cX11_leastCarried : ByteArray := prog_13_method_54_code
def yX11_leastCarried : MethodName := ⟨RX11, "leastCarried", "()I"⟩
abbrev cX11_logs : ByteArray := prog_13_method_55_code
def yX11_logs : MethodName := ⟨RX11, "logs", "(IIZ)V"⟩
abbrev cX11_comesOn : ByteArray := prog_13_method_56_code
def yX11_comesOn : MethodName := ⟨RX11, "comesOn", "(II)V"⟩
abbrev cX11_isWay : ByteArray := prog_13_method_57_code
def yX11_isWay : MethodName := ⟨RX11, "isWay", "(III)Z"⟩
abbrev cX11_set : ByteArray := prog_13_method_58_code
def yX11_set : MethodName := ⟨RX11, "set", "(III)I"⟩
abbrev cX11_men : ByteArray := prog_13_method_59_code
def yX11_men : MethodName := ⟨RX11, "men", "()I"⟩
abbrev cX11_draw : ByteArray := prog_13_method_60_code
def yX11_draw : MethodName := ⟨RX11, "draw", "()I"⟩
abbrev cX11_night : ByteArray := prog_13_method_61_code
def yX11_night : MethodName := ⟨RX11, "night", "()V"⟩
abbrev cX11_elapses : ByteArray := prog_13_method_62_code
def yX11_elapses : MethodName := ⟨RX11, "elapses", "(I)V"⟩
abbrev cX11_takes : ByteArray := prog_13_method_63_code
def yX11_takes : MethodName := ⟨RX11, "takes", "(I)V"⟩
abbrev cX11_strength : ByteArray := prog_13_method_64_code
def yX11_strength : MethodName := ⟨RX11, "strength", "(I)I"⟩
abbrev cX11_shared : ByteArray := prog_13_method_65_code
def yX11_shared : MethodName := ⟨RX11, "shared", "(II)I"⟩
abbrev cX11_isBuried : ByteArray := prog_13_method_66_code
def yX11_isBuried : MethodName := ⟨RX11, "isBuried", "(I)Z"⟩
abbrev cX11_mayLift : ByteArray := prog_13_method_67_code
def yX11_mayLift : MethodName := ⟨RX11, "mayLift", "()Z"⟩
abbrev cX11_lifts : ByteArray := prog_13_method_68_code
def yX11_lifts : MethodName := ⟨RX11, "lifts", "()I"⟩
abbrev cX11_lift : ByteArray := prog_13_method_69_code
def yX11_lift : MethodName := ⟨RX11, "lift", "()I"⟩
abbrev cX11_next : ByteArray := prog_13_method_70_code
def yX11_next : MethodName := ⟨RX11, "next", "(I)I"⟩
abbrev cX11_mayLay : ByteArray := prog_13_method_71_code
def yX11_mayLay : MethodName := ⟨RX11, "mayLay", "(I)Z"⟩
abbrev cX11_costOf : ByteArray := prog_13_method_72_code
def yX11_costOf : MethodName := ⟨RX11, "costOf", "(I)I"⟩
abbrev cX11_lays : ByteArray := prog_13_method_73_code
def yX11_lays : MethodName := ⟨RX11, "lays", "(I)I"⟩
abbrev cX11_lay : ByteArray := prog_13_method_74_code
def yX11_lay : MethodName := ⟨RX11, "lay", "(I)I"⟩
abbrev cX11_front : ByteArray := prog_13_method_75_code
def yX11_front : MethodName := ⟨RX11, "front", "()I"⟩
abbrev cX11_mayGo : ByteArray := prog_13_method_76_code
def yX11_mayGo : MethodName := ⟨RX11, "mayGo", "(Z)Z"⟩
abbrev cX11_apart : ByteArray := prog_13_method_77_code
def yX11_apart : MethodName := ⟨RX11, "apart", "(II)I"⟩
abbrev cX11_widthAt : ByteArray := prog_13_method_78_code
def yX11_widthAt : MethodName := ⟨RX11, "widthAt", "(I)I"⟩
abbrev cX11_goes : ByteArray := prog_13_method_79_code
def yX11_goes : MethodName := ⟨RX11, "goes", "(Z)Z"⟩
abbrev cX11_go : ByteArray := prog_13_method_80_code
def yX11_go : MethodName := ⟨RX11, "go", "(Z)Z"⟩
abbrev cX11_isByWell : ByteArray := prog_13_method_81_code
def yX11_isByWell : MethodName := ⟨RX11, "isByWell", "(I)Z"⟩
abbrev cX11_mayFill : ByteArray := prog_13_method_82_code
def yX11_mayFill : MethodName := ⟨RX11, "mayFill", "()Z"⟩
abbrev cX11_fills : ByteArray := prog_13_method_83_code
def yX11_fills : MethodName := ⟨RX11, "fills", "()I"⟩
abbrev cX11_fill : ByteArray := prog_13_method_84_code
def yX11_fill : MethodName := ⟨RX11, "fill", "()I"⟩
abbrev cX11_firstBuried : ByteArray := prog_13_method_85_code
def yX11_firstBuried : MethodName := ⟨RX11, "firstBuried", "()I"⟩
abbrev cX11_mayDig : ByteArray := prog_13_method_86_code
def yX11_mayDig : MethodName := ⟨RX11, "mayDig", "()Z"⟩
abbrev cX11_digs : ByteArray := prog_13_method_87_code
def yX11_digs : MethodName := ⟨RX11, "digs", "()I"⟩
abbrev cX11_dig : ByteArray := prog_13_method_88_code
def yX11_dig : MethodName := ⟨RX11, "dig", "()I"⟩
abbrev cX11_rest : ByteArray := prog_13_method_89_code
def yX11_rest : MethodName := ⟨RX11, "rest", "(I)I"⟩
abbrev cX11_factOf : ByteArray := prog_13_method_90_code
def yX11_factOf : MethodName := ⟨RX11, "factOf", "(I)I"⟩
abbrev cX11_holds : ByteArray := prog_13_method_91_code
def yX11_holds : MethodName := ⟨RX11, "holds", "(III)Z"⟩
abbrev cX11_acts : ByteArray := prog_13_method_92_code
def yX11_acts : MethodName := ⟨RX11, "acts", "(II)Z"⟩
abbrev cX11_run : ByteArray := prog_13_method_93_code
def yX11_run : MethodName := ⟨RX11, "run", "(II)I"⟩
abbrev cX11_where : ByteArray := prog_13_method_94_code
def yX11_where : MethodName := ⟨RX11, "where", "()I"⟩
abbrev cX11_noRail : ByteArray := prog_13_method_95_code
def yX11_noRail : MethodName := ⟨RX11, "noRail", "(I)Z"⟩
abbrev cX11_look : ByteArray := prog_13_method_96_code
def yX11_look : MethodName := ⟨RX11, "look", "(II)I"⟩
abbrev cX11_line : ByteArray := prog_13_method_97_code
def yX11_line : MethodName := ⟨RX11, "line", "(IZ)I"⟩
abbrev cX11_restAt : ByteArray := prog_13_method_98_code
def yX11_restAt : MethodName := ⟨RX11, "restAt", "(II)I"⟩
abbrev cX11_isFree : ByteArray := prog_13_method_99_code
def yX11_isFree : MethodName := ⟨RX11, "isFree", "(I)Z"⟩
abbrev cX11_stepping : ByteArray := prog_13_method_100_code
def yX11_stepping : MethodName := ⟨RX11, "stepping", "(II)J"⟩
abbrev cX11_finds : ByteArray := prog_13_method_101_code
def yX11_finds : MethodName := ⟨RX11, "finds", "(I)V"⟩
abbrev cX11_stepOf : ByteArray := prog_13_method_102_code
def yX11_stepOf : MethodName := ⟨RX11, "stepOf", "(II)I"⟩
abbrev cX11_isNoEnd : ByteArray := prog_13_method_103_code
def yX11_isNoEnd : MethodName := ⟨RX11, "isNoEnd", "(I)Z"⟩
abbrev cX11_path : ByteArray := prog_13_method_104_code
def yX11_path : MethodName := ⟨RX11, "path", "(III)I"⟩
abbrev cX11_hasWay : ByteArray := prog_13_method_105_code
def yX11_hasWay : MethodName := ⟨RX11, "hasWay", "(I)Z"⟩
abbrev cX11_route : ByteArray := prog_13_method_106_code
def yX11_route : MethodName := ⟨RX11, "route", "(II)I"⟩
abbrev cX11_reach : ByteArray := prog_13_method_107_code
def yX11_reach : MethodName := ⟨RX11, "reach", "(II)I"⟩
abbrev cX11_joints : ByteArray := prog_13_method_108_code
def yX11_joints : MethodName := ⟨RX11, "joints", "(Z)I"⟩
abbrev cX11_isThere : ByteArray := prog_13_method_109_code
def yX11_isThere : MethodName := ⟨RX11, "isThere", "(I)Z"⟩
abbrev cX11_worn : ByteArray := prog_13_method_110_code
def yX11_worn : MethodName := ⟨RX11, "worn", "()I"⟩
abbrev cX11_few : ByteArray := prog_13_method_111_code
def yX11_few : MethodName := ⟨RX11, "few", "()Z"⟩
abbrev cX11_steal : ByteArray := prog_13_method_112_code
def yX11_steal : MethodName := ⟨RX11, "steal", "(I)I"⟩
abbrev cX11_lose : ByteArray := prog_13_method_113_code
def yX11_lose : MethodName := ⟨RX11, "lose", "(I)V"⟩
abbrev cX11_which : ByteArray := prog_13_method_114_code
def yX11_which : MethodName := ⟨RX11, "which", "(II)I"⟩
abbrev cX11_buried : ByteArray := prog_13_method_115_code
def yX11_buried : MethodName := ⟨RX11, "buried", "()I"⟩
abbrev cX11_dunes : ByteArray := prog_13_method_116_code
def yX11_dunes : MethodName := ⟨RX11, "dunes", "()I"⟩
abbrev cX11_ahead : ByteArray := prog_13_method_117_code
def yX11_ahead : MethodName := ⟨RX11, "ahead", "(IZ)I"⟩
abbrev cX11_count : ByteArray := prog_13_method_118_code
def yX11_count : MethodName := ⟨RX11, "count", "(I)I"⟩
def RJx145de : String := "java/io/Serializable"
def TJx145de : u_T := fun k => match k with
  | _ => ("", "", "", false)
def tyJx145de : Nat → FieldType := fun k => match k with
  | _ => .int
abbrev wsJx145de0 : List Cond := u_ws RJx145de TJx145de 0
theorem nmJx145de : ∀ a, a < 0 → ∀ b, b < 0 → a ≠ b → (TJx145de a).2.1 ≠ (TJx145de b).2.1 := by decide +kernel
theorem tyJx145de_ok : ∀ k, k < 0 → parseFieldDescriptor (TJx145de k).2.2.1 = some (tyJx145de k) := by decide +kernel
def RJx9f9b0 : String := "java/lang/CharSequence"
def TJx9f9b0 : u_T := fun k => match k with
  | _ => ("", "", "", false)
def tyJx9f9b0 : Nat → FieldType := fun k => match k with
  | _ => .int
abbrev wsJx9f9b00 : List Cond := u_ws RJx9f9b0 TJx9f9b0 0
theorem nmJx9f9b0 : ∀ a, a < 0 → ∀ b, b < 0 → a ≠ b → (TJx9f9b0 a).2.1 ≠ (TJx9f9b0 b).2.1 := by decide +kernel
theorem tyJx9f9b0_ok : ∀ k, k < 0 → parseFieldDescriptor (TJx9f9b0 k).2.2.1 = some (tyJx9f9b0 k) := by decide +kernel
def RJxb160c : String := "java/lang/Comparable"
def TJxb160c : u_T := fun k => match k with
  | _ => ("", "", "", false)
def tyJxb160c : Nat → FieldType := fun k => match k with
  | _ => .int
abbrev wsJxb160c0 : List Cond := u_ws RJxb160c TJxb160c 0
theorem nmJxb160c : ∀ a, a < 0 → ∀ b, b < 0 → a ≠ b → (TJxb160c a).2.1 ≠ (TJxb160c b).2.1 := by decide +kernel
theorem tyJxb160c_ok : ∀ k, k < 0 → parseFieldDescriptor (TJxb160c k).2.2.1 = some (tyJxb160c k) := by decide +kernel
def RJ9 : String := "java/lang/Math"
def TJ9 : u_T := fun k => match k with
  | _ => ("", "", "", false)
def tyJ9 : Nat → FieldType := fun k => match k with
  | _ => .int
abbrev wsJ90 : List Cond := u_ws RJ9 TJ9 0
theorem nmJ9 : ∀ a, a < 0 → ∀ b, b < 0 → a ≠ b → (TJ9 a).2.1 ≠ (TJ9 b).2.1 := by decide +kernel
theorem tyJ9_ok : ∀ k, k < 0 → parseFieldDescriptor (TJ9 k).2.2.1 = some (tyJ9 k) := by decide +kernel
abbrev cJ9_floorMod_7cf53 : ByteArray := prog_21_method_50_code
def yJ9_floorMod_7cf53 : MethodName := ⟨RJ9, "floorMod", "(II)I"⟩
abbrev cJ9_abs_0f7a4 : ByteArray := prog_21_method_59_code
def yJ9_abs_0f7a4 : MethodName := ⟨RJ9, "abs", "(I)I"⟩
abbrev cJ9_max_7cf53 : ByteArray := prog_21_method_65_code
def yJ9_max_7cf53 : MethodName := ⟨RJ9, "max", "(II)I"⟩
abbrev cJ9_min_7cf53 : ByteArray := prog_21_method_69_code
def yJ9_min_7cf53 : MethodName := ⟨RJ9, "min", "(II)I"⟩
abbrev cJ9_min_f86c9 : ByteArray := prog_21_method_70_code
def yJ9_min_f86c9 : MethodName := ⟨RJ9, "min", "(JJ)J"⟩
def RJ0 : String := "java/lang/String"
def TJ0 : u_T := fun k => match k with
  | _ => ("", "", "", false)
def tyJ0 : Nat → FieldType := fun k => match k with
  | _ => .int
abbrev wsJ00 : List Cond := u_ws RJ0 TJ0 0
theorem nmJ0 : ∀ a, a < 0 → ∀ b, b < 0 → a ≠ b → (TJ0 a).2.1 ≠ (TJ0 b).2.1 := by decide +kernel
theorem tyJ0_ok : ∀ k, k < 0 → parseFieldDescriptor (TJ0 k).2.2.1 = some (tyJ0 k) := by decide +kernel
abbrev cJ0_length_8abf5 : ByteArray := prog_23_method_54_code
def yJ0_length_8abf5 : MethodName := ⟨RJ0, "length", "()I"⟩
abbrev cJ0_charAt_5068e : ByteArray := prog_23_method_56_code
def yJ0_charAt_5068e : MethodName := ⟨RJ0, "charAt", "(I)C"⟩
abbrev cJ0_coder_7d493 : ByteArray := prog_23_method_152_code
def yJ0_coder_7d493 : MethodName := ⟨RJ0, "coder", "()B"⟩
abbrev cJ0_isLatin1_aae02 : ByteArray := prog_23_method_154_code
def yJ0_isLatin1_aae02 : MethodName := ⟨RJ0, "isLatin1", "()Z"⟩
abbrev cJ0_checkIndex_df160 : ByteArray := prog_23_method_155_code
def yJ0_checkIndex_df160 : MethodName := ⟨RJ0, "checkIndex", "(II)V"⟩
def RJ1 : String := "java/lang/StringLatin1"
def TJ1 : u_T := fun k => match k with
  | _ => ("", "", "", false)
def tyJ1 : Nat → FieldType := fun k => match k with
  | _ => .int
abbrev wsJ10 : List Cond := u_ws RJ1 TJ1 0
theorem nmJ1 : ∀ a, a < 0 → ∀ b, b < 0 → a ≠ b → (TJ1 a).2.1 ≠ (TJ1 b).2.1 := by decide +kernel
theorem tyJ1_ok : ∀ k, k < 0 → parseFieldDescriptor (TJ1 k).2.2.1 = some (tyJ1 k) := by decide +kernel
abbrev cJ1_charAt_3b067 : ByteArray := prog_24_method_2_code
def yJ1_charAt_3b067 : MethodName := ⟨RJ1, "charAt", "([BI)C"⟩
def RJ2 : String := "java/lang/StringUTF16"
def TJ2 : u_T := fun k => match k with
  | _ => ("", "", "", false)
def tyJ2 : Nat → FieldType := fun k => match k with
  | _ => .int
abbrev wsJ20 : List Cond := u_ws RJ2 TJ2 0
theorem nmJ2 : ∀ a, a < 0 → ∀ b, b < 0 → a ≠ b → (TJ2 a).2.1 ≠ (TJ2 b).2.1 := by decide +kernel
theorem tyJ2_ok : ∀ k, k < 0 → parseFieldDescriptor (TJ2 k).2.2.1 = some (tyJ2 k) := by decide +kernel
abbrev cJ2_getChar_3b067 : ByteArray := prog_25_method_5_code
def yJ2_getChar_3b067 : MethodName := ⟨RJ2, "getChar", "([BI)C"⟩
abbrev cJ2_length_9d52b : ByteArray := prog_25_method_6_code
def yJ2_length_9d52b : MethodName := ⟨RJ2, "length", "([B)I"⟩
abbrev cJ2_charAt_3b067 : ByteArray := prog_25_method_83_code
def yJ2_charAt_3b067 : MethodName := ⟨RJ2, "charAt", "([BI)C"⟩
abbrev cJ2_checkIndex_2214a : ByteArray := prog_25_method_91_code
def yJ2_checkIndex_2214a : MethodName := ⟨RJ2, "checkIndex", "(I[B)V"⟩
def RJ10 : String := "java/lang/System"
def TJ10 : u_T := fun k => match k with
  | _ => ("", "", "", false)
def tyJ10 : Nat → FieldType := fun k => match k with
  | _ => .int
abbrev wsJ100 : List Cond := u_ws RJ10 TJ10 0
theorem nmJ10 : ∀ a, a < 0 → ∀ b, b < 0 → a ≠ b → (TJ10 a).2.1 ≠ (TJ10 b).2.1 := by decide +kernel
theorem tyJ10_ok : ∀ k, k < 0 → parseFieldDescriptor (TJ10 k).2.2.1 = some (tyJ10 k) := by decide +kernel
def RJxfd54e : String := "java/lang/constant/Constable"
def TJxfd54e : u_T := fun k => match k with
  | _ => ("", "", "", false)
def tyJxfd54e : Nat → FieldType := fun k => match k with
  | _ => .int
abbrev wsJxfd54e0 : List Cond := u_ws RJxfd54e TJxfd54e 0
theorem nmJxfd54e : ∀ a, a < 0 → ∀ b, b < 0 → a ≠ b → (TJxfd54e a).2.1 ≠ (TJxfd54e b).2.1 := by decide +kernel
theorem tyJxfd54e_ok : ∀ k, k < 0 → parseFieldDescriptor (TJxfd54e k).2.2.1 = some (tyJxfd54e k) := by decide +kernel
def RJx3cf43 : String := "java/lang/constant/ConstantDesc"
def TJx3cf43 : u_T := fun k => match k with
  | _ => ("", "", "", false)
def tyJx3cf43 : Nat → FieldType := fun k => match k with
  | _ => .int
abbrev wsJx3cf430 : List Cond := u_ws RJx3cf43 TJx3cf43 0
theorem nmJx3cf43 : ∀ a, a < 0 → ∀ b, b < 0 → a ≠ b → (TJx3cf43 a).2.1 ≠ (TJx3cf43 b).2.1 := by decide +kernel
theorem tyJx3cf43_ok : ∀ k, k < 0 → parseFieldDescriptor (TJx3cf43 k).2.2.1 = some (tyJx3cf43 k) := by decide +kernel
def RJ3 : String := "jdk/internal/util/Preconditions"
def TJ3 : u_T := fun k => match k with
  | _ => ("", "", "", false)
def tyJ3 : Nat → FieldType := fun k => match k with
  | _ => .int
abbrev wsJ30 : List Cond := u_ws RJ3 TJ3 0
theorem nmJ3 : ∀ a, a < 0 → ∀ b, b < 0 → a ≠ b → (TJ3 a).2.1 ≠ (TJ3 b).2.1 := by decide +kernel
theorem tyJ3_ok : ∀ k, k < 0 → parseFieldDescriptor (TJ3 k).2.2.1 = some (tyJ3 k) := by decide +kernel
abbrev cJ3_checkIndex_8e157 : ByteArray := prog_32_method_11_code
def yJ3_checkIndex_8e157 : MethodName := ⟨RJ3, "checkIndex", "(IILjava/util/function/BiFunction;)I"⟩
def RL : String := "SandRailsLaw"
abbrev cL_orders : ByteArray := method_3_code
def yL_orders : MethodName := ⟨RL, "orders", "(LSandRails;[J)I"⟩
abbrev cL_ground : ByteArray := method_4_code
def yL_ground : MethodName := ⟨RL, "ground", "(LSandRails;III[J)I"⟩
abbrev cL_kind : ByteArray := method_5_code
def yL_kind : MethodName := ⟨RL, "kind", "(LSandRails;I[J)I"⟩
abbrev cL_rail : ByteArray := method_6_code
def yL_rail : MethodName := ⟨RL, "rail", "(LSandRails;II[J)I"⟩
abbrev cL_gang : ByteArray := method_7_code
def yL_gang : MethodName := ⟨RL, "gang", "(LSandRails;II[J)I"⟩
abbrev cL_task : ByteArray := method_8_code
def yL_task : MethodName := ⟨RL, "task", "(LSandRails;II[J)I"⟩
abbrev cL_store : ByteArray := method_9_code
def yL_store : MethodName := ⟨RL, "store", "(LSandRails;II[J)I"⟩
abbrev cL_set : ByteArray := method_10_code
def yL_set : MethodName := ⟨RL, "set", "(LSandRails;III[J)I"⟩
abbrev cL_lift : ByteArray := method_11_code
def yL_lift : MethodName := ⟨RL, "lift", "(LSandRails;[J)I"⟩
abbrev cL_lay : ByteArray := method_12_code
def yL_lay : MethodName := ⟨RL, "lay", "(LSandRails;I[J)I"⟩
abbrev cL_go : ByteArray := method_13_code
def yL_go : MethodName := ⟨RL, "go", "(LSandRails;Z[J)I"⟩
abbrev cL_fill : ByteArray := method_14_code
def yL_fill : MethodName := ⟨RL, "fill", "(LSandRails;[J)I"⟩
abbrev cL_dig : ByteArray := method_15_code
def yL_dig : MethodName := ⟨RL, "dig", "(LSandRails;[J)I"⟩
abbrev cL_rest : ByteArray := method_16_code
def yL_rest : MethodName := ⟨RL, "rest", "(LSandRails;I[J)I"⟩
abbrev cL_run : ByteArray := method_17_code
def yL_run : MethodName := ⟨RL, "run", "(LSandRails;II[J)I"⟩
abbrev cL_look : ByteArray := method_18_code
def yL_look : MethodName := ⟨RL, "look", "(LSandRails;II[J)I"⟩
abbrev cL_route : ByteArray := method_19_code
def yL_route : MethodName := ⟨RL, "route", "(LSandRails;II[J)I"⟩
abbrev cL_reach : ByteArray := method_20_code
def yL_reach : MethodName := ⟨RL, "reach", "(LSandRails;II[J)I"⟩
abbrev cL_steal : ByteArray := method_21_code
def yL_steal : MethodName := ⟨RL, "steal", "(LSandRails;I[J)I"⟩
abbrev cL_lose : ByteArray := method_22_code
def yL_lose : MethodName := ⟨RL, "lose", "(LSandRails;I)I"⟩
abbrev cL_which : ByteArray := method_23_code
def yL_which : MethodName := ⟨RL, "which", "(LSandRails;II[J)I"⟩
abbrev cL_ahead : ByteArray := method_24_code
def yL_ahead : MethodName := ⟨RL, "ahead", "(LSandRails;IZ[J)I"⟩
abbrev cL_law : ByteArray := code
def yL_law : MethodName := ⟨RL, "law", "([I)Z"⟩
end
section
/-! ===== an abstract machine over numbers: values (tag, number): 0 int, 1 long, 2 a cell of the layout, 3 a constant (static array, text), 9 nothing ===== -/
abbrev zV : Type := Nat × Int
abbrev zM : Type := Nat → Nat → Int
abbrev zL : Type := Nat → zV
/-- a cell of the layout: (0, number of its class, fields (0 int, 4 boolean, 2 reference; target)); arrays (1 int, 2 long, 3 boolean, 4 byte, 5 references; length; targets) -/
abbrev zC : Type := Nat × Nat × List (Nat × Nat)
def zR32 (x : Int) : Prop := -2147483648 ≤ x ∧ x ≤ 2147483647
def zR64 (x : Int) : Prop := -9223372036854775808 ≤ x ∧ x ≤ 9223372036854775807
def zE (ad sa : Nat → Nat) (v : zV) : Value := match v.1 with
  | 0 => .int (Int32.ofInt v.2)
  | 1 => .long (Int64.ofInt v.2)
  | 2 => .ref (ad v.2.toNat)
  | _ => .ref (sa v.2.toNat)
def zok (v : zV) : Prop := (v.1 = 0 → zR32 v.2) ∧ (v.1 = 1 → zR64 v.2)
def zF (ad : Nat → Nat) (t : Nat × Nat) (x : Int) : Value := if t.1 = 2 then .ref (ad t.2) else .int (Int32.ofInt x)
def zEl (ad : Nat → Nat) (cs : Nat → ClassId) (κ : zC) (f : Nat → Int) : va_E := match κ.1 with
  | 0 => .inr (κ.2.1, κ.2.2.mapIdx fun k t => zF ad t (f k))
  | 1 => .inl (cs 0, κ.2.1, .inl fun i => Int32.ofInt (f i))
  | 2 => .inl (cs 1, κ.2.1, .inr (.inl fun i => Int64.ofInt (f i)))
  | 3 => .inl (cs 2, κ.2.1, .inl fun i => Int32.ofInt (f i))
  | 4 => .inl (cs 3, κ.2.1, .inl fun i => Int32.ofInt (f i))
  | _ => .inl (cs 4, κ.2.1, .inr (.inr (.inr (.inr fun i => (κ.2.2[i]?).map fun t => ad t.2))))
def zWd (Λ : List zC) (ad : Nat → Nat) (cs : Nat → ClassId) (mem : zM) : va_W := Λ.mapIdx fun id κ => (ad id, zEl ad cs κ (mem id))
def zset (mem : zM) (a k : Nat) (v : Int) : zM := fun b j => if b = a then (if j = k then v else mem b j) else mem b j
def zcopy (mem : zM) (a : Nat) (sp : Nat) (b : Nat) (dp n : Nat) : zM := fun c j => if c = b then (if dp ≤ j ∧ j < dp + n then mem a (sp + (j - dp)) else mem c j) else mem c j
/-- the numbers are of their kinds -/
def zokM (Λ : List zC) (mem : zM) : Prop := ∀ (id : Nat) (κ : zC), Λ[id]? = some κ →
  (κ.1 = 0 → ∀ (k : Nat) (t : Nat × Nat), κ.2.2[k]? = some t → (t.1 = 0 → zR32 (mem id k)) ∧ (t.1 = 4 → 0 ≤ mem id k ∧ mem id k ≤ 1)) ∧
  (κ.1 = 1 → ∀ i, i < κ.2.1 → zR32 (mem id i)) ∧ (κ.1 = 2 → ∀ i, i < κ.2.1 → zR64 (mem id i)) ∧
  (κ.1 = 3 → ∀ i, i < κ.2.1 → 0 ≤ mem id i ∧ mem id i ≤ 1) ∧ (κ.1 = 4 → ∀ i, i < κ.2.1 → -128 ≤ mem id i ∧ mem id i ≤ 127)
theorem zWd_get {Λ : List zC} {ad : Nat → Nat} {cs : Nat → ClassId} {mem : zM} {id : Nat} {κ : zC} (h : Λ[id]? = some κ) : (zWd Λ ad cs mem)[id]? = some (ad id, zEl ad cs κ (mem id)) := by
  simp [zWd, List.getElem?_mapIdx, h]
theorem zWd_set {Λ : List zC} {ad : Nat → Nat} {cs : Nat → ClassId} {mem mem' : zM} {id : Nat} {κ : zC} {e : va_E} (h : Λ[id]? = some κ) (he : zEl ad cs κ (mem' id) = e) (ho : ∀ b, b ≠ id → mem' b = mem b) : (zWd Λ ad cs mem).set id (ad id, e) = zWd Λ ad cs mem' := by
  apply List.ext_getElem?
  intro j
  rw [List.getElem?_set]
  by_cases hj : id = j
  · subst hj
    have hlt : id < (zWd Λ ad cs mem).length := by
      have := (List.getElem?_eq_some_iff.mp h).1
      simpa [zWd] using this
    rw [if_pos rfl, if_pos hlt, zWd_get h, he]
  · rw [if_neg hj]
    simp only [zWd, List.getElem?_mapIdx]
    cases hq : Λ[j]? with
    | none => rfl
    | some q => simp [ho j (fun q => hj q.symm)]
theorem zWd_addr {Λ : List zC} {ad : Nat → Nat} {cs : Nat → ClassId} {mem : zM} {k : Nat} {q : Nat × va_E} (h : (zWd Λ ad cs mem)[k]? = some q) : k < Λ.length ∧ q.1 = ad k := by
  simp only [zWd, List.getElem?_mapIdx] at h
  cases hq : Λ[k]? with
  | none => rw [hq] at h; cases h
  | some κ => rw [hq] at h; cases h; exact ⟨(List.getElem?_eq_some_iff.mp hq).1, rfl⟩
/-- numbers of 32 bits -/
theorem zi_toInt {x : Int} (h : zR32 x) : (Int32.ofInt x).toInt = x := by
  obtain ⟨h1, h2⟩ := h
  rw [Int32.toInt_ofInt, show Int32.size = 4294967296 from rfl]
  simp only [Int.bmod]
  omega
theorem zi_of (z : Int32) : Int32.ofInt z.toInt = z := Int32.ofInt_toInt z
theorem zi_rng (z : Int32) : zR32 z.toInt := by
  have h1 := Int32.le_toInt z
  have h2 := Int32.toInt_lt z
  constructor <;> simp only [Int.reducePow, Int.reduceNeg] at h1 h2 ⊢ <;> omega
theorem zl_toInt {x : Int} (h : zR64 x) : (Int64.ofInt x).toInt = x := by
  obtain ⟨h1, h2⟩ := h
  rw [Int64.toInt_ofInt, show Int64.size = 18446744073709551616 from rfl]
  simp only [Int.bmod]
  omega
theorem zl_of (z : Int64) : Int64.ofInt z.toInt = z := Int64.ofInt_toInt z
theorem zl_rng (z : Int64) : zR64 z.toInt := by
  have h1 := Int64.le_toInt z
  have h2 := Int64.toInt_lt z
  constructor <;> simp only [Int.reducePow, Int.reduceNeg] at h1 h2 ⊢ <;> omega
def zw (x : Int) : Int := (x + 2147483648) % 4294967296 - 2147483648
def zW (x : Int) : Int := (x + 9223372036854775808) % 18446744073709551616 - 9223372036854775808
theorem zw_bmod (x : Int) : x.bmod 4294967296 = zw x := by
  simp only [Int.bmod, zw]; omega
theorem zW_bmod (x : Int) : x.bmod 18446744073709551616 = zW x := by
  simp only [Int.bmod, zW]; omega
theorem zw_id {x : Int} (h1 : -2147483648 ≤ x) (h2 : x ≤ 2147483647) : zw x = x := by simp only [zw]; omega
theorem zW_id {x : Int} (h1 : -9223372036854775808 ≤ x) (h2 : x ≤ 9223372036854775807) : zW x = x := by simp only [zW]; omega
def zAdd (x y : Int) : Int := (Int32.ofInt x + Int32.ofInt y).toInt
def zSub (x y : Int) : Int := (Int32.ofInt x - Int32.ofInt y).toInt
def zMul (x y : Int) : Int := (Int32.ofInt x * Int32.ofInt y).toInt
def zNeg (x : Int) : Int := (-Int32.ofInt x).toInt
def zDiv (x y : Int) : Int := (Int32.ofInt x / Int32.ofInt y).toInt
def zRem (x y : Int) : Int := (Int32.ofInt x - Int32.ofInt x / Int32.ofInt y * Int32.ofInt y).toInt
def zAnd (x y : Int) : Int := (Int32.ofInt x &&& Int32.ofInt y).toInt
def zOr (x y : Int) : Int := (Int32.ofInt x ||| Int32.ofInt y).toInt
def zXor (x y : Int) : Int := (Int32.ofInt x ^^^ Int32.ofInt y).toInt
def zShl (x y : Int) : Int := (Int32.ofInt x <<< (Int32.ofInt y &&& 31)).toInt
def zShr (x y : Int) : Int := (Int32.ofInt x >>> (Int32.ofInt y &&& 31)).toInt
def zUsh (x y : Int) : Int := ((Int32.ofInt x).toUInt32 >>> ((Int32.ofInt y).toUInt32 &&& Int32.toUInt32 31)).toInt32.toInt
def zI2b (x : Int) : Int := (Int32.ofInt x).toInt8.toInt32.toInt
def zL2i (x : Int) : Int := (Int64.ofInt x).toInt32.toInt
def zLAdd (x y : Int) : Int := (Int64.ofInt x + Int64.ofInt y).toInt
def zLMul (x y : Int) : Int := (Int64.ofInt x * Int64.ofInt y).toInt
def zLDiv (x y : Int) : Int := (Int64.ofInt x / Int64.ofInt y).toInt
def zLRem (x y : Int) : Int := (Int64.ofInt x - Int64.ofInt x / Int64.ofInt y * Int64.ofInt y).toInt
def zLcmp (x y : Int) : Int := if x < y then -1 else if x = y then 0 else 1
def zCmp (c : ClassFile.Cond) (x y : Int) : Prop := match c with
  | .eq => x = y
  | .ne => ¬ x = y
  | .lt => x < y
  | .ge => y ≤ x
  | .gt => y < x
  | .le => x ≤ y
/-- locals -/
def zst (ls : zL) (i : Nat) (v : zV) : zL := fun j => if j = i then v else if j + 1 = i ∧ (ls j).1 = 1 then (9, 0) else ls j
def zst2 (ls : zL) (i : Nat) (v : zV) : zL := fun j => if j = i then v else if j = i + 1 then (9, 0) else if j + 1 = i ∧ (ls j).1 = 1 then (9, 0) else ls j
def zLs (ad sa : Nat → Nat) (nL : Nat) (ls : zL) (L : Array Slot) : Prop := L.size = nL ∧ lv_wf L ∧ ∀ k, (ls k).1 ≠ 9 → L[k]? = some (.val (zE ad sa (ls k)))
theorem zE_cat (ad sa : Nat → Nat) (v : zV) : (zE ad sa v).category = if v.1 = 1 then 2 else 1 := by
  obtain ⟨t, x⟩ := v
  match t with
  | 0 => rfl
  | 1 => rfl
  | 2 => rfl
  | n + 3 => rfl
end
section
/-! ===== the rows of the abstract machine ===== -/
abbrev zCl : List vw_C := [(RX0, TX0, 3), (RX1, TX1, 4), (RX2, TX2, 7), (RX3, TX3, 4), (RX4, TX4, 6), (RX5, TX5, 9), (RX6, TX6, 5), (RX7, TX7, 2), (RX8, TX8, 9), (RX9, TX9, 10), (RX10, TX10, 9), (RX11, TX11, 25)]
def zTys (cs : Nat → ClassId) : List (ClassId × FieldType) := [(cs 0, .int), (cs 1, .long), (cs 2, .boolean), (cs 3, .byte), (cs 4, .object "SandRails$Orders")]
/-- the machine, at an abstract state -/
def zAW (p : Program) (l : Launch) (e : Env) (R : Room) (s : State) (m : MethodId) (args : Array Value) (below : List Frame) (meth : Method) (c : Code) (cells slots : Nat) (Q : State → Prop) (nL : Nat) (Λ : List zC) (D : va_G) (ad sa : Nat → Nat) (cs : Nat → ClassId) (A : Nat → Prop) (pc : Nat) (ls : zL) (st : List zV) (mem : zM) : Prop :=
  zokM Λ mem → (∀ v ∈ st, zok v) → (∀ k, zok (ls k)) → ∀ (H : Heap) (locs : List Loc) (L : Array Slot), va_P D zCl (zWd Λ ad cs mem) H → va_D A (zWd Λ ad cs mem) → zLs ad sa nL ls L → va_S A s.heap H locs → W p l e R s m args below meth c  H locs cells slots Q (F0 m pc L (st.map (zE ad sa)))
section ZR
variable {p : Program} {l : Launch} {e : Env} {R : Room} {s : State} {m : MethodId} {args : Array Value} {below : List Frame} {meth : Method} {c : Code} {cells slots : Nat} {Q : State → Prop} {cc : ByteArray} {nL : Nat} {own : String} {Λ : List zC} {D : va_G} {ad sa : Nat → Nat} {cs : Nat → ClassId} {A : Nat → Prop} {pc : Nat} {ls : zL} {st : List zV} {mem : zM}
theorem zok_i (z : Int32) : zok (0, z.toInt) := ⟨fun _ => zi_rng z, fun h => absurd h (by decide : ¬ (0 : Nat) = 1)⟩
theorem zok_l (z : Int64) : zok (1, z.toInt) := ⟨fun h => absurd h (by decide : ¬ (1 : Nat) = 0), fun _ => zl_rng z⟩
theorem zok_r (x : Int) : zok (2, x) := ⟨fun h => absurd h (by decide : ¬ (2 : Nat) = 0), fun h => absurd h (by decide : ¬ (2 : Nat) = 1)⟩
theorem zok_c (x : Int) : zok (3, x) := ⟨fun h => absurd h (by decide : ¬ (3 : Nat) = 0), fun h => absurd h (by decide : ¬ (3 : Nat) = 1)⟩
theorem zok_n : zok (9, 0) := ⟨fun h => absurd h (by decide : ¬ (9 : Nat) = 0), fun h => absurd h (by decide : ¬ (9 : Nat) = 1)⟩
theorem zok_i' {x : Int} (h : zR32 x) : zok (0, x) := ⟨fun _ => h, fun h => absurd h (by decide : ¬ (0 : Nat) = 1)⟩
theorem zok_l' {x : Int} (h : zR64 x) : zok (1, x) := ⟨fun h => absurd h (by decide : ¬ (1 : Nat) = 0), fun _ => h⟩
theorem zE_i (z : Int32) : zE ad sa (0, z.toInt) = .int z := congrArg Value.int (zi_of z)
theorem zE_l (z : Int64) : zE ad sa (1, z.toInt) = .long z := congrArg Value.long (zl_of z)
theorem zcons {v : zV} {st : List zV} (h : zok v) (hs : ∀ w ∈ st, zok w) : ∀ w ∈ v :: st, zok w := fun w hw => (List.mem_cons.mp hw).elim (fun e => e ▸ h) (hs w)
theorem ztl {v : zV} {st : List zV} (hs : ∀ w ∈ v :: st, zok w) : ∀ w ∈ st, zok w := fun w hw => hs w (List.mem_cons_of_mem _ hw)
theorem zhd {v : zV} {st : List zV} (hs : ∀ w ∈ v :: st, zok w) : zok v := hs v List.mem_cons_self
theorem zhi {x : Int} {st : List zV} (hs : ∀ w ∈ ((0 : Nat), x) :: st, zok w) : zR32 x := (zhd hs).1 rfl
theorem zhl {x : Int} {st : List zV} (hs : ∀ w ∈ ((1 : Nat), x) :: st, zok w) : zR64 x := (zhd hs).2 rfl
/-- a number that an instruction makes of two ints -/
theorem zs_ii {x y r : Int} {f : Int32} (hr : r = f.toInt) (row : ∀ (H : Heap) (locs : List Loc) (L : Array Slot) (rest : List Value), W p l e R s m args below meth c  H locs cells slots Q (F0 m (pc + 1) L (.int f :: rest)) → W p l e R s m args below meth c  H locs cells slots Q (F0 m pc L (.int (Int32.ofInt y) :: .int (Int32.ofInt x) :: rest)))
    (k : zAW p l e R s m args below meth c cells slots Q nL Λ D ad sa cs A  (pc + 1) ls ((0, r) :: st) mem) : zAW p l e R s m args below meth c cells slots Q nL Λ D ad sa cs A  pc ls ((0, y) :: (0, x) :: st) mem := by
  intro hm hs hl H locs L hP hD hL hS
  subst hr
  have h := k hm (zcons (zok_i f) (ztl (ztl hs))) hl H locs L hP hD hL hS
  rw [List.map_cons, zE_i] at h
  exact row H locs L _ h
theorem zs_i1 {x r : Int} {f : Int32} (hr : r = f.toInt) (row : ∀ (H : Heap) (locs : List Loc) (L : Array Slot) (rest : List Value), W p l e R s m args below meth c  H locs cells slots Q (F0 m (pc + 1) L (.int f :: rest)) → W p l e R s m args below meth c  H locs cells slots Q (F0 m pc L (.int (Int32.ofInt x) :: rest)))
    (k : zAW p l e R s m args below meth c cells slots Q nL Λ D ad sa cs A  (pc + 1) ls ((0, r) :: st) mem) : zAW p l e R s m args below meth c cells slots Q nL Λ D ad sa cs A  pc ls ((0, x) :: st) mem := by
  intro hm hs hl H locs L hP hD hL hS
  subst hr
  have h := k hm (zcons (zok_i f) (ztl hs)) hl H locs L hP hD hL hS
  rw [List.map_cons, zE_i] at h
  exact row H locs L _ h
theorem zs_ll {x y r : Int} {f : Int64} (hr : r = f.toInt) (row : ∀ (H : Heap) (locs : List Loc) (L : Array Slot) (rest : List Value), W p l e R s m args below meth c  H locs cells slots Q (F0 m (pc + 1) L (.long f :: rest)) → W p l e R s m args below meth c  H locs cells slots Q (F0 m pc L (.long (Int64.ofInt y) :: .long (Int64.ofInt x) :: rest)))
    (k : zAW p l e R s m args below meth c cells slots Q nL Λ D ad sa cs A  (pc + 1) ls ((1, r) :: st) mem) : zAW p l e R s m args below meth c cells slots Q nL Λ D ad sa cs A  pc ls ((1, y) :: (1, x) :: st) mem := by
  intro hm hs hl H locs L hP hD hL hS
  subst hr
  have h := k hm (zcons (zok_l f) (ztl (ztl hs))) hl H locs L hP hD hL hS
  rw [List.map_cons, zE_l] at h
  exact row H locs L _ h
/-- pushing a value -/
theorem zs_push {v : zV} {len : Nat} (hv : zok v) (row : ∀ (H : Heap) (locs : List Loc) (L : Array Slot) (rest : List Value), zLs ad sa nL ls L → va_S A s.heap H locs → W p l e R s m args below meth c  H locs cells slots Q (F0 m (pc + len) L (zE ad sa v :: rest)) → W p l e R s m args below meth c  H locs cells slots Q (F0 m pc L rest))
    (k : zAW p l e R s m args below meth c cells slots Q nL Λ D ad sa cs A  (pc + len) ls (v :: st) mem) : zAW p l e R s m args below meth c cells slots Q nL Λ D ad sa cs A  pc ls st mem := by
  intro hm hs hl H locs L hP hD hL hS
  exact row H locs L _ hL hS (k hm (zcons hv hs) hl H locs L hP hD hL hS)
theorem zs_iconst {n : Int} (hx : p.tables.exec = Jvm.exec) (hb : c.code = cc) (hd : decode cc pc = .ok (.iconst n, 1)) (hn : -1 ≤ n ∧ n ≤ 5) (k : zAW p l e R s m args below meth c cells slots Q nL Λ D ad sa cs A  (pc + 1) ls ((0, n) :: st) mem) : zAW p l e R s m args below meth c cells slots Q nL Λ D ad sa cs A  pc ls st mem :=
  zs_push (zok_i' ⟨by omega, by omega⟩) (fun _ _ _ _ _ _ h => lv_iconst hx hb hd rfl h) k
theorem zb8 {n : Int} (h1 : -128 ≤ n) (h2 : n ≤ 127) : (Int8.ofInt n).toInt32 = Int32.ofInt n := by
  rw [← zi_of (Int8.ofInt n).toInt32, Int8.toInt_toInt32, Int8.toInt_ofInt, show Int8.size = 256 from rfl]
  congr 1
  simp only [Int.bmod]; omega
theorem zb16 {n : Int} (h1 : -32768 ≤ n) (h2 : n ≤ 32767) : (Int16.ofInt n).toInt32 = Int32.ofInt n := by
  rw [← zi_of (Int16.ofInt n).toInt32, Int16.toInt_toInt32, Int16.toInt_ofInt, show Int16.size = 65536 from rfl]
  congr 1
  simp only [Int.bmod]; omega
theorem zs_bipush {n : Int} (hx : p.tables.exec = Jvm.exec) (hb : c.code = cc) (hd : decode cc pc = .ok (.bipush n, 2)) (hn : -128 ≤ n ∧ n ≤ 127) (k : zAW p l e R s m args below meth c cells slots Q nL Λ D ad sa cs A  (pc + 2) ls ((0, n) :: st) mem) : zAW p l e R s m args below meth c cells slots Q nL Λ D ad sa cs A  pc ls st mem :=
  zs_push (zok_i' ⟨by omega, by omega⟩) (fun _ _ _ _ _ _ h => lv_bipush hx hb hd (zb8 hn.1 hn.2) h) k
theorem zs_sipush {n : Int} (hx : p.tables.exec = Jvm.exec) (hb : c.code = cc) (hd : decode cc pc = .ok (.sipush n, 3)) (hn : -32768 ≤ n ∧ n ≤ 32767) (k : zAW p l e R s m args below meth c cells slots Q nL Λ D ad sa cs A  (pc + 3) ls ((0, n) :: st) mem) : zAW p l e R s m args below meth c cells slots Q nL Λ D ad sa cs A  pc ls st mem :=
  zs_push (zok_i' ⟨by omega, by omega⟩) (fun _ _ _ _ _ _ h => lv_sipush hx hb hd (zb16 hn.1 hn.2) h) k
theorem zs_lconst {n : Fin 2} (hx : p.tables.exec = Jvm.exec) (hb : c.code = cc) (hd : decode cc pc = .ok (.lconst n, 1)) (k : zAW p l e R s m args below meth c cells slots Q nL Λ D ad sa cs A  (pc + 1) ls ((1, ((n : Nat) : Int)) :: st) mem) : zAW p l e R s m args below meth c cells slots Q nL Λ D ad sa cs A  pc ls st mem :=
  zs_push (zok_l' ⟨by omega, by omega⟩) (fun _ _ _ _ _ _ h => lv_lconst hx hb hd (by rcases n with ⟨n, hn⟩; match n, hn with | 0, _ => rfl | 1, _ => rfl) h) k
theorem zs_ldc {i : Nat} {n : Int} (hx : p.tables.exec = Jvm.exec) (hb : c.code = cc) (hown : s.vm.findClass own = some m.cls) (hc : (Cond.constant own i (Int32.ofInt n)).before args s = true) (hd : decode cc pc = .ok (.ldc i, 2)) (hn : zR32 n) (k : zAW p l e R s m args below meth c cells slots Q nL Λ D ad sa cs A  (pc + 2) ls ((0, n) :: st) mem) : zAW p l e R s m args below meth c cells slots Q nL Λ D ad sa cs A  pc ls st mem :=
  zs_push (zok_i' hn) (fun _ _ _ _ _ _ h => lv_ldc hx hb hown hc hd h) k
theorem zs_ldcw {i : Nat} {n : Int} (hx : p.tables.exec = Jvm.exec) (hb : c.code = cc) (hown : s.vm.findClass own = some m.cls) (hc : (Cond.constant own i (Int32.ofInt n)).before args s = true) (hd : decode cc pc = .ok (.ldc_w i, 3)) (hn : zR32 n) (k : zAW p l e R s m args below meth c cells slots Q nL Λ D ad sa cs A  (pc + 3) ls ((0, n) :: st) mem) : zAW p l e R s m args below meth c cells slots Q nL Λ D ad sa cs A  pc ls st mem :=
  zs_push (zok_i' hn) (fun _ _ _ _ _ _ h => lv_ldcw hx hb hown hc hd h) k
theorem zs_ldc2 {i : Nat} {n : Int} (hx : p.tables.exec = Jvm.exec) (hb : c.code = cc) (hown : s.vm.findClass own = some m.cls) (hc : (Cond.constantLong own i (Int64.ofInt n)).before args s = true) (hd : decode cc pc = .ok (.ldc2_w i, 3)) (hn : zR64 n) (k : zAW p l e R s m args below meth c cells slots Q nL Λ D ad sa cs A  (pc + 3) ls ((1, n) :: st) mem) : zAW p l e R s m args below meth c cells slots Q nL Λ D ad sa cs A  pc ls st mem :=
  zs_push (zok_l' hn) (fun _ _ _ _ _ _ h => lv_ldc2 hx hb hown hc hd h) k
/-- loads -/
theorem zload {L : Array Slot} {k t : Nat} (hL : zLs ad sa nL ls L) (ht : (ls k).1 = t) (h9 : t ≠ 9) : L[k]? = some (.val (zE ad sa (ls k))) := hL.2.2 k (by rw [ht]; exact h9)
theorem zv_i {v : zV} (h : v.1 = 0) : zE ad sa v = .int (Int32.ofInt v.2) := by obtain ⟨t, x⟩ := v; cases h; rfl
theorem zv_l {v : zV} (h : v.1 = 1) : zE ad sa v = .long (Int64.ofInt v.2) := by obtain ⟨t, x⟩ := v; cases h; rfl
theorem zv_r {v : zV} (h : v.1 = 2 ∨ v.1 = 3) : ∃ x : Nat, zE ad sa v = .ref x := by
  obtain ⟨t, x⟩ := v
  rcases h with h | h <;> cases h
  · exact ⟨ad x.toNat, rfl⟩
  · exact ⟨sa x.toNat, rfl⟩
theorem zs_load {k len : Nat} (row : ∀ (H : Heap) (locs : List Loc) (L : Array Slot) (rest : List Value), zLs ad sa nL ls L → va_S A s.heap H locs → W p l e R s m args below meth c  H locs cells slots Q (F0 m (pc + len) L (zE ad sa (ls k) :: rest)) → W p l e R s m args below meth c  H locs cells slots Q (F0 m pc L rest))
    (kk : zAW p l e R s m args below meth c cells slots Q nL Λ D ad sa cs A  (pc + len) ls (ls k :: st) mem) : zAW p l e R s m args below meth c cells slots Q nL Λ D ad sa cs A  pc ls st mem := by
  intro hm hs hl H locs L hP hD hL hS
  exact row H locs L _ hL hS (kk hm (zcons (hl k) hs) hl H locs L hP hD hL hS)
theorem zs_iload_n {i : Fin 4} (hx : p.tables.exec = Jvm.exec) (hb : c.code = cc) (hd : decode cc pc = .ok (.iload_n i, 1)) (ht : (ls i.val).1 = 0) (kk : zAW p l e R s m args below meth c cells slots Q nL Λ D ad sa cs A  (pc + 1) ls (ls i.val :: st) mem) : zAW p l e R s m args below meth c cells slots Q nL Λ D ad sa cs A  pc ls st mem :=
  zs_load (fun _ _ L _ hL _ h => lv_iload_n hx hb hd rfl (by rw [zload hL ht (by decide), zv_i ht]) (by rw [← zv_i ht]; exact h)) kk
theorem zs_iload {i : Nat} (hx : p.tables.exec = Jvm.exec) (hb : c.code = cc) (hd : decode cc pc = .ok (.iload i, 2)) (ht : (ls i).1 = 0) (kk : zAW p l e R s m args below meth c cells slots Q nL Λ D ad sa cs A  (pc + 2) ls (ls i :: st) mem) : zAW p l e R s m args below meth c cells slots Q nL Λ D ad sa cs A  pc ls st mem :=
  zs_load (fun _ _ L _ hL _ h => lv_iload hx hb hd (by rw [zload hL ht (by decide), zv_i ht]) (by rw [← zv_i ht]; exact h)) kk
theorem zs_lload_n {i : Fin 4} (hx : p.tables.exec = Jvm.exec) (hb : c.code = cc) (hd : decode cc pc = .ok (.lload_n i, 1)) (ht : (ls i.val).1 = 1) (kk : zAW p l e R s m args below meth c cells slots Q nL Λ D ad sa cs A  (pc + 1) ls (ls i.val :: st) mem) : zAW p l e R s m args below meth c cells slots Q nL Λ D ad sa cs A  pc ls st mem :=
  zs_load (fun _ _ L _ hL _ h => lv_lload_n hx hb hd rfl (by rw [zload hL ht (by decide), zv_l ht]) (by rw [← zv_l ht]; exact h)) kk
theorem zs_lload {i : Nat} (hx : p.tables.exec = Jvm.exec) (hb : c.code = cc) (hd : decode cc pc = .ok (.lload i, 2)) (ht : (ls i).1 = 1) (kk : zAW p l e R s m args below meth c cells slots Q nL Λ D ad sa cs A  (pc + 2) ls (ls i :: st) mem) : zAW p l e R s m args below meth c cells slots Q nL Λ D ad sa cs A  pc ls st mem :=
  zs_load (fun _ _ L _ hL _ h => lv_lload hx hb hd (by rw [zload hL ht (by decide), zv_l ht]) (by rw [← zv_l ht]; exact h)) kk
theorem zs_aload_n {i : Fin 4} (hx : p.tables.exec = Jvm.exec) (hb : c.code = cc) (hd : decode cc pc = .ok (.aload_n i, 1)) (ht : (ls i.val).1 = 2 ∨ (ls i.val).1 = 3) (kk : zAW p l e R s m args below meth c cells slots Q nL Λ D ad sa cs A  (pc + 1) ls (ls i.val :: st) mem) : zAW p l e R s m args below meth c cells slots Q nL Λ D ad sa cs A  pc ls st mem := by
  obtain ⟨x, hxx⟩ := zv_r (ad := ad) (sa := sa) ht
  exact zs_load (fun _ _ L _ hL _ h => lv_aload_n hx hb hd rfl (by rw [hL.2.2 i.val (by rcases ht with h | h <;> rw [h] <;> decide), hxx]) (by rw [← hxx]; exact h)) kk
theorem zs_aload {i : Nat} (hx : p.tables.exec = Jvm.exec) (hb : c.code = cc) (hd : decode cc pc = .ok (.aload i, 2)) (ht : (ls i).1 = 2 ∨ (ls i).1 = 3) (kk : zAW p l e R s m args below meth c cells slots Q nL Λ D ad sa cs A  (pc + 2) ls (ls i :: st) mem) : zAW p l e R s m args below meth c cells slots Q nL Λ D ad sa cs A  pc ls st mem := by
  obtain ⟨x, hxx⟩ := zv_r (ad := ad) (sa := sa) ht
  exact zs_load (fun _ _ L _ hL _ h => lv_aload hx hb hd (by rw [hL.2.2 i (by rcases ht with h | h <;> rw [h] <;> decide), hxx]) (by rw [← hxx]; exact h)) kk
/-- stores -/
theorem zst_ok {ls : zL} {i : Nat} {v : zV} (hv : zok v) (hl : ∀ k, zok (ls k)) : ∀ k, zok (zst ls i v k) := by
  intro k
  simp only [zst]
  split
  · exact hv
  · split
    · exact zok_n
    · exact hl k
theorem zst2_ok {ls : zL} {i : Nat} {v : zV} (hv : zok v) (hl : ∀ k, zok (ls k)) : ∀ k, zok (zst2 ls i v k) := by
  intro k
  simp only [zst2]
  split
  · exact hv
  · split
    · exact zok_n
    · split
      · exact zok_n
      · exact hl k
def zas (ad sa : Nat → Nat) (ls : zL) (nL : Nat) : List (Nat × Value) := (List.range nL).filterMap fun k => if (ls k).1 = 9 then none else some (k, zE ad sa (ls k))
theorem zas_has {L : Array Slot} (h : zLs ad sa nL ls L) : lv_has L nL (zas ad sa ls nL) := by
  refine ⟨h.1, h.2.1, fun q hq => ?_⟩
  obtain ⟨k, -, hk⟩ := List.mem_filterMap.mp hq
  by_cases h9 : (ls k).1 = 9
  · rw [if_pos h9] at hk; cases hk
  · rw [if_neg h9] at hk
    cases hk
    exact h.2.2 k h9
theorem zas_in {L : Array Slot} (h : zLs ad sa nL ls L) {k : Nat} (h9 : (ls k).1 ≠ 9) : (k, zE ad sa (ls k)) ∈ zas ad sa ls nL := by
  have hlt : k < nL := by rw [← h.1]; exact lv_lt (h.2.2 k h9)
  exact List.mem_filterMap.mpr ⟨k, List.mem_range.mpr hlt, by rw [if_neg h9]⟩
theorem zas_st {L L' : Array Slot} {i : Nat} {v : zV} {lv' : List (Nat × Value)} (hL : zLs ad sa nL ls L) (hl : (i, zE ad sa v) :: (zas ad sa ls nL).filter (fun q => !(q.1 == i) && !(q.1 + 1 == i && q.2.category == 2)) = lv') (h : lv_has L' nL lv') : zLs ad sa nL (zst ls i v) L' := by
  refine ⟨h.1, h.2.1, fun k h9 => h.2.2 (k, zE ad sa (zst ls i v k)) ?_⟩
  subst hl
  by_cases hk : k = i
  · subst hk
    rw [show zst ls k v k = v by simp [zst]]
    exact List.mem_cons_self
  · by_cases hq : k + 1 = i ∧ (ls k).1 = 1
    · exact absurd (show (zst ls i v k).1 = 9 by simp [zst, hk, hq]) h9
    · have he : zst ls i v k = ls k := by simp only [zst]; rw [if_neg hk, if_neg hq]
      rw [he] at h9 ⊢
      refine List.mem_cons_of_mem _ (List.mem_filter.mpr ⟨zas_in hL h9, ?_⟩)
      simp only [Bool.and_eq_true, Bool.not_eq_true', beq_eq_false_iff_ne, ne_eq, Bool.and_eq_false_iff]
      refine ⟨hk, ?_⟩
      by_cases h1 : k + 1 = i
      · right
        rw [zE_cat]
        rw [if_neg (fun z => hq ⟨h1, z⟩)]
        decide
      · exact Or.inl h1
theorem zas_st2 {L L' : Array Slot} {i : Nat} {v : zV} {lv' : List (Nat × Value)} (hL : zLs ad sa nL ls L) (hl : (i, zE ad sa v) :: (zas ad sa ls nL).filter (fun q => !(q.1 == i) && (!(q.1 == i + 1) && !(q.1 + 1 == i && q.2.category == 2))) = lv') (h : lv_has L' nL lv') : zLs ad sa nL (zst2 ls i v) L' := by
  refine ⟨h.1, h.2.1, fun k h9 => h.2.2 (k, zE ad sa (zst2 ls i v k)) ?_⟩
  subst hl
  by_cases hk : k = i
  · subst hk
    rw [show zst2 ls k v k = v by simp [zst2]]
    exact List.mem_cons_self
  · by_cases hk2 : k = i + 1
    · exact absurd (show (zst2 ls i v k).1 = 9 by simp [zst2, hk, hk2]) h9
    · by_cases hq : k + 1 = i ∧ (ls k).1 = 1
      · exact absurd (show (zst2 ls i v k).1 = 9 by simp only [zst2]; rw [if_neg hk, if_neg hk2, if_pos hq]) h9
      · have he : zst2 ls i v k = ls k := by simp only [zst2]; rw [if_neg hk, if_neg hk2, if_neg hq]
        rw [he] at h9 ⊢
        refine List.mem_cons_of_mem _ (List.mem_filter.mpr ⟨zas_in hL h9, ?_⟩)
        simp only [Bool.and_eq_true, Bool.not_eq_true', beq_eq_false_iff_ne, ne_eq, Bool.and_eq_false_iff]
        refine ⟨hk, hk2, ?_⟩
        by_cases h1 : k + 1 = i
        · right
          rw [zE_cat]
          rw [if_neg (fun z => hq ⟨h1, z⟩)]
          decide
        · exact Or.inl h1
theorem zs_istore_n {i : Fin 4} {x : Int} (hx : p.tables.exec = Jvm.exec) (hb : c.code = cc) (hd : decode cc pc = .ok (.istore_n i, 1)) (hi : i.val < nL) (kk : zAW p l e R s m args below meth c cells slots Q nL Λ D ad sa cs A  (pc + 1) (zst ls i.val (0, x)) st mem) : zAW p l e R s m args below meth c cells slots Q nL Λ D ad sa cs A  pc ls ((0, x) :: st) mem := by
  intro hm hs hl H locs L hP hD hL hS
  exact lv_istore_n (lv := zas ad sa ls nL) hx hb hd rfl (zas_has hL) hi rfl (fun L' h => kk hm (ztl hs) (zst_ok (zhd hs) hl) H locs L' hP hD (zas_st hL rfl h) hS)
theorem zs_istore {i : Nat} {x : Int} (hx : p.tables.exec = Jvm.exec) (hb : c.code = cc) (hd : decode cc pc = .ok (.istore i, 2)) (hi : i < nL) (kk : zAW p l e R s m args below meth c cells slots Q nL Λ D ad sa cs A  (pc + 2) (zst ls i (0, x)) st mem) : zAW p l e R s m args below meth c cells slots Q nL Λ D ad sa cs A  pc ls ((0, x) :: st) mem := by
  intro hm hs hl H locs L hP hD hL hS
  exact lv_istore (lv := zas ad sa ls nL) hx hb hd (zas_has hL) hi rfl (fun L' h => kk hm (ztl hs) (zst_ok (zhd hs) hl) H locs L' hP hD (zas_st hL rfl h) hS)
theorem zs_lstore_n {i : Fin 4} {x : Int} (hx : p.tables.exec = Jvm.exec) (hb : c.code = cc) (hd : decode cc pc = .ok (.lstore_n i, 1)) (hi : i.val + 1 < nL) (kk : zAW p l e R s m args below meth c cells slots Q nL Λ D ad sa cs A  (pc + 1) (zst2 ls i.val (1, x)) st mem) : zAW p l e R s m args below meth c cells slots Q nL Λ D ad sa cs A  pc ls ((1, x) :: st) mem := by
  intro hm hs hl H locs L hP hD hL hS
  exact lv_lstore_n (lv := zas ad sa ls nL) hx hb hd rfl (zas_has hL) hi rfl (fun L' h => kk hm (ztl hs) (zst2_ok (zhd hs) hl) H locs L' hP hD (zas_st2 hL rfl h) hS)
theorem zs_lstore {i : Nat} {x : Int} (hx : p.tables.exec = Jvm.exec) (hb : c.code = cc) (hd : decode cc pc = .ok (.lstore i, 2)) (hi : i + 1 < nL) (kk : zAW p l e R s m args below meth c cells slots Q nL Λ D ad sa cs A  (pc + 2) (zst2 ls i (1, x)) st mem) : zAW p l e R s m args below meth c cells slots Q nL Λ D ad sa cs A  pc ls ((1, x) :: st) mem := by
  intro hm hs hl H locs L hP hD hL hS
  exact lv_lstore (lv := zas ad sa ls nL) hx hb hd (zas_has hL) hi rfl (fun L' h => kk hm (ztl hs) (zst2_ok (zhd hs) hl) H locs L' hP hD (zas_st2 hL rfl h) hS)
theorem zs_astore_n {i : Fin 4} {v : zV} (hx : p.tables.exec = Jvm.exec) (hb : c.code = cc) (hd : decode cc pc = .ok (.astore_n i, 1)) (ht : v.1 = 2 ∨ v.1 = 3) (hi : i.val < nL) (kk : zAW p l e R s m args below meth c cells slots Q nL Λ D ad sa cs A  (pc + 1) (zst ls i.val v) st mem) : zAW p l e R s m args below meth c cells slots Q nL Λ D ad sa cs A  pc ls (v :: st) mem := by
  obtain ⟨x, hxx⟩ := zv_r (ad := ad) (sa := sa) ht
  intro hm hs hl H locs L hP hD hL hS
  rw [List.map_cons, hxx]
  exact lv_astore_n (lv := zas ad sa ls nL) hx hb hd rfl (zas_has hL) hi rfl (fun L' h => kk hm (ztl hs) (zst_ok (zhd hs) hl) H locs L' hP hD (zas_st hL (by rw [hxx]) h) hS)
theorem zs_astore {i : Nat} {v : zV} (hx : p.tables.exec = Jvm.exec) (hb : c.code = cc) (hd : decode cc pc = .ok (.astore i, 2)) (ht : v.1 = 2 ∨ v.1 = 3) (hi : i < nL) (kk : zAW p l e R s m args below meth c cells slots Q nL Λ D ad sa cs A  (pc + 2) (zst ls i v) st mem) : zAW p l e R s m args below meth c cells slots Q nL Λ D ad sa cs A  pc ls (v :: st) mem := by
  obtain ⟨x, hxx⟩ := zv_r (ad := ad) (sa := sa) ht
  intro hm hs hl H locs L hP hD hL hS
  rw [List.map_cons, hxx]
  exact lv_astore (lv := zas ad sa ls nL) hx hb hd (zas_has hL) hi rfl (fun L' h => kk hm (ztl hs) (zst_ok (zhd hs) hl) H locs L' hP hD (zas_st hL (by rw [hxx]) h) hS)
theorem zs_iinc {i : Nat} {n : Int} (hx : p.tables.exec = Jvm.exec) (hb : c.code = cc) (hd : decode cc pc = .ok (.iinc i n, 3)) (ht : (ls i).1 = 0) (hi : i < nL) (kk : zAW p l e R s m args below meth c cells slots Q nL Λ D ad sa cs A  (pc + 3) (zst ls i (0, zAdd (ls i).2 n)) st mem) : zAW p l e R s m args below meth c cells slots Q nL Λ D ad sa cs A  pc ls st mem := by
  intro hm hs hl H locs L hP hD hL hS
  have h9 : (ls i).1 ≠ 9 := by rw [ht]; decide
  obtain ⟨k, hk⟩ := List.getElem?_of_mem (zas_in hL h9)
  rw [zv_i ht] at hk
  exact lv_iinc (v := Int32.ofInt (ls i).2 + Int32.ofInt n) (lv := zas ad sa ls nL) hx hb hd (zas_has hL) hk rfl hi rfl (fun L' h => kk hm hs (zst_ok (zok_i _) hl) H locs L' hP hD (zas_st hL (by rw [zAdd, zE_i]) h) hS)
end ZR
end
section
/-! ===== branches, fields, arrays ===== -/
theorem zq_eq {x y : Int} (hx : zR32 x) (hy : zR32 y) : Int32.ofInt x = Int32.ofInt y ↔ x = y := ⟨fun h => by rw [← zi_toInt hx, ← zi_toInt hy, h], fun h => by rw [h]⟩
theorem zq_lt {x y : Int} (hx : zR32 x) (hy : zR32 y) : Int32.ofInt x < Int32.ofInt y ↔ x < y := by rw [Int32.lt_iff_toInt_lt, zi_toInt hx, zi_toInt hy]
theorem zq_le {x y : Int} (hx : zR32 x) (hy : zR32 y) : Int32.ofInt x ≤ Int32.ofInt y ↔ x ≤ y := by rw [Int32.le_iff_toInt_le, zi_toInt hx, zi_toInt hy]
theorem zR0 : zR32 0 := ⟨by omega, by omega⟩
theorem zi0 : (0 : Int32) = Int32.ofInt 0 := rfl
theorem zcl (z : Int32) : z.toNatClampNeg = z.toInt.toNat := rfl
theorem zcl_i {i : Int} (h : zR32 i) : (Int32.ofInt i).toNatClampNeg = i.toNat := by rw [zcl, zi_toInt h]
theorem zin {i : Int} {n : Nat} (h : zR32 i) (h0 : 0 ≤ i) (h1 : i < n) : vp_in (Int32.ofInt i) n := vp_in_iff.mpr (by rw [zi_toInt h]; exact ⟨h0, h1⟩)
theorem zokM_set {Λ : List zC} {mem : zM} {a k : Nat} {v : Int} {κ : zC} (h : zokM Λ mem) (hκ : Λ[a]? = some κ)
    (h0 : κ.1 = 0 → ∀ t, κ.2.2[k]? = some t → (t.1 = 0 → zR32 v) ∧ (t.1 = 4 → 0 ≤ v ∧ v ≤ 1)) (h1 : κ.1 = 1 → zR32 v) (h2 : κ.1 = 2 → zR64 v) (h3 : κ.1 = 3 → 0 ≤ v ∧ v ≤ 1) (h4 : κ.1 = 4 → -128 ≤ v ∧ v ≤ 127) : zokM Λ (zset mem a k v) := by
  intro id κ' hid
  obtain ⟨g0, g1, g2, g3, g4⟩ := h id κ' hid
  by_cases hia : id = a
  · subst hia
    cases hκ.symm.trans hid
    refine ⟨fun e j t ht => ?_, fun e i hi => ?_, fun e i hi => ?_, fun e i hi => ?_, fun e i hi => ?_⟩ <;> simp only [zset, if_pos]
    · by_cases hj : j = k
      · subst hj; rw [if_pos rfl]; exact h0 e t ht
      · rw [if_neg hj]; exact g0 e j t ht
    · by_cases hj : i = k
      · rw [if_pos hj]; exact h1 e
      · rw [if_neg hj]; exact g1 e i hi
    · by_cases hj : i = k
      · rw [if_pos hj]; exact h2 e
      · rw [if_neg hj]; exact g2 e i hi
    · by_cases hj : i = k
      · rw [if_pos hj]; exact h3 e
      · rw [if_neg hj]; exact g3 e i hi
    · by_cases hj : i = k
      · rw [if_pos hj]; exact h4 e
      · rw [if_neg hj]; exact g4 e i hi
  · have he : ∀ j, zset mem a k v id j = mem id j := fun j => by simp only [zset]; rw [if_neg hia]
    simp only [he]
    exact ⟨g0, g1, g2, g3, g4⟩
section ZS
variable {p : Program} {l : Launch} {e : Env} {R : Room} {s : State} {m : MethodId} {args : Array Value} {below : List Frame} {meth : Method} {c : Code} {cells slots : Nat} {Q : State → Prop} {cc : ByteArray} {nL : Nat} {own : String} {Λ : List zC} {D : va_G} {ad sa : Nat → Nat} {cs : Nat → ClassId} {A : Nat → Prop} {pc : Nat} {ls : zL} {st : List zV} {mem : zM}
theorem zs_if {cnd : ClassFile.Cond} {off : Int} {tgt : Nat} {x : Int} (hx : p.tables.exec = Jvm.exec) (hb : c.code = cc) (hd : decode cc pc = .ok (.ifCond cnd off, 3)) (ht : (pc : Int) + off = (tgt : Int)) (kt : zCmp cnd x 0 → zAW p l e R s m args below meth c cells slots Q nL Λ D ad sa cs A  tgt ls st mem) (kf : ¬ zCmp cnd x 0 → zAW p l e R s m args below meth c cells slots Q nL Λ D ad sa cs A  (pc + 3) ls st mem) : zAW p l e R s m args below meth c cells slots Q nL Λ D ad sa cs A  pc ls ((0, x) :: st) mem := by
  intro hm hs hl H locs L hP hD hL hS
  have hr := zhi hs
  cases cnd with
  | eq => exact lv_if_eq hx hb hd ht (fun h => kt ((zq_eq hr zR0).mp h) hm (ztl hs) hl H locs L hP hD hL hS) (fun h => kf (fun q => h ((zq_eq hr zR0).mpr q)) hm (ztl hs) hl H locs L hP hD hL hS)
  | ne => exact lv_if_ne hx hb hd ht (fun h => kt (fun q => h ((zq_eq hr zR0).mpr q)) hm (ztl hs) hl H locs L hP hD hL hS) (fun h => kf (fun q => q ((zq_eq hr zR0).mp h)) hm (ztl hs) hl H locs L hP hD hL hS)
  | lt => exact lv_if_lt hx hb hd ht (fun h => kt ((zq_lt hr zR0).mp h) hm (ztl hs) hl H locs L hP hD hL hS) (fun h => kf (fun q => h ((zq_lt hr zR0).mpr q)) hm (ztl hs) hl H locs L hP hD hL hS)
  | ge => exact lv_if_ge hx hb hd ht (fun h => kt ((zq_le zR0 hr).mp h) hm (ztl hs) hl H locs L hP hD hL hS) (fun h => kf (fun q => h ((zq_le zR0 hr).mpr q)) hm (ztl hs) hl H locs L hP hD hL hS)
  | gt => exact lv_if_gt hx hb hd ht (fun h => kt ((zq_lt zR0 hr).mp h) hm (ztl hs) hl H locs L hP hD hL hS) (fun h => kf (fun q => h ((zq_lt zR0 hr).mpr q)) hm (ztl hs) hl H locs L hP hD hL hS)
  | le => exact lv_if_le hx hb hd ht (fun h => kt ((zq_le hr zR0).mp h) hm (ztl hs) hl H locs L hP hD hL hS) (fun h => kf (fun q => h ((zq_le hr zR0).mpr q)) hm (ztl hs) hl H locs L hP hD hL hS)
theorem zs_icmp {cnd : ClassFile.Cond} {off : Int} {tgt : Nat} {x y : Int} (hx : p.tables.exec = Jvm.exec) (hb : c.code = cc) (hd : decode cc pc = .ok (.if_icmp cnd off, 3)) (ht : (pc : Int) + off = (tgt : Int)) (kt : zCmp cnd x y → zAW p l e R s m args below meth c cells slots Q nL Λ D ad sa cs A  tgt ls st mem) (kf : ¬ zCmp cnd x y → zAW p l e R s m args below meth c cells slots Q nL Λ D ad sa cs A  (pc + 3) ls st mem) : zAW p l e R s m args below meth c cells slots Q nL Λ D ad sa cs A  pc ls ((0, y) :: (0, x) :: st) mem := by
  intro hm hs hl H locs L hP hD hL hS
  have hy := zhi hs
  have hr := zhi (ztl hs)
  cases cnd with
  | eq => exact lv_icmp_eq hx hb hd ht (fun h => kt ((zq_eq hr hy).mp h) hm (ztl (ztl hs)) hl H locs L hP hD hL hS) (fun h => kf (fun q => h ((zq_eq hr hy).mpr q)) hm (ztl (ztl hs)) hl H locs L hP hD hL hS)
  | ne => exact lv_icmp_ne hx hb hd ht (fun h => kt (fun q => h ((zq_eq hr hy).mpr q)) hm (ztl (ztl hs)) hl H locs L hP hD hL hS) (fun h => kf (fun q => q ((zq_eq hr hy).mp h)) hm (ztl (ztl hs)) hl H locs L hP hD hL hS)
  | lt => exact lv_icmp_lt hx hb hd ht (fun h => kt ((zq_lt hr hy).mp h) hm (ztl (ztl hs)) hl H locs L hP hD hL hS) (fun h => kf (fun q => h ((zq_lt hr hy).mpr q)) hm (ztl (ztl hs)) hl H locs L hP hD hL hS)
  | ge => exact lv_icmp_ge hx hb hd ht (fun h => kt ((zq_le hy hr).mp h) hm (ztl (ztl hs)) hl H locs L hP hD hL hS) (fun h => kf (fun q => h ((zq_le hy hr).mpr q)) hm (ztl (ztl hs)) hl H locs L hP hD hL hS)
  | gt => exact lv_icmp_gt hx hb hd ht (fun h => kt ((zq_lt hy hr).mp h) hm (ztl (ztl hs)) hl H locs L hP hD hL hS) (fun h => kf (fun q => h ((zq_lt hy hr).mpr q)) hm (ztl (ztl hs)) hl H locs L hP hD hL hS)
  | le => exact lv_icmp_le hx hb hd ht (fun h => kt ((zq_le hr hy).mp h) hm (ztl (ztl hs)) hl H locs L hP hD hL hS) (fun h => kf (fun q => h ((zq_le hr hy).mpr q)) hm (ztl (ztl hs)) hl H locs L hP hD hL hS)
theorem zs_goto {off : Int} {tgt : Nat} (hx : p.tables.exec = Jvm.exec) (hb : c.code = cc) (hd : decode cc pc = .ok (.goto off, 3)) (ht : (pc : Int) + off = (tgt : Int)) (k : zAW p l e R s m args below meth c cells slots Q nL Λ D ad sa cs A  tgt ls st mem) : zAW p l e R s m args below meth c cells slots Q nL Λ D ad sa cs A  pc ls st mem :=
  fun hm hs hl H locs L hP hD hL hS => lv_goto hx hb hd ht (k hm hs hl H locs L hP hD hL hS)
theorem zs_ifnonnull {off : Int} {tgt : Nat} {v : zV} (hx : p.tables.exec = Jvm.exec) (hb : c.code = cc) (hd : decode cc pc = .ok (.ifnonnull off, 3)) (ht : (pc : Int) + off = (tgt : Int)) (hv : v.1 = 2 ∨ v.1 = 3) (k : zAW p l e R s m args below meth c cells slots Q nL Λ D ad sa cs A  tgt ls st mem) : zAW p l e R s m args below meth c cells slots Q nL Λ D ad sa cs A  pc ls (v :: st) mem := by
  obtain ⟨x, hxx⟩ := zv_r (ad := ad) (sa := sa) hv
  intro hm hs hl H locs L hP hD hL hS
  rw [List.map_cons, hxx]
  exact lv_ifnonnull hx hb hd ht (k hm (ztl hs) hl H locs L hP hD hL hS)
theorem zs_ifnull {off : Int} {v : zV} (hx : p.tables.exec = Jvm.exec) (hb : c.code = cc) (hd : decode cc pc = .ok (.ifnull off, 3)) (hv : v.1 = 2 ∨ v.1 = 3) (k : zAW p l e R s m args below meth c cells slots Q nL Λ D ad sa cs A  (pc + 3) ls st mem) : zAW p l e R s m args below meth c cells slots Q nL Λ D ad sa cs A  pc ls (v :: st) mem := by
  obtain ⟨x, hxx⟩ := zv_r (ad := ad) (sa := sa) hv
  intro hm hs hl H locs L hP hD hL hS
  rw [List.map_cons, hxx]
  exact lv_ifnull hx hb hd (k hm (ztl hs) hl H locs L hP hD hL hS)
theorem zs_tableOut {d lo hi : Int} {offs : Array Int} {len tgt : Nat} {x : Int} (hx : p.tables.exec = Jvm.exec) (hb : c.code = cc) (hd : decode cc pc = .ok (.tableswitch d lo hi offs, len)) (h : x < lo ∨ hi < x) (ht : (pc : Int) + d = (tgt : Int)) (k : zAW p l e R s m args below meth c cells slots Q nL Λ D ad sa cs A  tgt ls st mem) : zAW p l e R s m args below meth c cells slots Q nL Λ D ad sa cs A  pc ls ((0, x) :: st) mem :=
  fun hm hs hl H locs L hP hD hL hS => lv_tableOut hx hb hd (by rw [zi_toInt (zhi hs)]; exact h) ht (k hm (ztl hs) hl H locs L hP hD hL hS)
theorem zs_tableIn {d lo hi : Int} {offs : Array Int} {len tgt : Nat} {x off : Int} (hx : p.tables.exec = Jvm.exec) (hb : c.code = cc) (hd : decode cc pc = .ok (.tableswitch d lo hi offs, len)) (h1 : ¬ x < lo) (h2 : ¬ hi < x) (ho : offs[(x - lo).toNat]? = some off) (ht : (pc : Int) + off = (tgt : Int)) (k : zAW p l e R s m args below meth c cells slots Q nL Λ D ad sa cs A  tgt ls st mem) : zAW p l e R s m args below meth c cells slots Q nL Λ D ad sa cs A  pc ls ((0, x) :: st) mem := by
  intro hm hs hl H locs L hP hD hL hS
  have e := zi_toInt (zhi hs)
  exact lv_tableIn hx hb hd (by rw [e]; exact h1) (by rw [e]; exact h2) (by rw [e]; exact ho) ht (k hm (ztl hs) hl H locs L hP hD hL hS)
theorem zs_lookup {d : Int} {ps : Array (Int × Int)} {len tgt : Nat} {x off : Int} (hx : p.tables.exec = Jvm.exec) (hb : c.code = cc) (hd : decode cc pc = .ok (.lookupswitch d ps, len)) (hp : (ps.toList.zip (ps.toList.drop 1)).all (fun (a, next) => a.1 < next.1) = true) (ho : Op.lookupswitch.offset ps.toList d x = off) (ht : (pc : Int) + off = (tgt : Int)) (k : zAW p l e R s m args below meth c cells slots Q nL Λ D ad sa cs A  tgt ls st mem) : zAW p l e R s m args below meth c cells slots Q nL Λ D ad sa cs A  pc ls ((0, x) :: st) mem := by
  intro hm hs hl H locs L hP hD hL hS
  exact lv_lookup hx hb hd hp (by rw [zi_toInt (zhi hs)]; exact ho) ht (k hm (ztl hs) hl H locs L hP hD hL hS)
/-- stack -/
theorem zcat1 {v : zV} (h : v.1 ≠ 1) : (zE ad sa v).category = 1 := by rw [zE_cat, if_neg h]
theorem zs_dup {v : zV} (hx : p.tables.exec = Jvm.exec) (hb : c.code = cc) (hd : decode cc pc = .ok (.dup, 1)) (hv : v.1 ≠ 1) (k : zAW p l e R s m args below meth c cells slots Q nL Λ D ad sa cs A  (pc + 1) ls (v :: v :: st) mem) : zAW p l e R s m args below meth c cells slots Q nL Λ D ad sa cs A  pc ls (v :: st) mem :=
  fun hm hs hl H locs L hP hD hL hS => lv_dup hx hb hd (zcat1 hv) (k hm (zcons (zhd hs) hs) hl H locs L hP hD hL hS)
theorem zs_pop {v : zV} (hx : p.tables.exec = Jvm.exec) (hb : c.code = cc) (hd : decode cc pc = .ok (.pop, 1)) (hv : v.1 ≠ 1) (k : zAW p l e R s m args below meth c cells slots Q nL Λ D ad sa cs A  (pc + 1) ls st mem) : zAW p l e R s m args below meth c cells slots Q nL Λ D ad sa cs A  pc ls (v :: st) mem :=
  fun hm hs hl H locs L hP hD hL hS => lv_pop hx hb hd (zcat1 hv) (k hm (ztl hs) hl H locs L hP hD hL hS)
theorem zs_dup2 {v w : zV} (hx : p.tables.exec = Jvm.exec) (hb : c.code = cc) (hd : decode cc pc = .ok (.dup2, 1)) (hv : v.1 ≠ 1) (hw : w.1 ≠ 1) (k : zAW p l e R s m args below meth c cells slots Q nL Λ D ad sa cs A  (pc + 1) ls (v :: w :: v :: w :: st) mem) : zAW p l e R s m args below meth c cells slots Q nL Λ D ad sa cs A  pc ls (v :: w :: st) mem :=
  fun hm hs hl H locs L hP hD hL hS => lv_dup2_11 hx hb hd (zcat1 hv) (zcat1 hw) (k hm (zcons (zhd hs) (zcons (zhd (ztl hs)) hs)) hl H locs L hP hD hL hS)
theorem zs_i2l {x : Int} (hx : p.tables.exec = Jvm.exec) (hb : c.code = cc) (hd : decode cc pc = .ok (.i2l, 1)) (k : zAW p l e R s m args below meth c cells slots Q nL Λ D ad sa cs A  (pc + 1) ls ((1, x) :: st) mem) : zAW p l e R s m args below meth c cells slots Q nL Λ D ad sa cs A  pc ls ((0, x) :: st) mem := by
  intro hm hs hl H locs L hP hD hL hS
  have hr := zhi hs
  exact lv_i2l hx hb hd (by rw [← zl_of (Int32.ofInt x).toInt64, Int32.toInt_toInt64, zi_toInt hr]) (k hm (zcons (zok_l' ⟨by have := hr.1; omega, by have := hr.2; omega⟩) (ztl hs)) hl H locs L hP hD hL hS)
theorem zs_l2i {x : Int} (hx : p.tables.exec = Jvm.exec) (hb : c.code = cc) (hd : decode cc pc = .ok (.l2i, 1)) (k : zAW p l e R s m args below meth c cells slots Q nL Λ D ad sa cs A  (pc + 1) ls ((0, zL2i x) :: st) mem) : zAW p l e R s m args below meth c cells slots Q nL Λ D ad sa cs A  pc ls ((1, x) :: st) mem := by
  intro hm hs hl H locs L hP hD hL hS
  have h := k hm (zcons (zok_i _) (ztl hs)) hl H locs L hP hD hL hS
  rw [List.map_cons, zL2i, zE_i] at h
  exact lv_l2i hx hb hd rfl h
theorem zs_lcmp {x y : Int} (hx : p.tables.exec = Jvm.exec) (hb : c.code = cc) (hd : decode cc pc = .ok (.lcmp, 1)) (k : zAW p l e R s m args below meth c cells slots Q nL Λ D ad sa cs A  (pc + 1) ls ((0, zLcmp x y) :: st) mem) : zAW p l e R s m args below meth c cells slots Q nL Λ D ad sa cs A  pc ls ((1, y) :: (1, x) :: st) mem := by
  intro hm hs hl H locs L hP hD hL hS
  have hy := zhl hs
  have hr := zhl (ztl hs)
  have e : Int32.ofInt (zLcmp x y) = lg_cmp (Int64.ofInt x) (Int64.ofInt y) := by
    unfold zLcmp lg_cmp
    by_cases h1 : x < y
    · have h2 : ¬ Int64.ofInt x > Int64.ofInt y := by rw [gt_iff_lt, Int64.lt_iff_toInt_lt, zl_toInt hy, zl_toInt hr]; omega
      have h3 : ¬ Int64.ofInt x = Int64.ofInt y := fun q => by have := congrArg Int64.toInt q; rw [zl_toInt hr, zl_toInt hy] at this; omega
      rw [if_pos h1, if_neg h2, if_neg h3]; rfl
    · rw [if_neg h1]
      by_cases h2 : x = y
      · subst h2
        have h3 : ¬ Int64.ofInt x > Int64.ofInt x := by rw [gt_iff_lt, Int64.lt_iff_toInt_lt]; omega
        rw [if_pos rfl, if_neg h3, if_pos rfl]; rfl
      · have h3 : Int64.ofInt x > Int64.ofInt y := by rw [gt_iff_lt, Int64.lt_iff_toInt_lt, zl_toInt hy, zl_toInt hr]; omega
        rw [if_neg h2, if_pos h3]; rfl
  have hok : zok (0, zLcmp x y) := zok_i' (by unfold zLcmp zR32; omega)
  have h := k hm (zcons hok (ztl (ztl hs))) hl H locs L hP hD hL hS
  rw [List.map_cons, show zE ad sa (0, zLcmp x y) = .int (lg_cmp (Int64.ofInt x) (Int64.ofInt y)) from congrArg Value.int e] at h
  exact W.lcmp hx hb hd h
/-- fields -/
theorem zfl {ci : Nat} {fs : List (Nat × Nat)} {f : Nat} {t : Nat × Nat} {g : Nat → Int} (ht : fs[f]? = some t) : (fs.mapIdx fun k t => zF ad t (g k))[f]? = some (zF ad t (g f)) := by
  rw [List.getElem?_mapIdx, ht]; rfl
def zFv (t : Nat × Nat) (x : Int) : zV := if t.1 = 2 then (2, (t.2 : Int)) else (0, x)
theorem zFv_E (t : Nat × Nat) (x : Int) : zE ad sa (zFv t x) = zF ad t x := by
  unfold zFv zF
  by_cases h : t.1 = 2
  · rw [if_pos h, if_pos h]; rfl
  · rw [if_neg h, if_neg h]; rfl
theorem zFv_ok {Λ : List zC} {mem : zM} {a ci f : Nat} {fs : List (Nat × Nat)} {t : Nat × Nat} (hm : zokM Λ mem) (hΛ : Λ[a]? = some (0, ci, fs)) (ht : fs[f]? = some t) (hk : t.1 = 0 ∨ t.1 = 2 ∨ t.1 = 4) : zok (zFv t (mem a f)) := by
  unfold zFv
  have h := (hm a _ hΛ).1 rfl f t ht
  rcases hk with h0 | h0 | h0
  · rw [if_neg (by rw [h0]; decide)]; exact zok_i' (h.1 h0)
  · rw [if_pos h0]; exact zok_r _
  · rw [if_neg (by rw [h0]; decide)]; exact zok_i' ⟨by have := (h.2 h0).1; omega, by have := (h.2 h0).2; omega⟩
/-- what a field's entry of the pool says -/
def zFL (own : String) (s : State) (args : Array Value) (idx : Nat) (q : vw_C) (f : Nat) : Prop := f < q.2.2 ∧ (q.2.1 f).1 = q.1 ∧ ((Cond.fieldLink own idx q.1 (q.2.1 f).2.1 (q.2.1 f).2.2.1).before args s = true ∨ ∃ host, (Cond.fieldLinkNest own idx q.1 (q.2.1 f).2.1 (q.2.1 f).2.2.1 host).before args s = true)
theorem zs_getfield {Ts : List Cond} {tys : List (ClassId × FieldType)} {idx ci f : Nat} {q : vw_C} {a : Int} {fs : List (Nat × Nat)} {t : Nat × Nat} (hx : p.tables.exec = Jvm.exec) (hb : c.code = cc) (hown : s.vm.findClass own = some m.cls) (hts : ∀ w ∈ Ts, w.before args s = true) (hin : ∀ w ∈ u_ws q.1 q.2.1 q.2.2, w ∈ Ts) (hK : va_K D zCl tys s) (hd : decode cc pc = .ok (.getfield idx, 3)) (hq : zCl[ci]? = some q) (hF : zFL own s args idx q f) (hΛ : Λ[a.toNat]? = some (0, ci, fs)) (ht : fs[f]? = some t) (hk : t.1 = 0 ∨ t.1 = 2 ∨ t.1 = 4)
    (kk : zAW p l e R s m args below meth c cells slots Q nL Λ D ad sa cs A  (pc + 3) ls (zFv t (mem a.toNat f) :: st) mem) : zAW p l e R s m args below meth c cells slots Q nL Λ D ad sa cs A  pc ls ((2, a) :: st) mem := by
  intro hm hs hl H locs L hP hD hL hS
  obtain ⟨C, T, N⟩ := q
  obtain ⟨hf, hdc, hlk⟩ := hF
  have h := kk hm (zcons (zFv_ok hm hΛ ht hk) (ztl hs)) hl H locs L hP hD hL hS
  rw [List.map_cons, zFv_E] at h
  have he := zWd_get (ad := ad) (cs := cs) (mem := mem) hΛ
  dsimp only at hdc
  rcases hlk with hlk | ⟨host, hlk⟩
  · exact va_get hx hb hts hin hown hK hP a.toNat he hq f hf hlk (fun x h => by rw [hdc] at h; exact h) (zfl (ci := ci) ht) hd h
  · exact va_getN hx hb hts hin hown hK hP a.toNat he hq f hf hlk (fun x h => by rw [hdc] at h; exact h) (zfl (ci := ci) ht) hd h
theorem zfs_set {fs : List (Nat × Nat)} {f : Nat} {t : Nat × Nat} {g : Nat → Int} {v : Int} {mem : zM} {a : Nat} (ht : fs[f]? = some t) (h2 : t.1 ≠ 2) : (fs.mapIdx fun k t => zF ad t (mem a k)).set f (.int (Int32.ofInt v)) = fs.mapIdx fun k t => zF ad t (zset mem a f v a k) := by
  apply List.ext_getElem?
  intro j
  rw [List.getElem?_set]
  by_cases hj : f = j
  · subst hj
    have hlt : f < (fs.mapIdx fun k t => zF ad t (mem a k)).length := by rw [List.length_mapIdx]; exact (List.getElem?_eq_some_iff.mp ht).1
    rw [if_pos rfl, if_pos hlt, List.getElem?_mapIdx, ht]
    simp [zF, h2, zset]
  · rw [if_neg hj, List.getElem?_mapIdx, List.getElem?_mapIdx]
    cases hq : fs[j]? with
    | none => rfl
    | some u =>
      have hjf : ¬ j = f := fun q => hj q.symm
      simp [zset, hjf]
theorem zs_putfield {Ts : List Cond} {tys : List (ClassId × FieldType)} {idx ci f : Nat} {q : vw_C} {a v : Int} {fs : List (Nat × Nat)} {t : Nat × Nat} {ty0 : Nat → FieldType} (hx : p.tables.exec = Jvm.exec) (hb : c.code = cc) (hown : s.vm.findClass own = some m.cls) (hts : ∀ w ∈ Ts, w.before args s = true) (hin : ∀ w ∈ u_ws q.1 q.2.1 q.2.2, w ∈ Ts) (hty : ∀ k, k < q.2.2 → parseFieldDescriptor (q.2.1 k).2.2.1 = some (ty0 k)) (hnm : ∀ a, a < q.2.2 → ∀ b, b < q.2.2 → a ≠ b → (q.2.1 a).2.1 ≠ (q.2.1 b).2.1)
    (hK : va_K D zCl tys s) (hd : decode cc pc = .ok (.putfield idx, 3)) (hq : zCl[ci]? = some q) (hF : zFL own s args idx q f) (hfin : (q.2.1 f).2.2.2 = false) (hΛ : Λ[a.toNat]? = some (0, ci, fs)) (ht : fs[f]? = some t) (hk : t.1 = 0 ∧ parseFieldDescriptor (q.2.1 f).2.2.1 = some .int ∨ t.1 = 4 ∧ parseFieldDescriptor (q.2.1 f).2.2.1 = some .boolean ∧ (v = 0 ∨ v = 1))
    (kk : zAW p l e R s m args below meth c cells slots Q nL Λ D ad sa cs A  (pc + 3) ls st (zset mem a.toNat f v)) : zAW p l e R s m args below meth c cells slots Q nL Λ D ad sa cs A  pc ls ((0, v) :: (2, a) :: st) mem := by
  intro hm hs hl H locs L hP hD hL hS
  obtain ⟨C, T, N⟩ := q
  obtain ⟨hf, hdc, hlk⟩ := hF
  have hv := zhi hs
  have he := zWd_get (ad := ad) (cs := cs) (mem := mem) hΛ
  have h2 : t.1 ≠ 2 := by rcases hk with h | h <;> rw [h.1] <;> decide
  have hle : f < (fs.mapIdx fun k t => zF ad t (mem a.toNat k)).length := by rw [List.length_mapIdx]; exact (List.getElem?_eq_some_iff.mp ht).1
  have hw : ∀ u : List Value, u = (fs.mapIdx fun k t => zF ad t (mem a.toNat k)).set f (.int (Int32.ofInt v)) → (zWd Λ ad cs mem).set a.toNat (ad a.toNat, .inr (ci, u)) = zWd Λ ad cs (zset mem a.toNat f v) := by
    intro u hu
    rw [hu]
    refine zWd_set hΛ ?_ (fun b hb => by funext j; simp only [zset]; rw [if_neg hb])
    show Sum.inr (ci, _) = _
    rw [zfs_set (g := fun _ => 0) ht h2]
  have hm' : zokM Λ (zset mem a.toNat f v) := zokM_set hm hΛ (fun _ t' ht' => by
    cases ht.symm.trans ht'
    rcases hk with h | h
    · exact ⟨fun _ => hv, fun z => absurd (h.1.symm.trans z) (by decide)⟩
    · have h01 : 0 ≤ v ∧ v ≤ 1 := by have := h.2.2; omega
      exact ⟨fun z => absurd (h.1.symm.trans z) (by decide), fun _ => h01⟩) (fun z => by cases z) (fun z => by cases z) (fun z => by cases z) (fun z => by cases z)
  have go : ∀ (H1 : Heap) (locs1 : List Loc), va_P D zCl ((zWd Λ ad cs mem).set a.toNat (ad a.toNat, .inr (ci, (fs.mapIdx fun k t => zF ad t (mem a.toNat k)).set f (.int (Int32.ofInt v))))) H1 → va_D A ((zWd Λ ad cs mem).set a.toNat (ad a.toNat, .inr (ci, (fs.mapIdx fun k t => zF ad t (mem a.toNat k)).set f (.int (Int32.ofInt v))))) → va_S A s.heap H1 locs1 → W p l e R s m args below meth c  H1 locs1 cells slots Q (F0 m (pc + 3) L (st.map (zE ad sa))) := by
    intro H1 locs1 hP1 hD1 hS1
    rw [hw _ rfl] at hP1 hD1
    exact kk hm' (ztl (ztl hs)) hl H1 locs1 L hP1 hD1 hL hS1
  dsimp only at hdc hfin hk
  have hnf : ∃ ty, parseFieldDescriptor (T f).2.2.1 = some ty ∧ narrow ty (.int (Int32.ofInt v)) = .int (Int32.ofInt v) ∧ fits ty (.int (Int32.ofInt v)) = true := by
    rcases hk with h | h
    · exact ⟨_, h.2, rfl, rfl⟩
    · refine ⟨_, h.2.1, ?_⟩
      rcases h.2.2 with r | r <;> subst r <;> exact ⟨rfl, rfl⟩
  obtain ⟨ty, n1, n2, n3⟩ := hnf
  rcases hlk with hlk | ⟨host, hlk⟩
  · exact va_put hx hb hts hin ty0 hty hnm hown hK hP hD hS a.toNat he hq f hf hlk (fun x h => by rw [hdc] at h; exact h) hfin n1 n2 n3 hle hd go
  · exact va_putN hx hb hts hin ty0 hty hnm hown hK hP hD hS a.toNat he hq f hf hlk (fun x h => by rw [hdc] at h; exact h) hfin n1 n2 n3 hle hd go
end ZS
end
section
/-! ===== arrays ===== -/
theorem zup_i {mem : zM} {a k : Nat} {v : Int} : (fun i => Int32.ofInt (zset mem a k v a i)) = upd (fun i => Int32.ofInt (mem a i)) k (Int32.ofInt v) := by
  funext i
  by_cases h : i = k
  · subst h; simp [zset, upd]
  · simp [zset, upd, h]
theorem zup_l {mem : zM} {a k : Nat} {v : Int} : (fun i => Int64.ofInt (zset mem a k v a i)) = vp_updL (fun i => Int64.ofInt (mem a i)) k (Int64.ofInt v) := by
  funext i
  by_cases h : i = k
  · subst h; simp [zset, vp_updL]
  · simp [zset, vp_updL, h]
theorem zset_off {mem : zM} {a k : Nat} {v : Int} : ∀ b, b ≠ a → zset mem a k v b = mem b := fun b hb => by funext j; simp only [zset]; rw [if_neg hb]
theorem zR01 {x : Int} (h : 0 ≤ x ∧ x ≤ 1) : zR32 x := ⟨by omega, by omega⟩
theorem zR8 {x : Int} (h : -128 ≤ x ∧ x ≤ 127) : zR32 x := ⟨by omega, by omega⟩
section ZT
variable {p : Program} {l : Launch} {e : Env} {R : Room} {s : State} {m : MethodId} {args : Array Value} {below : List Frame} {meth : Method} {c : Code} {cells slots : Nat} {Q : State → Prop} {cc : ByteArray} {nL : Nat} {own : String} {Λ : List zC} {D : va_G} {ad sa : Nat → Nat} {cs : Nat → ClassId} {A : Nat → Prop} {pc : Nat} {ls : zL} {st : List zV} {mem : zM}
theorem zs_iaload {a i : Int} {n : Nat} {ts : List (Nat × Nat)} (hx : p.tables.exec = Jvm.exec) (hb : c.code = cc) (hK : va_K D zCl (zTys cs) s) (hd : decode cc pc = .ok (.iaload, 1)) (hΛ : Λ[a.toNat]? = some (1, n, ts)) (h0 : 0 ≤ i) (h1 : i < n) (kk : zAW p l e R s m args below meth c cells slots Q nL Λ D ad sa cs A  (pc + 1) ls ((0, mem a.toNat i.toNat) :: st) mem) : zAW p l e R s m args below meth c cells slots Q nL Λ D ad sa cs A  pc ls ((0, i) :: (2, a) :: st) mem := by
  intro hm hs hl H locs L hP hD hL hS
  have hi := zhi hs
  have h := kk hm (zcons (zok_i' ((hm _ _ hΛ).2.1 rfl i.toNat (by show i.toNat < n; omega))) (ztl (ztl hs))) hl H locs L hP hD hL hS
  refine va_iald hx hb hK hP a.toNat 0 (zWd_get hΛ) rfl (zin hi h0 h1) hd ?_
  rw [zcl_i hi]; exact h
theorem zs_laload {a i : Int} {n : Nat} {ts : List (Nat × Nat)} (hx : p.tables.exec = Jvm.exec) (hb : c.code = cc) (hK : va_K D zCl (zTys cs) s) (hd : decode cc pc = .ok (.laload, 1)) (hΛ : Λ[a.toNat]? = some (2, n, ts)) (h0 : 0 ≤ i) (h1 : i < n) (kk : zAW p l e R s m args below meth c cells slots Q nL Λ D ad sa cs A  (pc + 1) ls ((1, mem a.toNat i.toNat) :: st) mem) : zAW p l e R s m args below meth c cells slots Q nL Λ D ad sa cs A  pc ls ((0, i) :: (2, a) :: st) mem := by
  intro hm hs hl H locs L hP hD hL hS
  have hi := zhi hs
  have h := kk hm (zcons (zok_l' ((hm _ _ hΛ).2.2.1 rfl i.toNat (by show i.toNat < n; omega))) (ztl (ztl hs))) hl H locs L hP hD hL hS
  refine va_lald hx hb hK hP a.toNat 1 (zWd_get hΛ) rfl (zin hi h0 h1) hd ?_
  rw [zcl_i hi]; exact h
theorem zs_zaload {a i : Int} {n : Nat} {ts : List (Nat × Nat)} (hx : p.tables.exec = Jvm.exec) (hb : c.code = cc) (hK : va_K D zCl (zTys cs) s) (hd : decode cc pc = .ok (.baload, 1)) (hΛ : Λ[a.toNat]? = some (3, n, ts)) (h0 : 0 ≤ i) (h1 : i < n) (kk : zAW p l e R s m args below meth c cells slots Q nL Λ D ad sa cs A  (pc + 1) ls ((0, mem a.toNat i.toNat) :: st) mem) : zAW p l e R s m args below meth c cells slots Q nL Λ D ad sa cs A  pc ls ((0, i) :: (2, a) :: st) mem := by
  intro hm hs hl H locs L hP hD hL hS
  have hi := zhi hs
  have h := kk hm (zcons (zok_i' (zR01 ((hm _ _ hΛ).2.2.2.1 rfl i.toNat (by show i.toNat < n; omega)))) (ztl (ztl hs))) hl H locs L hP hD hL hS
  refine va_zald hx hb hK hP a.toNat 2 (zWd_get hΛ) rfl (zin hi h0 h1) hd ?_
  rw [zcl_i hi]; exact h
theorem zs_baload {a i : Int} {n : Nat} {ts : List (Nat × Nat)} (hx : p.tables.exec = Jvm.exec) (hb : c.code = cc) (hK : va_K D zCl (zTys cs) s) (hd : decode cc pc = .ok (.baload, 1)) (hΛ : Λ[a.toNat]? = some (4, n, ts)) (h0 : 0 ≤ i) (h1 : i < n) (kk : zAW p l e R s m args below meth c cells slots Q nL Λ D ad sa cs A  (pc + 1) ls ((0, mem a.toNat i.toNat) :: st) mem) : zAW p l e R s m args below meth c cells slots Q nL Λ D ad sa cs A  pc ls ((0, i) :: (2, a) :: st) mem := by
  intro hm hs hl H locs L hP hD hL hS
  have hi := zhi hs
  have h := kk hm (zcons (zok_i' (zR8 ((hm _ _ hΛ).2.2.2.2 rfl i.toNat (by show i.toNat < n; omega)))) (ztl (ztl hs))) hl H locs L hP hD hL hS
  refine va_bald hx hb hK hP a.toNat 3 (zWd_get hΛ) rfl (zin hi h0 h1) hd ?_
  rw [zcl_i hi]; exact h
theorem zs_aaload {a i : Int} {n : Nat} {ts : List (Nat × Nat)} {t : Nat × Nat} (hx : p.tables.exec = Jvm.exec) (hb : c.code = cc) (hK : va_K D zCl (zTys cs) s) (hd : decode cc pc = .ok (.aaload, 1)) (hΛ : Λ[a.toNat]? = some (5, n, ts)) (h0 : 0 ≤ i) (h1 : i < n) (ht : ts[i.toNat]? = some t) (kk : zAW p l e R s m args below meth c cells slots Q nL Λ D ad sa cs A  (pc + 1) ls ((2, (t.2 : Int)) :: st) mem) : zAW p l e R s m args below meth c cells slots Q nL Λ D ad sa cs A  pc ls ((0, i) :: (2, a) :: st) mem := by
  intro hm hs hl H locs L hP hD hL hS
  have hi := zhi hs
  have h := kk hm (zcons (zok_r _) (ztl (ztl hs))) hl H locs L hP hD hL hS
  refine va_aldq hx hb hK hP a.toNat 4 (zWd_get hΛ) rfl (zin hi h0 h1) hd ?_
  rw [zcl_i hi]
  dsimp only
  rw [ht]
  exact h
theorem zs_iastore {a i v : Int} {n : Nat} {ts : List (Nat × Nat)} (hx : p.tables.exec = Jvm.exec) (hb : c.code = cc) (hK : va_K D zCl (zTys cs) s) (hd : decode cc pc = .ok (.iastore, 1)) (hΛ : Λ[a.toNat]? = some (1, n, ts)) (h0 : 0 ≤ i) (h1 : i < n) (kk : zAW p l e R s m args below meth c cells slots Q nL Λ D ad sa cs A  (pc + 1) ls st (zset mem a.toNat i.toNat v)) : zAW p l e R s m args below meth c cells slots Q nL Λ D ad sa cs A  pc ls ((0, v) :: (0, i) :: (2, a) :: st) mem := by
  intro hm hs hl H locs L hP hD hL hS
  have hv := zhi hs
  have hi := zhi (ztl hs)
  have hm' : zokM Λ (zset mem a.toNat i.toNat v) := zokM_set hm hΛ (fun z => by cases z) (fun _ => hv) (fun z => by cases z) (fun z => by cases z) (fun z => by cases z)
  refine va_iast hx hb hK hP hD hS a.toNat 0 (zWd_get hΛ) rfl (zin hi h0 h1) hd (fun H1 locs1 hP1 hD1 hS1 => ?_)
  rw [zcl_i hi, zWd_set (mem' := zset mem a.toNat i.toNat v) hΛ (by show Sum.inl (cs 0, n, Sum.inl _) = _; rw [zup_i]) zset_off] at hP1 hD1
  exact kk hm' (ztl (ztl (ztl hs))) hl H1 locs1 L hP1 hD1 hL hS1
theorem zs_lastore {a i v : Int} {n : Nat} {ts : List (Nat × Nat)} (hx : p.tables.exec = Jvm.exec) (hb : c.code = cc) (hK : va_K D zCl (zTys cs) s) (hd : decode cc pc = .ok (.lastore, 1)) (hΛ : Λ[a.toNat]? = some (2, n, ts)) (h0 : 0 ≤ i) (h1 : i < n) (kk : zAW p l e R s m args below meth c cells slots Q nL Λ D ad sa cs A  (pc + 1) ls st (zset mem a.toNat i.toNat v)) : zAW p l e R s m args below meth c cells slots Q nL Λ D ad sa cs A  pc ls ((1, v) :: (0, i) :: (2, a) :: st) mem := by
  intro hm hs hl H locs L hP hD hL hS
  have hv := zhl hs
  have hi := zhi (ztl hs)
  have hm' : zokM Λ (zset mem a.toNat i.toNat v) := zokM_set hm hΛ (fun z => by cases z) (fun z => by cases z) (fun _ => hv) (fun z => by cases z) (fun z => by cases z)
  refine va_last hx hb hK hP hD hS a.toNat 1 (zWd_get hΛ) rfl (zin hi h0 h1) hd (fun H1 locs1 hP1 hD1 hS1 => ?_)
  rw [zcl_i hi, zWd_set (mem' := zset mem a.toNat i.toNat v) hΛ (by show Sum.inl (cs 1, n, Sum.inr (Sum.inl _)) = _; rw [zup_l]) zset_off] at hP1 hD1
  exact kk hm' (ztl (ztl (ztl hs))) hl H1 locs1 L hP1 hD1 hL hS1
theorem zs_zastore {a i v : Int} {n : Nat} {ts : List (Nat × Nat)} (hx : p.tables.exec = Jvm.exec) (hb : c.code = cc) (hK : va_K D zCl (zTys cs) s) (hd : decode cc pc = .ok (.bastore, 1)) (hΛ : Λ[a.toNat]? = some (3, n, ts)) (h0 : 0 ≤ i) (h1 : i < n) (hv01 : v = 0 ∨ v = 1) (kk : zAW p l e R s m args below meth c cells slots Q nL Λ D ad sa cs A  (pc + 1) ls st (zset mem a.toNat i.toNat v)) : zAW p l e R s m args below meth c cells slots Q nL Λ D ad sa cs A  pc ls ((0, v) :: (0, i) :: (2, a) :: st) mem := by
  intro hm hs hl H locs L hP hD hL hS
  have hi := zhi (ztl hs)
  have hm' : zokM Λ (zset mem a.toNat i.toNat v) := zokM_set hm hΛ (fun z => by cases z) (fun z => by cases z) (fun z => by cases z) (fun _ => by omega) (fun z => by cases z)
  have hn : vp_nar .boolean (Int32.ofInt v) = Int32.ofInt v := by rcases hv01 with r | r <;> subst r <;> rfl
  refine va_zast hx hb hK hP hD hS a.toNat 2 (zWd_get hΛ) rfl (zin hi h0 h1) hd (fun H1 locs1 hP1 hD1 hS1 => ?_)
  rw [hn, zcl_i hi, zWd_set (mem' := zset mem a.toNat i.toNat v) hΛ (by show Sum.inl (cs 2, n, Sum.inl _) = _; rw [zup_i]) zset_off] at hP1 hD1
  exact kk hm' (ztl (ztl (ztl hs))) hl H1 locs1 L hP1 hD1 hL hS1
theorem zs_bastore {a i v : Int} {n : Nat} {ts : List (Nat × Nat)} (hx : p.tables.exec = Jvm.exec) (hb : c.code = cc) (hK : va_K D zCl (zTys cs) s) (hd : decode cc pc = .ok (.bastore, 1)) (hΛ : Λ[a.toNat]? = some (4, n, ts)) (h0 : 0 ≤ i) (h1 : i < n) (hv8 : -128 ≤ v ∧ v ≤ 127) (kk : zAW p l e R s m args below meth c cells slots Q nL Λ D ad sa cs A  (pc + 1) ls st (zset mem a.toNat i.toNat v)) : zAW p l e R s m args below meth c cells slots Q nL Λ D ad sa cs A  pc ls ((0, v) :: (0, i) :: (2, a) :: st) mem := by
  intro hm hs hl H locs L hP hD hL hS
  have hi := zhi (ztl hs)
  have hm' : zokM Λ (zset mem a.toNat i.toNat v) := zokM_set hm hΛ (fun z => by cases z) (fun z => by cases z) (fun z => by cases z) (fun z => by cases z) (fun _ => hv8)
  have hn : vp_nar .byte (Int32.ofInt v) = Int32.ofInt v := by
    rw [vp_nar_byte]
    exact lg_i2b_small (by rw [zi_toInt (zR8 hv8)]; omega) (by rw [zi_toInt (zR8 hv8)]; omega)
  refine va_bast hx hb hK hP hD hS a.toNat 3 (zWd_get hΛ) rfl (zin hi h0 h1) hd (fun H1 locs1 hP1 hD1 hS1 => ?_)
  rw [hn, zcl_i hi, zWd_set (mem' := zset mem a.toNat i.toNat v) hΛ (by show Sum.inl (cs 3, n, Sum.inl _) = _; rw [zup_i]) zset_off] at hP1 hD1
  exact kk hm' (ztl (ztl (ztl hs))) hl H1 locs1 L hP1 hD1 hL hS1
theorem zs_alen {a : Int} {kd n : Nat} {ts : List (Nat × Nat)} (hx : p.tables.exec = Jvm.exec) (hb : c.code = cc) (hK : va_K D zCl (zTys cs) s) (hd : decode cc pc = .ok (.arraylength, 1)) (hΛ : Λ[a.toNat]? = some (kd, n, ts)) (hk : kd = 1 ∨ kd = 2) (hn : n ≤ 2147483647) (kk : zAW p l e R s m args below meth c cells slots Q nL Λ D ad sa cs A  (pc + 1) ls ((0, (n : Int)) :: st) mem) : zAW p l e R s m args below meth c cells slots Q nL Λ D ad sa cs A  pc ls ((2, a) :: st) mem := by
  intro hm hs hl H locs L hP hD hL hS
  have h := kk hm (zcons (zok_i' ⟨by omega, by omega⟩) (ztl hs)) hl H locs L hP hD hL hS
  have e : Int32.ofNat n = Int32.ofInt (n : Int) := (Int32.ofInt_eq_ofNat (n := n)).symm
  rcases hk with r | r <;> subst r
  · exact va_alen hx hb hK hP a.toNat 0 (zWd_get hΛ) (ty := .int) rfl e hd h
  · exact va_alen hx hb hK hP a.toNat 1 (zWd_get hΛ) (ty := .long) rfl e hd h
theorem zcp {mem : zM} {a b sp dp n : Nat} : (fun i => Int32.ofInt (zcopy mem a sp b dp n b i)) = va_cpy (fun i => Int32.ofInt (mem a i)) (fun i => Int32.ofInt (mem b i)) sp dp n := by
  funext i
  simp only [zcopy, va_cpy, if_pos]
  split <;> rfl
theorem zcopy_off {mem : zM} {a b sp dp n : Nat} : ∀ d, d ≠ b → zcopy mem a sp b dp n d = mem d := fun d hd => by funext j; simp only [zcopy]; rw [if_neg hd]
theorem zokM_copy {mem : zM} {a b sp dp n na nb : Nat} {ta tb : List (Nat × Nat)} (hm : zokM Λ mem) (ha : Λ[a]? = some (1, na, ta)) (hb : Λ[b]? = some (1, nb, tb)) (h : sp + n ≤ na) : zokM Λ (zcopy mem a sp b dp n) := by
  intro id κ hid
  obtain ⟨g0, g1, g2, g3, g4⟩ := hm id κ hid
  by_cases hib : id = b
  · subst hib
    cases hb.symm.trans hid
    refine ⟨fun z => (by cases z), fun _ i hi => ?_, fun z => (by cases z), fun z => (by cases z), fun z => (by cases z)⟩
    simp only [zcopy, if_pos]
    split
    · rename_i hq
      exact (hm a _ ha).2.1 rfl _ (by show _ < na; omega)
    · exact g1 rfl i hi
  · rw [zcopy_off id hib]
    exact ⟨g0, g1, g2, g3, g4⟩
theorem zs_arraycopy {idx : Nat} {a b sp dp n : Int} {na nb : Nat} {ta tb : List (Nat × Nat)} (hx : p.tables.exec = Jvm.exec) (hb : c.code = cc) (hml : c.maxLocals = nL) (hown : s.vm.findClass own = some m.cls) (hlink : (Cond.methodLink own idx arraycopyName).before args s = true) (hnat : (Cond.native arraycopyName).before args s = true) (hstat : (Cond.static arraycopyName).before args s = true) (hini : (Cond.initialized "java/lang/System").before args s = true) (hK : va_K D zCl (zTys cs) s) (hd : decode cc pc = .ok (.invokestatic idx, 3))
    (ha : Λ[a.toNat]? = some (1, na, ta)) (hbb : Λ[b.toNat]? = some (1, nb, tb)) (h1 : 0 ≤ sp) (h2 : 0 ≤ dp) (h3 : 0 ≤ n) (h4 : sp + n ≤ na) (h5 : dp + n ≤ nb) (hR : 1 ≤ R.frames ∧ 30 ≤ R.locals) (kk : zAW p l e R s m args below meth c cells slots Q nL Λ D ad sa cs A  (pc + 3) ls [] (zcopy mem a.toNat sp.toNat b.toNat dp.toNat n.toNat)) : zAW p l e R s m args below meth c cells slots Q nL Λ D ad sa cs A  pc ls [(0, n), (0, dp), (2, b), (0, sp), (2, a)] mem := by
  intro hm hs hl H locs L hP hD hL hS
  have hn := zhi hs
  have hdp := zhi (ztl hs)
  have hsp := zhi (ztl (ztl (ztl hs)))
  have c1 := zcl_i hn
  have c2 := zcl_i hdp
  have c3 := zcl_i hsp
  have hneg : ∀ {x : Int}, zR32 x → 0 ≤ x → ¬ Int32.ofInt x < 0 := fun hr h q => by have := (zq_lt hr zR0).mp q; omega
  refine va_copyi (ty := .int) (rest := []) hx hb (hml.trans hL.1.symm) hown hlink hnat hstat hini hK hP hD hS a.toNat b.toNat 0 0 (zWd_get ha) (zWd_get hbb) rfl rfl rfl (hneg hsp h1) (hneg hdp h2) (hneg hn h3) (by rw [c1, c3]; show _ ≤ na; omega) (by rw [c1, c2]; show _ ≤ nb; omega) (fun i _ => rfl) hR.1 (by show 0 + (7 + 11) ≤ R.locals; omega) hd (fun H1 locs1 hP1 hD1 hS1 => ?_)
  rw [c1, c2, c3, zWd_set (mem' := zcopy mem a.toNat sp.toNat b.toNat dp.toNat n.toNat) hbb (by show Sum.inl (cs 0, nb, Sum.inl _) = _; rw [zcp]) zcopy_off] at hP1 hD1
  exact kk (zokM_copy hm ha hbb (by omega)) (fun _ h => by cases h) hl H1 locs1 L hP1 hD1 hL hS1
end ZT
end
section
/-! ===== what holds outside the cells; contracts; calls ===== -/
def zTbl : List Cond := lw_tbl.filter goodWord
def zIsN (w : Cond) : Bool := match w with
  | .fieldLinkNest .. => true
  | .methodLinkNest .. => true
  | _ => false
def zStN : List String := ["WAYS_BY_NUMBER", "LEAST_STORES", "MOST_STORES"]
def zStV : List (List Int) := [[0, 3, 1, 2], [0, 0, 0, 1, 0, 0, 0, 1], [9999, 9999, 60, 60, 9, 18, 100, 4]]
/-- the texts, by number: their signs -/
def zTx : List (List Int) := [[108, 105, 102, 116], [108, 97, 121], [103, 111], [98, 97, 99, 107], [102, 105, 108, 108], [100, 105, 103], [114, 101, 115, 116], [97, 103, 97, 105, 110], [105, 102], [119, 104, 105, 108, 101], [110, 111, 114, 116, 104], [101, 97, 115, 116], [115, 111, 117, 116, 104], [119, 101, 115, 116], [110, 111, 116], [98, 117, 114, 105, 101, 100], [119, 97, 116, 101, 114], [119, 111, 111, 100], [112, 108, 97, 116, 101, 115], [99, 97, 114, 114, 105, 101, 100], [97, 104, 101, 97, 100], [98, 101, 104, 105, 110, 100], [104, 111, 117, 114], [100, 97, 121], [97, 110, 100], [111, 114]]
def zTxR : List (String × Nat × String × Nat) := [("SandRails$Reader", 97, "lift", 0), ("SandRails$Reader", 103, "lay", 1), ("SandRails$Reader", 105, "go", 2), ("SandRails$Reader", 107, "back", 3), ("SandRails$Reader", 109, "fill", 4), ("SandRails$Reader", 111, "dig", 5), ("SandRails$Reader", 113, "rest", 6), ("SandRails$Reader", 115, "again", 7), ("SandRails$Reader", 117, "if", 8), ("SandRails$Reader", 119, "while", 9), ("SandRails$Reader", 124, "north", 10), ("SandRails$Reader", 126, "east", 11), ("SandRails$Reader", 128, "south", 12), ("SandRails$Reader", 130, "west", 13), ("SandRails$Reader", 159, "not", 14), ("SandRails$Reader", 164, "buried", 15), ("SandRails$Reader", 172, "water", 16), ("SandRails$Reader", 174, "wood", 17), ("SandRails$Reader", 176, "plates", 18), ("SandRails$Reader", 178, "carried", 19), ("SandRails$Reader", 180, "ahead", 20), ("SandRails$Reader", 182, "behind", 21), ("SandRails$Reader", 184, "hour", 22), ("SandRails$Reader", 186, "day", 23), ("SandRails$Reader", 157, "and", 24), ("SandRails$Reader", 152, "or", 25), ("SandRailsModel", 193, "lift", 0), ("SandRailsModel", 195, "go", 2), ("SandRailsModel", 197, "back", 3), ("SandRailsModel", 199, "fill", 4), ("SandRailsModel", 201, "dig", 5), ("SandRailsModel", 203, "again", 7), ("SandRailsModel", 208, "if", 8), ("SandRailsModel", 149, "not", 14), ("SandRailsModel", 160, "buried", 15), ("SandRailsModel", 127, "water", 16), ("SandRailsModel", 129, "wood", 17), ("SandRailsModel", 131, "plates", 18), ("SandRailsModel", 133, "carried", 19), ("SandRailsModel", 135, "ahead", 20), ("SandRailsModel", 137, "behind", 21), ("SandRailsModel", 139, "hour", 22), ("SandRailsModel", 141, "day", 23), ("SandRailsModel", 168, "and", 24), ("SandRailsModel", 173, "or", 25), ("SandRailsModel", 214, "while", 9), ("SandRailsModel", 216, "rest", 6), ("SandRailsModel", 217, "lay", 1), ("SandRailsModel", 175, "north", 10), ("SandRailsModel", 177, "east", 11), ("SandRailsModel", 179, "south", 12), ("SandRailsModel", 181, "west", 13)]
def zGl (D : va_G) (cs : Nat → ClassId) (sa sv : Nat → Nat) (A : Nat → Prop) (U : State) : Prop :=
  va_K D zCl (zTys cs) U ∧ (∀ w ∈ lw_tbl, zIsN w = true → va_Nw w U) ∧
  (∀ (j : Nat) (n : String) (vs : List Int), zStN[j]? = some n → zStV[j]? = some vs → va_Z "SandRails" n "[I" (.ref (sa j)) A U U.heap ∧ va_T .int (sa j) vs.length (fun i => .int (Int32.ofInt (vs.getD i 0))) A U U.heap) ∧
  vk_S zTx.length (zTx.map List.length) (zTx.map (·.map Int32.ofInt)) (fun i => sa (3 + i)) sv A U U.heap ∧ (∀ q ∈ zTxR, vk_R q.1 q.2.1 q.2.2.1 (sa (3 + q.2.2.2)) U) ∧ va_Z "java/lang/String" "COMPACT_STRINGS" "Z" (.int 1) A U U.heap ∧ (∃ v : Value, v.category = 1 ∧ va_Z "jdk/internal/util/Preconditions" "SIOOBE_FORMATTER" "Ljava/util/function/BiFunction;" v A U U.heap) ∧ ∀ i, i < zTx.length → sa (30 + i) = sv i
def zA (Λ : List zC) (ad : Nat → Nat) (sz : Nat) : Nat → Prop := fun q => (∃ id, id < Λ.length ∧ q = ad id) ∨ sz ≤ q
theorem vk_S_narrow {N : Nat} {len : List Nat} {byt : List (List Int32)} {adK adV : Nat → Nat} {A B : Nat → Prop} {U : State} {H : Heap} (h : vk_S N len byt adK adV A U H) (hAB : ∀ q, B q → A q) : vk_S N len byt adK adV B U H :=
  ⟨fun i hi => ⟨va_O.narrow (h.1 i hi).1 hAB, va_OF.narrow (h.1 i hi).2.1 hAB, va_OF.narrow (h.1 i hi).2.2.1 hAB, va_T.narrow (h.1 i hi).2.2.2 hAB⟩, h.2⟩
theorem zNw_warm {w : Cond} (hw : zIsN w = true) {s U : State} (hW : s.WarmedH U.vm) (h : va_Nw w s) : va_Nw w U := by
  cases w <;> simp only [zIsN] at hw <;> first | exact va_Nw.warmF hW h | exact va_Nw.warmM hW h | (cases hw)
theorem zNw_same {w : Cond} (hw : zIsN w = true) {s U : State} (hv : s.vm = U.vm) (h : va_Nw w s) : va_Nw w U := by
  cases w <;> simp only [zIsN] at hw <;> first | exact va_tabs rfl hv h | (cases hw)
/-- into a callee -/
theorem zGl_call {D : va_G} {cs : Nat → ClassId} {sa sv : Nat → Nat} {A B : Nat → Prop} {s U : State} {locs : List Loc} (h : zGl D cs sa sv A s) (hS : va_S A s.heap U.heap locs) (hAB : ∀ q, B q → A q) (hW : s.WarmedH U.vm) : zGl D cs sa sv B U := by
  obtain ⟨h1, h2, h3, h4, h5, h6, h7, h8⟩ := h
  have hk : ∀ a : Nat, a < s.heap.size → ¬ A a → U.heap[a]? = s.heap[a]? := hS.2.1
  refine ⟨va_K.moved hW.alike h1, fun w hw hn => zNw_warm hn hW (h2 w hw hn), fun j n vs hn hv => ⟨?_, ?_⟩, ?_, fun q hq => vk_R.warm hW (h5 q hq), ?_, ?_, h8⟩
  · exact va_Z.narrow (va_Z.kept (va_Z.moved hW.alike (h3 j n vs hn hv).1) hk) hAB
  · exact va_T.narrow (va_T.kept (va_T.moved hW.alike (h3 j n vs hn hv).2) hk) hAB
  · exact vk_S_narrow (vk_S.kept (vk_S.moved hW.alike h4) hk) hAB
  · exact va_Z.narrow (va_Z.kept (va_Z.moved hW.alike h6) hk) hAB
  · obtain ⟨v, hv, g7⟩ := h7
    exact ⟨v, hv, va_Z.narrow (va_Z.kept (va_Z.moved hW.alike g7) hk) hAB⟩
theorem zGl_same {D : va_G} {cs : Nat → ClassId} {sa sv : Nat → Nat} {A : Nat → Prop} {s U : State} (h : zGl D cs sa sv A s) (hv : s.vm = U.vm) (hh : U.heap = s.heap) : zGl D cs sa sv A U := by
  obtain ⟨h1, h2, h3, h4, h5, h6, h7, h8⟩ := h
  have hal : s.vm.Alike U.vm := by rw [← hv]; exact Vm.Alike.refl s.vm
  refine ⟨va_K.moved hal h1, fun w hw hn => zNw_same hn hv (h2 w hw hn), fun j n vs hn hvs => ⟨?_, ?_⟩, ?_, fun q hq => vk_R.same hv.symm (h5 q hq), ?_, ?_, h8⟩
  · rw [hh]; exact va_Z.moved hal (h3 j n vs hn hvs).1
  · rw [hh]; exact va_T.moved hal (h3 j n vs hn hvs).2
  · rw [hh]; exact vk_S.moved hal h4
  · rw [hh]; exact va_Z.moved hal h6
  · obtain ⟨v, hv, g7⟩ := h7
    rw [hh]; exact ⟨v, hv, va_Z.moved hal g7⟩
/-- a method's start and end -/
def zRm (lv : Nat) : Room := { frames := lv + 2, cells := 0, slots := 0, locals := 40 * lv + 100 }
def zPre (Λ : List zC) (D : va_G) (ad sa sv : Nat → Nat) (cs : Nat → ClassId) (sz : Nat) (vs : List zV) (mem : zM) : Array Value → State → Prop :=
  va_Pc (vs.map (zE ad sa)) (fun U => U.heap.size = sz ∧ zGl D cs sa sv (zA Λ ad sz) U ∧ va_P D zCl (zWd Λ ad cs mem) U.heap ∧ va_D (zA Λ ad sz) (zWd Λ ad cs mem))
/-- kinds of answers: 0 int, 4 boolean, 1 long, 9 none -/
def zQ (rt : Nat) (Λ : List zC) (D : va_G) (ad : Nat → Nat) (cs : Nat → ClassId) (sz : Nat) (post : Int → zM → Prop) : Array Value → State → Outcome → State → Prop :=
  if rt = 1 then va_Ql (S := zM) (fun r mem => post r.toInt mem ∧ zokM Λ mem) (fun mem t => va_P D zCl (zWd Λ ad cs mem) t.heap) (zA Λ ad sz)
  else if rt = 9 then va_Qv (S := zM) (fun mem => post 0 mem ∧ zokM Λ mem) (fun mem t => va_P D zCl (zWd Λ ad cs mem) t.heap) (zA Λ ad sz)
  else va_Qi (S := zM) (fun r mem => post r.toInt mem ∧ zokM Λ mem) (fun mem t => va_P D zCl (zWd Λ ad cs mem) t.heap) (zA Λ ad sz)
def zMet (l : Launch) (Λ : List zC) (y : MethodName) (code : ByteArray) (maxL : Nat) (ret : Option FieldType) (lv : Nat) (tags : List Nat) (rt : Nat) (pre : List Int → zM → Prop) (post : List Int → zM → Int → zM → Prop) : Prop :=
  ∀ (D : va_G) (ad sa sv : Nat → Nat) (cs : Nat → ClassId) (sz : Nat) (vs : List Int) (mem : zM), vs.length = tags.length → (∀ v ∈ tags.zip vs, zok v) → zokM Λ mem → pre vs mem →
    Met l y (.code y code maxL ret :: zTbl) (zRm lv) (zPre Λ D ad sa sv cs sz (tags.zip vs) mem) (zQ rt Λ D ad cs sz (post vs mem)) 0 0 (zA Λ ad sz)
def zres (rt : Nat) (r : Int) (rest : List zV) : List zV := if rt = 1 then (1, r) :: rest else if rt = 9 then rest else (0, r) :: rest
def zrt (rt : Nat) (r : Int) : Prop := if rt = 1 then zR64 r else if rt = 9 then r = 0 else zR32 r
def zcats (st : List zV) : Nat := (st.map fun v => if v.1 = 1 then 2 else 1).sum
theorem zcats_E {ad sa : Nat → Nat} (st : List zV) : ((st.map (zE ad sa)).map fun v => v.category).sum = zcats st := by
  unfold zcats
  rw [List.map_map]
  congr 1
  exact List.map_congr_left (fun v _ => zE_cat ad sa v)
theorem zWd_D {Λ : List zC} {ad : Nat → Nat} {cs : Nat → ClassId} {A : Nat → Prop} {mem mem' : zM} (h : va_D A (zWd Λ ad cs mem)) : va_D A (zWd Λ ad cs mem') := by
  have key : ∀ (k : Nat) (q : Nat × va_E), (zWd Λ ad cs mem')[k]? = some q → ∃ e', (zWd Λ ad cs mem)[k]? = some (q.1, e') := by
    intro k q hq
    obtain ⟨h1, h2⟩ := zWd_addr hq
    obtain ⟨κ, hκ⟩ : ∃ κ, Λ[k]? = some κ := ⟨Λ[k], List.getElem?_eq_getElem h1⟩
    exact ⟨_, by rw [zWd_get hκ, h2]⟩
  refine ⟨fun i j x y hi hj hxy => ?_, fun k q hk => ?_⟩
  · obtain ⟨e1, g1⟩ := key i x hi
    obtain ⟨e2, g2⟩ := key j y hj
    exact h.1 i j _ _ g1 g2 hxy
  · obtain ⟨e1, g1⟩ := key k q hk
    exact h.2 k (q.1, e1) g1
section ZU
variable {p : Program} {l : Launch} {e : Env} {R : Room} {s : State} {m : MethodId} {args : Array Value} {below : List Frame} {meth : Method} {c : Code} {cells slots : Nat} {Q : State → Prop} {cc : ByteArray} {nL : Nat} {own : String} {Λ : List zC} {D : va_G} {ad sa sv : Nat → Nat} {cs : Nat → ClassId} {A : Nat → Prop} {pc : Nat} {ls : zL} {st : List zV} {mem : zM}
/-- a call's end, out of its run -/
theorem zcall_end {rt : Nat} {post : Int → zM → Prop} {rest : List zV} {L : Array Slot} {H : Heap} {locs : List Loc} {st0 : List Value} {av : Array Value}
    (hm : zokM Λ mem) (hl : ∀ k, zok (ls k)) (hs : ∀ w ∈ rest, zok w) (hP : va_P D zCl (zWd Λ ad cs mem) H) (hD : va_D A (zWd Λ ad cs mem)) (hL : zLs ad sa nL ls L) (hS : va_S A s.heap H locs) (hA : ∀ q, zA Λ ad H.size q → A q)
    (hr : va_Run p l e R s m args below meth c H locs cells slots 0 0 (F0 m pc L st0) (rest.map (zE ad sa)) (zQ rt Λ D ad cs H.size post av) (zA Λ ad H.size))
    (kk : ∀ (r : Int) (mem' : zM), zrt rt r → zokM Λ mem' → post r mem' → zAW p l e R s m args below meth c cells slots Q nL Λ D ad sa cs A  (pc + 3) ls (zres rt r rest) mem') : W p l e R s m args below meth c  H locs cells slots Q (F0 m pc L st0) := by
  unfold zQ at hr
  by_cases h1 : rt = 1
  · rw [if_pos h1] at hr
    refine va_calll hr hS (fun q _ h => hA q h) hA (fun r mem' t H1 locs1 ht _ hp hB _ _ hS1 => ?_)
    have h := kk r.toInt mem' (by rw [zrt, if_pos h1]; exact zl_rng r) hp.2 hp.1
    unfold zres at h
    rw [if_pos h1] at h
    have g := h hp.2 (zcons (zok_l r) hs) hl H1 locs1 L (by rw [← ht]; exact hB) (zWd_D hD) hL hS1
    rw [List.map_cons, zE_l] at g
    exact g
  · rw [if_neg h1] at hr
    by_cases h9 : rt = 9
    · rw [if_pos h9] at hr
      refine va_callv hr hS (fun q _ h => hA q h) hA (fun mem' t H1 locs1 ht _ hp hB _ _ hS1 => ?_)
      have h := kk 0 mem' (by rw [zrt, if_neg h1, if_pos h9]) hp.2 hp.1
      unfold zres at h
      rw [if_neg h1, if_pos h9] at h
      exact h hp.2 hs hl H1 locs1 L (by rw [← ht]; exact hB) (zWd_D hD) hL hS1
    · rw [if_neg h9] at hr
      refine va_calli hr hS (fun q _ h => hA q h) hA (fun r mem' t H1 locs1 ht _ hp hB _ _ hS1 => ?_)
      have h := kk r.toInt mem' (by rw [zrt, if_neg h1, if_neg h9]; exact zi_rng r) hp.2 hp.1
      unfold zres at h
      rw [if_neg h1, if_neg h9] at h
      have g := h hp.2 (zcons (zok_i r) hs) hl H1 locs1 L (by rw [← ht]; exact hB) (zWd_D hD) hL hS1
      rw [List.map_cons, zE_i] at g
      exact g
theorem zwords {y : MethodName} {code : ByteArray} {maxL : Nat} {ret : Option FieldType} (hts : ∀ w ∈ zTbl, w.before args s = true) (hc : Cond.code y code maxL ret ∈ zTbl) : ∀ w ∈ Cond.code y code maxL ret :: zTbl, ∀ (a' : Array Value) (U : State), s.WarmedH U.vm → w.before a' U = true := by
  intro w hw a' U hW
  have hw' : w ∈ zTbl := by rcases List.mem_cons.mp hw with r | r; rw [r]; exact hc; exact r
  exact word_at hW (good_of_word (List.mem_filter.mp hw').2) (hts w hw')
/-- the callee's start, at the caller's state -/
theorem zPre_at {H : Heap} {locs : List Loc} {vs : List zV} {U : State} (hG : zGl D cs sa sv A s) (hP : va_P D zCl (zWd Λ ad cs mem) H) (hD : va_D A (zWd Λ ad cs mem)) (hS : va_S A s.heap H locs) (hA : ∀ q, zA Λ ad H.size q → A q) (hU : U.heap = H) (hW : s.WarmedH U.vm) : zPre Λ D ad sa sv cs H.size vs mem (vs.map (zE ad sa)).toArray U := by
  refine ⟨rfl, by rw [hU], zGl_call hG (by rw [hU]; exact hS) hA hW, by rw [hU]; exact hP, hD.weaken (fun k q hk _ => ?_)⟩
  obtain ⟨h1, h2⟩ := zWd_addr hk
  exact Or.inl ⟨k, h1, h2⟩
theorem zPre_blind {sz : Nat} {vs : List zV} : FrameBlind (zPre Λ D ad sa sv cs sz vs mem) := by
  intro a U g mk h
  obtain ⟨h1, h2, h3, h4, h5⟩ := h
  exact ⟨h1, h2, zGl_same (U := U.calling g mk a) h3 rfl rfl, h4, h5⟩
theorem zA_sub {H : Heap} {locs : List Loc} (hD : va_D A (zWd Λ ad cs mem)) (hS : va_S A s.heap H locs) (hA : ∀ q, s.heap.size ≤ q → A q) : ∀ q, zA Λ ad H.size q → A q := by
  intro q h
  rcases h with ⟨id, h1, h2⟩ | h
  · obtain ⟨κ, hκ⟩ : ∃ κ, Λ[id]? = some κ := ⟨Λ[id], List.getElem?_eq_getElem h1⟩
    rw [h2]
    exact hD.2 id _ (zWd_get hκ)
  · exact hA q (Nat.le_trans hS.1 h)
/-- what a call wants of the caller -/
def zCOK (p : Program) (l : Launch) (e : Env) (R : Room) (s : State) (m : MethodId) (args : Array Value) (below : List Frame) (meth : Method) (c : Code) (cells slots : Nat) (nL : Nat) (Λ : List zC) (D : va_G) (ad sa : Nat → Nat) (cs : Nat → ClassId) (A : Nat → Prop) (cc : ByteArray) (i : Instr) (tags : List Nat) (rt : Nat) (pre : List Int → zM → Prop) (post : List Int → zM → Int → zM → Prop) : Prop :=
  ∀ (Q : State → Prop) (pc : Nat) (ls : zL) (vs : List Int) (rest : List zV) (mem : zM), decode cc pc = .ok (i, 3) → vs.length = tags.length → pre vs mem → zcats rest ≤ 8 →
    (∀ (r : Int) (mem' : zM), zrt rt r → zokM Λ mem' → post vs mem r mem' → zAW p l e R s m args below meth c cells slots Q nL Λ D ad sa cs A  (pc + 3) ls (zres rt r rest) mem') → zAW p l e R s m args below meth c cells slots Q nL Λ D ad sa cs A  pc ls ((tags.zip vs).reverse ++ rest) mem
theorem zrev {vs rest : List zV} (hs : ∀ w ∈ vs.reverse ++ rest, zok w) : (∀ w ∈ vs, zok w) ∧ ∀ w ∈ rest, zok w :=
  ⟨fun w hw => hs w (List.mem_append_left _ (List.mem_reverse.mpr hw)), fun w hw => hs w (List.mem_append_right _ hw)⟩
theorem zparams {y : MethodName} {n : Nat} (h : (parseMethodDescriptor y.desc).map (fun d => d.parameters.length) = some n) : ∀ sig, parseMethodDescriptor y.desc = some sig → n = sig.parameters.length := by
  intro sig hs
  rw [hs] at h
  exact (Option.some.inj h).symm
/-- facts of a callee's name that a program decides -/
def zNm (y : MethodName) (n : Nat) : Prop := (y.cls ≠ "java/lang/invoke/MethodHandle" ∧ y.cls ≠ "java/lang/invoke/VarHandle") ∧ (parseMethodDescriptor y.desc).map (fun d => d.parameters.length) = some n
theorem zcall_V {y : MethodName} {code : ByteArray} {maxL lv rt idx ci : Nat} {ret : Option FieldType} {tags : List Nat} {pre : List Int → zM → Prop} {post : List Int → zM → Int → zM → Prop} {q : vw_C}
    (S : CallFix p m c cc nL s args zTbl own) (hG : zGl D cs sa sv A s) (hA : ∀ q, s.heap.size ≤ q → A q) (hM : zMet l Λ y code maxL ret lv (2 :: tags) rt pre post) (hnm : zNm y tags.length) (hcode : Cond.code y code maxL ret ∈ zTbl) (hini : Cond.initialized y.cls ∈ zTbl) (hin : Cond.instanceMethod y ∈ zTbl) (hsel : Cond.selects y.cls y y ∈ zTbl)
    (hlk : Cond.methodLink own idx y ∈ zTbl ∨ ∃ host, Cond.methodLinkNest own idx y host ∈ lw_tbl) (hq : zCl[ci]? = some q) (hqn : q.1 = y.cls) (hrc : ∀ vs mem, pre vs mem → ∃ (a : Int) (tl : List Int) (fs : List (Nat × Nat)), vs = a :: tl ∧ Λ[a.toNat]? = some (0, ci, fs))
    (hR : lv + 2 + 1 ≤ R.frames ∧ 8 + (maxL + 11) + (40 * lv + 100) ≤ R.locals) (hf : cells ≤ R.cells ∧ slots ≤ R.slots) : zCOK p l e R s m args below meth c cells slots nL Λ D ad sa cs A cc (.invokevirtual idx) (2 :: tags) rt pre post := by
  intro Q pc ls vs rest mem hd hlen hpre hcat kk
  obtain ⟨a, tl, fs, rfl, hΛ⟩ := hrc vs mem hpre
  intro hm hs hl H locs L hP hD hL hS
  obtain ⟨hsv, hsr⟩ := zrev hs
  have hAs := zA_sub (s := s) hD hS hA
  have hM' := hM D ad sa sv cs H.size (a :: tl) mem hlen hsv hm hpre
  have hrecv := va_recv (s := s) hG.1 hP hq (zWd_get (ad := ad) (cs := cs) (mem := mem) hΛ)
  rw [hqn] at hrecv
  have hlt : tl.length = tags.length := Nat.succ.inj hlen
  have hn : ((tags.zip tl).map (zE ad sa)).length = tags.length := by rw [List.length_map, List.length_zip, hlt, Nat.min_self]
  have hst : ((((2 :: tags).zip (a :: tl)).reverse ++ rest).map (zE ad sa)) = ((tags.zip tl).map (zE ad sa)).reverse ++ .ref (ad a.toNat) :: rest.map (zE ad sa) := by
    rw [List.zip_cons_cons, List.reverse_cons, List.append_assoc, List.map_append, List.map_reverse]
    rfl
  have hp : PreV s H y.cls (ad a.toNat) (zPre Λ D ad sa sv cs H.size ((2 :: tags).zip (a :: tl)) mem) ((tags.zip tl).map (zE ad sa)) :=
    ⟨zPre_blind, hrecv, fun U hU hW => zPre_at (vs := (2 :: tags).zip (a :: tl)) hG hP hD hS hAs hU hW⟩
  have hcw : 2 * (F0 m pc L ((((2 :: tags).zip (a :: tl)).reverse ++ rest).map (zE ad sa))).monitorRoom + ((rest.map (zE ad sa)).map fun v => v.category).sum ≤ 8 := lv_room (by rw [zcats_E]; exact hcat)
  obtain ⟨hx, hb, hml, hown, hts⟩ := id S
  refine zcall_end (rt := rt) (post := post (a :: tl) mem) hm hl hsr hP hD hL hS hAs (av := (Value.ref (ad a.toNat) :: (tags.zip tl).map (zE ad sa)).toArray) ?_ kk
  rcases hlk with hlk | ⟨host, hlk⟩
  · exact va_runV S hM' (C := y.cls) ⟨⟨rfl, rfl, hR.1, hR.2, zwords hts hcode, List.mem_cons_self, hts _ hcode, hts _ hini, hnm.1, zparams hnm.2, hts _ hlk⟩, hts _ hin, hts _ hsel⟩ hp rfl hn hL.1 hst hcw hd hf
  · exact va_runVN S hM' (C := y.cls) (host := host) ⟨⟨⟨rfl, rfl, hR.1, hR.2, zwords hts hcode, List.mem_cons_self⟩, hts _ hcode, hts _ hini, hnm.1, zparams hnm.2, va_Nw.use rfl (hG.2.1 _ hlk rfl)⟩, hts _ hin, hts _ hsel⟩ hp rfl hn hL.1 hst hcw hd hf
theorem zcall_S {y : MethodName} {code : ByteArray} {maxL lv rt idx : Nat} {ret : Option FieldType} {tags : List Nat} {pre : List Int → zM → Prop} {post : List Int → zM → Int → zM → Prop}
    (S : CallFix p m c cc nL s args zTbl own) (hG : zGl D cs sa sv A s) (hA : ∀ q, s.heap.size ≤ q → A q) (hM : zMet l Λ y code maxL ret lv tags rt pre post) (hnm : zNm y tags.length) (hcode : Cond.code y code maxL ret ∈ zTbl) (hini : Cond.initialized y.cls ∈ zTbl) (hst : Cond.static y ∈ zTbl)
    (hlk : Cond.methodLink own idx y ∈ zTbl ∨ ∃ host, Cond.methodLinkNest own idx y host ∈ lw_tbl)
    (hR : lv + 2 + 1 ≤ R.frames ∧ 8 + (maxL + 11) + (40 * lv + 100) ≤ R.locals) (hf : cells ≤ R.cells ∧ slots ≤ R.slots) : zCOK p l e R s m args below meth c cells slots nL Λ D ad sa cs A cc (.invokestatic idx) tags rt pre post := by
  intro Q pc ls vs rest mem hd hlen hpre hcat kk
  intro hm hs hl H locs L hP hD hL hS
  obtain ⟨hsv, hsr⟩ := zrev hs
  have hAs := zA_sub (s := s) hD hS hA
  have hM' := hM D ad sa sv cs H.size vs mem hlen hsv hm hpre
  have hn : ((tags.zip vs).map (zE ad sa)).length = tags.length := by rw [List.length_map, List.length_zip, hlen, Nat.min_self]
  have hstk : (((tags.zip vs).reverse ++ rest).map (zE ad sa)) = ((tags.zip vs).map (zE ad sa)).reverse ++ rest.map (zE ad sa) := by
    rw [List.map_append, List.map_reverse]
  have hp : PreS s H (zPre Λ D ad sa sv cs H.size (tags.zip vs) mem) ((tags.zip vs).map (zE ad sa)) :=
    ⟨zPre_blind, fun U hU hW => zPre_at hG hP hD hS hAs hU hW⟩
  have hcw : 2 * (F0 m pc L (((tags.zip vs).reverse ++ rest).map (zE ad sa))).monitorRoom + ((rest.map (zE ad sa)).map fun v => v.category).sum ≤ 8 := lv_room (by rw [zcats_E]; exact hcat)
  obtain ⟨hx, hb, hml, hown, hts⟩ := id S
  refine zcall_end (rt := rt) (post := post vs mem) hm hl hsr hP hD hL hS hAs (av := ((tags.zip vs).map (zE ad sa)).toArray) ?_ kk
  rcases hlk with hlk | ⟨host, hlk⟩
  · exact va_runS S hM' ⟨⟨rfl, rfl, hR.1, hR.2, zwords hts hcode, List.mem_cons_self, hts _ hcode, hts _ hini, hnm.1, zparams hnm.2, hts _ hlk⟩, hts _ hst⟩ hp rfl hn hL.1 hstk hcw hd hf
  · exact va_runSN S hM' (host := host) ⟨⟨⟨rfl, rfl, hR.1, hR.2, zwords hts hcode, List.mem_cons_self⟩, hts _ hcode, hts _ hini, hnm.1, zparams hnm.2, va_Nw.use rfl (hG.2.1 _ hlk rfl)⟩, hts _ hst, trivial⟩ hp rfl hn hL.1 hstk hcw hd hf
end ZU
end
section
/-! ===== what must hold ahead of a stretch of code ===== -/
abbrev zCt : Type := List Nat × Nat × (List Int → zM → Prop) × (List Int → zM → Int → zM → Prop)
abbrev zPo : Type := Nat → Option (Nat × Nat × Nat × Int)
abbrev zJ : Type := Nat → zL → List zV → zM → Prop
def zp1 (t : Nat) (st : List zV) (f : Int → List zV → Prop) : Prop := match st with
  | [] => False
  | a :: r => a.1 = t ∧ f a.2 r
def zpv (st : List zV) (f : zV → List zV → Prop) : Prop := match st with
  | [] => False
  | a :: r => f a r
def zarr (Λ : List zC) (kd : Nat) (a : Int) (f : Nat → List (Nat × Nat) → Prop) : Prop := match Λ[a.toNat]? with
  | none => False
  | some κ => κ.1 = kd ∧ f κ.2.1 κ.2.2
def zob (Λ : List zC) (a : Int) (ci f : Nat) (F : Nat × Nat → Prop) : Prop := match Λ[a.toNat]? with
  | none => False
  | some κ => κ.1 = 0 ∧ κ.2.1 = ci ∧ match κ.2.2[f]? with
    | none => False
    | some t => F t
def zpl (pl : zPo) (k kd : Nat) (F : Nat → Nat → Int → Prop) : Prop := match pl k with
  | none => False
  | some q => q.1 = kd ∧ F q.2.1 q.2.2.1 q.2.2.2
def ztg (pc : Nat) (off : Int) (J : Nat → Prop) : Prop := 0 ≤ (pc : Int) + off ∧ J ((pc : Int) + off).toNat
def zswT (pc : Nat) (J : Nat → Prop) (x : Int) : Int → List Int → Prop
  | _, [] => True
  | k, o :: r => (x = k → ztg pc o J) ∧ zswT pc J x (k + 1) r
def zswL (pc : Nat) (J : Nat → Prop) (x d : Int) : List (Int × Int) → Prop
  | [] => ztg pc d J
  | q :: r => (x = q.1 → ztg pc q.2 J) ∧ (¬ x = q.1 → zswL pc J x d r)
def zaa (K : Nat → Prop) (i : Int) : Int → List (Nat × Nat) → Prop
  | _, [] => True
  | k, t :: r => (i = k → K t.2) ∧ zaa K i (k + 1) r
def zinv (Λ : List zC) (ct : Option zCt) (st : List zV) (mem : zM) (K : List zV → zM → Prop) : Prop := match ct with
  | none => False
  | some q => (st.take q.1.length).map (·.1) = q.1.reverse ∧ zcats (st.drop q.1.length) ≤ 8 ∧ q.2.2.1 ((st.take q.1.length).map (·.2)).reverse mem ∧
      ∀ (r : Int) (mem' : zM), zrt q.2.1 r → zokM Λ mem' → q.2.2.2 ((st.take q.1.length).map (·.2)).reverse mem r mem' → K (zres q.2.1 r (st.drop q.1.length)) mem'
/-- one instruction -/
def zwI (Λ : List zC) (pl : zPo) (cv cS : Nat → Option zCt) (rt : Nat) (RP : Int → zM → Prop) (thr : Nat → Option Nat) (XP : Nat → zM → Prop) (nL : Nat) (i : Instr) (n pc : Nat) (ls : zL) (st : List zV) (mem : zM) (J : zJ) (K : zL → List zV → zM → Prop) : Prop := match i with
  | .iconst x => n = 1 ∧ (-1 ≤ x ∧ x ≤ 5) ∧ K ls ((0, x) :: st) mem
  | .bipush x => n = 2 ∧ (-128 ≤ x ∧ x ≤ 127) ∧ K ls ((0, x) :: st) mem
  | .sipush x => n = 3 ∧ (-32768 ≤ x ∧ x ≤ 32767) ∧ K ls ((0, x) :: st) mem
  | .lconst x => n = 1 ∧ K ls ((1, ((x : Nat) : Int)) :: st) mem
  | .ldc k => n = 2 ∧ (zpl pl k 1 (fun _ _ z => K ls ((0, z) :: st) mem) ∨ zpl pl k 3 (fun x _ _ => K ls ((3, ((3 + x : Nat) : Int)) :: st) mem))
  | .ldc_w k => n = 3 ∧ zpl pl k 1 (fun _ _ z => K ls ((0, z) :: st) mem)
  | .ldc2_w k => n = 3 ∧ zpl pl k 2 (fun _ _ z => K ls ((1, z) :: st) mem)
  | .getstatic k => n = 3 ∧ zpl pl k 4 (fun x _ _ => K ls ((3, (x : Int)) :: st) mem)
  | .iload_n k => n = 1 ∧ (ls k.val).1 = 0 ∧ K ls (ls k.val :: st) mem
  | .iload k => n = 2 ∧ (ls k).1 = 0 ∧ K ls (ls k :: st) mem
  | .lload_n k => n = 1 ∧ (ls k.val).1 = 1 ∧ K ls (ls k.val :: st) mem
  | .lload k => n = 2 ∧ (ls k).1 = 1 ∧ K ls (ls k :: st) mem
  | .aload_n k => n = 1 ∧ ((ls k.val).1 = 2 ∨ (ls k.val).1 = 3) ∧ K ls (ls k.val :: st) mem
  | .aload k => n = 2 ∧ ((ls k).1 = 2 ∨ (ls k).1 = 3) ∧ K ls (ls k :: st) mem
  | .istore_n k => n = 1 ∧ k.val < nL ∧ zp1 0 st fun x r => K (zst ls k.val (0, x)) r mem
  | .istore k => n = 2 ∧ k < nL ∧ zp1 0 st fun x r => K (zst ls k (0, x)) r mem
  | .lstore_n k => n = 1 ∧ k.val + 1 < nL ∧ zp1 1 st fun x r => K (zst2 ls k.val (1, x)) r mem
  | .lstore k => n = 2 ∧ k + 1 < nL ∧ zp1 1 st fun x r => K (zst2 ls k (1, x)) r mem
  | .astore_n k => n = 1 ∧ k.val < nL ∧ zpv st fun v r => (v.1 = 2 ∨ v.1 = 3) ∧ K (zst ls k.val v) r mem
  | .astore k => n = 2 ∧ k < nL ∧ zpv st fun v r => (v.1 = 2 ∨ v.1 = 3) ∧ K (zst ls k v) r mem
  | .iinc k x => n = 3 ∧ k < nL ∧ (ls k).1 = 0 ∧ K (zst ls k (0, zAdd (ls k).2 x)) st mem
  | .iadd => n = 1 ∧ zp1 0 st fun y r => zp1 0 r fun x r => K ls ((0, zAdd x y) :: r) mem
  | .isub => n = 1 ∧ zp1 0 st fun y r => zp1 0 r fun x r => K ls ((0, zSub x y) :: r) mem
  | .imul => n = 1 ∧ zp1 0 st fun y r => zp1 0 r fun x r => K ls ((0, zMul x y) :: r) mem
  | .idiv => n = 1 ∧ zp1 0 st fun y r => zp1 0 r fun x r => ¬ y = 0 ∧ K ls ((0, zDiv x y) :: r) mem
  | .irem => n = 1 ∧ zp1 0 st fun y r => zp1 0 r fun x r => ¬ y = 0 ∧ K ls ((0, zRem x y) :: r) mem
  | .iand => n = 1 ∧ zp1 0 st fun y r => zp1 0 r fun x r => K ls ((0, zAnd x y) :: r) mem
  | .ior => n = 1 ∧ zp1 0 st fun y r => zp1 0 r fun x r => K ls ((0, zOr x y) :: r) mem
  | .ixor => n = 1 ∧ zp1 0 st fun y r => zp1 0 r fun x r => K ls ((0, zXor x y) :: r) mem
  | .ishl => n = 1 ∧ zp1 0 st fun y r => zp1 0 r fun x r => K ls ((0, zShl x y) :: r) mem
  | .ishr => n = 1 ∧ zp1 0 st fun y r => zp1 0 r fun x r => K ls ((0, zShr x y) :: r) mem
  | .iushr => n = 1 ∧ zp1 0 st fun y r => zp1 0 r fun x r => K ls ((0, zUsh x y) :: r) mem
  | .ineg => n = 1 ∧ zp1 0 st fun x r => K ls ((0, zNeg x) :: r) mem
  | .i2b => n = 1 ∧ zp1 0 st fun x r => K ls ((0, zI2b x) :: r) mem
  | .i2l => n = 1 ∧ zp1 0 st fun x r => K ls ((1, x) :: r) mem
  | .l2i => n = 1 ∧ zp1 1 st fun x r => K ls ((0, zL2i x) :: r) mem
  | .ladd => n = 1 ∧ zp1 1 st fun y r => zp1 1 r fun x r => K ls ((1, zLAdd x y) :: r) mem
  | .lmul => n = 1 ∧ zp1 1 st fun y r => zp1 1 r fun x r => K ls ((1, zLMul x y) :: r) mem
  | .ldiv => n = 1 ∧ zp1 1 st fun y r => zp1 1 r fun x r => ¬ y = 0 ∧ K ls ((1, zLDiv x y) :: r) mem
  | .lrem => n = 1 ∧ zp1 1 st fun y r => zp1 1 r fun x r => ¬ y = 0 ∧ K ls ((1, zLRem x y) :: r) mem
  | .lcmp => n = 1 ∧ zp1 1 st fun y r => zp1 1 r fun x r => K ls ((0, zLcmp x y) :: r) mem
  | .dup => n = 1 ∧ zpv st fun v r => v.1 ≠ 1 ∧ K ls (v :: v :: r) mem
  | .pop => n = 1 ∧ zpv st fun v r => v.1 ≠ 1 ∧ K ls r mem
  | .dup2 => n = 1 ∧ zpv st fun v r => v.1 ≠ 1 ∧ zpv r fun w r => w.1 ≠ 1 ∧ K ls (v :: w :: v :: w :: r) mem
  | .ifCond c o => n = 3 ∧ 0 ≤ (pc : Int) + o ∧ zp1 0 st fun x r => (zCmp c x 0 → J ((pc : Int) + o).toNat ls r mem) ∧ (¬ zCmp c x 0 → K ls r mem)
  | .if_icmp c o => n = 3 ∧ 0 ≤ (pc : Int) + o ∧ zp1 0 st fun y r => zp1 0 r fun x r => (zCmp c x y → J ((pc : Int) + o).toNat ls r mem) ∧ (¬ zCmp c x y → K ls r mem)
  | .goto o => n = 3 ∧ ztg pc o fun t => J t ls st mem
  | .ifnonnull o => n = 3 ∧ zpv st fun v r => (v.1 = 2 ∨ v.1 = 3) ∧ ztg pc o fun t => J t ls r mem
  | .ifnull _ => n = 3 ∧ zpv st fun v r => (v.1 = 2 ∨ v.1 = 3) ∧ K ls r mem
  | .tableswitch d lo hi offs => zp1 0 st fun x r => (offs.size : Int) = hi - lo + 1 ∧ ((x < lo ∨ hi < x) → ztg pc d fun t => J t ls r mem) ∧ zswT pc (fun t => J t ls r mem) x lo offs.toList
  | .lookupswitch d ps => zp1 0 st fun x r => (ps.toList.zip (ps.toList.drop 1)).all (fun (a, next) => a.1 < next.1) = true ∧ zswL pc (fun t => J t ls r mem) x d ps.toList
  | .getfield k => n = 3 ∧ zp1 2 st fun a r => zpl pl k 0 fun ci f _ => zob Λ a ci f fun t => (t.1 = 0 ∨ t.1 = 2 ∨ t.1 = 4) ∧ K ls (zFv t (mem a.toNat f) :: r) mem
  | .putfield k => n = 3 ∧ zp1 0 st fun v r => zp1 2 r fun a r => zpl pl k 0 fun ci f w => zob Λ a ci f fun t => (t.1 = 0 ∧ w = 1 ∨ t.1 = 4 ∧ w = 2 ∧ (v = 0 ∨ v = 1)) ∧ K ls r (zset mem a.toNat f v)
  | .iaload => n = 1 ∧ zp1 0 st fun i r => zpv r fun a r => (a.1 = 2 ∧ zarr Λ 1 a.2 fun N _ => (0 ≤ i ∧ i < N) ∧ K ls ((0, mem a.2.toNat i.toNat) :: r) mem) ∨ (a.1 = 3 ∧ match zStV[a.2.toNat]? with
      | none => False
      | some vs => (0 ≤ i ∧ i < vs.length) ∧ K ls ((0, vs.getD i.toNat 0) :: r) mem)
  | .laload => n = 1 ∧ zp1 0 st fun i r => zp1 2 r fun a r => zarr Λ 2 a fun N _ => (0 ≤ i ∧ i < N) ∧ K ls ((1, mem a.toNat i.toNat) :: r) mem
  | .baload => n = 1 ∧ zp1 0 st fun i r => zp1 2 r fun a r => (zarr Λ 3 a fun N _ => (0 ≤ i ∧ i < N) ∧ K ls ((0, mem a.toNat i.toNat) :: r) mem) ∨ (zarr Λ 4 a fun N _ => (0 ≤ i ∧ i < N) ∧ K ls ((0, mem a.toNat i.toNat) :: r) mem)
  | .aaload => n = 1 ∧ zp1 0 st fun i r => zp1 2 r fun a r => zarr Λ 5 a fun N ts => (0 ≤ i ∧ i < N ∧ ts.length = N) ∧ zaa (fun t => K ls ((2, (t : Int)) :: r) mem) i 0 ts
  | .iastore => n = 1 ∧ zp1 0 st fun v r => zp1 0 r fun i r => zp1 2 r fun a r => zarr Λ 1 a fun N _ => (0 ≤ i ∧ i < N) ∧ K ls r (zset mem a.toNat i.toNat v)
  | .lastore => n = 1 ∧ zp1 1 st fun v r => zp1 0 r fun i r => zp1 2 r fun a r => zarr Λ 2 a fun N _ => (0 ≤ i ∧ i < N) ∧ K ls r (zset mem a.toNat i.toNat v)
  | .bastore => n = 1 ∧ zp1 0 st fun v r => zp1 0 r fun i r => zp1 2 r fun a r => (zarr Λ 3 a fun N _ => (0 ≤ i ∧ i < N) ∧ (v = 0 ∨ v = 1) ∧ K ls r (zset mem a.toNat i.toNat v)) ∨ (zarr Λ 4 a fun N _ => (0 ≤ i ∧ i < N) ∧ (-128 ≤ v ∧ v ≤ 127) ∧ K ls r (zset mem a.toNat i.toNat v))
  | .arraylength => n = 1 ∧ zp1 2 st fun a r => (zarr Λ 1 a fun N _ => N ≤ 2147483647 ∧ K ls ((0, (N : Int)) :: r) mem) ∨ (zarr Λ 2 a fun N _ => N ≤ 2147483647 ∧ K ls ((0, (N : Int)) :: r) mem)
  | .invokevirtual k => n = 3 ∧ zinv Λ (cv k) st mem (K ls)
  | .invokestatic k => n = 3 ∧ (zinv Λ (cS k) st mem (K ls) ∨ zpl pl k 6 fun _ _ _ => zp1 0 st fun N r => zp1 0 r fun dp r => zp1 2 r fun b r => zp1 0 r fun sp r => zp1 2 r fun a r => r = [] ∧ zarr Λ 1 a fun na _ => zarr Λ 1 b fun nb _ => (0 ≤ sp ∧ 0 ≤ dp ∧ 0 ≤ N ∧ sp + N ≤ na ∧ dp + N ≤ nb) ∧ K ls [] (zcopy mem a.toNat sp.toNat b.toNat dp.toNat N.toNat))
  | .ireturn => n = 1 ∧ zp1 0 st fun v r => r = [] ∧ (rt = 0 ∨ rt = 4 ∧ (v = 0 ∨ v = 1)) ∧ RP v mem
  | .lreturn => n = 1 ∧ zp1 1 st fun v r => r = [] ∧ rt = 1 ∧ RP v mem
  | .return_ => n = 1 ∧ st = [] ∧ rt = 9 ∧ RP 0 mem
  | .new _ => st = [] ∧ match thr pc with
    | none => False
    | some E => XP E mem
  | _ => False
def zrun (Λ : List zC) (pl : zPo) (cv cS : Nat → Option zCt) (rt : Nat) (RP : Int → zM → Prop) (thr : Nat → Option Nat) (XP : Nat → zM → Prop) (nL : Nat) (J : zJ) : List (Instr × Nat) → zJ
  | [], pc, ls, st, mem => J pc ls st mem
  | q :: r, pc, ls, st, mem => zwI Λ pl cv cS rt RP thr XP nL q.1 q.2 pc ls st mem J (fun ls' st' mem' => zrun Λ pl cv cS rt RP thr XP nL J r (pc + q.2) ls' st' mem')
def zwp (Λ : List zC) (pl : zPo) (cv cS : Nat → Option zCt) (rt : Nat) (RP : Int → zM → Prop) (thr : Nat → Option Nat) (XP : Nat → zM → Prop) (nL : Nat) (B : Nat → List (Instr × Nat)) (X : Nat → Option (zL → List zV → zM → Prop)) : Nat → zJ
  | 0 => fun _ _ _ _ => False
  | f + 1 => fun pc ls st mem => zrun Λ pl cv cS rt RP thr XP nL (fun pc' ls' st' mem' => match X pc' with
      | some Jn => Jn ls' st' mem'
      | none => zwp Λ pl cv cS rt RP thr XP nL B X f pc' ls' st' mem') (B pc) pc ls st mem
def zdec (cc : ByteArray) : Nat → List (Instr × Nat) → Prop
  | _, [] => True
  | pc, q :: r => decode cc pc = .ok (q.1, q.2) ∧ zdec cc (pc + q.2) r
/-- what the entries of a pool say -/
def zPlok (own : String) (pl : zPo) : Prop := ∀ (k kd x y : Nat) (z : Int), pl k = some (kd, x, y, z) →
  (kd = 0 → ∃ q : vw_C, zCl[x]? = some q ∧ y < q.2.2 ∧ (q.2.1 y).1 = q.1 ∧ (Cond.fieldLink own k q.1 (q.2.1 y).2.1 (q.2.1 y).2.2.1 ∈ zTbl ∨ ∃ host, Cond.fieldLinkNest own k q.1 (q.2.1 y).2.1 (q.2.1 y).2.2.1 host ∈ lw_tbl) ∧ (z = 1 → (q.2.1 y).2.2.2 = false ∧ parseFieldDescriptor (q.2.1 y).2.2.1 = some .int) ∧ (z = 2 → (q.2.1 y).2.2.2 = false ∧ parseFieldDescriptor (q.2.1 y).2.2.1 = some .boolean)) ∧
  (kd = 1 → Cond.constant own k (Int32.ofInt z) ∈ zTbl ∧ zR32 z) ∧ (kd = 2 → Cond.constantLong own k (Int64.ofInt z) ∈ zTbl ∧ zR64 z) ∧ (kd = 3 → ∃ tx, (own, k, tx, x) ∈ zTxR) ∧
  (kd = 4 → ∃ nm, zStN[x]? = some nm ∧ (Cond.fieldLink own k "SandRails" nm "[I" ∈ zTbl ∨ ∃ host, Cond.fieldLinkNest own k "SandRails" nm "[I" host ∈ lw_tbl)) ∧ (kd = 6 → Cond.methodLink own k arraycopyName ∈ zTbl)
def zClok : Prop := ∀ (ci : Nat) (q : vw_C), zCl[ci]? = some q → (∀ w ∈ u_ws q.1 q.2.1 q.2.2, w ∈ zTbl) ∧ ∃ ty0 : Nat → FieldType, (∀ k, k < q.2.2 → parseFieldDescriptor (q.2.1 k).2.2.1 = some (ty0 k)) ∧ ∀ a, a < q.2.2 → ∀ b, b < q.2.2 → a ≠ b → (q.2.1 a).2.1 ≠ (q.2.1 b).2.1
def zSyok : Prop := Cond.native arraycopyName ∈ zTbl ∧ Cond.static arraycopyName ∈ zTbl ∧ Cond.initialized "java/lang/System" ∈ zTbl
end
section
/-! ===== the rows together ===== -/
theorem zp1_inv {t : Nat} {st : List zV} {f : Int → List zV → Prop} (h : zp1 t st f) : ∃ x r, st = (t, x) :: r ∧ f x r := by
  cases st with
  | nil => exact h.elim
  | cons v r => obtain ⟨a, b⟩ := v; obtain ⟨h1, h2⟩ := h; dsimp only at h1; subst h1; exact ⟨b, r, rfl, h2⟩
theorem zpv_inv {st : List zV} {f : zV → List zV → Prop} (h : zpv st f) : ∃ v r, st = v :: r ∧ f v r := by
  cases st with
  | nil => exact h.elim
  | cons v r => exact ⟨v, r, rfl, h⟩
theorem zarr_inv {Λ : List zC} {kd : Nat} {a : Int} {f : Nat → List (Nat × Nat) → Prop} (h : zarr Λ kd a f) : ∃ n ts, Λ[a.toNat]? = some (kd, n, ts) ∧ f n ts := by
  unfold zarr at h
  cases hq : Λ[a.toNat]? with
  | none => rw [hq] at h; exact h.elim
  | some κ => rw [hq] at h; obtain ⟨k, n, ts⟩ := κ; obtain ⟨h1, h2⟩ := h; dsimp only at h1; subst h1; exact ⟨n, ts, rfl, h2⟩
theorem zob_inv {Λ : List zC} {a : Int} {ci f : Nat} {F : Nat × Nat → Prop} (h : zob Λ a ci f F) : ∃ fs t, Λ[a.toNat]? = some (0, ci, fs) ∧ fs[f]? = some t ∧ F t := by
  unfold zob at h
  cases hq : Λ[a.toNat]? with
  | none => rw [hq] at h; exact h.elim
  | some κ =>
    rw [hq] at h
    obtain ⟨k, n, ts⟩ := κ
    obtain ⟨h1, h2, h3⟩ := h
    dsimp only at h1 h2 h3
    subst h1; subst h2
    cases ht : ts[f]? with
    | none => rw [ht] at h3; exact h3.elim
    | some t => rw [ht] at h3; exact ⟨ts, t, rfl, ht, h3⟩
theorem zpl_inv {pl : zPo} {k kd : Nat} {F : Nat → Nat → Int → Prop} (h : zpl pl k kd F) : ∃ x y z, pl k = some (kd, x, y, z) ∧ F x y z := by
  unfold zpl at h
  cases hq : pl k with
  | none => rw [hq] at h; exact h.elim
  | some q => rw [hq] at h; obtain ⟨a, x, y, z⟩ := q; obtain ⟨h1, h2⟩ := h; dsimp only at h1; subst h1; exact ⟨x, y, z, rfl, h2⟩
theorem ztg_inv {pc : Nat} {off : Int} {J : Nat → Prop} (h : ztg pc off J) : ∃ t : Nat, (pc : Int) + off = (t : Int) ∧ J t := ⟨_, by have := h.1; omega, h.2⟩
theorem zswT_inv {pc : Nat} {J : Nat → Prop} {x : Int} : ∀ {k : Int} {os : List Int}, zswT pc J x k os → k ≤ x → x < k + os.length → ∃ (o : Int), os[(x - k).toNat]? = some o ∧ ztg pc o J := by
  intro k os
  induction os generalizing k with
  | nil => intro _ h1 h2; simp at h2; omega
  | cons o r ih =>
    intro h h1 h2
    by_cases hx : x = k
    · subst hx
      exact ⟨o, by simp, h.1 rfl⟩
    · obtain ⟨o', g1, g2⟩ := ih h.2 (by omega) (by simp at h2 ⊢; omega)
      refine ⟨o', ?_, g2⟩
      have e : (x - k).toNat = (x - (k + 1)).toNat + 1 := by omega
      rw [e, List.getElem?_cons_succ]
      exact g1
theorem zswL_inv {pc : Nat} {J : Nat → Prop} {x d : Int} : ∀ {ps : List (Int × Int)}, zswL pc J x d ps → ∃ o, Op.lookupswitch.offset ps d x = o ∧ ztg pc o J := by
  intro ps
  induction ps with
  | nil => intro h; exact ⟨d, rfl, h⟩
  | cons q r ih =>
    intro h
    obtain ⟨a, o⟩ := q
    by_cases hx : x = a
    · refine ⟨o, ?_, h.1 hx⟩
      rw [Op.lookupswitch.offset_cons, if_pos hx.symm]
    · obtain ⟨o', g1, g2⟩ := ih (h.2 hx)
      refine ⟨o', ?_, g2⟩
      rw [Op.lookupswitch.offset_cons, if_neg (fun q => hx q.symm)]
      exact g1
theorem zaa_inv {K : Nat → Prop} {i : Int} : ∀ {k : Int} {ts : List (Nat × Nat)}, zaa K i k ts → k ≤ i → i < k + ts.length → ∃ t, ts[(i - k).toNat]? = some t ∧ K t.2 := by
  intro k ts
  induction ts generalizing k with
  | nil => intro _ h1 h2; simp at h2; omega
  | cons o r ih =>
    intro h h1 h2
    by_cases hx : i = k
    · subst hx
      exact ⟨o, by simp, h.1 rfl⟩
    · obtain ⟨o', g1, g2⟩ := ih h.2 (by omega) (by simp at h2 ⊢; omega)
      refine ⟨o', ?_, g2⟩
      have e : (i - k).toNat = (i - (k + 1)).toNat + 1 := by omega
      rw [e, List.getElem?_cons_succ]
      exact g1
theorem zzip (l : List zV) : (l.map (·.1)).zip (l.map (·.2)) = l := by
  induction l with
  | nil => rfl
  | cons a r ih => simp only [List.map_cons, List.zip_cons_cons, ih]
section ZX
variable {p : Program} {l : Launch} {e : Env} {R : Room} {s : State} {m : MethodId} {args : Array Value} {below : List Frame} {meth : Method} {c : Code} {cells slots : Nat} {Q : State → Prop} {cc : ByteArray} {nL : Nat} {own : String} {Λ : List zC} {D : va_G} {ad sa sv : Nat → Nat} {cs : Nat → ClassId} {A : Nat → Prop} {pc : Nat} {ls : zL} {st : List zV} {mem : zM}
theorem zinv_sound {ct : Option zCt} {i : Instr} {K : List zV → zM → Prop} (hc : ∀ q, ct = some q → zCOK p l e R s m args below meth c cells slots nL Λ D ad sa cs A cc i q.1 q.2.1 q.2.2.1 q.2.2.2) (hd : decode cc pc = .ok (i, 3)) (hK : ∀ st mem, K st mem → zAW p l e R s m args below meth c cells slots Q nL Λ D ad sa cs A  (pc + 3) ls st mem) (h : zinv Λ ct st mem K) : zAW p l e R s m args below meth c cells slots Q nL Λ D ad sa cs A  pc ls st mem := by
  unfold zinv at h
  cases hq : ct with
  | none => rw [hq] at h; exact h.elim
  | some q =>
    rw [hq] at h
    obtain ⟨h1, h2, h3, h4⟩ := h
    have hvl : (((st.take q.1.length).map (·.2)).reverse).length = q.1.length := by
      have := congrArg List.length h1
      simp only [List.length_map, List.length_reverse] at this ⊢
      exact this
    have hz : (q.1.zip ((st.take q.1.length).map (·.2)).reverse).reverse = st.take q.1.length := by
      have e1 : q.1 = ((st.take q.1.length).reverse).map (·.1) := by rw [List.map_reverse, h1, List.reverse_reverse]
      have e2 : ((st.take q.1.length).map (·.2)).reverse = ((st.take q.1.length).reverse).map (·.2) := by rw [List.map_reverse]
      rw [e2]
      conv => lhs; arg 1; arg 1; rw [e1]
      rw [zzip, List.reverse_reverse]
    have := hc q hq Q pc ls _ (st.drop q.1.length) mem hd hvl h3 h2 (fun r mem' a b c => hK _ _ (h4 r mem' a b c))
    rw [hz, List.take_append_drop] at this
    exact this
/-- what is known where a method ends -/
def zRet (p : Program) (l : Launch) (e : Env) (R : Room) (s : State) (m : MethodId) (args : Array Value) (below : List Frame) (meth : Method) (c : Code) (cells slots : Nat) (Q : State → Prop) (nL : Nat) (Λ : List zC) (D : va_G) (ad sa : Nat → Nat) (cs : Nat → ClassId) (A : Nat → Prop) (cc : ByteArray) (rt : Nat) (RP : Int → zM → Prop) : Prop :=
  (∀ pc ls v mem, decode cc pc = .ok (.ireturn, 1) → (rt = 0 ∨ rt = 4 ∧ (v = 0 ∨ v = 1)) → RP v mem → zAW p l e R s m args below meth c cells slots Q nL Λ D ad sa cs A  pc ls [(0, v)] mem) ∧ (∀ pc ls v mem, decode cc pc = .ok (.lreturn, 1) → rt = 1 → RP v mem → zAW p l e R s m args below meth c cells slots Q nL Λ D ad sa cs A  pc ls [(1, v)] mem) ∧ (∀ pc ls mem, decode cc pc = .ok (.return_, 1) → rt = 9 → RP 0 mem → zAW p l e R s m args below meth c cells slots Q nL Λ D ad sa cs A  pc ls [] mem)
set_option maxHeartbeats 4000000 in
theorem zwI_sound {pl : zPo} {cv cS : Nat → Option zCt} {rt : Nat} {RP : Int → zM → Prop} {thr : Nat → Option Nat} {XP : Nat → zM → Prop} (S : CallFix p m c cc nL s args zTbl own) (hG : zGl D cs sa sv A s) (hpl : zPlok own pl) (hcl : zClok) (hsy : zSyok) (hR : 1 ≤ R.frames ∧ 30 ≤ R.locals)
    (hcv : ∀ k q, cv k = some q → zCOK p l e R s m args below meth c cells slots nL Λ D ad sa cs A cc (.invokevirtual k) q.1 q.2.1 q.2.2.1 q.2.2.2) (hcS : ∀ k q, cS k = some q → zCOK p l e R s m args below meth c cells slots nL Λ D ad sa cs A cc (.invokestatic k) q.1 q.2.1 q.2.2.1 q.2.2.2)
    (hret : zRet p l e R s m args below meth c cells slots Q nL Λ D ad sa cs A cc rt RP) (hthr : ∀ pc E ls mem, thr pc = some E → XP E mem → zAW p l e R s m args below meth c cells slots Q nL Λ D ad sa cs A  pc ls [] mem)
    {J : zJ} (hJ : ∀ pc ls st mem, J pc ls st mem → zAW p l e R s m args below meth c cells slots Q nL Λ D ad sa cs A  pc ls st mem) {i : Instr} {n : Nat} {K : zL → List zV → zM → Prop} (hd : decode cc pc = .ok (i, n)) (hK : ∀ ls st mem, K ls st mem → zAW p l e R s m args below meth c cells slots Q nL Λ D ad sa cs A  (pc + n) ls st mem) (h : zwI Λ pl cv cS rt RP thr XP nL i n pc ls st mem J K) : zAW p l e R s m args below meth c cells slots Q nL Λ D ad sa cs A  pc ls st mem := by
  obtain ⟨hx, hb, hml, hown, hts⟩ := id S
  have hKv := hG.1
  cases i with
  | iconst x => obtain ⟨rfl, h1, h2⟩ := h; exact zs_iconst hx hb hd h1 (hK _ _ _ h2)
  | bipush x => obtain ⟨rfl, h1, h2⟩ := h; exact zs_bipush hx hb hd h1 (hK _ _ _ h2)
  | sipush x => obtain ⟨rfl, h1, h2⟩ := h; exact zs_sipush hx hb hd h1 (hK _ _ _ h2)
  | lconst x => obtain ⟨rfl, h2⟩ := h; exact zs_lconst hx hb hd (hK _ _ _ h2)
  | ldc k =>
    obtain ⟨rfl, h | h⟩ := h
    · obtain ⟨x, y, z, h1, h2⟩ := zpl_inv h
      have g := (hpl k _ _ _ _ h1).2.1 rfl
      exact zs_ldc hx hb hown (hts _ g.1) hd g.2 (hK _ _ _ h2)
    · obtain ⟨x, y, z, h1, h2⟩ := zpl_inv h
      obtain ⟨tx, g⟩ := (hpl k _ _ _ _ h1).2.2.2.1 rfl
      exact zs_push (zok_c _) (fun H locs L rest _ _ w => va_ldcS hx hb hown (hG.2.2.2.2.1 _ g) hd w) (hK _ _ _ h2)
  | ldc_w k =>
    obtain ⟨rfl, h⟩ := h
    obtain ⟨x, y, z, h1, h2⟩ := zpl_inv h
    have g := (hpl k _ _ _ _ h1).2.1 rfl
    exact zs_ldcw hx hb hown (hts _ g.1) hd g.2 (hK _ _ _ h2)
  | ldc2_w k =>
    obtain ⟨rfl, h⟩ := h
    obtain ⟨x, y, z, h1, h2⟩ := zpl_inv h
    have g := (hpl k _ _ _ _ h1).2.2.1 rfl
    exact zs_ldc2 hx hb hown (hts _ g.1) hd g.2 (hK _ _ _ h2)
  | getstatic k =>
    obtain ⟨rfl, h⟩ := h
    obtain ⟨x, y, z, h1, h2⟩ := zpl_inv h
    obtain ⟨nm, g1, g2⟩ := (hpl k _ _ _ _ h1).2.2.2.2.1 rfl
    have hxl : x < zStV.length := (List.getElem?_eq_some_iff.mp g1).1
    have hZ := (hG.2.2.1 x nm _ g1 (List.getElem?_eq_getElem hxl)).1
    refine zs_push (len := 3) (v := (3, (x : Int))) (zok_c _) (fun H locs L rest _ hS w => ?_) (hK _ _ _ h2)
    rcases g2 with g2 | ⟨host, g2⟩
    · exact va_gets hx hb hZ hS hown (hts _ g2) (fun _ q => q) hd w
    · exact va_getsN hx hb hZ hS hown (va_Nw.use rfl (hG.2.1 _ g2 rfl)) (fun _ q => q) hd w
  | iload_n k => obtain ⟨rfl, h1, h2⟩ := h; exact zs_iload_n hx hb hd h1 (hK _ _ _ h2)
  | iload k => obtain ⟨rfl, h1, h2⟩ := h; exact zs_iload hx hb hd h1 (hK _ _ _ h2)
  | lload_n k => obtain ⟨rfl, h1, h2⟩ := h; exact zs_lload_n hx hb hd h1 (hK _ _ _ h2)
  | lload k => obtain ⟨rfl, h1, h2⟩ := h; exact zs_lload hx hb hd h1 (hK _ _ _ h2)
  | aload_n k => obtain ⟨rfl, h1, h2⟩ := h; exact zs_aload_n hx hb hd h1 (hK _ _ _ h2)
  | aload k => obtain ⟨rfl, h1, h2⟩ := h; exact zs_aload hx hb hd h1 (hK _ _ _ h2)
  | istore_n k => obtain ⟨rfl, h1, h2⟩ := h; obtain ⟨x, r, rfl, h3⟩ := zp1_inv h2; exact zs_istore_n hx hb hd h1 (hK _ _ _ h3)
  | istore k => obtain ⟨rfl, h1, h2⟩ := h; obtain ⟨x, r, rfl, h3⟩ := zp1_inv h2; exact zs_istore hx hb hd h1 (hK _ _ _ h3)
  | lstore_n k => obtain ⟨rfl, h1, h2⟩ := h; obtain ⟨x, r, rfl, h3⟩ := zp1_inv h2; exact zs_lstore_n hx hb hd h1 (hK _ _ _ h3)
  | lstore k => obtain ⟨rfl, h1, h2⟩ := h; obtain ⟨x, r, rfl, h3⟩ := zp1_inv h2; exact zs_lstore hx hb hd h1 (hK _ _ _ h3)
  | astore_n k => obtain ⟨rfl, h1, h2⟩ := h; obtain ⟨v, r, rfl, h3, h4⟩ := zpv_inv h2; exact zs_astore_n hx hb hd h3 h1 (hK _ _ _ h4)
  | astore k => obtain ⟨rfl, h1, h2⟩ := h; obtain ⟨v, r, rfl, h3, h4⟩ := zpv_inv h2; exact zs_astore hx hb hd h3 h1 (hK _ _ _ h4)
  | iinc k x => obtain ⟨rfl, h1, h2, h3⟩ := h; exact zs_iinc hx hb hd h2 h1 (hK _ _ _ h3)
  | iadd => obtain ⟨rfl, h⟩ := h; obtain ⟨y, r, rfl, hh1⟩ := zp1_inv h; obtain ⟨x, r, rfl, hh2⟩ := zp1_inv hh1; exact zs_ii rfl (fun _ _ _ _ w => lv_iadd hx hb hd w) (hK _ _ _ hh2)
  | isub => obtain ⟨rfl, h⟩ := h; obtain ⟨y, r, rfl, hh1⟩ := zp1_inv h; obtain ⟨x, r, rfl, hh2⟩ := zp1_inv hh1; exact zs_ii rfl (fun _ _ _ _ w => lv_isub hx hb hd w) (hK _ _ _ hh2)
  | imul => obtain ⟨rfl, h⟩ := h; obtain ⟨y, r, rfl, hh1⟩ := zp1_inv h; obtain ⟨x, r, rfl, hh2⟩ := zp1_inv hh1; exact zs_ii rfl (fun _ _ _ _ w => lv_imul hx hb hd w) (hK _ _ _ hh2)
  | idiv =>
    obtain ⟨rfl, h⟩ := h; obtain ⟨y, r, rfl, hh1⟩ := zp1_inv h; obtain ⟨x, r, rfl, h0, hh2⟩ := zp1_inv hh1
    intro hm hs hl H locs L hP hD hL hS
    have hy := zhi hs
    exact zs_ii (st := r) (x := x) (y := y) rfl (fun _ _ _ _ w => lv_idiv hx hb hd (fun q => h0 ((zq_eq hy zR0).mp q)) w) (hK _ _ _ hh2) hm hs hl H locs L hP hD hL hS
  | irem =>
    obtain ⟨rfl, h⟩ := h; obtain ⟨y, r, rfl, hh1⟩ := zp1_inv h; obtain ⟨x, r, rfl, h0, hh2⟩ := zp1_inv hh1
    intro hm hs hl H locs L hP hD hL hS
    have hy := zhi hs
    exact zs_ii (st := r) (x := x) (y := y) rfl (fun _ _ _ _ w => lv_irem hx hb hd (fun q => h0 ((zq_eq hy zR0).mp q)) w) (hK _ _ _ hh2) hm hs hl H locs L hP hD hL hS
  | iand => obtain ⟨rfl, h⟩ := h; obtain ⟨y, r, rfl, hh1⟩ := zp1_inv h; obtain ⟨x, r, rfl, hh2⟩ := zp1_inv hh1; exact zs_ii rfl (fun _ _ _ _ w => lv_iand hx hb hd w) (hK _ _ _ hh2)
  | ior => obtain ⟨rfl, h⟩ := h; obtain ⟨y, r, rfl, hh1⟩ := zp1_inv h; obtain ⟨x, r, rfl, hh2⟩ := zp1_inv hh1; exact zs_ii rfl (fun _ _ _ _ w => lv_ior hx hb hd w) (hK _ _ _ hh2)
  | ixor => obtain ⟨rfl, h⟩ := h; obtain ⟨y, r, rfl, hh1⟩ := zp1_inv h; obtain ⟨x, r, rfl, hh2⟩ := zp1_inv hh1; exact zs_ii rfl (fun _ _ _ _ w => lv_ixor hx hb hd w) (hK _ _ _ hh2)
  | ishl => obtain ⟨rfl, h⟩ := h; obtain ⟨y, r, rfl, hh1⟩ := zp1_inv h; obtain ⟨x, r, rfl, hh2⟩ := zp1_inv hh1; exact zs_ii rfl (fun _ _ _ _ w => lv_ishl hx hb hd w) (hK _ _ _ hh2)
  | ishr => obtain ⟨rfl, h⟩ := h; obtain ⟨y, r, rfl, hh1⟩ := zp1_inv h; obtain ⟨x, r, rfl, hh2⟩ := zp1_inv hh1; exact zs_ii rfl (fun _ _ _ _ w => lv_ishr hx hb hd w) (hK _ _ _ hh2)
  | iushr => obtain ⟨rfl, h⟩ := h; obtain ⟨y, r, rfl, hh1⟩ := zp1_inv h; obtain ⟨x, r, rfl, hh2⟩ := zp1_inv hh1; exact zs_ii rfl (fun _ _ _ _ w => lv_iushr hx hb hd rfl w) (hK _ _ _ hh2)
  | ineg => obtain ⟨rfl, h⟩ := h; obtain ⟨x, r, rfl, hh1⟩ := zp1_inv h; exact zs_i1 rfl (fun _ _ _ _ w => lv_ineg hx hb hd w) (hK _ _ _ hh1)
  | i2b => obtain ⟨rfl, h⟩ := h; obtain ⟨x, r, rfl, hh1⟩ := zp1_inv h; exact zs_i1 rfl (fun _ _ _ _ w => lv_i2b hx hb hd rfl w) (hK _ _ _ hh1)
  | i2l => obtain ⟨rfl, h⟩ := h; obtain ⟨x, r, rfl, hh1⟩ := zp1_inv h; exact zs_i2l hx hb hd (hK _ _ _ hh1)
  | l2i => obtain ⟨rfl, h⟩ := h; obtain ⟨x, r, rfl, hh1⟩ := zp1_inv h; exact zs_l2i hx hb hd (hK _ _ _ hh1)
  | ladd => obtain ⟨rfl, h⟩ := h; obtain ⟨y, r, rfl, hh1⟩ := zp1_inv h; obtain ⟨x, r, rfl, hh2⟩ := zp1_inv hh1; exact zs_ll rfl (fun _ _ _ _ w => lv_ladd hx hb hd w) (hK _ _ _ hh2)
  | lmul => obtain ⟨rfl, h⟩ := h; obtain ⟨y, r, rfl, hh1⟩ := zp1_inv h; obtain ⟨x, r, rfl, hh2⟩ := zp1_inv hh1; exact zs_ll rfl (fun _ _ _ _ w => lv_lmul hx hb hd w) (hK _ _ _ hh2)
  | ldiv =>
    obtain ⟨rfl, h⟩ := h; obtain ⟨y, r, rfl, hh1⟩ := zp1_inv h; obtain ⟨x, r, rfl, h0, hh2⟩ := zp1_inv hh1
    intro hm hs hl H locs L hP hD hL hS
    have hy := zhl hs
    exact zs_ll (st := r) (x := x) (y := y) rfl (fun _ _ _ _ w => lv_ldiv hx hb hd (fun q => h0 (by rw [← zl_toInt hy, q]; rfl)) w) (hK _ _ _ hh2) hm hs hl H locs L hP hD hL hS
  | lrem =>
    obtain ⟨rfl, h⟩ := h; obtain ⟨y, r, rfl, hh1⟩ := zp1_inv h; obtain ⟨x, r, rfl, h0, hh2⟩ := zp1_inv hh1
    intro hm hs hl H locs L hP hD hL hS
    have hy := zhl hs
    exact zs_ll (st := r) (x := x) (y := y) rfl (fun _ _ _ _ w => lv_lrem hx hb hd (fun q => h0 (by rw [← zl_toInt hy, q]; rfl)) w) (hK _ _ _ hh2) hm hs hl H locs L hP hD hL hS
  | lcmp => obtain ⟨rfl, h⟩ := h; obtain ⟨y, r, rfl, hh1⟩ := zp1_inv h; obtain ⟨x, r, rfl, hh2⟩ := zp1_inv hh1; exact zs_lcmp hx hb hd (hK _ _ _ hh2)
  | dup => obtain ⟨rfl, h⟩ := h; obtain ⟨v, r, rfl, h1, hh1⟩ := zpv_inv h; exact zs_dup hx hb hd h1 (hK _ _ _ hh1)
  | pop => obtain ⟨rfl, h⟩ := h; obtain ⟨v, r, rfl, h1, hh1⟩ := zpv_inv h; exact zs_pop hx hb hd h1 (hK _ _ _ hh1)
  | dup2 => obtain ⟨rfl, h⟩ := h; obtain ⟨v, r, rfl, h1, hh1⟩ := zpv_inv h; obtain ⟨w, r, rfl, h2, hh2⟩ := zpv_inv hh1; exact zs_dup2 hx hb hd h1 h2 (hK _ _ _ hh2)
  | ifCond cd o =>
    obtain ⟨rfl, h0, h⟩ := h; obtain ⟨x, r, rfl, h1, h2⟩ := zp1_inv h
    exact zs_if (tgt := ((pc : Int) + o).toNat) hx hb hd (by omega) (fun q => hJ _ _ _ _ (h1 q)) (fun q => hK _ _ _ (h2 q))
  | if_icmp cd o =>
    obtain ⟨rfl, h0, h⟩ := h; obtain ⟨y, r, rfl, hh1⟩ := zp1_inv h; obtain ⟨x, r, rfl, h1, h2⟩ := zp1_inv hh1
    exact zs_icmp (tgt := ((pc : Int) + o).toNat) hx hb hd (by omega) (fun q => hJ _ _ _ _ (h1 q)) (fun q => hK _ _ _ (h2 q))
  | goto o => obtain ⟨rfl, h⟩ := h; obtain ⟨t, h1, h2⟩ := ztg_inv h; exact zs_goto hx hb hd h1 (hJ _ _ _ _ h2)
  | ifnonnull o => obtain ⟨rfl, h⟩ := h; obtain ⟨v, r, rfl, h1, hh1⟩ := zpv_inv h; obtain ⟨t, h2, h3⟩ := ztg_inv hh1; exact zs_ifnonnull hx hb hd h2 h1 (hJ _ _ _ _ h3)
  | ifnull o => obtain ⟨rfl, h⟩ := h; obtain ⟨v, r, rfl, h1, hh1⟩ := zpv_inv h; exact zs_ifnull hx hb hd h1 (hK _ _ _ hh1)
  | tableswitch d lo hi offs =>
    simp only [zwI] at h
    obtain ⟨x, r, rfl, h0, h1, h2⟩ := zp1_inv h
    by_cases ho : x < lo ∨ hi < x
    · obtain ⟨t, g1, g2⟩ := ztg_inv (h1 ho); exact zs_tableOut hx hb hd ho g1 (hJ _ _ _ _ g2)
    · have hlen : (offs.toList.length : Int) = hi - lo + 1 := by rw [Array.length_toList]; exact h0
      obtain ⟨o, g1, g2⟩ := zswT_inv h2 (by omega) (by omega)
      obtain ⟨t, g3, g4⟩ := ztg_inv g2
      exact zs_tableIn hx hb hd (by omega) (by omega) (by rw [← Array.getElem?_toList]; exact g1) g3 (hJ _ _ _ _ g4)
  | lookupswitch d ps =>
    simp only [zwI] at h
    obtain ⟨x, r, rfl, h0, h1⟩ := zp1_inv h
    obtain ⟨o, g1, g2⟩ := zswL_inv h1
    obtain ⟨t, g3, g4⟩ := ztg_inv g2
    exact zs_lookup hx hb hd h0 g1 g3 (hJ _ _ _ _ g4)
  | getfield k =>
    obtain ⟨rfl, h⟩ := h; obtain ⟨a, r, rfl, hh1⟩ := zp1_inv h
    obtain ⟨ci, f, z, h1, hh2⟩ := zpl_inv hh1
    obtain ⟨fs, t, h2, h3, h4, h5⟩ := zob_inv hh2
    obtain ⟨q, g1, g2, g3, g4, -, -⟩ := (hpl k _ _ _ _ h1).1 rfl
    refine zs_getfield hx hb hown hts (hcl ci q g1).1 hKv hd g1 ⟨g2, g3, ?_⟩ h2 h3 h4 (hK _ _ _ h5)
    rcases g4 with g4 | ⟨host, g4⟩
    · exact Or.inl (hts _ g4)
    · exact Or.inr ⟨host, va_Nw.use rfl (hG.2.1 _ g4 rfl)⟩
  | putfield k =>
    obtain ⟨rfl, h⟩ := h; obtain ⟨v, r, rfl, hh1⟩ := zp1_inv h; obtain ⟨a, r, rfl, hh2⟩ := zp1_inv hh1
    obtain ⟨ci, f, z, h1, hh3⟩ := zpl_inv hh2
    obtain ⟨fs, t, h2, h3, h4, h5⟩ := zob_inv hh3
    obtain ⟨q, g1, g2, g3, g4, g5, g6⟩ := (hpl k _ _ _ _ h1).1 rfl
    obtain ⟨c1, ty0, c2, c3⟩ := hcl ci q g1
    have hF : zFL own s args k q f := ⟨g2, g3, by
      rcases g4 with g4 | ⟨host, g4⟩
      · exact Or.inl (hts _ g4)
      · exact Or.inr ⟨host, va_Nw.use rfl (hG.2.1 _ g4 rfl)⟩⟩
    rcases h4 with ⟨t0, w1⟩ | ⟨t0, w1, v01⟩
    · exact zs_putfield hx hb hown hts c1 c2 c3 hKv hd g1 hF (g5 w1).1 h2 h3 (Or.inl ⟨t0, (g5 w1).2⟩) (hK _ _ _ h5)
    · exact zs_putfield hx hb hown hts c1 c2 c3 hKv hd g1 hF (g6 w1).1 h2 h3 (Or.inr ⟨t0, (g6 w1).2, v01⟩) (hK _ _ _ h5)
  | iaload =>
    obtain ⟨rfl, h⟩ := h; obtain ⟨i, r, rfl, hh1⟩ := zp1_inv h; obtain ⟨v, r, rfl, hh2⟩ := zpv_inv hh1
    obtain ⟨tg, a⟩ := v
    rcases hh2 with ⟨h0, hh2⟩ | ⟨h0, hh2⟩
    · dsimp only at h0; subst h0
      obtain ⟨N, ts, h1, h2, h3⟩ := zarr_inv hh2
      exact zs_iaload hx hb hKv hd h1 h2.1 h2.2 (hK _ _ _ h3)
    · dsimp only at h0 hh2; subst h0
      cases hv : zStV[a.toNat]? with
      | none => rw [hv] at hh2; exact hh2.elim
      | some vs =>
        rw [hv] at hh2
        obtain ⟨⟨h1, h2⟩, h3⟩ := hh2
        have hlt : a.toNat < zStN.length := (List.getElem?_eq_some_iff.mp hv).1
        have hT := (hG.2.2.1 a.toNat _ vs (List.getElem?_eq_getElem hlt) hv).2
        intro hm hs hl H locs L hP hD hL hS
        have hi := zhi hs
        have hok : zok (0, vs.getD i.toNat 0) := by
          have hall : ∀ us ∈ zStV, ∀ j, zR32 (us.getD j 0) := by
            intro us hus j
            have hb2 : ∀ us ∈ zStV, ∀ w ∈ us, 0 ≤ w ∧ w ≤ 9999 := by decide
            cases hj : us[j]? with
            | none => rw [List.getD_eq_getElem?_getD, hj]; exact zR0
            | some w => rw [List.getD_eq_getElem?_getD, hj]; have := hb2 us hus w (List.mem_of_getElem? hj); exact ⟨by show _ ≤ w; omega, by show w ≤ _; omega⟩
          exact zok_i' (hall vs (List.mem_of_getElem? hv) _)
        refine va_ti hx hb hT hS (zin hi h1 h2) (v := .int (Int32.ofInt (vs.getD i.toNat 0))) (by rw [zcl_i hi]) hd ?_
        exact hK _ _ _ h3 hm (zcons hok (ztl (ztl hs))) hl H locs L hP hD hL hS
  | laload => obtain ⟨rfl, h⟩ := h; obtain ⟨i, r, rfl, hh1⟩ := zp1_inv h; obtain ⟨a, r, rfl, hh2⟩ := zp1_inv hh1; obtain ⟨N, ts, h1, h2, h3⟩ := zarr_inv hh2; exact zs_laload hx hb hKv hd h1 h2.1 h2.2 (hK _ _ _ h3)
  | baload =>
    obtain ⟨rfl, h⟩ := h; obtain ⟨i, r, rfl, hh1⟩ := zp1_inv h; obtain ⟨a, r, rfl, hh2⟩ := zp1_inv hh1
    rcases hh2 with hh2 | hh2
    · obtain ⟨N, ts, h1, h2, h3⟩ := zarr_inv hh2; exact zs_zaload hx hb hKv hd h1 h2.1 h2.2 (hK _ _ _ h3)
    · obtain ⟨N, ts, h1, h2, h3⟩ := zarr_inv hh2; exact zs_baload hx hb hKv hd h1 h2.1 h2.2 (hK _ _ _ h3)
  | aaload =>
    obtain ⟨rfl, h⟩ := h; obtain ⟨i, r, rfl, hh1⟩ := zp1_inv h; obtain ⟨a, r, rfl, hh2⟩ := zp1_inv hh1
    obtain ⟨N, ts, h1, ⟨h2, h3, h4⟩, h5⟩ := zarr_inv hh2
    obtain ⟨t, g1, g2⟩ := zaa_inv h5 h2 (by rw [h4]; omega)
    exact zs_aaload hx hb hKv hd h1 h2 h3 (by simpa using g1) (hK _ _ _ g2)
  | iastore => obtain ⟨rfl, h⟩ := h; obtain ⟨v, r, rfl, hh1⟩ := zp1_inv h; obtain ⟨i, r, rfl, hh2⟩ := zp1_inv hh1; obtain ⟨a, r, rfl, hh3⟩ := zp1_inv hh2; obtain ⟨N, ts, h1, h2, h3⟩ := zarr_inv hh3; exact zs_iastore hx hb hKv hd h1 h2.1 h2.2 (hK _ _ _ h3)
  | lastore => obtain ⟨rfl, h⟩ := h; obtain ⟨v, r, rfl, hh1⟩ := zp1_inv h; obtain ⟨i, r, rfl, hh2⟩ := zp1_inv hh1; obtain ⟨a, r, rfl, hh3⟩ := zp1_inv hh2; obtain ⟨N, ts, h1, h2, h3⟩ := zarr_inv hh3; exact zs_lastore hx hb hKv hd h1 h2.1 h2.2 (hK _ _ _ h3)
  | bastore =>
    obtain ⟨rfl, h⟩ := h; obtain ⟨v, r, rfl, hh1⟩ := zp1_inv h; obtain ⟨i, r, rfl, hh2⟩ := zp1_inv hh1; obtain ⟨a, r, rfl, hh3⟩ := zp1_inv hh2
    rcases hh3 with hh3 | hh3
    · obtain ⟨N, ts, h1, h2, h3, h4⟩ := zarr_inv hh3; exact zs_zastore hx hb hKv hd h1 h2.1 h2.2 h3 (hK _ _ _ h4)
    · obtain ⟨N, ts, h1, h2, h3, h4⟩ := zarr_inv hh3; exact zs_bastore hx hb hKv hd h1 h2.1 h2.2 h3 (hK _ _ _ h4)
  | arraylength =>
    obtain ⟨rfl, h⟩ := h; obtain ⟨a, r, rfl, hh1⟩ := zp1_inv h
    rcases hh1 with hh1 | hh1
    · obtain ⟨N, ts, h1, h2, h3⟩ := zarr_inv hh1; exact zs_alen hx hb hKv hd h1 (Or.inl rfl) h2 (hK _ _ _ h3)
    · obtain ⟨N, ts, h1, h2, h3⟩ := zarr_inv hh1; exact zs_alen hx hb hKv hd h1 (Or.inr rfl) h2 (hK _ _ _ h3)
  | invokevirtual k => obtain ⟨rfl, h⟩ := h; exact zinv_sound (fun q hq => hcv k q hq) hd (fun st mem w => hK _ _ _ w) h
  | invokestatic k =>
    obtain ⟨rfl, h | h⟩ := h
    · exact zinv_sound (fun q hq => hcS k q hq) hd (fun st mem w => hK _ _ _ w) h
    · obtain ⟨x, y, z, h1, hh1⟩ := zpl_inv h
      obtain ⟨N, r, rfl, hh2⟩ := zp1_inv hh1; obtain ⟨dp, r, rfl, hh3⟩ := zp1_inv hh2; obtain ⟨b, r, rfl, hh4⟩ := zp1_inv hh3; obtain ⟨sp, r, rfl, hh5⟩ := zp1_inv hh4; obtain ⟨a, r, rfl, rfl, hh6⟩ := zp1_inv hh5
      obtain ⟨na, ta, g1, hh7⟩ := zarr_inv hh6
      obtain ⟨nb, tb, g2, ⟨k1, k2, k3, k4, k5⟩, hh8⟩ := zarr_inv hh7
      exact zs_arraycopy hx hb hml hown (hts _ ((hpl k _ _ _ _ h1).2.2.2.2.2 rfl)) (hts _ hsy.1) (hts _ hsy.2.1) (hts _ hsy.2.2) hKv hd g1 g2 k1 k2 k3 k4 k5 hR (hK _ _ _ hh8)
  | ireturn => obtain ⟨rfl, h⟩ := h; obtain ⟨v, r, rfl, rfl, h1, h2⟩ := zp1_inv h; exact hret.1 _ _ _ _ hd h1 h2
  | lreturn => obtain ⟨rfl, h⟩ := h; obtain ⟨v, r, rfl, rfl, h1, h2⟩ := zp1_inv h; exact hret.2.1 _ _ _ _ hd h1 h2
  | return_ => obtain ⟨rfl, rfl, h1, h2⟩ := h; exact hret.2.2 _ _ _ hd h1 h2
  | new k =>
    obtain ⟨rfl, h⟩ := h
    cases hq : thr pc with
    | none => rw [hq] at h; exact h.elim
    | some E => rw [hq] at h; exact hthr _ _ _ _ hq h
  | _ => exact h.elim
end ZX
end
section
/-! ===== from a method's stretches to its contract ===== -/
def zent : Nat → List zV → zL
  | _, [] => fun _ => (9, 0)
  | k, v :: r => fun j => if j = k then v else zent (if v.1 = 1 then k + 2 else k + 1) r j
theorem zent_in {ad sa : Nat → Nat} : ∀ (vs : List zV) (k j : Nat), (zent k vs j).1 ≠ 9 → (j, zE ad sa (zent k vs j)) ∈ lv_args k (vs.map (zE ad sa)) := by
  intro vs
  induction vs with
  | nil => intro k j h; exact absurd rfl h
  | cons v r ih =>
    intro k j h
    simp only [List.map_cons, lv_args, zent]
    simp only [zent] at h
    by_cases hj : j = k
    · subst hj
      rw [if_pos rfl]
      exact List.mem_cons_self
    · rw [if_neg hj] at h ⊢
      refine List.mem_cons_of_mem _ ?_
      have e : (if (zE ad sa v).category = 2 then k + 2 else k + 1) = if v.1 = 1 then k + 2 else k + 1 := by
        rw [zE_cat]
        by_cases h1 : v.1 = 1
        · rw [if_pos h1, if_pos h1, if_pos rfl]
        · rw [if_neg h1, if_neg h1, if_neg (by decide)]
      rw [e]
      exact ih _ j h
theorem zent_ok : ∀ (vs : List zV) (k : Nat), (∀ v ∈ vs, zok v) → ∀ j, zok (zent k vs j) := by
  intro vs
  induction vs with
  | nil => intro k _ j; exact zok_n
  | cons v r ih =>
    intro k h j
    simp only [zent]
    by_cases hj : j = k
    · rw [if_pos hj]; exact h v List.mem_cons_self
    · rw [if_neg hj]; exact ih _ (fun w hw => h w (List.mem_cons_of_mem _ hw)) j
section ZY
variable {p : Program} {l : Launch} {e : Env} {R : Room} {s : State} {m : MethodId} {args : Array Value} {below : List Frame} {meth : Method} {c : Code} {cells slots : Nat} {Q : State → Prop} {cc : ByteArray} {nL : Nat} {own : String} {Λ : List zC} {D : va_G} {ad sa sv : Nat → Nat} {cs : Nat → ClassId} {A : Nat → Prop} {pc : Nat} {ls : zL} {st : List zV} {mem : zM}
theorem zrun_sound {pl : zPo} {cv cS : Nat → Option zCt} {rt : Nat} {RP : Int → zM → Prop} {thr : Nat → Option Nat} {XP : Nat → zM → Prop} (S : CallFix p m c cc nL s args zTbl own) (hG : zGl D cs sa sv A s) (hpl : zPlok own pl) (hcl : zClok) (hsy : zSyok) (hR : 1 ≤ R.frames ∧ 30 ≤ R.locals)
    (hcv : ∀ k q, cv k = some q → zCOK p l e R s m args below meth c cells slots nL Λ D ad sa cs A cc (.invokevirtual k) q.1 q.2.1 q.2.2.1 q.2.2.2) (hcS : ∀ k q, cS k = some q → zCOK p l e R s m args below meth c cells slots nL Λ D ad sa cs A cc (.invokestatic k) q.1 q.2.1 q.2.2.1 q.2.2.2)
    (hret : zRet p l e R s m args below meth c cells slots Q nL Λ D ad sa cs A cc rt RP) (hthr : ∀ pc E ls mem, thr pc = some E → XP E mem → zAW p l e R s m args below meth c cells slots Q nL Λ D ad sa cs A  pc ls [] mem)
    {J : zJ} (hJ : ∀ pc ls st mem, J pc ls st mem → zAW p l e R s m args below meth c cells slots Q nL Λ D ad sa cs A  pc ls st mem) : ∀ (b : List (Instr × Nat)) (pc : Nat) (ls : zL) (st : List zV) (mem : zM), zdec cc pc b → zrun Λ pl cv cS rt RP thr XP nL J b pc ls st mem → zAW p l e R s m args below meth c cells slots Q nL Λ D ad sa cs A  pc ls st mem := by
  intro b
  induction b with
  | nil => intro pc ls st mem _ h; exact hJ _ _ _ _ h
  | cons q r ih =>
    intro pc ls st mem hd h
    exact zwI_sound S hG hpl hcl hsy hR hcv hcS hret hthr hJ hd.1 (fun ls' st' mem' w => ih _ _ _ _ hd.2 w) h
theorem zwp_sound {pl : zPo} {cv cS : Nat → Option zCt} {rt : Nat} {RP : Int → zM → Prop} {thr : Nat → Option Nat} {XP : Nat → zM → Prop} (S : CallFix p m c cc nL s args zTbl own) (hG : zGl D cs sa sv A s) (hpl : zPlok own pl) (hcl : zClok) (hsy : zSyok) (hR : 1 ≤ R.frames ∧ 30 ≤ R.locals)
    (hcv : ∀ k q, cv k = some q → zCOK p l e R s m args below meth c cells slots nL Λ D ad sa cs A cc (.invokevirtual k) q.1 q.2.1 q.2.2.1 q.2.2.2) (hcS : ∀ k q, cS k = some q → zCOK p l e R s m args below meth c cells slots nL Λ D ad sa cs A cc (.invokestatic k) q.1 q.2.1 q.2.2.1 q.2.2.2)
    (hret : zRet p l e R s m args below meth c cells slots Q nL Λ D ad sa cs A cc rt RP) (hthr : ∀ pc E ls mem, thr pc = some E → XP E mem → zAW p l e R s m args below meth c cells slots Q nL Λ D ad sa cs A  pc ls [] mem)
    {B : Nat → List (Instr × Nat)} (hB : ∀ pc, zdec cc pc (B pc)) {X : Nat → Option (zL → List zV → zM → Prop)} (hX : ∀ pc Jn, X pc = some Jn → ∀ ls st mem, Jn ls st mem → zAW p l e R s m args below meth c cells slots Q nL Λ D ad sa cs A  pc ls st mem) : ∀ (f pc : Nat) (ls : zL) (st : List zV) (mem : zM), zwp Λ pl cv cS rt RP thr XP nL B X f pc ls st mem → zAW p l e R s m args below meth c cells slots Q nL Λ D ad sa cs A  pc ls st mem := by
  intro f
  induction f with
  | zero => intro pc ls st mem h; exact h.elim
  | succ f ih =>
    intro pc ls st mem h
    refine zrun_sound S hG hpl hcl hsy hR hcv hcS hret hthr (fun pc' ls' st' mem' w => ?_) (B pc) pc ls st mem (hB pc) h
    cases hq : X pc' with
    | none => rw [hq] at w; exact ih _ _ _ _ w
    | some Jn => rw [hq] at w; exact hX _ _ hq _ _ _ w
/-- loops: at their heads an invariant with a number that falls -/
abbrev zI : Type := Nat → Option (Nat → zL → List zV → zM → Prop)
def zBelow (I : zI) (n : Nat) : Nat → Option (zL → List zV → zM → Prop) := fun pc => (I pc).map fun J ls st mem => ∃ n', n' < n ∧ J n' ls st mem
def zAny (I : zI) : Nat → Option (zL → List zV → zM → Prop) := fun pc => (I pc).map fun J ls st mem => ∃ n', J n' ls st mem
theorem zloops {pl : zPo} {cv cS : Nat → Option zCt} {rt : Nat} {RP : Int → zM → Prop} {thr : Nat → Option Nat} {XP : Nat → zM → Prop} (S : CallFix p m c cc nL s args zTbl own) (hG : zGl D cs sa sv A s) (hpl : zPlok own pl) (hcl : zClok) (hsy : zSyok) (hR : 1 ≤ R.frames ∧ 30 ≤ R.locals)
    (hcv : ∀ k q, cv k = some q → zCOK p l e R s m args below meth c cells slots nL Λ D ad sa cs A cc (.invokevirtual k) q.1 q.2.1 q.2.2.1 q.2.2.2) (hcS : ∀ k q, cS k = some q → zCOK p l e R s m args below meth c cells slots nL Λ D ad sa cs A cc (.invokestatic k) q.1 q.2.1 q.2.2.1 q.2.2.2)
    (hret : zRet p l e R s m args below meth c cells slots Q nL Λ D ad sa cs A cc rt RP) (hthr : ∀ pc E ls mem, thr pc = some E → XP E mem → zAW p l e R s m args below meth c cells slots Q nL Λ D ad sa cs A  pc ls [] mem)
    {B : Nat → List (Instr × Nat)} (hB : ∀ pc, zdec cc pc (B pc)) {I : zI} {F : Nat} (hI : ∀ pc J, I pc = some J → ∀ n ls st mem, zokM Λ mem → (∀ k, zok (ls k)) → J n ls st mem → zwp Λ pl cv cS rt RP thr XP nL B (zBelow I n) F pc ls st mem) :
    ∀ (n pc : Nat) (J : Nat → zL → List zV → zM → Prop), I pc = some J → ∀ ls st mem, J n ls st mem → zAW p l e R s m args below meth c cells slots Q nL Λ D ad sa cs A  pc ls st mem := by
  intro n
  induction n using Nat.strongRecOn with
  | _ n ih =>
    intro pc J hJ ls st mem h hm hs hl
    refine zwp_sound S hG hpl hcl hsy hR hcv hcS hret hthr hB (X := zBelow I n) (fun pc' Jn hq ls' st' mem' w => ?_) F pc ls st mem (hI pc J hJ n ls st mem hm hl h) hm hs hl
    unfold zBelow at hq
    cases hi : I pc' with
    | none => rw [hi] at hq; cases hq
    | some J' =>
      rw [hi] at hq
      cases hq
      obtain ⟨n', h1, h2⟩ := w
      exact ih n' h1 pc' J' hi ls' st' mem' h2
end ZY
/-- a callee that is met: what a caller's proof needs of it -/
def zCallee (l : Launch) (Λ : List zC) (own : String) (idx : Nat) (virt : Bool) (LV : Nat) (q : zCt) : Prop :=
  ∃ (y : MethodName) (code : ByteArray) (maxL lv : Nat) (ret : Option FieldType), zMet l Λ y code maxL ret lv q.1 q.2.1 q.2.2.1 q.2.2.2 ∧ lv < LV ∧ maxL ≤ 20 ∧ Cond.code y code maxL ret ∈ zTbl ∧ Cond.initialized y.cls ∈ zTbl ∧ (Cond.methodLink own idx y ∈ zTbl ∨ ∃ host, Cond.methodLinkNest own idx y host ∈ lw_tbl) ∧
    (virt = true → ∃ (tl : List Nat) (ci : Nat) (r : vw_C), q.1 = 2 :: tl ∧ zNm y tl.length ∧ Cond.instanceMethod y ∈ zTbl ∧ Cond.selects y.cls y y ∈ zTbl ∧ zCl[ci]? = some r ∧ r.1 = y.cls ∧ ∀ vs mem, q.2.2.1 vs mem → ∃ (a : Int) (tv : List Int) (fs : List (Nat × Nat)), vs = a :: tv ∧ Λ[a.toNat]? = some (0, ci, fs)) ∧
    (virt = false → zNm y q.1.length ∧ Cond.static y ∈ zTbl)
/-- a text's own methods -/
def zTxC (l : Launch) (Λ : List zC) (own : String) (idx : Nat) (q : zCt) : Prop :=
  ∀ (p : Program) (e : Env) (R : Room) (s : State) (m : MethodId) (args : Array Value) (below : List Frame) (meth : Method) (c : Code) (nL : Nat) (D : va_G) (ad sa sv : Nat → Nat) (cs : Nat → ClassId) (A : Nat → Prop) (cc : ByteArray), CallFix p m c cc nL s args zTbl own → zGl D cs sa sv A s → (∀ q, s.heap.size ≤ q → A q) → 12 ≤ R.frames → 500 ≤ R.locals →
    zCOK p l e R s m args below meth c 0 0 nL Λ D ad sa cs A cc (.invokevirtual idx) q.1 q.2.1 q.2.2.1 q.2.2.2
def zRk (ret : Option FieldType) (rt : Nat) : Prop := (rt = 0 ∧ ret = some .int) ∨ (rt = 4 ∧ ret = some .boolean) ∨ (rt = 1 ∧ ret = some .long) ∨ (rt = 9 ∧ ret = none)
set_option maxHeartbeats 2000000 in
theorem zMet_of {l : Launch} {Λ : List zC} {y : MethodName} {code : ByteArray} {maxL lv rt : Nat} {ret : Option FieldType} {tags : List Nat} {pre : List Int → zM → Prop} {post : List Int → zM → Int → zM → Prop} {own : String} {pl : zPo} {cv cS : Nat → Option zCt} {B : Nat → List (Instr × Nat)} {F : Nat}
    (hy : plainName y.cls = true) (how : y.cls = own) (hrk : zRk ret rt) (hlen : ∀ vs : List Int, vs.length = tags.length → (lg_sl ((tags.zip vs).map (zE (fun x => x) (fun x => x)))).length ≤ maxL) (hpl : zPlok own pl) (hcl : zClok) (hsy : zSyok) (hB : ∀ pc, zdec code pc (B pc))
    (hcv : ∀ k q, cv k = some q → zCallee l Λ own k true lv q ∨ (zTxC l Λ own k q ∧ 10 ≤ lv)) (hcS : ∀ k q, cS k = some q → zCallee l Λ own k false lv q)
    (body : ∀ (vs : List Int) (mem : zM), vs.length = tags.length → (∀ v ∈ tags.zip vs, zok v) → zokM Λ mem → pre vs mem → ∃ I : zI,
      (∀ pc J, I pc = some J → ∀ n ls st mem', zokM Λ mem' → (∀ k, zok (ls k)) → J n ls st mem' → zwp Λ pl cv cS rt (post vs mem) (fun _ => none) (fun _ _ => False) maxL B (zBelow I n) F pc ls st mem') ∧
      zwp Λ pl cv cS rt (post vs mem) (fun _ => none) (fun _ _ => False) maxL B (zAny I) F 0 (zent 0 (tags.zip vs)) [] mem) : zMet l Λ y code maxL ret lv tags rt pre post := by
  intro D ad sa sv cs sz vs mem hvl hok hm hpre
  obtain ⟨I, hI, hE⟩ := body vs mem hvl hok hm hpre
  refine Met.ofW (cc := code) (maxL := maxL) (ret := ret) hy rfl ?_
  intro p e s m args below meth c s₁ Bd hml hv
  obtain ⟨rfl, hsz, hG, hP, hD⟩ := hv
  subst hsz
  have hx := Bd.exec
  have hb := Bd.bytes
  have hr := Bd.returns
  have hts0 := atoms_spec (ws := Cond.code y code maxL ret :: zTbl) Bd.pre
  have hts : ∀ w ∈ zTbl, w.before ((tags.zip vs).map (zE ad sa)).toArray s = true := fun w hw => hts0 w (List.mem_cons_of_mem _ hw)
  have hown : s.vm.findClass own = some m.cls := how ▸ findClass_of_methodNamed Bd.named
  have hlocks := Bd.notSynchronized
  have hA : ∀ q : Nat, s.heap.size ≤ q → zA Λ ad s.heap.size q := fun q h => Or.inr h
  have S : CallFix p m c code maxL s ((tags.zip vs).map (zE ad sa)).toArray zTbl own := ⟨hx, hb, hml, hown, hts⟩
  have hcatlen : (lg_sl ((tags.zip vs).map (zE ad sa))).length ≤ maxL := by
    have h1 := hlen vs hvl
    have h2 : ∀ (ad' sa' : Nat → Nat) (us : List zV), (lg_sl (us.map (zE ad' sa'))).length = (us.map fun v => if v.1 = 1 then 2 else 1).sum := by
      intro ad' sa' us
      induction us with
      | nil => rfl
      | cons v r ih =>
        have e : lg_sl ((v :: r).map (zE ad' sa')) = (if (zE ad' sa' v).category = 2 then [.val (zE ad' sa' v), .second] else [.val (zE ad' sa' v)]) ++ lg_sl (r.map (zE ad' sa')) := rfl
        rw [e, List.length_append, ih, zE_cat, List.map_cons, List.sum_cons]
        by_cases h1 : v.1 = 1
        · rw [if_pos h1, if_pos rfl]; rfl
        · rw [if_neg h1, if_neg (by decide)]; rfl
    rw [h2] at h1 ⊢
    exact h1
  have hl0 := lv_entry ((tags.zip vs).map (zE ad sa)) (n := maxL) hcatlen
  rw [lg_entry_eq]
  generalize (lg_sl ((tags.zip vs).map (zE ad sa)) ++ List.replicate (maxL - (lg_sl ((tags.zip vs).map (zE ad sa))).length) Slot.unset).toArray = L at hl0 ⊢
  have hL : zLs ad sa maxL (zent 0 (tags.zip vs)) L := ⟨hl0.1, hl0.2.1, fun k h9 => hl0.2.2 _ (zent_in (tags.zip vs) 0 k h9)⟩
  have hS : va_S (zA Λ ad s.heap.size) s.heap s.heap [] := va_S.rf
  have hret : zRet p l e (zRm lv) s m ((tags.zip vs).map (zE ad sa)).toArray below meth c 0 0 (MQ below (zQ rt Λ D ad cs s.heap.size (post vs mem)) ((tags.zip vs).map (zE ad sa)).toArray s 0 0 (zA Λ ad s.heap.size)) maxL Λ D ad sa cs (zA Λ ad s.heap.size) code rt (post vs mem) := by
    refine ⟨fun pc ls v mem' hd hrt hp hm' hs' _ H locs L' hP' hD' hL' hS' => ?_, fun pc ls v mem' hd hrt hp hm' hs' _ H locs L' hP' hD' hL' hS' => ?_, fun pc ls mem' hd hrt hp hm' hs' _ H locs L' hP' hD' hL' hS' => ?_⟩
    · have hvr := zhi hs'
      have hq : ∀ t : State, t.heap = H → s.WarmedH t.vm → zQ rt Λ D ad cs s.heap.size (post vs mem) ((tags.zip vs).map (zE ad sa)).toArray s (.returned (some (.int (Int32.ofInt v)))) t := by
        intro t ht _
        have h1 : ¬ rt = 1 := by omega
        have h9 : ¬ rt = 9 := by omega
        unfold zQ
        rw [if_neg h1, if_neg h9]
        exact ⟨⟨Int32.ofInt v, mem', rfl, ⟨by rw [zi_toInt hvr]; exact hp, hm'⟩, by show va_P D zCl (zWd Λ ad cs mem') t.heap; rw [ht]; exact hP'⟩, hS'.F ht⟩
      rcases hrk with ⟨k1, k2⟩ | ⟨k1, k2⟩ | ⟨k1, k2⟩ | ⟨k1, k2⟩
      · exact W.iret hx hb (hr.trans k2) hq hS'.2.2 hd
      · rcases hrt with h | ⟨_, h⟩
        · omega
        · exact W.zret (ty := .boolean) hx hb (hr.trans k2) (by rcases h with h | h <;> subst h <;> rfl) hq hS'.2.2 hd
      · omega
      · omega
    · have hvr := zhl hs'
      have hq : ∀ t : State, t.heap = H → s.WarmedH t.vm → zQ rt Λ D ad cs s.heap.size (post vs mem) ((tags.zip vs).map (zE ad sa)).toArray s (.returned (some (.long (Int64.ofInt v)))) t := by
        intro t ht _
        unfold zQ
        rw [if_pos hrt]
        exact ⟨⟨Int64.ofInt v, mem', rfl, ⟨by rw [zl_toInt hvr]; exact hp, hm'⟩, by show va_P D zCl (zWd Λ ad cs mem') t.heap; rw [ht]; exact hP'⟩, hS'.F ht⟩
      rcases hrk with ⟨k1, k2⟩ | ⟨k1, k2⟩ | ⟨k1, k2⟩ | ⟨k1, k2⟩
      · omega
      · omega
      · exact W.lret hx hb (hr.trans k2) hq hS'.2.2 hd
      · omega
    · have hq : ∀ t : State, t.heap = H → s.WarmedH t.vm → zQ rt Λ D ad cs s.heap.size (post vs mem) ((tags.zip vs).map (zE ad sa)).toArray s (.returned none) t := by
        intro t ht _
        have h1 : ¬ rt = 1 := by omega
        unfold zQ
        rw [if_neg h1, if_pos hrt]
        exact ⟨⟨mem', rfl, ⟨hp, hm'⟩, by show va_P D zCl (zWd Λ ad cs mem') t.heap; rw [ht]; exact hP'⟩, hS'.F ht⟩
      rcases hrk with ⟨k1, k2⟩ | ⟨k1, k2⟩ | ⟨k1, k2⟩ | ⟨k1, k2⟩
      · omega
      · omega
      · omega
      · exact W.vret hx hb (hr.trans k2) hq hS'.2.2 hd
  have hthr : ∀ (pc E : Nat) (ls : zL) (mem' : zM), (fun _ : Nat => (none : Option Nat)) pc = some E → (fun (_ : Nat) (_ : zM) => False) E mem' → zAW p l e (zRm lv) s m ((tags.zip vs).map (zE ad sa)).toArray below meth c 0 0 (MQ below (zQ rt Λ D ad cs s.heap.size (post vs mem)) ((tags.zip vs).map (zE ad sa)).toArray s 0 0 (zA Λ ad s.heap.size)) maxL Λ D ad sa cs (zA Λ ad s.heap.size) pc ls [] mem' := fun _ _ _ _ h => by cases h
  have hR : 1 ≤ (zRm lv).frames ∧ 30 ≤ (zRm lv).locals := ⟨by show 1 ≤ lv + 2; omega, by show 30 ≤ 40 * lv + 100; omega⟩
  have hcv' : ∀ k q, cv k = some q → zCOK p l e (zRm lv) s m ((tags.zip vs).map (zE ad sa)).toArray below meth c 0 0 maxL Λ D ad sa cs (zA Λ ad s.heap.size) code (.invokevirtual k) q.1 q.2.1 q.2.2.1 q.2.2.2 := by
    intro k q hq
    rcases hcv k q hq with hc | ⟨hc, h10⟩
    · obtain ⟨y', code', maxL', lv', ret', hM, hlt, hmx, w1, w2, w3, w4, -⟩ := hc
      obtain ⟨tl, ci, r, t1, t2, t3, t4, t5, t6, t7⟩ := w4 rfl
      obtain ⟨qt, qr, qpre, qpost⟩ := q
      dsimp only at t1 hM t7
      subst t1
      exact zcall_V S hG hA hM t2 w1 w2 t3 t4 w3 t5 t6 t7 ⟨by show lv' + 2 + 1 ≤ lv + 2; omega, by show 8 + (maxL' + 11) + (40 * lv' + 100) ≤ 40 * lv + 100; omega⟩ ⟨Nat.le_refl _, Nat.le_refl _⟩
    · exact hc p e (zRm lv) s m _ below meth c maxL D ad sa sv cs _ code S hG hA (by show 12 ≤ lv + 2; omega) (by show 500 ≤ 40 * lv + 100; omega)
  have hcS' : ∀ k q, cS k = some q → zCOK p l e (zRm lv) s m ((tags.zip vs).map (zE ad sa)).toArray below meth c 0 0 maxL Λ D ad sa cs (zA Λ ad s.heap.size) code (.invokestatic k) q.1 q.2.1 q.2.2.1 q.2.2.2 := by
    intro k q hq
    obtain ⟨y', code', maxL', lv', ret', hM, hlt, hmx, w1, w2, w3, -, w5⟩ := hcS k q hq
    obtain ⟨t1, t2⟩ := w5 rfl
    exact zcall_S S hG hA hM t1 w1 w2 t2 w3 ⟨by show lv' + 2 + 1 ≤ lv + 2; omega, by show 8 + (maxL' + 11) + (40 * lv' + 100) ≤ 40 * lv + 100; omega⟩ ⟨Nat.le_refl _, Nat.le_refl _⟩
  have hloop := zloops (e := e) (below := below) (meth := meth) (R := zRm lv) S hG hpl hcl hsy hR hcv' hcS' hret hthr hB hI
  refine zwp_sound (e := e) (below := below) (meth := meth) (R := zRm lv) S hG hpl hcl hsy hR hcv' hcS' hret hthr hB (X := zAny I) (fun pc' Jn hq ls' st' mem' w => ?_) F 0 _ [] mem hE hm (fun _ h => by cases h) (zent_ok _ 0 hok) s.heap [] L hP hD hL hS
  unfold zAny at hq
  cases hi : I pc' with
  | none => rw [hi] at hq; cases hq
  | some J' =>
    rw [hi] at hq
    cases hq
    obtain ⟨n', h2⟩ := w
    exact hloop n' pc' J' hi ls' st' mem' h2
end
section
/-! ===== the cells of the system, in the order of their making; what a program decides of tables and code ===== -/
def zLay : List zC := [(0, 10, [(2, 1), (2, 23), (4, 0), (2, 45), (2, 48), (2, 55), (0, 0), (2, 56), (2, 59)]),
  (0, 9, [(2, 2), (2, 5), (2, 12), (2, 16), (2, 22), (0, 0), (0, 0), (0, 0), (0, 0), (0, 0)]),
  (0, 0, [(2, 3), (2, 4), (0, 0)]),
  (1, 100, []),
  (1, 100, []),
  (0, 8, [(2, 6), (2, 7), (2, 8), (2, 9), (0, 0), (2, 10), (2, 11), (0, 0), (0, 0)]),
  (1, 16, []),
  (1, 16, []),
  (1, 16, []),
  (1, 16, []),
  (1, 16, []),
  (1, 16, []),
  (0, 1, [(2, 13), (2, 14), (2, 15), (0, 0)]),
  (1, 4, []),
  (1, 4, []),
  (1, 4, []),
  (0, 2, [(2, 17), (2, 18), (2, 19), (2, 20), (0, 0), (0, 0), (2, 21)]),
  (1, 100, []),
  (1, 100, []),
  (1, 100, []),
  (1, 100, []),
  (3, 100, []),
  (1, 8, []),
  (0, 9, [(2, 24), (2, 27), (2, 34), (2, 38), (2, 44), (0, 0), (0, 0), (0, 0), (0, 0), (0, 0)]),
  (0, 0, [(2, 25), (2, 26), (0, 0)]),
  (1, 100, []),
  (1, 100, []),
  (0, 8, [(2, 28), (2, 29), (2, 30), (2, 31), (0, 0), (2, 32), (2, 33), (0, 0), (0, 0)]),
  (1, 16, []),
  (1, 16, []),
  (1, 16, []),
  (1, 16, []),
  (1, 16, []),
  (1, 16, []),
  (0, 1, [(2, 35), (2, 36), (2, 37), (0, 0)]),
  (1, 4, []),
  (1, 4, []),
  (1, 4, []),
  (0, 2, [(2, 39), (2, 40), (2, 41), (2, 42), (0, 0), (0, 0), (2, 43)]),
  (1, 100, []),
  (1, 100, []),
  (1, 100, []),
  (1, 100, []),
  (3, 100, []),
  (1, 8, []),
  (0, 0, [(2, 46), (2, 47), (0, 0)]),
  (1, 100, []),
  (1, 100, []),
  (0, 4, [(2, 49), (2, 53), (0, 0), (0, 0), (0, 0), (0, 0)]),
  (0, 3, [(2, 50), (2, 51), (2, 52), (0, 0)]),
  (1, 200, []),
  (1, 200, []),
  (1, 200, []),
  (0, 7, [(2, 54), (0, 0)]),
  (1, 400, []),
  (5, 4, [(2, 64), (2, 68), (2, 72), (2, 76)]),
  (0, 6, [(2, 57), (2, 58), (0, 0), (0, 0), (0, 0)]),
  (1, 6, []),
  (1, 6, []),
  (0, 5, [(2, 60), (2, 61), (2, 62), (2, 63), (0, 0), (0, 0), (0, 0), (0, 0), (0, 0)]),
  (2, 6000, []),
  (1, 100, []),
  (3, 100, []),
  (2, 100, []),
  (0, 3, [(2, 65), (2, 66), (2, 67), (0, 0)]),
  (1, 200, []),
  (1, 200, []),
  (1, 200, []),
  (0, 3, [(2, 69), (2, 70), (2, 71), (0, 0)]),
  (1, 200, []),
  (1, 200, []),
  (1, 200, []),
  (0, 3, [(2, 73), (2, 74), (2, 75), (0, 0)]),
  (1, 200, []),
  (1, 200, []),
  (1, 200, []),
  (0, 3, [(2, 77), (2, 78), (2, 79), (0, 0)]),
  (1, 200, []),
  (1, 200, []),
  (1, 200, []),
  (0, 11, [(0, 0), (2, 81), (2, 82), (4, 0), (2, 83), (0, 0), (0, 0), (0, 0), (0, 0), (0, 0), (0, 0), (2, 84), (0, 0), (0, 0), (2, 85), (2, 86), (2, 87), (2, 88), (2, 89), (2, 90), (2, 91), (2, 92), (0, 0), (0, 0), (2, 93)]),
  (1, 5917, []),
  (1, 4856, []),
  (4, 400, []),
  (1, 5, []),
  (1, 16, []),
  (3, 100, []),
  (1, 200, []),
  (1, 7, []),
  (1, 7, []),
  (2, 6100, []),
  (3, 100, []),
  (3, 100, []),
  (1, 100, []),
  (2, 1, [])]
theorem zy_0 : zLay[0]? = some (0, 10, [(2, 1), (2, 23), (4, 0), (2, 45), (2, 48), (2, 55), (0, 0), (2, 56), (2, 59)]) := rfl
theorem zy_1 : zLay[1]? = some (0, 9, [(2, 2), (2, 5), (2, 12), (2, 16), (2, 22), (0, 0), (0, 0), (0, 0), (0, 0), (0, 0)]) := rfl
theorem zy_2 : zLay[2]? = some (0, 0, [(2, 3), (2, 4), (0, 0)]) := rfl
theorem zy_3 : zLay[3]? = some (1, 100, []) := rfl
theorem zy_4 : zLay[4]? = some (1, 100, []) := rfl
theorem zy_5 : zLay[5]? = some (0, 8, [(2, 6), (2, 7), (2, 8), (2, 9), (0, 0), (2, 10), (2, 11), (0, 0), (0, 0)]) := rfl
theorem zy_6 : zLay[6]? = some (1, 16, []) := rfl
theorem zy_7 : zLay[7]? = some (1, 16, []) := rfl
theorem zy_8 : zLay[8]? = some (1, 16, []) := rfl
theorem zy_9 : zLay[9]? = some (1, 16, []) := rfl
theorem zy_10 : zLay[10]? = some (1, 16, []) := rfl
theorem zy_11 : zLay[11]? = some (1, 16, []) := rfl
theorem zy_12 : zLay[12]? = some (0, 1, [(2, 13), (2, 14), (2, 15), (0, 0)]) := rfl
theorem zy_13 : zLay[13]? = some (1, 4, []) := rfl
theorem zy_14 : zLay[14]? = some (1, 4, []) := rfl
theorem zy_15 : zLay[15]? = some (1, 4, []) := rfl
theorem zy_16 : zLay[16]? = some (0, 2, [(2, 17), (2, 18), (2, 19), (2, 20), (0, 0), (0, 0), (2, 21)]) := rfl
theorem zy_17 : zLay[17]? = some (1, 100, []) := rfl
theorem zy_18 : zLay[18]? = some (1, 100, []) := rfl
theorem zy_19 : zLay[19]? = some (1, 100, []) := rfl
theorem zy_20 : zLay[20]? = some (1, 100, []) := rfl
theorem zy_21 : zLay[21]? = some (3, 100, []) := rfl
theorem zy_22 : zLay[22]? = some (1, 8, []) := rfl
theorem zy_23 : zLay[23]? = some (0, 9, [(2, 24), (2, 27), (2, 34), (2, 38), (2, 44), (0, 0), (0, 0), (0, 0), (0, 0), (0, 0)]) := rfl
theorem zy_24 : zLay[24]? = some (0, 0, [(2, 25), (2, 26), (0, 0)]) := rfl
theorem zy_25 : zLay[25]? = some (1, 100, []) := rfl
theorem zy_26 : zLay[26]? = some (1, 100, []) := rfl
theorem zy_27 : zLay[27]? = some (0, 8, [(2, 28), (2, 29), (2, 30), (2, 31), (0, 0), (2, 32), (2, 33), (0, 0), (0, 0)]) := rfl
theorem zy_28 : zLay[28]? = some (1, 16, []) := rfl
theorem zy_29 : zLay[29]? = some (1, 16, []) := rfl
theorem zy_30 : zLay[30]? = some (1, 16, []) := rfl
theorem zy_31 : zLay[31]? = some (1, 16, []) := rfl
theorem zy_32 : zLay[32]? = some (1, 16, []) := rfl
theorem zy_33 : zLay[33]? = some (1, 16, []) := rfl
theorem zy_34 : zLay[34]? = some (0, 1, [(2, 35), (2, 36), (2, 37), (0, 0)]) := rfl
theorem zy_35 : zLay[35]? = some (1, 4, []) := rfl
theorem zy_36 : zLay[36]? = some (1, 4, []) := rfl
theorem zy_37 : zLay[37]? = some (1, 4, []) := rfl
theorem zy_38 : zLay[38]? = some (0, 2, [(2, 39), (2, 40), (2, 41), (2, 42), (0, 0), (0, 0), (2, 43)]) := rfl
theorem zy_39 : zLay[39]? = some (1, 100, []) := rfl
theorem zy_40 : zLay[40]? = some (1, 100, []) := rfl
theorem zy_41 : zLay[41]? = some (1, 100, []) := rfl
theorem zy_42 : zLay[42]? = some (1, 100, []) := rfl
theorem zy_43 : zLay[43]? = some (3, 100, []) := rfl
theorem zy_44 : zLay[44]? = some (1, 8, []) := rfl
theorem zy_45 : zLay[45]? = some (0, 0, [(2, 46), (2, 47), (0, 0)]) := rfl
theorem zy_46 : zLay[46]? = some (1, 100, []) := rfl
theorem zy_47 : zLay[47]? = some (1, 100, []) := rfl
theorem zy_48 : zLay[48]? = some (0, 4, [(2, 49), (2, 53), (0, 0), (0, 0), (0, 0), (0, 0)]) := rfl
theorem zy_49 : zLay[49]? = some (0, 3, [(2, 50), (2, 51), (2, 52), (0, 0)]) := rfl
theorem zy_50 : zLay[50]? = some (1, 200, []) := rfl
theorem zy_51 : zLay[51]? = some (1, 200, []) := rfl
theorem zy_52 : zLay[52]? = some (1, 200, []) := rfl
theorem zy_53 : zLay[53]? = some (0, 7, [(2, 54), (0, 0)]) := rfl
theorem zy_54 : zLay[54]? = some (1, 400, []) := rfl
theorem zy_55 : zLay[55]? = some (5, 4, [(2, 64), (2, 68), (2, 72), (2, 76)]) := rfl
theorem zy_56 : zLay[56]? = some (0, 6, [(2, 57), (2, 58), (0, 0), (0, 0), (0, 0)]) := rfl
theorem zy_57 : zLay[57]? = some (1, 6, []) := rfl
theorem zy_58 : zLay[58]? = some (1, 6, []) := rfl
theorem zy_59 : zLay[59]? = some (0, 5, [(2, 60), (2, 61), (2, 62), (2, 63), (0, 0), (0, 0), (0, 0), (0, 0), (0, 0)]) := rfl
theorem zy_60 : zLay[60]? = some (2, 6000, []) := rfl
theorem zy_61 : zLay[61]? = some (1, 100, []) := rfl
theorem zy_62 : zLay[62]? = some (3, 100, []) := rfl
theorem zy_63 : zLay[63]? = some (2, 100, []) := rfl
theorem zy_64 : zLay[64]? = some (0, 3, [(2, 65), (2, 66), (2, 67), (0, 0)]) := rfl
theorem zy_65 : zLay[65]? = some (1, 200, []) := rfl
theorem zy_66 : zLay[66]? = some (1, 200, []) := rfl
theorem zy_67 : zLay[67]? = some (1, 200, []) := rfl
theorem zy_68 : zLay[68]? = some (0, 3, [(2, 69), (2, 70), (2, 71), (0, 0)]) := rfl
theorem zy_69 : zLay[69]? = some (1, 200, []) := rfl
theorem zy_70 : zLay[70]? = some (1, 200, []) := rfl
theorem zy_71 : zLay[71]? = some (1, 200, []) := rfl
theorem zy_72 : zLay[72]? = some (0, 3, [(2, 73), (2, 74), (2, 75), (0, 0)]) := rfl
theorem zy_73 : zLay[73]? = some (1, 200, []) := rfl
theorem zy_74 : zLay[74]? = some (1, 200, []) := rfl
theorem zy_75 : zLay[75]? = some (1, 200, []) := rfl
theorem zy_76 : zLay[76]? = some (0, 3, [(2, 77), (2, 78), (2, 79), (0, 0)]) := rfl
theorem zy_77 : zLay[77]? = some (1, 200, []) := rfl
theorem zy_78 : zLay[78]? = some (1, 200, []) := rfl
theorem zy_79 : zLay[79]? = some (1, 200, []) := rfl
theorem zy_80 : zLay[80]? = some (0, 11, [(0, 0), (2, 81), (2, 82), (4, 0), (2, 83), (0, 0), (0, 0), (0, 0), (0, 0), (0, 0), (0, 0), (2, 84), (0, 0), (0, 0), (2, 85), (2, 86), (2, 87), (2, 88), (2, 89), (2, 90), (2, 91), (2, 92), (0, 0), (0, 0), (2, 93)]) := rfl
theorem zy_81 : zLay[81]? = some (1, 5917, []) := rfl
theorem zy_82 : zLay[82]? = some (1, 4856, []) := rfl
theorem zy_83 : zLay[83]? = some (4, 400, []) := rfl
theorem zy_84 : zLay[84]? = some (1, 5, []) := rfl
theorem zy_85 : zLay[85]? = some (1, 16, []) := rfl
theorem zy_86 : zLay[86]? = some (3, 100, []) := rfl
theorem zy_87 : zLay[87]? = some (1, 200, []) := rfl
theorem zy_88 : zLay[88]? = some (1, 7, []) := rfl
theorem zy_89 : zLay[89]? = some (1, 7, []) := rfl
theorem zy_90 : zLay[90]? = some (2, 6100, []) := rfl
theorem zy_91 : zLay[91]? = some (3, 100, []) := rfl
theorem zy_92 : zLay[92]? = some (3, 100, []) := rfl
theorem zy_93 : zLay[93]? = some (1, 100, []) := rfl
theorem zy_94 : zLay[94]? = some (2, 1, []) := rfl
def zT (n : Nat) (w : Cond) : Bool := decide (lw_tbl[n]? = some w)
def zG (n : Nat) (w : Cond) : Bool := zT n w && goodWord w
theorem zT_mem {n : Nat} {w : Cond} (h : zT n w = true) : w ∈ lw_tbl := List.mem_of_getElem? (of_decide_eq_true h)
theorem zG_mem {n : Nat} {w : Cond} (h : zG n w = true) : w ∈ zTbl := by
  obtain ⟨h1, h2⟩ := Bool.and_eq_true_iff.mp h
  exact List.mem_filter.mpr ⟨zT_mem h1, h2⟩
def zChk (own : String) (q : Nat × Nat × Nat × Nat × Int × Nat) : Bool := match q.2.1 with
  | 0 => match zCl[q.2.2.1]? with
    | none => false
    | some r => decide (q.2.2.2.1 < r.2.2) && decide ((r.2.1 q.2.2.2.1).1 = r.1) && (zG q.2.2.2.2.2 (.fieldLink own q.1 r.1 (r.2.1 q.2.2.2.1).2.1 (r.2.1 q.2.2.2.1).2.2.1) || zT q.2.2.2.2.2 (.fieldLinkNest own q.1 r.1 (r.2.1 q.2.2.2.1).2.1 (r.2.1 q.2.2.2.1).2.2.1 "SandRails")) &&
        decide (q.2.2.2.2.1 = 1 → (r.2.1 q.2.2.2.1).2.2.2 = false ∧ parseFieldDescriptor (r.2.1 q.2.2.2.1).2.2.1 = some .int) && decide (q.2.2.2.2.1 = 2 → (r.2.1 q.2.2.2.1).2.2.2 = false ∧ parseFieldDescriptor (r.2.1 q.2.2.2.1).2.2.1 = some .boolean)
  | 1 => zG q.2.2.2.2.2 (.constant own q.1 (Int32.ofInt q.2.2.2.2.1)) && decide (-2147483648 ≤ q.2.2.2.2.1 ∧ q.2.2.2.2.1 ≤ 2147483647)
  | 2 => zG q.2.2.2.2.2 (.constantLong own q.1 (Int64.ofInt q.2.2.2.2.1)) && decide (-9223372036854775808 ≤ q.2.2.2.2.1 ∧ q.2.2.2.2.1 ≤ 9223372036854775807)
  | 3 => match zTxR[q.2.2.2.2.2]? with
    | none => false
    | some r => decide (r.1 = own) && decide (r.2.1 = q.1) && decide (r.2.2.2 = q.2.2.1)
  | 4 => match zStN[q.2.2.1]? with
    | none => false
    | some nm => zG q.2.2.2.2.2 (.fieldLink own q.1 "SandRails" nm "[I") || zT q.2.2.2.2.2 (.fieldLinkNest own q.1 "SandRails" nm "[I" "SandRails")
  | 6 => zG q.2.2.2.2.2 (.methodLink own q.1 arraycopyName)
  | _ => false
def zPlf (L : List (Nat × Nat × Nat × Nat × Int × Nat)) : zPo := fun k => (L.find? (fun q => q.1 == k)).map fun q => (q.2.1, q.2.2.1, q.2.2.2.1, q.2.2.2.2.1)
theorem zPlok_of {own : String} {L : List (Nat × Nat × Nat × Nat × Int × Nat)} (h : L.all (zChk own) = true) : zPlok own (zPlf L) := by
  intro k kd x y z hk
  unfold zPlf at hk
  cases hf : L.find? (fun q => q.1 == k) with
  | none => rw [hf] at hk; cases hk
  | some q =>
    rw [hf] at hk
    have h1 := List.find?_some hf
    have h2 := List.all_eq_true.mp h q (List.mem_of_find?_eq_some hf)
    obtain ⟨a, b, c, d, e, pos⟩ := q
    have h3 : a = k := by simpa using h1
    subst h3
    simp only [Option.map_some, Option.some.injEq, Prod.mk.injEq] at hk
    obtain ⟨e1, e2, e3, e4⟩ := hk
    subst e1; subst e2; subst e3; subst e4
    unfold zChk at h2
    refine ⟨fun e0 => ?_, fun e0 => ?_, fun e0 => ?_, fun e0 => ?_, fun e0 => ?_, fun e0 => ?_⟩ <;> subst e0 <;> dsimp only at h2
    · cases hq : zCl[c]? with
      | none => rw [hq] at h2; cases h2
      | some r =>
        rw [hq] at h2
        simp only [Bool.and_eq_true, Bool.or_eq_true, decide_eq_true_eq] at h2
        obtain ⟨⟨⟨⟨g1, g2⟩, g3⟩, g4⟩, g5⟩ := h2
        refine ⟨r, rfl, g1, g2, ?_, g4, g5⟩
        rcases g3 with g3 | g3
        · exact Or.inl (zG_mem g3)
        · exact Or.inr ⟨"SandRails", zT_mem g3⟩
    · simp only [Bool.and_eq_true, decide_eq_true_eq] at h2
      exact ⟨zG_mem h2.1, h2.2⟩
    · simp only [Bool.and_eq_true, decide_eq_true_eq] at h2
      exact ⟨zG_mem h2.1, h2.2⟩
    · cases hq : zTxR[pos]? with
      | none => rw [hq] at h2; cases h2
      | some r =>
        rw [hq] at h2
        obtain ⟨r1, r2, r3, r4⟩ := r
        simp only [Bool.and_eq_true, decide_eq_true_eq] at h2
        obtain ⟨⟨g1, g2⟩, g3⟩ := h2
        subst g1; subst g2; subst g3
        exact ⟨r3, List.mem_of_getElem? hq⟩
    · cases hq : zStN[c]? with
      | none => rw [hq] at h2; cases h2
      | some nm =>
        rw [hq] at h2
        simp only [Bool.or_eq_true] at h2
        refine ⟨nm, rfl, ?_⟩
        rcases h2 with g | g
        · exact Or.inl (zG_mem g)
        · exact Or.inr ⟨"SandRails", zT_mem g⟩
    · exact zG_mem h2
def zdecB (cc : ByteArray) : Nat → List (Instr × Nat) → Bool
  | _, [] => true
  | pc, q :: r => decide (decode cc pc = .ok (q.1, q.2)) && zdecB cc (pc + q.2) r
theorem zdecB_ok {cc : ByteArray} : ∀ (b : List (Instr × Nat)) (pc : Nat), zdecB cc pc b = true → zdec cc pc b := by
  intro b
  induction b with
  | nil => intro pc _; trivial
  | cons q r ih =>
    intro pc h
    obtain ⟨h1, h2⟩ := Bool.and_eq_true_iff.mp h
    exact ⟨of_decide_eq_true h1, ih _ h2⟩
def zBf (L : List (Nat × List (Instr × Nat))) : Nat → List (Instr × Nat) := fun pc => ((L.find? (fun q => q.1 == pc)).map (·.2)).getD []
theorem zBf_ok {cc : ByteArray} {L : List (Nat × List (Instr × Nat))} (h : L.all (fun q => zdecB cc q.1 q.2) = true) : ∀ pc, zdec cc pc (zBf L pc) := by
  intro pc
  unfold zBf
  cases hf : L.find? (fun q => q.1 == pc) with
  | none => trivial
  | some q =>
    have h1 : q.1 = pc := by simpa using List.find?_some hf
    have h2 := List.all_eq_true.mp h q (List.mem_of_find?_eq_some hf)
    subst h1
    exact zdecB_ok _ _ h2
/-- contracts of callees, by their entries -/
def zCf (L : List (Nat × zCt)) : Nat → Option zCt := fun k => (L.find? (fun q => q.1 == k)).map (·.2)
theorem zCf_all {L : List (Nat × zCt)} {P : Nat → zCt → Prop} (h : ∀ x ∈ L, P x.1 x.2) : ∀ k q, zCf L k = some q → P k q := by
  intro k q hk
  unfold zCf at hk
  cases hf : L.find? (fun q => q.1 == k) with
  | none => rw [hf] at hk; cases hk
  | some r =>
    rw [hf] at hk
    cases hk
    have h1 : r.1 = k := by simpa using List.find?_some hf
    subst h1
    exact h r (List.mem_of_find?_eq_some hf)
def zIf (L : List (Nat × (Nat → zL → List zV → zM → Prop))) : zI := fun k => (L.find? (fun q => q.1 == k)).map (·.2)
theorem zIf_all {L : List (Nat × (Nat → zL → List zV → zM → Prop))} {P : Nat → (Nat → zL → List zV → zM → Prop) → Prop} (h : ∀ x ∈ L, P x.1 x.2) : ∀ k q, zIf L k = some q → P k q := by
  intro k q hk
  unfold zIf at hk
  cases hf : L.find? (fun q => q.1 == k) with
  | none => rw [hf] at hk; cases hk
  | some r =>
    rw [hf] at hk
    cases hk
    have h1 : r.1 = k := by simpa using List.find?_some hf
    subst h1
    exact h r (List.mem_of_find?_eq_some hf)
theorem zSyok_ok : zSyok := by
  refine ⟨zG_mem (n := 600) ?_, zG_mem (n := 599) ?_, zG_mem (n := 137) ?_⟩ <;> decide +kernel
theorem zk_0 : ∀ w ∈ wsX00, w ∈ zTbl := by decide +kernel
theorem zk_1 : ∀ w ∈ wsX10, w ∈ zTbl := by decide +kernel
theorem zk_2 : ∀ w ∈ wsX20, w ∈ zTbl := by decide +kernel
theorem zk_3 : ∀ w ∈ wsX30, w ∈ zTbl := by decide +kernel
theorem zk_4 : ∀ w ∈ wsX40, w ∈ zTbl := by decide +kernel
theorem zk_5 : ∀ w ∈ wsX50, w ∈ zTbl := by decide +kernel
theorem zk_6 : ∀ w ∈ wsX60, w ∈ zTbl := by decide +kernel
theorem zk_7 : ∀ w ∈ wsX70, w ∈ zTbl := by decide +kernel
theorem zk_8 : ∀ w ∈ wsX80, w ∈ zTbl := by decide +kernel
theorem zk_9 : ∀ w ∈ wsX90, w ∈ zTbl := by decide +kernel
theorem zk_10 : ∀ w ∈ wsX100, w ∈ zTbl := by decide +kernel
theorem zk_11 : ∀ w ∈ wsX110, w ∈ zTbl := by decide +kernel
theorem zClok_ok : zClok := by
  intro ci q h
  match ci, h with
  | 0, h => cases h; exact ⟨zk_0, tyX0, tyX0_ok, nmX0⟩
  | 1, h => cases h; exact ⟨zk_1, tyX1, tyX1_ok, nmX1⟩
  | 2, h => cases h; exact ⟨zk_2, tyX2, tyX2_ok, nmX2⟩
  | 3, h => cases h; exact ⟨zk_3, tyX3, tyX3_ok, nmX3⟩
  | 4, h => cases h; exact ⟨zk_4, tyX4, tyX4_ok, nmX4⟩
  | 5, h => cases h; exact ⟨zk_5, tyX5, tyX5_ok, nmX5⟩
  | 6, h => cases h; exact ⟨zk_6, tyX6, tyX6_ok, nmX6⟩
  | 7, h => cases h; exact ⟨zk_7, tyX7, tyX7_ok, nmX7⟩
  | 8, h => cases h; exact ⟨zk_8, tyX8, tyX8_ok, nmX8⟩
  | 9, h => cases h; exact ⟨zk_9, tyX9, tyX9_ok, nmX9⟩
  | 10, h => cases h; exact ⟨zk_10, tyX10, tyX10_ok, nmX10⟩
  | 11, h => cases h; exact ⟨zk_11, tyX11, tyX11_ok, nmX11⟩
  | k + 12, h => simp [zCl] at h
end
section
/-! ===== the pools: (entry, kind, .. , place among the words) ===== -/
def PX0 : List (Nat × Nat × Nat × Nat × Int × Nat) := [(9, 0, 0, 0, 0, 162), (15, 0, 0, 1, 0, 163), (18, 0, 0, 2, 1, 164), (34, 1, 0, 0, 1103515245, 1158), (39, 6, 0, 0, 0, 598)]
theorem PX0_ok : zPlok RX0 (zPlf PX0) := zPlok_of (by decide +kernel)
theorem pX0_9 : zPlf PX0 9 = some (0, 0, 0, 0) := rfl
theorem pX0_15 : zPlf PX0 15 = some (0, 0, 1, 0) := rfl
theorem pX0_18 : zPlf PX0 18 = some (0, 0, 2, 1) := rfl
theorem pX0_34 : zPlf PX0 34 = some (1, 0, 0, 1103515245) := rfl
theorem pX0_39 : zPlf PX0 39 = some (6, 0, 0, 0) := rfl
def PX1 : List (Nat × Nat × Nat × Nat × Int × Nat) := [(9, 0, 1, 0, 0, 219), (15, 0, 1, 1, 0, 220), (18, 0, 1, 2, 0, 221), (21, 0, 1, 3, 1, 222), (29, 6, 0, 0, 0, 610)]
theorem PX1_ok : zPlok RX1 (zPlf PX1) := zPlok_of (by decide +kernel)
theorem pX1_9 : zPlf PX1 9 = some (0, 1, 0, 0) := rfl
theorem pX1_15 : zPlf PX1 15 = some (0, 1, 1, 0) := rfl
theorem pX1_18 : zPlf PX1 18 = some (0, 1, 2, 0) := rfl
theorem pX1_21 : zPlf PX1 21 = some (0, 1, 3, 1) := rfl
theorem pX1_29 : zPlf PX1 29 = some (6, 0, 0, 0) := rfl
def PX2 : List (Nat × Nat × Nat × Nat × Int × Nat) := [(9, 0, 2, 0, 0, 239), (15, 0, 2, 1, 0, 240), (18, 0, 2, 2, 0, 241), (21, 0, 2, 3, 0, 242), (24, 0, 2, 4, 1, 243), (28, 0, 2, 5, 1, 244), (31, 0, 2, 6, 0, 246), (49, 6, 0, 0, 0, 615)]
theorem PX2_ok : zPlok RX2 (zPlf PX2) := zPlok_of (by decide +kernel)
theorem pX2_9 : zPlf PX2 9 = some (0, 2, 0, 0) := rfl
theorem pX2_15 : zPlf PX2 15 = some (0, 2, 1, 0) := rfl
theorem pX2_18 : zPlf PX2 18 = some (0, 2, 2, 0) := rfl
theorem pX2_21 : zPlf PX2 21 = some (0, 2, 3, 0) := rfl
theorem pX2_24 : zPlf PX2 24 = some (0, 2, 4, 1) := rfl
theorem pX2_28 : zPlf PX2 28 = some (0, 2, 5, 1) := rfl
theorem pX2_31 : zPlf PX2 31 = some (0, 2, 6, 0) := rfl
theorem pX2_49 : zPlf PX2 49 = some (6, 0, 0, 0) := rfl
def PX3 : List (Nat × Nat × Nat × Nat × Int × Nat) := [(11, 0, 3, 0, 0, 322), (15, 0, 3, 1, 0, 323), (18, 0, 3, 2, 0, 324), (21, 0, 3, 3, 1, 325), (29, 6, 0, 0, 0, 905)]
theorem PX3_ok : zPlok RX3 (zPlf PX3) := zPlok_of (by decide +kernel)
theorem pX3_11 : zPlf PX3 11 = some (0, 3, 0, 0) := rfl
theorem pX3_15 : zPlf PX3 15 = some (0, 3, 1, 0) := rfl
theorem pX3_18 : zPlf PX3 18 = some (0, 3, 2, 0) := rfl
theorem pX3_21 : zPlf PX3 21 = some (0, 3, 3, 1) := rfl
theorem pX3_29 : zPlf PX3 29 = some (6, 0, 0, 0) := rfl
def PX4 : List (Nat × Nat × Nat × Nat × Int × Nat) := [(12, 0, 4, 0, 0, 350), (21, 0, 4, 1, 0, 352), (25, 0, 4, 2, 1, 354), (29, 0, 4, 3, 1, 355), (32, 0, 4, 4, 1, 356), (35, 0, 4, 5, 1, 357), (38, 0, 3, 3, 1, 326), (97, 3, 0, 0, 0, 0), (103, 3, 1, 0, 0, 1), (105, 3, 2, 0, 0, 2), (107, 3, 3, 0, 0, 3), (109, 3, 4, 0, 0, 4), (111, 3, 5, 0, 0, 5), (113, 3, 6, 0, 0, 6), (115, 3, 7, 0, 0, 7), (117, 3, 8, 0, 0, 8), (119, 3, 9, 0, 0, 9), (124, 3, 10, 0, 0, 10), (126, 3, 11, 0, 0, 11), (128, 3, 12, 0, 0, 12), (130, 3, 13, 0, 0, 13), (152, 3, 25, 0, 0, 25), (157, 3, 24, 0, 0, 24), (159, 3, 14, 0, 0, 14), (164, 3, 15, 0, 0, 15), (172, 3, 16, 0, 0, 16), (174, 3, 17, 0, 0, 17), (176, 3, 18, 0, 0, 18), (178, 3, 19, 0, 0, 19), (180, 3, 20, 0, 0, 20), (182, 3, 21, 0, 0, 21), (184, 3, 22, 0, 0, 22), (186, 3, 23, 0, 0, 23)]
theorem PX4_ok : zPlok RX4 (zPlf PX4) := zPlok_of (by decide +kernel)
theorem pX4_12 : zPlf PX4 12 = some (0, 4, 0, 0) := rfl
theorem pX4_21 : zPlf PX4 21 = some (0, 4, 1, 0) := rfl
theorem pX4_25 : zPlf PX4 25 = some (0, 4, 2, 1) := rfl
theorem pX4_29 : zPlf PX4 29 = some (0, 4, 3, 1) := rfl
theorem pX4_32 : zPlf PX4 32 = some (0, 4, 4, 1) := rfl
theorem pX4_35 : zPlf PX4 35 = some (0, 4, 5, 1) := rfl
theorem pX4_38 : zPlf PX4 38 = some (0, 3, 3, 1) := rfl
theorem pX4_97 : zPlf PX4 97 = some (3, 0, 0, 0) := rfl
theorem pX4_103 : zPlf PX4 103 = some (3, 1, 0, 0) := rfl
theorem pX4_105 : zPlf PX4 105 = some (3, 2, 0, 0) := rfl
theorem pX4_107 : zPlf PX4 107 = some (3, 3, 0, 0) := rfl
theorem pX4_109 : zPlf PX4 109 = some (3, 4, 0, 0) := rfl
theorem pX4_111 : zPlf PX4 111 = some (3, 5, 0, 0) := rfl
theorem pX4_113 : zPlf PX4 113 = some (3, 6, 0, 0) := rfl
theorem pX4_115 : zPlf PX4 115 = some (3, 7, 0, 0) := rfl
theorem pX4_117 : zPlf PX4 117 = some (3, 8, 0, 0) := rfl
theorem pX4_119 : zPlf PX4 119 = some (3, 9, 0, 0) := rfl
theorem pX4_124 : zPlf PX4 124 = some (3, 10, 0, 0) := rfl
theorem pX4_126 : zPlf PX4 126 = some (3, 11, 0, 0) := rfl
theorem pX4_128 : zPlf PX4 128 = some (3, 12, 0, 0) := rfl
theorem pX4_130 : zPlf PX4 130 = some (3, 13, 0, 0) := rfl
theorem pX4_152 : zPlf PX4 152 = some (3, 25, 0, 0) := rfl
theorem pX4_157 : zPlf PX4 157 = some (3, 24, 0, 0) := rfl
theorem pX4_159 : zPlf PX4 159 = some (3, 14, 0, 0) := rfl
theorem pX4_164 : zPlf PX4 164 = some (3, 15, 0, 0) := rfl
theorem pX4_172 : zPlf PX4 172 = some (3, 16, 0, 0) := rfl
theorem pX4_174 : zPlf PX4 174 = some (3, 17, 0, 0) := rfl
theorem pX4_176 : zPlf PX4 176 = some (3, 18, 0, 0) := rfl
theorem pX4_178 : zPlf PX4 178 = some (3, 19, 0, 0) := rfl
theorem pX4_180 : zPlf PX4 180 = some (3, 20, 0, 0) := rfl
theorem pX4_182 : zPlf PX4 182 = some (3, 21, 0, 0) := rfl
theorem pX4_184 : zPlf PX4 184 = some (3, 22, 0, 0) := rfl
theorem pX4_186 : zPlf PX4 186 = some (3, 23, 0, 0) := rfl
def PX5 : List (Nat × Nat × Nat × Nat × Int × Nat) := [(11, 0, 5, 0, 0, 401), (15, 0, 5, 1, 0, 402), (19, 0, 5, 2, 0, 403), (23, 0, 5, 3, 0, 404), (26, 0, 5, 4, 1, 405), (30, 0, 5, 5, 1, 406), (33, 0, 5, 6, 1, 407), (36, 0, 5, 7, 1, 408), (39, 0, 5, 8, 1, 409), (50, 2, 0, 0, 4611686018427387904, 1363), (56, 2, 0, 0, 1048576, 1386), (61, 0, 9, 1, 0, 269), (101, 0, 9, 0, 0, 265), (142, 4, 0, 0, 0, 1409)]
theorem PX5_ok : zPlok RX5 (zPlf PX5) := zPlok_of (by decide +kernel)
theorem pX5_11 : zPlf PX5 11 = some (0, 5, 0, 0) := rfl
theorem pX5_15 : zPlf PX5 15 = some (0, 5, 1, 0) := rfl
theorem pX5_19 : zPlf PX5 19 = some (0, 5, 2, 0) := rfl
theorem pX5_23 : zPlf PX5 23 = some (0, 5, 3, 0) := rfl
theorem pX5_26 : zPlf PX5 26 = some (0, 5, 4, 1) := rfl
theorem pX5_30 : zPlf PX5 30 = some (0, 5, 5, 1) := rfl
theorem pX5_33 : zPlf PX5 33 = some (0, 5, 6, 1) := rfl
theorem pX5_36 : zPlf PX5 36 = some (0, 5, 7, 1) := rfl
theorem pX5_39 : zPlf PX5 39 = some (0, 5, 8, 1) := rfl
theorem pX5_50 : zPlf PX5 50 = some (2, 0, 0, 4611686018427387904) := rfl
theorem pX5_56 : zPlf PX5 56 = some (2, 0, 0, 1048576) := rfl
theorem pX5_61 : zPlf PX5 61 = some (0, 9, 1, 0) := rfl
theorem pX5_101 : zPlf PX5 101 = some (0, 9, 0, 0) := rfl
theorem pX5_142 : zPlf PX5 142 = some (4, 0, 0, 0) := rfl
def PX6 : List (Nat × Nat × Nat × Nat × Int × Nat) := [(9, 0, 6, 0, 0, 379), (15, 0, 6, 1, 0, 380), (18, 0, 6, 2, 1, 381), (22, 0, 6, 3, 1, 382), (25, 0, 6, 4, 1, 383), (28, 0, 9, 9, 1, 285), (33, 1, 0, 0, 1000000, 1269), (69, 0, 9, 1, 0, 268), (73, 0, 9, 0, 0, 264)]
theorem PX6_ok : zPlok RX6 (zPlf PX6) := zPlok_of (by decide +kernel)
theorem pX6_9 : zPlf PX6 9 = some (0, 6, 0, 0) := rfl
theorem pX6_15 : zPlf PX6 15 = some (0, 6, 1, 0) := rfl
theorem pX6_18 : zPlf PX6 18 = some (0, 6, 2, 1) := rfl
theorem pX6_22 : zPlf PX6 22 = some (0, 6, 3, 1) := rfl
theorem pX6_25 : zPlf PX6 25 = some (0, 6, 4, 1) := rfl
theorem pX6_28 : zPlf PX6 28 = some (0, 9, 9, 1) := rfl
theorem pX6_33 : zPlf PX6 33 = some (1, 0, 0, 1000000) := rfl
theorem pX6_69 : zPlf PX6 69 = some (0, 9, 1, 0) := rfl
theorem pX6_73 : zPlf PX6 73 = some (0, 9, 0, 0) := rfl
def PX7 : List (Nat × Nat × Nat × Nat × Int × Nat) := [(9, 0, 7, 0, 0, 342), (15, 0, 7, 1, 1, 343)]
theorem PX7_ok : zPlok RX7 (zPlf PX7) := zPlok_of (by decide +kernel)
theorem pX7_9 : zPlf PX7 9 = some (0, 7, 0, 0) := rfl
theorem pX7_15 : zPlf PX7 15 = some (0, 7, 1, 1) := rfl
def PX8 : List (Nat × Nat × Nat × Nat × Int × Nat) := [(9, 0, 8, 0, 0, 180), (15, 0, 8, 1, 0, 181), (18, 0, 8, 2, 0, 182), (21, 0, 8, 3, 0, 183), (24, 0, 8, 4, 1, 184), (28, 0, 8, 5, 0, 186), (31, 0, 8, 6, 0, 187), (34, 0, 8, 7, 1, 188), (37, 0, 8, 8, 1, 191), (88, 6, 0, 0, 0, 605)]
theorem PX8_ok : zPlok RX8 (zPlf PX8) := zPlok_of (by decide +kernel)
theorem pX8_9 : zPlf PX8 9 = some (0, 8, 0, 0) := rfl
theorem pX8_15 : zPlf PX8 15 = some (0, 8, 1, 0) := rfl
theorem pX8_18 : zPlf PX8 18 = some (0, 8, 2, 0) := rfl
theorem pX8_21 : zPlf PX8 21 = some (0, 8, 3, 0) := rfl
theorem pX8_24 : zPlf PX8 24 = some (0, 8, 4, 1) := rfl
theorem pX8_28 : zPlf PX8 28 = some (0, 8, 5, 0) := rfl
theorem pX8_31 : zPlf PX8 31 = some (0, 8, 6, 0) := rfl
theorem pX8_34 : zPlf PX8 34 = some (0, 8, 7, 1) := rfl
theorem pX8_37 : zPlf PX8 37 = some (0, 8, 8, 1) := rfl
theorem pX8_88 : zPlf PX8 88 = some (6, 0, 0, 0) := rfl
def PX9 : List (Nat × Nat × Nat × Nat × Int × Nat) := [(12, 0, 9, 0, 0, 263), (21, 0, 9, 1, 0, 267), (28, 0, 9, 2, 0, 271), (35, 0, 9, 3, 0, 273), (39, 0, 9, 4, 0, 275), (43, 0, 9, 5, 1, 276), (47, 0, 9, 6, 1, 278), (50, 0, 9, 7, 1, 280), (53, 0, 9, 8, 1, 282), (56, 0, 9, 9, 1, 284), (59, 4, 2, 0, 0, 1029), (62, 4, 1, 0, 0, 1031), (65, 0, 0, 2, 1, 165), (106, 0, 8, 8, 1, 192), (171, 0, 8, 7, 1, 189), (233, 6, 0, 0, 0, 616)]
theorem PX9_ok : zPlok RX9 (zPlf PX9) := zPlok_of (by decide +kernel)
theorem pX9_12 : zPlf PX9 12 = some (0, 9, 0, 0) := rfl
theorem pX9_21 : zPlf PX9 21 = some (0, 9, 1, 0) := rfl
theorem pX9_28 : zPlf PX9 28 = some (0, 9, 2, 0) := rfl
theorem pX9_35 : zPlf PX9 35 = some (0, 9, 3, 0) := rfl
theorem pX9_39 : zPlf PX9 39 = some (0, 9, 4, 0) := rfl
theorem pX9_43 : zPlf PX9 43 = some (0, 9, 5, 1) := rfl
theorem pX9_47 : zPlf PX9 47 = some (0, 9, 6, 1) := rfl
theorem pX9_50 : zPlf PX9 50 = some (0, 9, 7, 1) := rfl
theorem pX9_53 : zPlf PX9 53 = some (0, 9, 8, 1) := rfl
theorem pX9_56 : zPlf PX9 56 = some (0, 9, 9, 1) := rfl
theorem pX9_59 : zPlf PX9 59 = some (4, 2, 0, 0) := rfl
theorem pX9_62 : zPlf PX9 62 = some (4, 1, 0, 0) := rfl
theorem pX9_65 : zPlf PX9 65 = some (0, 0, 2, 1) := rfl
theorem pX9_106 : zPlf PX9 106 = some (0, 8, 8, 1) := rfl
theorem pX9_171 : zPlf PX9 171 = some (0, 8, 7, 1) := rfl
theorem pX9_233 : zPlf PX9 233 = some (6, 0, 0, 0) := rfl
def PX10 : List (Nat × Nat × Nat × Nat × Int × Nat) := [(10, 0, 10, 0, 0, 431), (16, 0, 10, 1, 0, 432), (19, 0, 10, 2, 2, 433), (26, 0, 10, 3, 0, 434), (33, 0, 10, 4, 0, 435), (39, 0, 10, 5, 0, 436), (43, 0, 10, 6, 1, 437), (50, 0, 10, 7, 0, 438), (57, 0, 10, 8, 0, 439), (62, 0, 4, 1, 0, 353), (76, 0, 7, 1, 1, 344), (94, 0, 9, 8, 1, 283), (102, 0, 4, 0, 0, 351), (121, 0, 9, 9, 1, 286), (135, 0, 9, 0, 0, 266), (144, 0, 9, 1, 0, 270), (148, 0, 8, 4, 1, 185), (161, 0, 9, 2, 0, 272), (165, 0, 1, 3, 1, 223), (271, 0, 9, 5, 1, 277), (316, 0, 9, 3, 0, 274), (340, 0, 8, 7, 1, 190), (341, 0, 8, 8, 1, 193), (344, 0, 9, 6, 1, 279), (350, 0, 2, 5, 1, 245), (351, 0, 9, 7, 1, 281)]
theorem PX10_ok : zPlok RX10 (zPlf PX10) := zPlok_of (by decide +kernel)
theorem pX10_10 : zPlf PX10 10 = some (0, 10, 0, 0) := rfl
theorem pX10_16 : zPlf PX10 16 = some (0, 10, 1, 0) := rfl
theorem pX10_19 : zPlf PX10 19 = some (0, 10, 2, 2) := rfl
theorem pX10_26 : zPlf PX10 26 = some (0, 10, 3, 0) := rfl
theorem pX10_33 : zPlf PX10 33 = some (0, 10, 4, 0) := rfl
theorem pX10_39 : zPlf PX10 39 = some (0, 10, 5, 0) := rfl
theorem pX10_43 : zPlf PX10 43 = some (0, 10, 6, 1) := rfl
theorem pX10_50 : zPlf PX10 50 = some (0, 10, 7, 0) := rfl
theorem pX10_57 : zPlf PX10 57 = some (0, 10, 8, 0) := rfl
theorem pX10_62 : zPlf PX10 62 = some (0, 4, 1, 0) := rfl
theorem pX10_76 : zPlf PX10 76 = some (0, 7, 1, 1) := rfl
theorem pX10_94 : zPlf PX10 94 = some (0, 9, 8, 1) := rfl
theorem pX10_102 : zPlf PX10 102 = some (0, 4, 0, 0) := rfl
theorem pX10_121 : zPlf PX10 121 = some (0, 9, 9, 1) := rfl
theorem pX10_135 : zPlf PX10 135 = some (0, 9, 0, 0) := rfl
theorem pX10_144 : zPlf PX10 144 = some (0, 9, 1, 0) := rfl
theorem pX10_148 : zPlf PX10 148 = some (0, 8, 4, 1) := rfl
theorem pX10_161 : zPlf PX10 161 = some (0, 9, 2, 0) := rfl
theorem pX10_165 : zPlf PX10 165 = some (0, 1, 3, 1) := rfl
theorem pX10_271 : zPlf PX10 271 = some (0, 9, 5, 1) := rfl
theorem pX10_316 : zPlf PX10 316 = some (0, 9, 3, 0) := rfl
theorem pX10_340 : zPlf PX10 340 = some (0, 8, 7, 1) := rfl
theorem pX10_341 : zPlf PX10 341 = some (0, 8, 8, 1) := rfl
theorem pX10_344 : zPlf PX10 344 = some (0, 9, 6, 1) := rfl
theorem pX10_350 : zPlf PX10 350 = some (0, 2, 5, 1) := rfl
theorem pX10_351 : zPlf PX10 351 = some (0, 9, 7, 1) := rfl
def PX11 : List (Nat × Nat × Nat × Nat × Int × Nat) := [(3, 0, 11, 0, 1, 1472), (13, 0, 11, 1, 0, 1473), (17, 0, 11, 2, 0, 1474), (20, 0, 11, 4, 0, 1476), (24, 0, 11, 10, 1, 1482), (27, 0, 11, 11, 0, 1483), (30, 0, 11, 14, 0, 1486), (33, 0, 11, 15, 0, 1487), (37, 0, 11, 16, 0, 1488), (40, 0, 11, 17, 0, 1489), (43, 0, 11, 18, 0, 1490), (46, 0, 11, 19, 0, 1491), (50, 0, 11, 20, 0, 1492), (53, 0, 11, 21, 0, 1493), (56, 0, 11, 24, 0, 1496), (59, 0, 11, 3, 2, 1475), (63, 0, 11, 5, 1, 1477), (66, 0, 11, 6, 1, 1478), (69, 0, 11, 7, 1, 1479), (76, 0, 11, 8, 1, 1480), (103, 0, 11, 12, 1, 1484), (110, 0, 11, 13, 1, 1485), (116, 0, 11, 9, 1, 1481), (127, 3, 16, 0, 0, 35), (129, 3, 17, 0, 0, 36), (131, 3, 18, 0, 0, 37), (133, 3, 19, 0, 0, 38), (135, 3, 20, 0, 0, 39), (137, 3, 21, 0, 0, 40), (139, 3, 22, 0, 0, 41), (141, 3, 23, 0, 0, 42), (149, 3, 14, 0, 0, 33), (160, 3, 15, 0, 0, 34), (168, 3, 24, 0, 0, 43), (173, 3, 25, 0, 0, 44), (175, 3, 10, 0, 0, 48), (177, 3, 11, 0, 0, 49), (179, 3, 12, 0, 0, 50), (181, 3, 13, 0, 0, 51), (193, 3, 0, 0, 0, 26), (195, 3, 2, 0, 0, 27), (197, 3, 3, 0, 0, 28), (199, 3, 4, 0, 0, 29), (201, 3, 5, 0, 0, 30), (203, 3, 7, 0, 0, 31), (208, 3, 8, 0, 0, 32), (214, 3, 9, 0, 0, 45), (216, 3, 6, 0, 0, 46), (217, 3, 1, 0, 0, 47), (294, 1, 0, 0, 1103515245, 1835), (386, 2, 0, 0, 1152921504606846976, 1974), (388, 2, 0, 0, 10000, 1979), (403, 2, 0, 0, 150000, 1981), (405, 0, 11, 22, 1, 1494), (408, 0, 11, 23, 1, 1495)]
theorem PX11_ok : zPlok RX11 (zPlf PX11) := zPlok_of (by decide +kernel)
theorem pX11_3 : zPlf PX11 3 = some (0, 11, 0, 1) := rfl
theorem pX11_13 : zPlf PX11 13 = some (0, 11, 1, 0) := rfl
theorem pX11_17 : zPlf PX11 17 = some (0, 11, 2, 0) := rfl
theorem pX11_20 : zPlf PX11 20 = some (0, 11, 4, 0) := rfl
theorem pX11_24 : zPlf PX11 24 = some (0, 11, 10, 1) := rfl
theorem pX11_27 : zPlf PX11 27 = some (0, 11, 11, 0) := rfl
theorem pX11_30 : zPlf PX11 30 = some (0, 11, 14, 0) := rfl
theorem pX11_33 : zPlf PX11 33 = some (0, 11, 15, 0) := rfl
theorem pX11_37 : zPlf PX11 37 = some (0, 11, 16, 0) := rfl
theorem pX11_40 : zPlf PX11 40 = some (0, 11, 17, 0) := rfl
theorem pX11_43 : zPlf PX11 43 = some (0, 11, 18, 0) := rfl
theorem pX11_46 : zPlf PX11 46 = some (0, 11, 19, 0) := rfl
theorem pX11_50 : zPlf PX11 50 = some (0, 11, 20, 0) := rfl
theorem pX11_53 : zPlf PX11 53 = some (0, 11, 21, 0) := rfl
theorem pX11_56 : zPlf PX11 56 = some (0, 11, 24, 0) := rfl
theorem pX11_59 : zPlf PX11 59 = some (0, 11, 3, 2) := rfl
theorem pX11_63 : zPlf PX11 63 = some (0, 11, 5, 1) := rfl
theorem pX11_66 : zPlf PX11 66 = some (0, 11, 6, 1) := rfl
theorem pX11_69 : zPlf PX11 69 = some (0, 11, 7, 1) := rfl
theorem pX11_76 : zPlf PX11 76 = some (0, 11, 8, 1) := rfl
theorem pX11_103 : zPlf PX11 103 = some (0, 11, 12, 1) := rfl
theorem pX11_110 : zPlf PX11 110 = some (0, 11, 13, 1) := rfl
theorem pX11_116 : zPlf PX11 116 = some (0, 11, 9, 1) := rfl
theorem pX11_127 : zPlf PX11 127 = some (3, 16, 0, 0) := rfl
theorem pX11_129 : zPlf PX11 129 = some (3, 17, 0, 0) := rfl
theorem pX11_131 : zPlf PX11 131 = some (3, 18, 0, 0) := rfl
theorem pX11_133 : zPlf PX11 133 = some (3, 19, 0, 0) := rfl
theorem pX11_135 : zPlf PX11 135 = some (3, 20, 0, 0) := rfl
theorem pX11_137 : zPlf PX11 137 = some (3, 21, 0, 0) := rfl
theorem pX11_139 : zPlf PX11 139 = some (3, 22, 0, 0) := rfl
theorem pX11_141 : zPlf PX11 141 = some (3, 23, 0, 0) := rfl
theorem pX11_149 : zPlf PX11 149 = some (3, 14, 0, 0) := rfl
theorem pX11_160 : zPlf PX11 160 = some (3, 15, 0, 0) := rfl
theorem pX11_168 : zPlf PX11 168 = some (3, 24, 0, 0) := rfl
theorem pX11_173 : zPlf PX11 173 = some (3, 25, 0, 0) := rfl
theorem pX11_175 : zPlf PX11 175 = some (3, 10, 0, 0) := rfl
theorem pX11_177 : zPlf PX11 177 = some (3, 11, 0, 0) := rfl
theorem pX11_179 : zPlf PX11 179 = some (3, 12, 0, 0) := rfl
theorem pX11_181 : zPlf PX11 181 = some (3, 13, 0, 0) := rfl
theorem pX11_193 : zPlf PX11 193 = some (3, 0, 0, 0) := rfl
theorem pX11_195 : zPlf PX11 195 = some (3, 2, 0, 0) := rfl
theorem pX11_197 : zPlf PX11 197 = some (3, 3, 0, 0) := rfl
theorem pX11_199 : zPlf PX11 199 = some (3, 4, 0, 0) := rfl
theorem pX11_201 : zPlf PX11 201 = some (3, 5, 0, 0) := rfl
theorem pX11_203 : zPlf PX11 203 = some (3, 7, 0, 0) := rfl
theorem pX11_208 : zPlf PX11 208 = some (3, 8, 0, 0) := rfl
theorem pX11_214 : zPlf PX11 214 = some (3, 9, 0, 0) := rfl
theorem pX11_216 : zPlf PX11 216 = some (3, 6, 0, 0) := rfl
theorem pX11_217 : zPlf PX11 217 = some (3, 1, 0, 0) := rfl
theorem pX11_294 : zPlf PX11 294 = some (1, 0, 0, 1103515245) := rfl
theorem pX11_386 : zPlf PX11 386 = some (2, 0, 0, 1152921504606846976) := rfl
theorem pX11_388 : zPlf PX11 388 = some (2, 0, 0, 10000) := rfl
theorem pX11_403 : zPlf PX11 403 = some (2, 0, 0, 150000) := rfl
theorem pX11_405 : zPlf PX11 405 = some (0, 11, 22, 1) := rfl
theorem pX11_408 : zPlf PX11 408 = some (0, 11, 23, 1) := rfl
end
section
/-! ===== blocks, words, links (by program) ===== -/
def zMv (y : MethodName) (code : ByteArray) (maxL : Nat) (ret : Option FieldType) : Prop := Cond.code y code maxL ret ∈ zTbl ∧ Cond.initialized y.cls ∈ zTbl ∧ Cond.instanceMethod y ∈ zTbl ∧ Cond.selects y.cls y y ∈ zTbl
def zMs (y : MethodName) (code : ByteArray) (maxL : Nat) (ret : Option FieldType) : Prop := Cond.code y code maxL ret ∈ zTbl ∧ Cond.initialized y.cls ∈ zTbl ∧ Cond.static y ∈ zTbl

def BX0_init : List (Nat × List (Instr × Nat)) := [(0, [(.aload_n 0, 1), (.invokespecial 3, 3), (.aload_n 0, 1), (.bipush 100, 2), (.newarray .int, 2), (.putfield 9, 3), (.aload_n 0, 1), (.bipush 100, 2), (.newarray .int, 2), (.putfield 15, 3), (.aload_n 0, 1), (.iconst 1, 1), (.putfield 18, 3), (.return_, 1)])]
theorem oX0_init : ∀ pc, zdec cX0_init pc (zBf BX0_init pc) := zBf_ok (by decide +kernel)
theorem bX0_init_0 : zBf BX0_init 0 = [(.aload_n 0, 1), (.invokespecial 3, 3), (.aload_n 0, 1), (.bipush 100, 2), (.newarray .int, 2), (.putfield 9, 3), (.aload_n 0, 1), (.bipush 100, 2), (.newarray .int, 2), (.putfield 15, 3), (.aload_n 0, 1), (.iconst 1, 1), (.putfield 18, 3), (.return_, 1)] := rfl
def BX0_kindOf : List (Nat × List (Instr × Nat)) := [(0, [(.iload_n 1, 1), (.invokestatic 22, 3), (.ifCond .eq 12, 3), (.aload_n 0, 1), (.getfield 9, 3), (.iload_n 1, 1), (.iaload, 1), (.goto 4, 3)]), (16, [(.iconst (-1), 1)]), (17, [(.ireturn, 1)])]
theorem oX0_kindOf : ∀ pc, zdec cX0_kindOf pc (zBf BX0_kindOf pc) := zBf_ok (by decide +kernel)
theorem bX0_kindOf_0 : zBf BX0_kindOf 0 = [(.iload_n 1, 1), (.invokestatic 22, 3), (.ifCond .eq 12, 3), (.aload_n 0, 1), (.getfield 9, 3), (.iload_n 1, 1), (.iaload, 1), (.goto 4, 3)] := rfl
theorem bX0_kindOf_16 : zBf BX0_kindOf 16 = [(.iconst (-1), 1)] := rfl
theorem bX0_kindOf_17 : zBf BX0_kindOf 17 = [(.ireturn, 1)] := rfl
theorem hX0_kindOf : zMv yX0_kindOf cX0_kindOf 2 (some .int) := ⟨zG_mem (n := 574) (by decide +kernel), zG_mem (n := 118) (by decide +kernel), zG_mem (n := 572) (by decide +kernel), zG_mem (n := 573) (by decide +kernel)⟩
def BX0_put : List (Nat × List (Instr × Nat)) := [(0, [(.iload_n 1, 1), (.invokestatic 22, 3), (.ifCond .eq 10, 3), (.aload_n 0, 1), (.getfield 9, 3), (.iload_n 1, 1), (.iload_n 2, 1), (.iastore, 1)]), (14, [(.return_, 1)])]
theorem oX0_put : ∀ pc, zdec cX0_put pc (zBf BX0_put pc) := zBf_ok (by decide +kernel)
theorem bX0_put_0 : zBf BX0_put 0 = [(.iload_n 1, 1), (.invokestatic 22, 3), (.ifCond .eq 10, 3), (.aload_n 0, 1), (.getfield 9, 3), (.iload_n 1, 1), (.iload_n 2, 1), (.iastore, 1)] := rfl
theorem bX0_put_14 : zBf BX0_put 14 = [(.return_, 1)] := rfl
theorem hX0_put : zMv yX0_put cX0_put 3 none := ⟨zG_mem (n := 947) (by decide +kernel), zG_mem (n := 118) (by decide +kernel), zG_mem (n := 945) (by decide +kernel), zG_mem (n := 946) (by decide +kernel)⟩
def BX0_isBesideWell : List (Nat × List (Instr × Nat)) := [(0, [(.iconst 0, 1), (.istore_n 2, 1)]), (2, [(.iload_n 2, 1), (.iconst 4, 1), (.if_icmp .ge 24, 3), (.aload_n 0, 1), (.iload_n 1, 1), (.iload_n 2, 1), (.invokestatic 26, 3), (.invokevirtual 30, 3), (.iconst 3, 1), (.if_icmp .ne 5, 3), (.iconst 1, 1), (.ireturn, 1)]), (22, [(.iinc 2 1, 3), (.goto (-23), 3)]), (28, [(.iconst 0, 1), (.ireturn, 1)])]
theorem oX0_isBesideWell : ∀ pc, zdec cX0_isBesideWell pc (zBf BX0_isBesideWell pc) := zBf_ok (by decide +kernel)
theorem bX0_isBesideWell_0 : zBf BX0_isBesideWell 0 = [(.iconst 0, 1), (.istore_n 2, 1)] := rfl
theorem bX0_isBesideWell_2 : zBf BX0_isBesideWell 2 = [(.iload_n 2, 1), (.iconst 4, 1), (.if_icmp .ge 24, 3), (.aload_n 0, 1), (.iload_n 1, 1), (.iload_n 2, 1), (.invokestatic 26, 3), (.invokevirtual 30, 3), (.iconst 3, 1), (.if_icmp .ne 5, 3), (.iconst 1, 1), (.ireturn, 1)] := rfl
theorem bX0_isBesideWell_22 : zBf BX0_isBesideWell 22 = [(.iinc 2 1, 3), (.goto (-23), 3)] := rfl
theorem bX0_isBesideWell_28 : zBf BX0_isBesideWell 28 = [(.iconst 0, 1), (.ireturn, 1)] := rfl
theorem hX0_isBesideWell : zMv yX0_isBesideWell cX0_isBesideWell 3 (some .boolean) := ⟨zG_mem (n := 1228) (by decide +kernel), zG_mem (n := 118) (by decide +kernel), zG_mem (n := 1226) (by decide +kernel), zG_mem (n := 1227) (by decide +kernel)⟩
def BX0_dunes : List (Nat × List (Instr × Nat)) := [(0, [(.iconst 0, 1), (.istore_n 1, 1), (.iconst 0, 1), (.istore_n 2, 1)]), (4, [(.iload_n 2, 1), (.bipush 100, 2), (.if_icmp .ge 22, 3), (.aload_n 0, 1), (.getfield 9, 3), (.iload_n 2, 1), (.iaload, 1), (.iconst 2, 1), (.if_icmp .ne 6, 3), (.iinc 1 1, 3)]), (23, [(.iinc 2 1, 3), (.goto (-22), 3)]), (29, [(.iload_n 1, 1), (.ireturn, 1)])]
theorem oX0_dunes : ∀ pc, zdec cX0_dunes pc (zBf BX0_dunes pc) := zBf_ok (by decide +kernel)
theorem bX0_dunes_0 : zBf BX0_dunes 0 = [(.iconst 0, 1), (.istore_n 1, 1), (.iconst 0, 1), (.istore_n 2, 1)] := rfl
theorem bX0_dunes_4 : zBf BX0_dunes 4 = [(.iload_n 2, 1), (.bipush 100, 2), (.if_icmp .ge 22, 3), (.aload_n 0, 1), (.getfield 9, 3), (.iload_n 2, 1), (.iaload, 1), (.iconst 2, 1), (.if_icmp .ne 6, 3), (.iinc 1 1, 3)] := rfl
theorem bX0_dunes_23 : zBf BX0_dunes 23 = [(.iinc 2 1, 3), (.goto (-22), 3)] := rfl
theorem bX0_dunes_29 : zBf BX0_dunes 29 = [(.iload_n 1, 1), (.ireturn, 1)] := rfl
theorem hX0_dunes : zMv yX0_dunes cX0_dunes 3 (some .int) := ⟨zG_mem (n := 581) (by decide +kernel), zG_mem (n := 118) (by decide +kernel), zG_mem (n := 579) (by decide +kernel), zG_mem (n := 580) (by decide +kernel)⟩
def BX0_draw : List (Nat × List (Instr × Nat)) := [(0, [(.aload_n 0, 1), (.ldc 34, 2), (.aload_n 0, 1), (.getfield 18, 3), (.imul, 1), (.sipush 12345, 3), (.iadd, 1), (.putfield 18, 3), (.aload_n 0, 1), (.getfield 18, 3), (.bipush 16, 2), (.iushr, 1), (.sipush 32767, 3), (.iand, 1), (.ireturn, 1)])]
theorem oX0_draw : ∀ pc, zdec cX0_draw pc (zBf BX0_draw pc) := zBf_ok (by decide +kernel)
theorem bX0_draw_0 : zBf BX0_draw 0 = [(.aload_n 0, 1), (.ldc 34, 2), (.aload_n 0, 1), (.getfield 18, 3), (.imul, 1), (.sipush 12345, 3), (.iadd, 1), (.putfield 18, 3), (.aload_n 0, 1), (.getfield 18, 3), (.bipush 16, 2), (.iushr, 1), (.sipush 32767, 3), (.iand, 1), (.ireturn, 1)] := rfl
theorem hX0_draw : zMv yX0_draw cX0_draw 1 (some .int) := ⟨zG_mem (n := 1157) (by decide +kernel), zG_mem (n := 118) (by decide +kernel), zG_mem (n := 1155) (by decide +kernel), zG_mem (n := 1156) (by decide +kernel)⟩
def BX0_night : List (Nat × List (Instr × Nat)) := [(0, [(.aload_n 0, 1), (.invokevirtual 35, 3), (.iconst 4, 1), (.irem, 1), (.istore_n 2, 1), (.aload_n 0, 1), (.getfield 9, 3), (.iconst 0, 1), (.aload_n 0, 1), (.getfield 15, 3), (.iconst 0, 1), (.bipush 100, 2), (.invokestatic 39, 3), (.iconst 0, 1), (.istore_n 3, 1)]), (24, [(.iload_n 3, 1), (.bipush 100, 2), (.if_icmp .ge 36, 3), (.aload_n 0, 1), (.getfield 15, 3), (.iload_n 3, 1), (.iaload, 1), (.iconst 2, 1), (.if_icmp .ne 20, 3), (.aload_n 0, 1), (.invokevirtual 35, 3), (.bipush 100, 2), (.irem, 1), (.iload_n 1, 1), (.if_icmp .ge 9, 3), (.aload_n 0, 1), (.iload_n 3, 1), (.iload_n 2, 1), (.invokevirtual 45, 3)]), (57, [(.iinc 3 1, 3), (.goto (-36), 3)]), (63, [(.return_, 1)])]
theorem oX0_night : ∀ pc, zdec cX0_night pc (zBf BX0_night pc) := zBf_ok (by decide +kernel)
theorem bX0_night_0 : zBf BX0_night 0 = [(.aload_n 0, 1), (.invokevirtual 35, 3), (.iconst 4, 1), (.irem, 1), (.istore_n 2, 1), (.aload_n 0, 1), (.getfield 9, 3), (.iconst 0, 1), (.aload_n 0, 1), (.getfield 15, 3), (.iconst 0, 1), (.bipush 100, 2), (.invokestatic 39, 3), (.iconst 0, 1), (.istore_n 3, 1)] := rfl
theorem bX0_night_24 : zBf BX0_night 24 = [(.iload_n 3, 1), (.bipush 100, 2), (.if_icmp .ge 36, 3), (.aload_n 0, 1), (.getfield 15, 3), (.iload_n 3, 1), (.iaload, 1), (.iconst 2, 1), (.if_icmp .ne 20, 3), (.aload_n 0, 1), (.invokevirtual 35, 3), (.bipush 100, 2), (.irem, 1), (.iload_n 1, 1), (.if_icmp .ge 9, 3), (.aload_n 0, 1), (.iload_n 3, 1), (.iload_n 2, 1), (.invokevirtual 45, 3)] := rfl
theorem bX0_night_57 : zBf BX0_night 57 = [(.iinc 3 1, 3), (.goto (-36), 3)] := rfl
theorem bX0_night_63 : zBf BX0_night 63 = [(.return_, 1)] := rfl
theorem hX0_night : zMv yX0_night cX0_night 4 none := ⟨zG_mem (n := 1153) (by decide +kernel), zG_mem (n := 118) (by decide +kernel), zG_mem (n := 1151) (by decide +kernel), zG_mem (n := 1152) (by decide +kernel)⟩
def BX0_blow : List (Nat × List (Instr × Nat)) := [(0, [(.iload_n 1, 1), (.iload_n 2, 1), (.invokestatic 26, 3), (.istore_n 3, 1), (.iload_n 3, 1), (.ifCond .lt 9, 3), (.iload_n 3, 1), (.bipush 100, 2), (.if_icmp .lt 7, 3)]), (16, [(.iconst 1, 1), (.goto 4, 3)]), (20, [(.iconst 0, 1)]), (21, [(.istore 4, 2), (.iload_n 1, 1), (.ifCond .lt 23, 3), (.iload_n 1, 1), (.bipush 100, 2), (.if_icmp .ge 17, 3), (.iload 4, 2), (.ifCond .ne 13, 3), (.aload_n 0, 1), (.getfield 9, 3), (.iload_n 3, 1), (.iaload, 1), (.ifCond .eq 4, 3)]), (47, [(.return_, 1)]), (48, [(.aload_n 0, 1), (.getfield 9, 3), (.iload_n 1, 1), (.iconst 0, 1), (.iastore, 1), (.iload 4, 2), (.ifCond .ne 10, 3), (.aload_n 0, 1), (.getfield 9, 3), (.iload_n 3, 1), (.iconst 2, 1), (.iastore, 1)]), (67, [(.return_, 1)])]
theorem oX0_blow : ∀ pc, zdec cX0_blow pc (zBf BX0_blow pc) := zBf_ok (by decide +kernel)
theorem bX0_blow_0 : zBf BX0_blow 0 = [(.iload_n 1, 1), (.iload_n 2, 1), (.invokestatic 26, 3), (.istore_n 3, 1), (.iload_n 3, 1), (.ifCond .lt 9, 3), (.iload_n 3, 1), (.bipush 100, 2), (.if_icmp .lt 7, 3)] := rfl
theorem bX0_blow_16 : zBf BX0_blow 16 = [(.iconst 1, 1), (.goto 4, 3)] := rfl
theorem bX0_blow_20 : zBf BX0_blow 20 = [(.iconst 0, 1)] := rfl
theorem bX0_blow_21 : zBf BX0_blow 21 = [(.istore 4, 2), (.iload_n 1, 1), (.ifCond .lt 23, 3), (.iload_n 1, 1), (.bipush 100, 2), (.if_icmp .ge 17, 3), (.iload 4, 2), (.ifCond .ne 13, 3), (.aload_n 0, 1), (.getfield 9, 3), (.iload_n 3, 1), (.iaload, 1), (.ifCond .eq 4, 3)] := rfl
theorem bX0_blow_47 : zBf BX0_blow 47 = [(.return_, 1)] := rfl
theorem bX0_blow_48 : zBf BX0_blow 48 = [(.aload_n 0, 1), (.getfield 9, 3), (.iload_n 1, 1), (.iconst 0, 1), (.iastore, 1), (.iload 4, 2), (.ifCond .ne 10, 3), (.aload_n 0, 1), (.getfield 9, 3), (.iload_n 3, 1), (.iconst 2, 1), (.iastore, 1)] := rfl
theorem bX0_blow_67 : zBf BX0_blow 67 = [(.return_, 1)] := rfl
theorem hX0_blow : zMv yX0_blow cX0_blow 5 none := ⟨zG_mem (n := 1162) (by decide +kernel), zG_mem (n := 118) (by decide +kernel), zG_mem (n := 1161) (by decide +kernel), zG_mem (n := 26) (by decide +kernel)⟩
def BX0_copyFrom : List (Nat × List (Instr × Nat)) := [(0, [(.aload_n 1, 1), (.getfield 9, 3), (.iconst 0, 1), (.aload_n 0, 1), (.getfield 9, 3), (.iconst 0, 1), (.bipush 100, 2), (.invokestatic 39, 3), (.aload_n 0, 1), (.aload_n 1, 1), (.getfield 18, 3), (.putfield 18, 3), (.return_, 1)])]
theorem oX0_copyFrom : ∀ pc, zdec cX0_copyFrom pc (zBf BX0_copyFrom pc) := zBf_ok (by decide +kernel)
theorem bX0_copyFrom_0 : zBf BX0_copyFrom 0 = [(.aload_n 1, 1), (.getfield 9, 3), (.iconst 0, 1), (.aload_n 0, 1), (.getfield 9, 3), (.iconst 0, 1), (.bipush 100, 2), (.invokestatic 39, 3), (.aload_n 0, 1), (.aload_n 1, 1), (.getfield 18, 3), (.putfield 18, 3), (.return_, 1)] := rfl
theorem hX0_copyFrom : zMv yX0_copyFrom cX0_copyFrom 2 none := ⟨zG_mem (n := 597) (by decide +kernel), zG_mem (n := 118) (by decide +kernel), zG_mem (n := 595) (by decide +kernel), zG_mem (n := 596) (by decide +kernel)⟩
theorem kX0_22 : Cond.methodLink RX0 22 yX10_isCell ∈ zTbl ∨ ∃ host, Cond.methodLinkNest RX0 22 yX10_isCell host ∈ lw_tbl := Or.inr ⟨"SandRails", zT_mem (n := 575) (by decide +kernel)⟩
theorem kX0_35 : Cond.methodLink RX0 35 yX0_draw ∈ zTbl ∨ ∃ host, Cond.methodLinkNest RX0 35 yX0_draw host ∈ lw_tbl := Or.inl (zG_mem (n := 1154) (by decide +kernel))
theorem kX0_45 : Cond.methodLink RX0 45 yX0_blow ∈ zTbl ∨ ∃ host, Cond.methodLinkNest RX0 45 yX0_blow host ∈ lw_tbl := Or.inl (zG_mem (n := 1159) (by decide +kernel))
theorem kX0_26 : Cond.methodLink RX0 26 yX10_beside ∈ zTbl ∨ ∃ host, Cond.methodLinkNest RX0 26 yX10_beside host ∈ lw_tbl := Or.inr ⟨"SandRails", zT_mem (n := 1163) (by decide +kernel)⟩
theorem kX0_30 : Cond.methodLink RX0 30 yX0_kindOf ∈ zTbl ∨ ∃ host, Cond.methodLinkNest RX0 30 yX0_kindOf host ∈ lw_tbl := Or.inl (zG_mem (n := 1229) (by decide +kernel))
def BX1_init : List (Nat × List (Instr × Nat)) := [(0, [(.aload_n 0, 1), (.invokespecial 3, 3), (.aload_n 0, 1), (.iconst 4, 1), (.newarray .int, 2), (.putfield 9, 3), (.aload_n 0, 1), (.iconst 4, 1), (.newarray .int, 2), (.putfield 15, 3), (.aload_n 0, 1), (.iconst 4, 1), (.newarray .int, 2), (.putfield 18, 3), (.aload_n 0, 1), (.iconst 0, 1), (.putfield 21, 3), (.return_, 1)])]
theorem oX1_init : ∀ pc, zdec cX1_init pc (zBf BX1_init pc) := zBf_ok (by decide +kernel)
theorem bX1_init_0 : zBf BX1_init 0 = [(.aload_n 0, 1), (.invokespecial 3, 3), (.aload_n 0, 1), (.iconst 4, 1), (.newarray .int, 2), (.putfield 9, 3), (.aload_n 0, 1), (.iconst 4, 1), (.newarray .int, 2), (.putfield 15, 3), (.aload_n 0, 1), (.iconst 4, 1), (.newarray .int, 2), (.putfield 18, 3), (.aload_n 0, 1), (.iconst 0, 1), (.putfield 21, 3), (.return_, 1)] := rfl
def BX1_isGang : List (Nat × List (Instr × Nat)) := [(0, [(.iload_n 1, 1), (.ifCond .lt 20, 3), (.iload_n 1, 1), (.aload_n 0, 1), (.getfield 21, 3), (.if_icmp .ge 12, 3), (.iload_n 1, 1), (.iconst 4, 1), (.if_icmp .ge 7, 3), (.iconst 1, 1), (.goto 4, 3)]), (21, [(.iconst 0, 1)]), (22, [(.ireturn, 1)])]
theorem oX1_isGang : ∀ pc, zdec cX1_isGang pc (zBf BX1_isGang pc) := zBf_ok (by decide +kernel)
theorem bX1_isGang_0 : zBf BX1_isGang 0 = [(.iload_n 1, 1), (.ifCond .lt 20, 3), (.iload_n 1, 1), (.aload_n 0, 1), (.getfield 21, 3), (.if_icmp .ge 12, 3), (.iload_n 1, 1), (.iconst 4, 1), (.if_icmp .ge 7, 3), (.iconst 1, 1), (.goto 4, 3)] := rfl
theorem bX1_isGang_21 : zBf BX1_isGang 21 = [(.iconst 0, 1)] := rfl
theorem bX1_isGang_22 : zBf BX1_isGang 22 = [(.ireturn, 1)] := rfl
theorem hX1_isGang : zMv yX1_isGang cX1_isGang 2 (some .boolean) := ⟨zG_mem (n := 992) (by decide +kernel), zG_mem (n := 120) (by decide +kernel), zG_mem (n := 990) (by decide +kernel), zG_mem (n := 991) (by decide +kernel)⟩
def BX1_addGang : List (Nat × List (Instr × Nat)) := [(0, [(.aload_n 0, 1), (.getfield 21, 3), (.istore_n 3, 1), (.iload_n 3, 1), (.ifCond .lt 36, 3), (.iload_n 3, 1), (.iconst 4, 1), (.if_icmp .ge 31, 3), (.aload_n 0, 1), (.getfield 9, 3), (.iload_n 3, 1), (.iload_n 1, 1), (.iastore, 1), (.aload_n 0, 1), (.getfield 15, 3), (.iload_n 3, 1), (.iload_n 2, 1), (.iastore, 1), (.aload_n 0, 1), (.getfield 18, 3), (.iload_n 3, 1), (.iconst 0, 1), (.iastore, 1), (.aload_n 0, 1), (.iload_n 3, 1), (.iconst 1, 1), (.iadd, 1), (.putfield 21, 3)]), (42, [(.iload_n 3, 1), (.ireturn, 1)])]
theorem oX1_addGang : ∀ pc, zdec cX1_addGang pc (zBf BX1_addGang pc) := zBf_ok (by decide +kernel)
theorem bX1_addGang_0 : zBf BX1_addGang 0 = [(.aload_n 0, 1), (.getfield 21, 3), (.istore_n 3, 1), (.iload_n 3, 1), (.ifCond .lt 36, 3), (.iload_n 3, 1), (.iconst 4, 1), (.if_icmp .ge 31, 3), (.aload_n 0, 1), (.getfield 9, 3), (.iload_n 3, 1), (.iload_n 1, 1), (.iastore, 1), (.aload_n 0, 1), (.getfield 15, 3), (.iload_n 3, 1), (.iload_n 2, 1), (.iastore, 1), (.aload_n 0, 1), (.getfield 18, 3), (.iload_n 3, 1), (.iconst 0, 1), (.iastore, 1), (.aload_n 0, 1), (.iload_n 3, 1), (.iconst 1, 1), (.iadd, 1), (.putfield 21, 3)] := rfl
theorem bX1_addGang_42 : zBf BX1_addGang 42 = [(.iload_n 3, 1), (.ireturn, 1)] := rfl
theorem hX1_addGang : zMv yX1_addGang cX1_addGang 4 (some .int) := ⟨zG_mem (n := 981) (by decide +kernel), zG_mem (n := 120) (by decide +kernel), zG_mem (n := 979) (by decide +kernel), zG_mem (n := 980) (by decide +kernel)⟩
def BX1_changeTask : List (Nat × List (Instr × Nat)) := [(0, [(.aload_n 0, 1), (.iload_n 1, 1), (.invokevirtual 25, 3), (.ifCond .ne 5, 3), (.iconst (-1), 1), (.ireturn, 1)]), (10, [(.aload_n 0, 1), (.getfield 18, 3), (.iload_n 1, 1), (.iaload, 1), (.istore_n 3, 1), (.aload_n 0, 1), (.getfield 18, 3), (.iload_n 1, 1), (.iload_n 2, 1), (.iastore, 1), (.iload_n 3, 1), (.ireturn, 1)])]
theorem oX1_changeTask : ∀ pc, zdec cX1_changeTask pc (zBf BX1_changeTask pc) := zBf_ok (by decide +kernel)
theorem bX1_changeTask_0 : zBf BX1_changeTask 0 = [(.aload_n 0, 1), (.iload_n 1, 1), (.invokevirtual 25, 3), (.ifCond .ne 5, 3), (.iconst (-1), 1), (.ireturn, 1)] := rfl
theorem bX1_changeTask_10 : zBf BX1_changeTask 10 = [(.aload_n 0, 1), (.getfield 18, 3), (.iload_n 1, 1), (.iaload, 1), (.istore_n 3, 1), (.aload_n 0, 1), (.getfield 18, 3), (.iload_n 1, 1), (.iload_n 2, 1), (.iastore, 1), (.iload_n 3, 1), (.ireturn, 1)] := rfl
theorem hX1_changeTask : zMv yX1_changeTask cX1_changeTask 4 (some .int) := ⟨zG_mem (n := 998) (by decide +kernel), zG_mem (n := 120) (by decide +kernel), zG_mem (n := 996) (by decide +kernel), zG_mem (n := 997) (by decide +kernel)⟩
def BX1_strengthAt : List (Nat × List (Instr × Nat)) := [(0, [(.iconst 0, 1), (.istore_n 2, 1), (.iconst 0, 1), (.istore_n 3, 1)]), (4, [(.iload_n 3, 1), (.iconst 4, 1), (.if_icmp .ge 36, 3), (.iload_n 3, 1), (.aload_n 0, 1), (.getfield 21, 3), (.if_icmp .ge 22, 3), (.aload_n 0, 1), (.getfield 18, 3), (.iload_n 3, 1), (.iaload, 1), (.iload_n 1, 1), (.if_icmp .ne 12, 3), (.iload_n 2, 1), (.aload_n 0, 1), (.getfield 9, 3), (.iload_n 3, 1), (.iaload, 1), (.iadd, 1), (.istore_n 2, 1)]), (36, [(.iinc 3 1, 3), (.goto (-35), 3)]), (42, [(.iload_n 2, 1), (.ireturn, 1)])]
theorem oX1_strengthAt : ∀ pc, zdec cX1_strengthAt pc (zBf BX1_strengthAt pc) := zBf_ok (by decide +kernel)
theorem bX1_strengthAt_0 : zBf BX1_strengthAt 0 = [(.iconst 0, 1), (.istore_n 2, 1), (.iconst 0, 1), (.istore_n 3, 1)] := rfl
theorem bX1_strengthAt_4 : zBf BX1_strengthAt 4 = [(.iload_n 3, 1), (.iconst 4, 1), (.if_icmp .ge 36, 3), (.iload_n 3, 1), (.aload_n 0, 1), (.getfield 21, 3), (.if_icmp .ge 22, 3), (.aload_n 0, 1), (.getfield 18, 3), (.iload_n 3, 1), (.iaload, 1), (.iload_n 1, 1), (.if_icmp .ne 12, 3), (.iload_n 2, 1), (.aload_n 0, 1), (.getfield 9, 3), (.iload_n 3, 1), (.iaload, 1), (.iadd, 1), (.istore_n 2, 1)] := rfl
theorem bX1_strengthAt_36 : zBf BX1_strengthAt 36 = [(.iinc 3 1, 3), (.goto (-35), 3)] := rfl
theorem bX1_strengthAt_42 : zBf BX1_strengthAt 42 = [(.iload_n 2, 1), (.ireturn, 1)] := rfl
theorem hX1_strengthAt : zMv yX1_strengthAt cX1_strengthAt 4 (some .int) := ⟨zG_mem (n := 1125) (by decide +kernel), zG_mem (n := 120) (by decide +kernel), zG_mem (n := 1123) (by decide +kernel), zG_mem (n := 1124) (by decide +kernel)⟩
def BX1_allMen : List (Nat × List (Instr × Nat)) := [(0, [(.iconst 0, 1), (.istore_n 1, 1), (.iconst 0, 1), (.istore_n 2, 1)]), (4, [(.iload_n 2, 1), (.iconst 4, 1), (.if_icmp .ge 26, 3), (.iload_n 2, 1), (.aload_n 0, 1), (.getfield 21, 3), (.if_icmp .ge 12, 3), (.iload_n 1, 1), (.aload_n 0, 1), (.getfield 15, 3), (.iload_n 2, 1), (.iaload, 1), (.iadd, 1), (.istore_n 1, 1)]), (26, [(.iinc 2 1, 3), (.goto (-25), 3)]), (32, [(.iload_n 1, 1), (.ireturn, 1)])]
theorem oX1_allMen : ∀ pc, zdec cX1_allMen pc (zBf BX1_allMen pc) := zBf_ok (by decide +kernel)
theorem bX1_allMen_0 : zBf BX1_allMen 0 = [(.iconst 0, 1), (.istore_n 1, 1), (.iconst 0, 1), (.istore_n 2, 1)] := rfl
theorem bX1_allMen_4 : zBf BX1_allMen 4 = [(.iload_n 2, 1), (.iconst 4, 1), (.if_icmp .ge 26, 3), (.iload_n 2, 1), (.aload_n 0, 1), (.getfield 21, 3), (.if_icmp .ge 12, 3), (.iload_n 1, 1), (.aload_n 0, 1), (.getfield 15, 3), (.iload_n 2, 1), (.iaload, 1), (.iadd, 1), (.istore_n 1, 1)] := rfl
theorem bX1_allMen_26 : zBf BX1_allMen 26 = [(.iinc 2 1, 3), (.goto (-25), 3)] := rfl
theorem bX1_allMen_32 : zBf BX1_allMen 32 = [(.iload_n 1, 1), (.ireturn, 1)] := rfl
theorem hX1_allMen : zMv yX1_allMen cX1_allMen 3 (some .int) := ⟨zG_mem (n := 585) (by decide +kernel), zG_mem (n := 120) (by decide +kernel), zG_mem (n := 583) (by decide +kernel), zG_mem (n := 584) (by decide +kernel)⟩
def BX1_copyFrom : List (Nat × List (Instr × Nat)) := [(0, [(.aload_n 1, 1), (.getfield 9, 3), (.iconst 0, 1), (.aload_n 0, 1), (.getfield 9, 3), (.iconst 0, 1), (.iconst 4, 1), (.invokestatic 29, 3), (.aload_n 1, 1), (.getfield 15, 3), (.iconst 0, 1), (.aload_n 0, 1), (.getfield 15, 3), (.iconst 0, 1), (.iconst 4, 1), (.invokestatic 29, 3), (.aload_n 1, 1), (.getfield 18, 3), (.iconst 0, 1), (.aload_n 0, 1), (.getfield 18, 3), (.iconst 0, 1), (.iconst 4, 1), (.invokestatic 29, 3), (.aload_n 0, 1), (.aload_n 1, 1), (.getfield 21, 3), (.putfield 21, 3), (.return_, 1)])]
theorem oX1_copyFrom : ∀ pc, zdec cX1_copyFrom pc (zBf BX1_copyFrom pc) := zBf_ok (by decide +kernel)
theorem bX1_copyFrom_0 : zBf BX1_copyFrom 0 = [(.aload_n 1, 1), (.getfield 9, 3), (.iconst 0, 1), (.aload_n 0, 1), (.getfield 9, 3), (.iconst 0, 1), (.iconst 4, 1), (.invokestatic 29, 3), (.aload_n 1, 1), (.getfield 15, 3), (.iconst 0, 1), (.aload_n 0, 1), (.getfield 15, 3), (.iconst 0, 1), (.iconst 4, 1), (.invokestatic 29, 3), (.aload_n 1, 1), (.getfield 18, 3), (.iconst 0, 1), (.aload_n 0, 1), (.getfield 18, 3), (.iconst 0, 1), (.iconst 4, 1), (.invokestatic 29, 3), (.aload_n 0, 1), (.aload_n 1, 1), (.getfield 21, 3), (.putfield 21, 3), (.return_, 1)] := rfl
theorem hX1_copyFrom : zMv yX1_copyFrom cX1_copyFrom 2 none := ⟨zG_mem (n := 609) (by decide +kernel), zG_mem (n := 120) (by decide +kernel), zG_mem (n := 607) (by decide +kernel), zG_mem (n := 608) (by decide +kernel)⟩
theorem kX1_25 : Cond.methodLink RX1 25 yX1_isGang ∈ zTbl ∨ ∃ host, Cond.methodLinkNest RX1 25 yX1_isGang host ∈ lw_tbl := Or.inl (zG_mem (n := 999) (by decide +kernel))
def BX2_init : List (Nat × List (Instr × Nat)) := [(0, [(.aload_n 0, 1), (.invokespecial 3, 3), (.aload_n 0, 1), (.bipush 100, 2), (.newarray .int, 2), (.putfield 9, 3), (.aload_n 0, 1), (.bipush 100, 2), (.newarray .int, 2), (.putfield 15, 3), (.aload_n 0, 1), (.bipush 100, 2), (.newarray .int, 2), (.putfield 18, 3), (.aload_n 0, 1), (.bipush 100, 2), (.newarray .int, 2), (.putfield 21, 3), (.aload_n 0, 1), (.iconst 0, 1), (.putfield 24, 3), (.aload_n 0, 1), (.iconst 0, 1), (.putfield 28, 3), (.aload_n 0, 1), (.bipush 100, 2), (.newarray .boolean, 2), (.putfield 31, 3), (.return_, 1)])]
theorem oX2_init : ∀ pc, zdec cX2_init pc (zBf BX2_init pc) := zBf_ok (by decide +kernel)
theorem bX2_init_0 : zBf BX2_init 0 = [(.aload_n 0, 1), (.invokespecial 3, 3), (.aload_n 0, 1), (.bipush 100, 2), (.newarray .int, 2), (.putfield 9, 3), (.aload_n 0, 1), (.bipush 100, 2), (.newarray .int, 2), (.putfield 15, 3), (.aload_n 0, 1), (.bipush 100, 2), (.newarray .int, 2), (.putfield 18, 3), (.aload_n 0, 1), (.bipush 100, 2), (.newarray .int, 2), (.putfield 21, 3), (.aload_n 0, 1), (.iconst 0, 1), (.putfield 24, 3), (.aload_n 0, 1), (.iconst 0, 1), (.putfield 28, 3), (.aload_n 0, 1), (.bipush 100, 2), (.newarray .boolean, 2), (.putfield 31, 3), (.return_, 1)] := rfl
def BX2_note : List (Nat × List (Instr × Nat)) := [(0, [(.aload_n 0, 1), (.aload_n 0, 1), (.getfield 28, 3), (.invokevirtual 35, 3), (.istore 5, 2), (.aload_n 0, 1), (.getfield 9, 3), (.iload 5, 2), (.iload_n 1, 1), (.iastore, 1), (.aload_n 0, 1), (.getfield 15, 3), (.iload 5, 2), (.iload_n 2, 1), (.iastore, 1), (.aload_n 0, 1), (.getfield 18, 3), (.iload 5, 2), (.iload_n 3, 1), (.iastore, 1), (.aload_n 0, 1), (.getfield 21, 3), (.iload 5, 2), (.iload 4, 2), (.ifCond .eq 7, 3), (.iconst 1, 1), (.goto 4, 3)]), (49, [(.iconst 0, 1)]), (50, [(.iastore, 1), (.aload_n 0, 1), (.getfield 28, 3), (.bipush 100, 2), (.if_icmp .ge 16, 3), (.aload_n 0, 1), (.dup, 1), (.getfield 28, 3), (.iconst 1, 1), (.iadd, 1), (.putfield 28, 3), (.goto 12, 3)]), (73, [(.aload_n 0, 1), (.aload_n 0, 1), (.iconst 1, 1), (.invokevirtual 35, 3), (.putfield 24, 3)]), (82, [(.return_, 1)])]
theorem oX2_note : ∀ pc, zdec cX2_note pc (zBf BX2_note pc) := zBf_ok (by decide +kernel)
theorem bX2_note_0 : zBf BX2_note 0 = [(.aload_n 0, 1), (.aload_n 0, 1), (.getfield 28, 3), (.invokevirtual 35, 3), (.istore 5, 2), (.aload_n 0, 1), (.getfield 9, 3), (.iload 5, 2), (.iload_n 1, 1), (.iastore, 1), (.aload_n 0, 1), (.getfield 15, 3), (.iload 5, 2), (.iload_n 2, 1), (.iastore, 1), (.aload_n 0, 1), (.getfield 18, 3), (.iload 5, 2), (.iload_n 3, 1), (.iastore, 1), (.aload_n 0, 1), (.getfield 21, 3), (.iload 5, 2), (.iload 4, 2), (.ifCond .eq 7, 3), (.iconst 1, 1), (.goto 4, 3)] := rfl
theorem bX2_note_49 : zBf BX2_note 49 = [(.iconst 0, 1)] := rfl
theorem bX2_note_50 : zBf BX2_note 50 = [(.iastore, 1), (.aload_n 0, 1), (.getfield 28, 3), (.bipush 100, 2), (.if_icmp .ge 16, 3), (.aload_n 0, 1), (.dup, 1), (.getfield 28, 3), (.iconst 1, 1), (.iadd, 1), (.putfield 28, 3), (.goto 12, 3)] := rfl
theorem bX2_note_73 : zBf BX2_note 73 = [(.aload_n 0, 1), (.aload_n 0, 1), (.iconst 1, 1), (.invokevirtual 35, 3), (.putfield 24, 3)] := rfl
theorem bX2_note_82 : zBf BX2_note 82 = [(.return_, 1)] := rfl
theorem hX2_note : zMv yX2_note cX2_note 6 none := ⟨zG_mem (n := 1099) (by decide +kernel), zG_mem (n := 121) (by decide +kernel), zG_mem (n := 1097) (by decide +kernel), zG_mem (n := 1098) (by decide +kernel)⟩
def BX2_slotOf : List (Nat × List (Instr × Nat)) := [(0, [(.aload_n 0, 1), (.getfield 24, 3), (.iload_n 1, 1), (.iadd, 1), (.bipush 100, 2), (.invokestatic 39, 3), (.ireturn, 1)])]
theorem oX2_slotOf : ∀ pc, zdec cX2_slotOf pc (zBf BX2_slotOf pc) := zBf_ok (by decide +kernel)
theorem bX2_slotOf_0 : zBf BX2_slotOf 0 = [(.aload_n 0, 1), (.getfield 24, 3), (.iload_n 1, 1), (.iadd, 1), (.bipush 100, 2), (.invokestatic 39, 3), (.ireturn, 1)] := rfl
theorem hX2_slotOf : zMv yX2_slotOf cX2_slotOf 2 (some .int) := ⟨zG_mem (n := 1103) (by decide +kernel), zG_mem (n := 121) (by decide +kernel), zG_mem (n := 1102) (by decide +kernel), zG_mem (n := 24) (by decide +kernel)⟩
def BX2_railOn : List (Nat × List (Instr × Nat)) := [(0, [(.aload_n 0, 1), (.getfield 28, 3), (.iconst 1, 1), (.isub, 1), (.istore_n 3, 1)]), (7, [(.iload_n 3, 1), (.ifCond .lt 61, 3), (.aload_n 0, 1), (.iload_n 3, 1), (.invokevirtual 35, 3), (.istore 4, 2), (.aload_n 0, 1), (.getfield 15, 3), (.iload 4, 2), (.iaload, 1), (.iload_n 1, 1), (.if_icmp .ne 37, 3), (.aload_n 0, 1), (.getfield 18, 3), (.iload 4, 2), (.iaload, 1), (.iload_n 2, 1), (.if_icmp .gt 26, 3), (.aload_n 0, 1), (.getfield 21, 3), (.iload 4, 2), (.iaload, 1), (.iconst 1, 1), (.if_icmp .ne 13, 3), (.aload_n 0, 1), (.getfield 9, 3), (.iload 4, 2), (.iaload, 1), (.goto 4, 3)]), (61, [(.iconst (-1), 1)]), (62, [(.ireturn, 1)]), (63, [(.iinc 3 (-1), 3), (.goto (-59), 3)]), (69, [(.iconst (-1), 1), (.ireturn, 1)])]
theorem oX2_railOn : ∀ pc, zdec cX2_railOn pc (zBf BX2_railOn pc) := zBf_ok (by decide +kernel)
theorem bX2_railOn_0 : zBf BX2_railOn 0 = [(.aload_n 0, 1), (.getfield 28, 3), (.iconst 1, 1), (.isub, 1), (.istore_n 3, 1)] := rfl
theorem bX2_railOn_7 : zBf BX2_railOn 7 = [(.iload_n 3, 1), (.ifCond .lt 61, 3), (.aload_n 0, 1), (.iload_n 3, 1), (.invokevirtual 35, 3), (.istore 4, 2), (.aload_n 0, 1), (.getfield 15, 3), (.iload 4, 2), (.iaload, 1), (.iload_n 1, 1), (.if_icmp .ne 37, 3), (.aload_n 0, 1), (.getfield 18, 3), (.iload 4, 2), (.iaload, 1), (.iload_n 2, 1), (.if_icmp .gt 26, 3), (.aload_n 0, 1), (.getfield 21, 3), (.iload 4, 2), (.iaload, 1), (.iconst 1, 1), (.if_icmp .ne 13, 3), (.aload_n 0, 1), (.getfield 9, 3), (.iload 4, 2), (.iaload, 1), (.goto 4, 3)] := rfl
theorem bX2_railOn_61 : zBf BX2_railOn 61 = [(.iconst (-1), 1)] := rfl
theorem bX2_railOn_62 : zBf BX2_railOn 62 = [(.ireturn, 1)] := rfl
theorem bX2_railOn_63 : zBf BX2_railOn 63 = [(.iinc 3 (-1), 3), (.goto (-59), 3)] := rfl
theorem bX2_railOn_69 : zBf BX2_railOn 69 = [(.iconst (-1), 1), (.ireturn, 1)] := rfl
theorem hX2_railOn : zMv yX2_railOn cX2_railOn 5 (some .int) := ⟨zG_mem (n := 1455) (by decide +kernel), zG_mem (n := 121) (by decide +kernel), zG_mem (n := 1453) (by decide +kernel), zG_mem (n := 1454) (by decide +kernel)⟩
def BX2_cellsUnder : List (Nat × List (Instr × Nat)) := [(0, [(.iconst 0, 1), (.istore_n 2, 1)]), (2, [(.iload_n 2, 1), (.bipush 100, 2), (.if_icmp .ge 16, 3), (.aload_n 0, 1), (.getfield 31, 3), (.iload_n 2, 1), (.iconst 0, 1), (.bastore, 1), (.iinc 2 1, 3), (.goto (-16), 3)]), (21, [(.iconst 0, 1), (.istore_n 2, 1), (.iconst 0, 1), (.istore_n 3, 1)]), (25, [(.iload_n 3, 1), (.aload_n 0, 1), (.getfield 28, 3), (.if_icmp .ge 76, 3), (.aload_n 0, 1), (.iload_n 3, 1), (.invokevirtual 35, 3), (.istore 4, 2), (.aload_n 0, 1), (.getfield 15, 3), (.iload 4, 2), (.iaload, 1), (.istore 5, 2), (.aload_n 0, 1), (.getfield 21, 3), (.iload 4, 2), (.iaload, 1), (.iconst 1, 1), (.if_icmp .ne 43, 3), (.aload_n 0, 1), (.getfield 9, 3), (.iload 4, 2), (.iaload, 1), (.iload_n 1, 1), (.if_icmp .ne 32, 3), (.iload 5, 2), (.invokestatic 45, 3), (.ifCond .eq 24, 3), (.aload_n 0, 1), (.getfield 31, 3), (.iload 5, 2), (.baload, 1), (.ifCond .ne 14, 3), (.aload_n 0, 1), (.getfield 31, 3), (.iload 5, 2), (.iconst 1, 1), (.bastore, 1), (.iinc 2 1, 3)]), (100, [(.iinc 3 1, 3), (.goto (-78), 3)]), (106, [(.iload_n 2, 1), (.ireturn, 1)])]
theorem oX2_cellsUnder : ∀ pc, zdec cX2_cellsUnder pc (zBf BX2_cellsUnder pc) := zBf_ok (by decide +kernel)
theorem bX2_cellsUnder_0 : zBf BX2_cellsUnder 0 = [(.iconst 0, 1), (.istore_n 2, 1)] := rfl
theorem bX2_cellsUnder_2 : zBf BX2_cellsUnder 2 = [(.iload_n 2, 1), (.bipush 100, 2), (.if_icmp .ge 16, 3), (.aload_n 0, 1), (.getfield 31, 3), (.iload_n 2, 1), (.iconst 0, 1), (.bastore, 1), (.iinc 2 1, 3), (.goto (-16), 3)] := rfl
theorem bX2_cellsUnder_21 : zBf BX2_cellsUnder 21 = [(.iconst 0, 1), (.istore_n 2, 1), (.iconst 0, 1), (.istore_n 3, 1)] := rfl
theorem bX2_cellsUnder_25 : zBf BX2_cellsUnder 25 = [(.iload_n 3, 1), (.aload_n 0, 1), (.getfield 28, 3), (.if_icmp .ge 76, 3), (.aload_n 0, 1), (.iload_n 3, 1), (.invokevirtual 35, 3), (.istore 4, 2), (.aload_n 0, 1), (.getfield 15, 3), (.iload 4, 2), (.iaload, 1), (.istore 5, 2), (.aload_n 0, 1), (.getfield 21, 3), (.iload 4, 2), (.iaload, 1), (.iconst 1, 1), (.if_icmp .ne 43, 3), (.aload_n 0, 1), (.getfield 9, 3), (.iload 4, 2), (.iaload, 1), (.iload_n 1, 1), (.if_icmp .ne 32, 3), (.iload 5, 2), (.invokestatic 45, 3), (.ifCond .eq 24, 3), (.aload_n 0, 1), (.getfield 31, 3), (.iload 5, 2), (.baload, 1), (.ifCond .ne 14, 3), (.aload_n 0, 1), (.getfield 31, 3), (.iload 5, 2), (.iconst 1, 1), (.bastore, 1), (.iinc 2 1, 3)] := rfl
theorem bX2_cellsUnder_100 : zBf BX2_cellsUnder 100 = [(.iinc 3 1, 3), (.goto (-78), 3)] := rfl
theorem bX2_cellsUnder_106 : zBf BX2_cellsUnder 106 = [(.iload_n 2, 1), (.ireturn, 1)] := rfl
theorem hX2_cellsUnder : zMv yX2_cellsUnder cX2_cellsUnder 6 (some .int) := ⟨zG_mem (n := 1331) (by decide +kernel), zG_mem (n := 121) (by decide +kernel), zG_mem (n := 1329) (by decide +kernel), zG_mem (n := 1330) (by decide +kernel)⟩
def BX2_copyFrom : List (Nat × List (Instr × Nat)) := [(0, [(.aload_n 1, 1), (.getfield 9, 3), (.iconst 0, 1), (.aload_n 0, 1), (.getfield 9, 3), (.iconst 0, 1), (.bipush 100, 2), (.invokestatic 49, 3), (.aload_n 1, 1), (.getfield 15, 3), (.iconst 0, 1), (.aload_n 0, 1), (.getfield 15, 3), (.iconst 0, 1), (.bipush 100, 2), (.invokestatic 49, 3), (.aload_n 1, 1), (.getfield 18, 3), (.iconst 0, 1), (.aload_n 0, 1), (.getfield 18, 3), (.iconst 0, 1), (.bipush 100, 2), (.invokestatic 49, 3), (.aload_n 1, 1), (.getfield 21, 3), (.iconst 0, 1), (.aload_n 0, 1), (.getfield 21, 3), (.iconst 0, 1), (.bipush 100, 2), (.invokestatic 49, 3), (.aload_n 0, 1), (.aload_n 1, 1), (.getfield 24, 3), (.putfield 24, 3), (.aload_n 0, 1), (.aload_n 1, 1), (.getfield 28, 3), (.putfield 28, 3), (.return_, 1)])]
theorem oX2_copyFrom : ∀ pc, zdec cX2_copyFrom pc (zBf BX2_copyFrom pc) := zBf_ok (by decide +kernel)
theorem bX2_copyFrom_0 : zBf BX2_copyFrom 0 = [(.aload_n 1, 1), (.getfield 9, 3), (.iconst 0, 1), (.aload_n 0, 1), (.getfield 9, 3), (.iconst 0, 1), (.bipush 100, 2), (.invokestatic 49, 3), (.aload_n 1, 1), (.getfield 15, 3), (.iconst 0, 1), (.aload_n 0, 1), (.getfield 15, 3), (.iconst 0, 1), (.bipush 100, 2), (.invokestatic 49, 3), (.aload_n 1, 1), (.getfield 18, 3), (.iconst 0, 1), (.aload_n 0, 1), (.getfield 18, 3), (.iconst 0, 1), (.bipush 100, 2), (.invokestatic 49, 3), (.aload_n 1, 1), (.getfield 21, 3), (.iconst 0, 1), (.aload_n 0, 1), (.getfield 21, 3), (.iconst 0, 1), (.bipush 100, 2), (.invokestatic 49, 3), (.aload_n 0, 1), (.aload_n 1, 1), (.getfield 24, 3), (.putfield 24, 3), (.aload_n 0, 1), (.aload_n 1, 1), (.getfield 28, 3), (.putfield 28, 3), (.return_, 1)] := rfl
theorem hX2_copyFrom : zMv yX2_copyFrom cX2_copyFrom 2 none := ⟨zG_mem (n := 614) (by decide +kernel), zG_mem (n := 121) (by decide +kernel), zG_mem (n := 612) (by decide +kernel), zG_mem (n := 613) (by decide +kernel)⟩
theorem kX2_35 : Cond.methodLink RX2 35 yX2_slotOf ∈ zTbl ∨ ∃ host, Cond.methodLinkNest RX2 35 yX2_slotOf host ∈ lw_tbl := Or.inl (zG_mem (n := 1100) (by decide +kernel))
theorem kX2_39 : Cond.methodLink RX2 39 yJ9_floorMod_7cf53 ∈ zTbl ∨ ∃ host, Cond.methodLinkNest RX2 39 yJ9_floorMod_7cf53 host ∈ lw_tbl := Or.inl (zG_mem (n := 1104) (by decide +kernel))
theorem kX2_45 : Cond.methodLink RX2 45 yX10_isCell ∈ zTbl ∨ ∃ host, Cond.methodLinkNest RX2 45 yX10_isCell host ∈ lw_tbl := Or.inr ⟨"SandRails", zT_mem (n := 1332) (by decide +kernel)⟩
def BX3_init : List (Nat × List (Instr × Nat)) := [(0, [(.aload_n 0, 1), (.invokespecial 3, 3), (.aload_n 0, 1), (.sipush 200, 3), (.newarray .int, 2), (.putfield 11, 3), (.aload_n 0, 1), (.sipush 200, 3), (.newarray .int, 2), (.putfield 15, 3), (.aload_n 0, 1), (.sipush 200, 3), (.newarray .int, 2), (.putfield 18, 3), (.aload_n 0, 1), (.iconst 0, 1), (.putfield 21, 3), (.return_, 1)])]
theorem oX3_init : ∀ pc, zdec cX3_init pc (zBf BX3_init pc) := zBf_ok (by decide +kernel)
theorem bX3_init_0 : zBf BX3_init 0 = [(.aload_n 0, 1), (.invokespecial 3, 3), (.aload_n 0, 1), (.sipush 200, 3), (.newarray .int, 2), (.putfield 11, 3), (.aload_n 0, 1), (.sipush 200, 3), (.newarray .int, 2), (.putfield 15, 3), (.aload_n 0, 1), (.sipush 200, 3), (.newarray .int, 2), (.putfield 18, 3), (.aload_n 0, 1), (.iconst 0, 1), (.putfield 21, 3), (.return_, 1)] := rfl
def BX3_has : List (Nat × List (Instr × Nat)) := [(0, [(.iload_n 1, 1), (.ifCond .lt 22, 3), (.iload_n 1, 1), (.aload_n 0, 1), (.getfield 21, 3), (.if_icmp .ge 14, 3), (.iload_n 1, 1), (.sipush 200, 3), (.if_icmp .ge 7, 3), (.iconst 1, 1), (.goto 4, 3)]), (23, [(.iconst 0, 1)]), (24, [(.ireturn, 1)])]
theorem oX3_has : ∀ pc, zdec cX3_has pc (zBf BX3_has pc) := zBf_ok (by decide +kernel)
theorem bX3_has_0 : zBf BX3_has 0 = [(.iload_n 1, 1), (.ifCond .lt 22, 3), (.iload_n 1, 1), (.aload_n 0, 1), (.getfield 21, 3), (.if_icmp .ge 14, 3), (.iload_n 1, 1), (.sipush 200, 3), (.if_icmp .ge 7, 3), (.iconst 1, 1), (.goto 4, 3)] := rfl
theorem bX3_has_23 : zBf BX3_has 23 = [(.iconst 0, 1)] := rfl
theorem bX3_has_24 : zBf BX3_has 24 = [(.ireturn, 1)] := rfl
theorem hX3_has : zMv yX3_has cX3_has 2 (some .boolean) := ⟨zG_mem (n := 810) (by decide +kernel), zG_mem (n := 123) (by decide +kernel), zG_mem (n := 808) (by decide +kernel), zG_mem (n := 809) (by decide +kernel)⟩
def BX3_operationAt : List (Nat × List (Instr × Nat)) := [(0, [(.aload_n 0, 1), (.iload_n 1, 1), (.invokevirtual 25, 3), (.ifCond .eq 12, 3), (.aload_n 0, 1), (.getfield 11, 3), (.iload_n 1, 1), (.iaload, 1), (.goto 4, 3)]), (17, [(.iconst (-1), 1)]), (18, [(.ireturn, 1)])]
theorem oX3_operationAt : ∀ pc, zdec cX3_operationAt pc (zBf BX3_operationAt pc) := zBf_ok (by decide +kernel)
theorem bX3_operationAt_0 : zBf BX3_operationAt 0 = [(.aload_n 0, 1), (.iload_n 1, 1), (.invokevirtual 25, 3), (.ifCond .eq 12, 3), (.aload_n 0, 1), (.getfield 11, 3), (.iload_n 1, 1), (.iaload, 1), (.goto 4, 3)] := rfl
theorem bX3_operationAt_17 : zBf BX3_operationAt 17 = [(.iconst (-1), 1)] := rfl
theorem bX3_operationAt_18 : zBf BX3_operationAt 18 = [(.ireturn, 1)] := rfl
theorem hX3_operationAt : zMv yX3_operationAt cX3_operationAt 2 (some .int) := ⟨zG_mem (n := 1274) (by decide +kernel), zG_mem (n := 123) (by decide +kernel), zG_mem (n := 1272) (by decide +kernel), zG_mem (n := 1273) (by decide +kernel)⟩
def BX3_firstAt : List (Nat × List (Instr × Nat)) := [(0, [(.aload_n 0, 1), (.iload_n 1, 1), (.invokevirtual 25, 3), (.ifCond .eq 12, 3), (.aload_n 0, 1), (.getfield 15, 3), (.iload_n 1, 1), (.iaload, 1), (.goto 4, 3)]), (17, [(.iconst 0, 1)]), (18, [(.ireturn, 1)])]
theorem oX3_firstAt : ∀ pc, zdec cX3_firstAt pc (zBf BX3_firstAt pc) := zBf_ok (by decide +kernel)
theorem bX3_firstAt_0 : zBf BX3_firstAt 0 = [(.aload_n 0, 1), (.iload_n 1, 1), (.invokevirtual 25, 3), (.ifCond .eq 12, 3), (.aload_n 0, 1), (.getfield 15, 3), (.iload_n 1, 1), (.iaload, 1), (.goto 4, 3)] := rfl
theorem bX3_firstAt_17 : zBf BX3_firstAt 17 = [(.iconst 0, 1)] := rfl
theorem bX3_firstAt_18 : zBf BX3_firstAt 18 = [(.ireturn, 1)] := rfl
theorem hX3_firstAt : zMv yX3_firstAt cX3_firstAt 2 (some .int) := ⟨zG_mem (n := 1278) (by decide +kernel), zG_mem (n := 123) (by decide +kernel), zG_mem (n := 1276) (by decide +kernel), zG_mem (n := 1277) (by decide +kernel)⟩
def BX3_secondAt : List (Nat × List (Instr × Nat)) := [(0, [(.aload_n 0, 1), (.iload_n 1, 1), (.invokevirtual 25, 3), (.ifCond .eq 12, 3), (.aload_n 0, 1), (.getfield 18, 3), (.iload_n 1, 1), (.iaload, 1), (.goto 4, 3)]), (17, [(.iconst 0, 1)]), (18, [(.ireturn, 1)])]
theorem oX3_secondAt : ∀ pc, zdec cX3_secondAt pc (zBf BX3_secondAt pc) := zBf_ok (by decide +kernel)
theorem bX3_secondAt_0 : zBf BX3_secondAt 0 = [(.aload_n 0, 1), (.iload_n 1, 1), (.invokevirtual 25, 3), (.ifCond .eq 12, 3), (.aload_n 0, 1), (.getfield 18, 3), (.iload_n 1, 1), (.iaload, 1), (.goto 4, 3)] := rfl
theorem bX3_secondAt_17 : zBf BX3_secondAt 17 = [(.iconst 0, 1)] := rfl
theorem bX3_secondAt_18 : zBf BX3_secondAt 18 = [(.ireturn, 1)] := rfl
theorem hX3_secondAt : zMv yX3_secondAt cX3_secondAt 2 (some .int) := ⟨zG_mem (n := 1282) (by decide +kernel), zG_mem (n := 123) (by decide +kernel), zG_mem (n := 1280) (by decide +kernel), zG_mem (n := 1281) (by decide +kernel)⟩
def BX3_add : List (Nat × List (Instr × Nat)) := [(0, [(.aload_n 0, 1), (.getfield 21, 3), (.ifCond .lt 53, 3), (.aload_n 0, 1), (.getfield 21, 3), (.sipush 200, 3), (.if_icmp .ge 43, 3), (.aload_n 0, 1), (.getfield 11, 3), (.aload_n 0, 1), (.getfield 21, 3), (.iload_n 1, 1), (.iastore, 1), (.aload_n 0, 1), (.getfield 15, 3), (.aload_n 0, 1), (.getfield 21, 3), (.iload_n 2, 1), (.iastore, 1), (.aload_n 0, 1), (.getfield 18, 3), (.aload_n 0, 1), (.getfield 21, 3), (.iload_n 3, 1), (.iastore, 1), (.aload_n 0, 1), (.dup, 1), (.getfield 21, 3), (.iconst 1, 1), (.iadd, 1), (.putfield 21, 3)]), (57, [(.return_, 1)])]
theorem oX3_add : ∀ pc, zdec cX3_add pc (zBf BX3_add pc) := zBf_ok (by decide +kernel)
theorem bX3_add_0 : zBf BX3_add 0 = [(.aload_n 0, 1), (.getfield 21, 3), (.ifCond .lt 53, 3), (.aload_n 0, 1), (.getfield 21, 3), (.sipush 200, 3), (.if_icmp .ge 43, 3), (.aload_n 0, 1), (.getfield 11, 3), (.aload_n 0, 1), (.getfield 21, 3), (.iload_n 1, 1), (.iastore, 1), (.aload_n 0, 1), (.getfield 15, 3), (.aload_n 0, 1), (.getfield 21, 3), (.iload_n 2, 1), (.iastore, 1), (.aload_n 0, 1), (.getfield 18, 3), (.aload_n 0, 1), (.getfield 21, 3), (.iload_n 3, 1), (.iastore, 1), (.aload_n 0, 1), (.dup, 1), (.getfield 21, 3), (.iconst 1, 1), (.iadd, 1), (.putfield 21, 3)] := rfl
theorem bX3_add_57 : zBf BX3_add 57 = [(.return_, 1)] := rfl
theorem hX3_add : zMv yX3_add cX3_add 4 none := ⟨zG_mem (n := 738) (by decide +kernel), zG_mem (n := 123) (by decide +kernel), zG_mem (n := 736) (by decide +kernel), zG_mem (n := 737) (by decide +kernel)⟩
def BX3_leadHere : List (Nat × List (Instr × Nat)) := [(0, [(.aload_n 0, 1), (.iload_n 1, 1), (.invokevirtual 25, 3), (.ifCond .eq 13, 3), (.aload_n 0, 1), (.getfield 15, 3), (.iload_n 1, 1), (.aload_n 0, 1), (.getfield 21, 3), (.iastore, 1)]), (18, [(.return_, 1)])]
theorem oX3_leadHere : ∀ pc, zdec cX3_leadHere pc (zBf BX3_leadHere pc) := zBf_ok (by decide +kernel)
theorem bX3_leadHere_0 : zBf BX3_leadHere 0 = [(.aload_n 0, 1), (.iload_n 1, 1), (.invokevirtual 25, 3), (.ifCond .eq 13, 3), (.aload_n 0, 1), (.getfield 15, 3), (.iload_n 1, 1), (.aload_n 0, 1), (.getfield 21, 3), (.iastore, 1)] := rfl
theorem bX3_leadHere_18 : zBf BX3_leadHere 18 = [(.return_, 1)] := rfl
theorem hX3_leadHere : zMv yX3_leadHere cX3_leadHere 2 none := ⟨zG_mem (n := 806) (by decide +kernel), zG_mem (n := 123) (by decide +kernel), zG_mem (n := 804) (by decide +kernel), zG_mem (n := 805) (by decide +kernel)⟩
def BX3_copyFrom : List (Nat × List (Instr × Nat)) := [(0, [(.aload_n 1, 1), (.getfield 11, 3), (.iconst 0, 1), (.aload_n 0, 1), (.getfield 11, 3), (.iconst 0, 1), (.sipush 200, 3), (.invokestatic 29, 3), (.aload_n 1, 1), (.getfield 15, 3), (.iconst 0, 1), (.aload_n 0, 1), (.getfield 15, 3), (.iconst 0, 1), (.sipush 200, 3), (.invokestatic 29, 3), (.aload_n 1, 1), (.getfield 18, 3), (.iconst 0, 1), (.aload_n 0, 1), (.getfield 18, 3), (.iconst 0, 1), (.sipush 200, 3), (.invokestatic 29, 3), (.aload_n 0, 1), (.aload_n 1, 1), (.getfield 21, 3), (.putfield 21, 3), (.return_, 1)])]
theorem oX3_copyFrom : ∀ pc, zdec cX3_copyFrom pc (zBf BX3_copyFrom pc) := zBf_ok (by decide +kernel)
theorem bX3_copyFrom_0 : zBf BX3_copyFrom 0 = [(.aload_n 1, 1), (.getfield 11, 3), (.iconst 0, 1), (.aload_n 0, 1), (.getfield 11, 3), (.iconst 0, 1), (.sipush 200, 3), (.invokestatic 29, 3), (.aload_n 1, 1), (.getfield 15, 3), (.iconst 0, 1), (.aload_n 0, 1), (.getfield 15, 3), (.iconst 0, 1), (.sipush 200, 3), (.invokestatic 29, 3), (.aload_n 1, 1), (.getfield 18, 3), (.iconst 0, 1), (.aload_n 0, 1), (.getfield 18, 3), (.iconst 0, 1), (.sipush 200, 3), (.invokestatic 29, 3), (.aload_n 0, 1), (.aload_n 1, 1), (.getfield 21, 3), (.putfield 21, 3), (.return_, 1)] := rfl
theorem hX3_copyFrom : zMv yX3_copyFrom cX3_copyFrom 2 none := ⟨zG_mem (n := 904) (by decide +kernel), zG_mem (n := 123) (by decide +kernel), zG_mem (n := 902) (by decide +kernel), zG_mem (n := 903) (by decide +kernel)⟩
theorem kX3_25 : Cond.methodLink RX3 25 yX3_has ∈ zTbl ∨ ∃ host, Cond.methodLinkNest RX3 25 yX3_has host ∈ lw_tbl := Or.inl (zG_mem (n := 807) (by decide +kernel))
def BX4_init : List (Nat × List (Instr × Nat)) := [(0, [(.aload_n 0, 1), (.invokespecial 3, 3), (.aload_n 0, 1), (.new 9, 3), (.dup, 1), (.invokespecial 11, 3), (.putfield 12, 3), (.aload_n 0, 1), (.new 18, 3), (.dup, 1), (.invokespecial 20, 3), (.putfield 21, 3), (.aload_n 0, 1), (.iconst 0, 1), (.putfield 25, 3), (.aload_n 0, 1), (.iconst 0, 1), (.putfield 29, 3), (.aload_n 0, 1), (.iconst 0, 1), (.putfield 32, 3), (.aload_n 0, 1), (.iconst (-1), 1), (.putfield 35, 3), (.return_, 1)])]
theorem oX4_init : ∀ pc, zdec cX4_init pc (zBf BX4_init pc) := zBf_ok (by decide +kernel)
theorem bX4_init_0 : zBf BX4_init 0 = [(.aload_n 0, 1), (.invokespecial 3, 3), (.aload_n 0, 1), (.new 9, 3), (.dup, 1), (.invokespecial 11, 3), (.putfield 12, 3), (.aload_n 0, 1), (.new 18, 3), (.dup, 1), (.invokespecial 20, 3), (.putfield 21, 3), (.aload_n 0, 1), (.iconst 0, 1), (.putfield 25, 3), (.aload_n 0, 1), (.iconst 0, 1), (.putfield 29, 3), (.aload_n 0, 1), (.iconst 0, 1), (.putfield 32, 3), (.aload_n 0, 1), (.iconst (-1), 1), (.putfield 35, 3), (.return_, 1)] := rfl
def BX4_read : List (Nat × List (Instr × Nat)) := [(0, [(.aload_n 0, 1), (.getfield 12, 3), (.iconst 0, 1), (.putfield 38, 3), (.aload_n 0, 1), (.iconst 0, 1), (.putfield 32, 3), (.aload_n 0, 1), (.iconst (-1), 1), (.putfield 35, 3), (.aload_n 0, 1), (.invokevirtual 41, 3), (.aload_n 0, 1), (.iconst 0, 1), (.invokevirtual 44, 3), (.ifCond .eq 15, 3), (.aload_n 0, 1), (.getfield 25, 3), (.ifCond .eq 8, 3), (.aload_n 0, 1), (.invokevirtual 48, 3), (.pop, 1)]), (42, [(.aload_n 0, 1), (.getfield 35, 3), (.ireturn, 1)])]
theorem oX4_read : ∀ pc, zdec cX4_read pc (zBf BX4_read pc) := zBf_ok (by decide +kernel)
theorem bX4_read_0 : zBf BX4_read 0 = [(.aload_n 0, 1), (.getfield 12, 3), (.iconst 0, 1), (.putfield 38, 3), (.aload_n 0, 1), (.iconst 0, 1), (.putfield 32, 3), (.aload_n 0, 1), (.iconst (-1), 1), (.putfield 35, 3), (.aload_n 0, 1), (.invokevirtual 41, 3), (.aload_n 0, 1), (.iconst 0, 1), (.invokevirtual 44, 3), (.ifCond .eq 15, 3), (.aload_n 0, 1), (.getfield 25, 3), (.ifCond .eq 8, 3), (.aload_n 0, 1), (.invokevirtual 48, 3), (.pop, 1)] := rfl
theorem bX4_read_42 : zBf BX4_read 42 = [(.aload_n 0, 1), (.getfield 35, 3), (.ireturn, 1)] := rfl
theorem hX4_read : zMv yX4_read cX4_read 1 (some .int) := ⟨zG_mem (n := 633) (by decide +kernel), zG_mem (n := 122) (by decide +kernel), zG_mem (n := 631) (by decide +kernel), zG_mem (n := 632) (by decide +kernel)⟩
def BX4_isRefused : List (Nat × List (Instr × Nat)) := [(0, [(.aload_n 0, 1), (.aload_n 0, 1), (.getfield 29, 3), (.putfield 35, 3), (.iconst 0, 1), (.ireturn, 1)])]
theorem oX4_isRefused : ∀ pc, zdec cX4_isRefused pc (zBf BX4_isRefused pc) := zBf_ok (by decide +kernel)
theorem bX4_isRefused_0 : zBf BX4_isRefused 0 = [(.aload_n 0, 1), (.aload_n 0, 1), (.getfield 29, 3), (.putfield 35, 3), (.iconst 0, 1), (.ireturn, 1)] := rfl
theorem hX4_isRefused : zMv yX4_isRefused cX4_isRefused 1 (some .boolean) := ⟨zG_mem (n := 722) (by decide +kernel), zG_mem (n := 122) (by decide +kernel), zG_mem (n := 721) (by decide +kernel), zG_mem (n := 5) (by decide +kernel)⟩
def BX4_advance : List (Nat × List (Instr × Nat)) := [(0, [(.aload_n 0, 1), (.aload_n 0, 1), (.getfield 32, 3), (.putfield 29, 3), (.iconst 0, 1), (.istore_n 1, 1)]), (10, [(.iload_n 1, 1), (.sipush 400, 3), (.if_icmp .ge 35, 3), (.aload_n 0, 1), (.getfield 21, 3), (.aload_n 0, 1), (.getfield 29, 3), (.invokevirtual 52, 3), (.bipush 32, 2), (.if_icmp .ne 19, 3), (.aload_n 0, 1), (.dup, 1), (.getfield 29, 3), (.iconst 1, 1), (.iadd, 1), (.putfield 29, 3), (.iinc 1 1, 3), (.goto (-36), 3)]), (49, [(.aload_n 0, 1), (.aload_n 0, 1), (.getfield 21, 3), (.aload_n 0, 1), (.getfield 29, 3), (.invokevirtual 52, 3), (.invokestatic 56, 3), (.putfield 25, 3), (.aload_n 0, 1), (.aload_n 0, 1), (.getfield 25, 3), (.ifCond .ne 10, 3), (.aload_n 0, 1), (.getfield 29, 3), (.goto 9, 3)]), (82, [(.aload_n 0, 1), (.getfield 29, 3), (.iconst 1, 1), (.iadd, 1)]), (88, [(.putfield 32, 3), (.aload_n 0, 1), (.getfield 25, 3), (.iconst 1, 1), (.if_icmp .eq 11, 3), (.aload_n 0, 1), (.getfield 25, 3), (.iconst 2, 1), (.if_icmp .ne 7, 3)]), (107, [(.iconst 1, 1), (.goto 4, 3)]), (111, [(.iconst 0, 1)]), (112, [(.istore_n 1, 1), (.iconst 0, 1), (.istore_n 2, 1)]), (115, [(.iload_n 2, 1), (.sipush 400, 3), (.if_icmp .ge 44, 3), (.iload_n 1, 1), (.ifCond .eq 40, 3), (.aload_n 0, 1), (.getfield 21, 3), (.aload_n 0, 1), (.getfield 32, 3), (.invokevirtual 52, 3), (.invokestatic 56, 3), (.aload_n 0, 1), (.getfield 25, 3), (.if_icmp .ne 19, 3), (.aload_n 0, 1), (.dup, 1), (.getfield 32, 3), (.iconst 1, 1), (.iadd, 1), (.putfield 32, 3), (.iinc 2 1, 3), (.goto (-45), 3)]), (163, [(.return_, 1)])]
theorem oX4_advance : ∀ pc, zdec cX4_advance pc (zBf BX4_advance pc) := zBf_ok (by decide +kernel)
theorem bX4_advance_0 : zBf BX4_advance 0 = [(.aload_n 0, 1), (.aload_n 0, 1), (.getfield 32, 3), (.putfield 29, 3), (.iconst 0, 1), (.istore_n 1, 1)] := rfl
theorem bX4_advance_10 : zBf BX4_advance 10 = [(.iload_n 1, 1), (.sipush 400, 3), (.if_icmp .ge 35, 3), (.aload_n 0, 1), (.getfield 21, 3), (.aload_n 0, 1), (.getfield 29, 3), (.invokevirtual 52, 3), (.bipush 32, 2), (.if_icmp .ne 19, 3), (.aload_n 0, 1), (.dup, 1), (.getfield 29, 3), (.iconst 1, 1), (.iadd, 1), (.putfield 29, 3), (.iinc 1 1, 3), (.goto (-36), 3)] := rfl
theorem bX4_advance_49 : zBf BX4_advance 49 = [(.aload_n 0, 1), (.aload_n 0, 1), (.getfield 21, 3), (.aload_n 0, 1), (.getfield 29, 3), (.invokevirtual 52, 3), (.invokestatic 56, 3), (.putfield 25, 3), (.aload_n 0, 1), (.aload_n 0, 1), (.getfield 25, 3), (.ifCond .ne 10, 3), (.aload_n 0, 1), (.getfield 29, 3), (.goto 9, 3)] := rfl
theorem bX4_advance_82 : zBf BX4_advance 82 = [(.aload_n 0, 1), (.getfield 29, 3), (.iconst 1, 1), (.iadd, 1)] := rfl
theorem bX4_advance_88 : zBf BX4_advance 88 = [(.putfield 32, 3), (.aload_n 0, 1), (.getfield 25, 3), (.iconst 1, 1), (.if_icmp .eq 11, 3), (.aload_n 0, 1), (.getfield 25, 3), (.iconst 2, 1), (.if_icmp .ne 7, 3)] := rfl
theorem bX4_advance_107 : zBf BX4_advance 107 = [(.iconst 1, 1), (.goto 4, 3)] := rfl
theorem bX4_advance_111 : zBf BX4_advance 111 = [(.iconst 0, 1)] := rfl
theorem bX4_advance_112 : zBf BX4_advance 112 = [(.istore_n 1, 1), (.iconst 0, 1), (.istore_n 2, 1)] := rfl
theorem bX4_advance_115 : zBf BX4_advance 115 = [(.iload_n 2, 1), (.sipush 400, 3), (.if_icmp .ge 44, 3), (.iload_n 1, 1), (.ifCond .eq 40, 3), (.aload_n 0, 1), (.getfield 21, 3), (.aload_n 0, 1), (.getfield 32, 3), (.invokevirtual 52, 3), (.invokestatic 56, 3), (.aload_n 0, 1), (.getfield 25, 3), (.if_icmp .ne 19, 3), (.aload_n 0, 1), (.dup, 1), (.getfield 32, 3), (.iconst 1, 1), (.iadd, 1), (.putfield 32, 3), (.iinc 2 1, 3), (.goto (-45), 3)] := rfl
theorem bX4_advance_163 : zBf BX4_advance 163 = [(.return_, 1)] := rfl
theorem hX4_advance : zMv yX4_advance cX4_advance 3 none := ⟨zG_mem (n := 637) (by decide +kernel), zG_mem (n := 122) (by decide +kernel), zG_mem (n := 636) (by decide +kernel), zG_mem (n := 0) (by decide +kernel)⟩
def BX4_typeOf : List (Nat × List (Instr × Nat)) := [(0, [(.iload_n 0, 1), (.iconst (-1), 1), (.if_icmp .ne 5, 3), (.iconst 0, 1), (.ireturn, 1)]), (7, [(.iload_n 0, 1), (.bipush 97, 2), (.if_icmp .lt 11, 3), (.iload_n 0, 1), (.bipush 122, 2), (.if_icmp .gt 5, 3), (.iconst 1, 1), (.ireturn, 1)]), (21, [(.iload_n 0, 1), (.bipush 48, 2), (.if_icmp .lt 13, 3), (.iload_n 0, 1), (.bipush 57, 2), (.if_icmp .gt 7, 3), (.iconst 2, 1), (.goto 4, 3)]), (37, [(.iconst 3, 1)]), (38, [(.ireturn, 1)])]
theorem oX4_typeOf : ∀ pc, zdec cX4_typeOf pc (zBf BX4_typeOf pc) := zBf_ok (by decide +kernel)
theorem bX4_typeOf_0 : zBf BX4_typeOf 0 = [(.iload_n 0, 1), (.iconst (-1), 1), (.if_icmp .ne 5, 3), (.iconst 0, 1), (.ireturn, 1)] := rfl
theorem bX4_typeOf_7 : zBf BX4_typeOf 7 = [(.iload_n 0, 1), (.bipush 97, 2), (.if_icmp .lt 11, 3), (.iload_n 0, 1), (.bipush 122, 2), (.if_icmp .gt 5, 3), (.iconst 1, 1), (.ireturn, 1)] := rfl
theorem bX4_typeOf_21 : zBf BX4_typeOf 21 = [(.iload_n 0, 1), (.bipush 48, 2), (.if_icmp .lt 13, 3), (.iload_n 0, 1), (.bipush 57, 2), (.if_icmp .gt 7, 3), (.iconst 2, 1), (.goto 4, 3)] := rfl
theorem bX4_typeOf_37 : zBf BX4_typeOf 37 = [(.iconst 3, 1)] := rfl
theorem bX4_typeOf_38 : zBf BX4_typeOf 38 = [(.ireturn, 1)] := rfl
theorem hX4_typeOf : zMs yX4_typeOf cX4_typeOf 1 (some .int) := ⟨zG_mem (n := 644) (by decide +kernel), zG_mem (n := 122) (by decide +kernel), zG_mem (n := 643) (by decide +kernel)⟩
def BX4_isSign : List (Nat × List (Instr × Nat)) := [(0, [(.aload_n 0, 1), (.getfield 25, 3), (.iconst 3, 1), (.if_icmp .ne 22, 3), (.aload_n 0, 1), (.getfield 21, 3), (.aload_n 0, 1), (.getfield 29, 3), (.invokevirtual 52, 3), (.iload_n 1, 1), (.if_icmp .ne 7, 3), (.iconst 1, 1), (.goto 4, 3)]), (27, [(.iconst 0, 1)]), (28, [(.ireturn, 1)])]
theorem oX4_isSign : ∀ pc, zdec cX4_isSign pc (zBf BX4_isSign pc) := zBf_ok (by decide +kernel)
theorem bX4_isSign_0 : zBf BX4_isSign 0 = [(.aload_n 0, 1), (.getfield 25, 3), (.iconst 3, 1), (.if_icmp .ne 22, 3), (.aload_n 0, 1), (.getfield 21, 3), (.aload_n 0, 1), (.getfield 29, 3), (.invokevirtual 52, 3), (.iload_n 1, 1), (.if_icmp .ne 7, 3), (.iconst 1, 1), (.goto 4, 3)] := rfl
theorem bX4_isSign_27 : zBf BX4_isSign 27 = [(.iconst 0, 1)] := rfl
theorem bX4_isSign_28 : zBf BX4_isSign 28 = [(.ireturn, 1)] := rfl
theorem hX4_isSign : zMv yX4_isSign cX4_isSign 2 (some .boolean) := ⟨zG_mem (n := 758) (by decide +kernel), zG_mem (n := 122) (by decide +kernel), zG_mem (n := 757) (by decide +kernel), zG_mem (n := 12) (by decide +kernel)⟩
def BX4_isWord : List (Nat × List (Instr × Nat)) := [(0, [(.aload_n 0, 1), (.getfield 25, 3), (.iconst 1, 1), (.if_icmp .ne 19, 3), (.aload_n 0, 1), (.getfield 32, 3), (.aload_n 0, 1), (.getfield 29, 3), (.isub, 1), (.aload_n 1, 1), (.invokevirtual 59, 3), (.if_icmp .eq 5, 3)]), (24, [(.iconst 0, 1), (.ireturn, 1)]), (26, [(.iconst 0, 1), (.istore_n 2, 1)]), (28, [(.iload_n 2, 1), (.aload_n 1, 1), (.invokevirtual 59, 3), (.if_icmp .ge 32, 3), (.aload_n 0, 1), (.getfield 21, 3), (.aload_n 0, 1), (.getfield 29, 3), (.iload_n 2, 1), (.iadd, 1), (.invokevirtual 52, 3), (.aload_n 1, 1), (.iload_n 2, 1), (.invokevirtual 65, 3), (.if_icmp .eq 5, 3), (.iconst 0, 1), (.ireturn, 1)]), (59, [(.iinc 2 1, 3), (.goto (-34), 3)]), (65, [(.iconst 1, 1), (.ireturn, 1)])]
theorem oX4_isWord : ∀ pc, zdec cX4_isWord pc (zBf BX4_isWord pc) := zBf_ok (by decide +kernel)
theorem bX4_isWord_0 : zBf BX4_isWord 0 = [(.aload_n 0, 1), (.getfield 25, 3), (.iconst 1, 1), (.if_icmp .ne 19, 3), (.aload_n 0, 1), (.getfield 32, 3), (.aload_n 0, 1), (.getfield 29, 3), (.isub, 1), (.aload_n 1, 1), (.invokevirtual 59, 3), (.if_icmp .eq 5, 3)] := rfl
theorem bX4_isWord_24 : zBf BX4_isWord 24 = [(.iconst 0, 1), (.ireturn, 1)] := rfl
theorem bX4_isWord_26 : zBf BX4_isWord 26 = [(.iconst 0, 1), (.istore_n 2, 1)] := rfl
theorem bX4_isWord_28 : zBf BX4_isWord 28 = [(.iload_n 2, 1), (.aload_n 1, 1), (.invokevirtual 59, 3), (.if_icmp .ge 32, 3), (.aload_n 0, 1), (.getfield 21, 3), (.aload_n 0, 1), (.getfield 29, 3), (.iload_n 2, 1), (.iadd, 1), (.invokevirtual 52, 3), (.aload_n 1, 1), (.iload_n 2, 1), (.invokevirtual 65, 3), (.if_icmp .eq 5, 3), (.iconst 0, 1), (.ireturn, 1)] := rfl
theorem bX4_isWord_59 : zBf BX4_isWord 59 = [(.iinc 2 1, 3), (.goto (-34), 3)] := rfl
theorem bX4_isWord_65 : zBf BX4_isWord 65 = [(.iconst 1, 1), (.ireturn, 1)] := rfl
theorem hX4_isWord : zMv yX4_isWord cX4_isWord 3 (some .boolean) := ⟨zG_mem (n := 661) (by decide +kernel), zG_mem (n := 122) (by decide +kernel), zG_mem (n := 660) (by decide +kernel), zG_mem (n := 4) (by decide +kernel)⟩
def BX4_takeSign : List (Nat × List (Instr × Nat)) := [(0, [(.aload_n 0, 1), (.iload_n 1, 1), (.invokevirtual 69, 3), (.ifCond .ne 8, 3), (.aload_n 0, 1), (.invokevirtual 48, 3), (.ireturn, 1)]), (13, [(.aload_n 0, 1), (.invokevirtual 41, 3), (.iconst 1, 1), (.ireturn, 1)])]
theorem oX4_takeSign : ∀ pc, zdec cX4_takeSign pc (zBf BX4_takeSign pc) := zBf_ok (by decide +kernel)
theorem bX4_takeSign_0 : zBf BX4_takeSign 0 = [(.aload_n 0, 1), (.iload_n 1, 1), (.invokevirtual 69, 3), (.ifCond .ne 8, 3), (.aload_n 0, 1), (.invokevirtual 48, 3), (.ireturn, 1)] := rfl
theorem bX4_takeSign_13 : zBf BX4_takeSign 13 = [(.aload_n 0, 1), (.invokevirtual 41, 3), (.iconst 1, 1), (.ireturn, 1)] := rfl
theorem hX4_takeSign : zMv yX4_takeSign cX4_takeSign 2 (some .boolean) := ⟨zG_mem (n := 762) (by decide +kernel), zG_mem (n := 122) (by decide +kernel), zG_mem (n := 761) (by decide +kernel), zG_mem (n := 13) (by decide +kernel)⟩
def BX4_takeNumber : List (Nat × List (Instr × Nat)) := [(0, [(.iconst (-1), 1), (.istore_n 3, 1), (.aload_n 0, 1), (.getfield 25, 3), (.iconst 2, 1), (.if_icmp .ne 57, 3), (.aload_n 0, 1), (.getfield 32, 3), (.aload_n 0, 1), (.getfield 29, 3), (.isub, 1), (.iconst 4, 1), (.if_icmp .gt 44, 3), (.iconst 0, 1), (.istore_n 3, 1), (.aload_n 0, 1), (.getfield 29, 3), (.istore 4, 2)]), (31, [(.iload 4, 2), (.aload_n 0, 1), (.getfield 32, 3), (.if_icmp .ge 27, 3), (.iload_n 3, 1), (.bipush 10, 2), (.imul, 1), (.aload_n 0, 1), (.getfield 21, 3), (.iload 4, 2), (.invokevirtual 52, 3), (.iadd, 1), (.bipush 48, 2), (.isub, 1), (.istore_n 3, 1), (.iinc 4 1, 3), (.goto (-30), 3)]), (64, [(.iload_n 3, 1), (.iload_n 1, 1), (.if_icmp .lt 8, 3), (.iload_n 3, 1), (.iload_n 2, 1), (.if_icmp .le 10, 3)]), (74, [(.aload_n 0, 1), (.invokevirtual 48, 3), (.pop, 1), (.iconst (-1), 1), (.ireturn, 1)]), (81, [(.aload_n 0, 1), (.invokevirtual 41, 3), (.iload_n 3, 1), (.ireturn, 1)])]
theorem oX4_takeNumber : ∀ pc, zdec cX4_takeNumber pc (zBf BX4_takeNumber pc) := zBf_ok (by decide +kernel)
theorem bX4_takeNumber_0 : zBf BX4_takeNumber 0 = [(.iconst (-1), 1), (.istore_n 3, 1), (.aload_n 0, 1), (.getfield 25, 3), (.iconst 2, 1), (.if_icmp .ne 57, 3), (.aload_n 0, 1), (.getfield 32, 3), (.aload_n 0, 1), (.getfield 29, 3), (.isub, 1), (.iconst 4, 1), (.if_icmp .gt 44, 3), (.iconst 0, 1), (.istore_n 3, 1), (.aload_n 0, 1), (.getfield 29, 3), (.istore 4, 2)] := rfl
theorem bX4_takeNumber_31 : zBf BX4_takeNumber 31 = [(.iload 4, 2), (.aload_n 0, 1), (.getfield 32, 3), (.if_icmp .ge 27, 3), (.iload_n 3, 1), (.bipush 10, 2), (.imul, 1), (.aload_n 0, 1), (.getfield 21, 3), (.iload 4, 2), (.invokevirtual 52, 3), (.iadd, 1), (.bipush 48, 2), (.isub, 1), (.istore_n 3, 1), (.iinc 4 1, 3), (.goto (-30), 3)] := rfl
theorem bX4_takeNumber_64 : zBf BX4_takeNumber 64 = [(.iload_n 3, 1), (.iload_n 1, 1), (.if_icmp .lt 8, 3), (.iload_n 3, 1), (.iload_n 2, 1), (.if_icmp .le 10, 3)] := rfl
theorem bX4_takeNumber_74 : zBf BX4_takeNumber 74 = [(.aload_n 0, 1), (.invokevirtual 48, 3), (.pop, 1), (.iconst (-1), 1), (.ireturn, 1)] := rfl
theorem bX4_takeNumber_81 : zBf BX4_takeNumber 81 = [(.aload_n 0, 1), (.invokevirtual 41, 3), (.iload_n 3, 1), (.ireturn, 1)] := rfl
theorem hX4_takeNumber : zMv yX4_takeNumber cX4_takeNumber 5 (some .int) := ⟨zG_mem (n := 746) (by decide +kernel), zG_mem (n := 122) (by decide +kernel), zG_mem (n := 745) (by decide +kernel), zG_mem (n := 9) (by decide +kernel)⟩
def BX4_readRow : List (Nat × List (Instr × Nat)) := [(0, [(.iconst 0, 1), (.istore_n 2, 1)]), (2, [(.iload_n 2, 1), (.sipush 400, 3), (.if_icmp .ge 34, 3), (.aload_n 0, 1), (.iload_n 1, 1), (.invokevirtual 72, 3), (.ifCond .ne 5, 3), (.iconst 0, 1), (.ireturn, 1)]), (19, [(.aload_n 0, 1), (.bipush 59, 2), (.invokevirtual 69, 3), (.ifCond .ne 5, 3), (.iconst 1, 1), (.ireturn, 1)]), (30, [(.aload_n 0, 1), (.invokevirtual 41, 3), (.iinc 2 1, 3), (.goto (-35), 3)]), (40, [(.iconst 1, 1), (.ireturn, 1)])]
theorem oX4_readRow : ∀ pc, zdec cX4_readRow pc (zBf BX4_readRow pc) := zBf_ok (by decide +kernel)
theorem bX4_readRow_0 : zBf BX4_readRow 0 = [(.iconst 0, 1), (.istore_n 2, 1)] := rfl
theorem bX4_readRow_2 : zBf BX4_readRow 2 = [(.iload_n 2, 1), (.sipush 400, 3), (.if_icmp .ge 34, 3), (.aload_n 0, 1), (.iload_n 1, 1), (.invokevirtual 72, 3), (.ifCond .ne 5, 3), (.iconst 0, 1), (.ireturn, 1)] := rfl
theorem bX4_readRow_19 : zBf BX4_readRow 19 = [(.aload_n 0, 1), (.bipush 59, 2), (.invokevirtual 69, 3), (.ifCond .ne 5, 3), (.iconst 1, 1), (.ireturn, 1)] := rfl
theorem bX4_readRow_30 : zBf BX4_readRow 30 = [(.aload_n 0, 1), (.invokevirtual 41, 3), (.iinc 2 1, 3), (.goto (-35), 3)] := rfl
theorem bX4_readRow_40 : zBf BX4_readRow 40 = [(.iconst 1, 1), (.ireturn, 1)] := rfl
theorem hX4_readRow : zMv yX4_readRow cX4_readRow 3 (some .boolean) := ⟨zG_mem (n := 648) (by decide +kernel), zG_mem (n := 122) (by decide +kernel), zG_mem (n := 647) (by decide +kernel), zG_mem (n := 1) (by decide +kernel)⟩
def BX4_readOrder : List (Nat × List (Instr × Nat)) := [(0, [(.aload_n 0, 1), (.invokevirtual 75, 3), (.istore_n 2, 1), (.aload_n 0, 1), (.getfield 29, 3), (.istore_n 3, 1), (.iload_n 2, 1), (.iconst (-1), 1), (.if_icmp .ne 8, 3), (.aload_n 0, 1), (.invokevirtual 48, 3), (.ireturn, 1)]), (20, [(.aload_n 0, 1), (.invokevirtual 41, 3), (.iload_n 2, 1), (.lookupswitch 81 #[(1, 51), (6, 57), (7, 63), (18, 69), (19, 75)], 51)]), (76, [(.aload_n 0, 1), (.iload_n 3, 1), (.invokevirtual 78, 3), (.ireturn, 1)]), (82, [(.aload_n 0, 1), (.iload_n 3, 1), (.invokevirtual 81, 3), (.ireturn, 1)]), (88, [(.aload_n 0, 1), (.iload_n 1, 1), (.invokevirtual 84, 3), (.ireturn, 1)]), (94, [(.aload_n 0, 1), (.iload_n 1, 1), (.invokevirtual 87, 3), (.ireturn, 1)]), (100, [(.aload_n 0, 1), (.iload_n 1, 1), (.invokevirtual 90, 3), (.ireturn, 1)]), (106, [(.aload_n 0, 1), (.getfield 12, 3), (.iload_n 2, 1), (.iconst 0, 1), (.iload_n 3, 1), (.invokevirtual 93, 3), (.iconst 1, 1), (.ireturn, 1)])]
theorem oX4_readOrder : ∀ pc, zdec cX4_readOrder pc (zBf BX4_readOrder pc) := zBf_ok (by decide +kernel)
theorem bX4_readOrder_0 : zBf BX4_readOrder 0 = [(.aload_n 0, 1), (.invokevirtual 75, 3), (.istore_n 2, 1), (.aload_n 0, 1), (.getfield 29, 3), (.istore_n 3, 1), (.iload_n 2, 1), (.iconst (-1), 1), (.if_icmp .ne 8, 3), (.aload_n 0, 1), (.invokevirtual 48, 3), (.ireturn, 1)] := rfl
theorem bX4_readOrder_20 : zBf BX4_readOrder 20 = [(.aload_n 0, 1), (.invokevirtual 41, 3), (.iload_n 2, 1), (.lookupswitch 81 #[(1, 51), (6, 57), (7, 63), (18, 69), (19, 75)], 51)] := rfl
theorem bX4_readOrder_76 : zBf BX4_readOrder 76 = [(.aload_n 0, 1), (.iload_n 3, 1), (.invokevirtual 78, 3), (.ireturn, 1)] := rfl
theorem bX4_readOrder_82 : zBf BX4_readOrder 82 = [(.aload_n 0, 1), (.iload_n 3, 1), (.invokevirtual 81, 3), (.ireturn, 1)] := rfl
theorem bX4_readOrder_88 : zBf BX4_readOrder 88 = [(.aload_n 0, 1), (.iload_n 1, 1), (.invokevirtual 84, 3), (.ireturn, 1)] := rfl
theorem bX4_readOrder_94 : zBf BX4_readOrder 94 = [(.aload_n 0, 1), (.iload_n 1, 1), (.invokevirtual 87, 3), (.ireturn, 1)] := rfl
theorem bX4_readOrder_100 : zBf BX4_readOrder 100 = [(.aload_n 0, 1), (.iload_n 1, 1), (.invokevirtual 90, 3), (.ireturn, 1)] := rfl
theorem bX4_readOrder_106 : zBf BX4_readOrder 106 = [(.aload_n 0, 1), (.getfield 12, 3), (.iload_n 2, 1), (.iconst 0, 1), (.iload_n 3, 1), (.invokevirtual 93, 3), (.iconst 1, 1), (.ireturn, 1)] := rfl
theorem hX4_readOrder : zMv yX4_readOrder cX4_readOrder 4 (some .boolean) := ⟨zG_mem (n := 652) (by decide +kernel), zG_mem (n := 122) (by decide +kernel), zG_mem (n := 651) (by decide +kernel), zG_mem (n := 2) (by decide +kernel)⟩
def BX4_orderWord : List (Nat × List (Instr × Nat)) := [(0, [(.aload_n 0, 1), (.ldc 97, 2), (.invokevirtual 99, 3), (.ifCond .eq 5, 3), (.iconst 0, 1), (.ireturn, 1)]), (11, [(.aload_n 0, 1), (.ldc 103, 2), (.invokevirtual 99, 3), (.ifCond .eq 5, 3), (.iconst 1, 1), (.ireturn, 1)]), (22, [(.aload_n 0, 1), (.ldc 105, 2), (.invokevirtual 99, 3), (.ifCond .eq 5, 3), (.iconst 2, 1), (.ireturn, 1)]), (33, [(.aload_n 0, 1), (.ldc 107, 2), (.invokevirtual 99, 3), (.ifCond .eq 5, 3), (.iconst 3, 1), (.ireturn, 1)]), (44, [(.aload_n 0, 1), (.ldc 109, 2), (.invokevirtual 99, 3), (.ifCond .eq 5, 3), (.iconst 4, 1), (.ireturn, 1)]), (55, [(.aload_n 0, 1), (.ldc 111, 2), (.invokevirtual 99, 3), (.ifCond .eq 5, 3), (.iconst 5, 1), (.ireturn, 1)]), (66, [(.aload_n 0, 1), (.ldc 113, 2), (.invokevirtual 99, 3), (.ifCond .eq 6, 3), (.bipush 6, 2), (.ireturn, 1)]), (78, [(.aload_n 0, 1), (.ldc 115, 2), (.invokevirtual 99, 3), (.ifCond .eq 6, 3), (.bipush 7, 2), (.ireturn, 1)]), (90, [(.aload_n 0, 1), (.ldc 117, 2), (.invokevirtual 99, 3), (.ifCond .eq 6, 3), (.bipush 18, 2), (.ireturn, 1)]), (102, [(.aload_n 0, 1), (.ldc 119, 2), (.invokevirtual 99, 3), (.ifCond .eq 8, 3), (.bipush 19, 2), (.goto 4, 3)]), (116, [(.iconst (-1), 1)]), (117, [(.ireturn, 1)])]
theorem oX4_orderWord : ∀ pc, zdec cX4_orderWord pc (zBf BX4_orderWord pc) := zBf_ok (by decide +kernel)
theorem bX4_orderWord_0 : zBf BX4_orderWord 0 = [(.aload_n 0, 1), (.ldc 97, 2), (.invokevirtual 99, 3), (.ifCond .eq 5, 3), (.iconst 0, 1), (.ireturn, 1)] := rfl
theorem bX4_orderWord_11 : zBf BX4_orderWord 11 = [(.aload_n 0, 1), (.ldc 103, 2), (.invokevirtual 99, 3), (.ifCond .eq 5, 3), (.iconst 1, 1), (.ireturn, 1)] := rfl
theorem bX4_orderWord_22 : zBf BX4_orderWord 22 = [(.aload_n 0, 1), (.ldc 105, 2), (.invokevirtual 99, 3), (.ifCond .eq 5, 3), (.iconst 2, 1), (.ireturn, 1)] := rfl
theorem bX4_orderWord_33 : zBf BX4_orderWord 33 = [(.aload_n 0, 1), (.ldc 107, 2), (.invokevirtual 99, 3), (.ifCond .eq 5, 3), (.iconst 3, 1), (.ireturn, 1)] := rfl
theorem bX4_orderWord_44 : zBf BX4_orderWord 44 = [(.aload_n 0, 1), (.ldc 109, 2), (.invokevirtual 99, 3), (.ifCond .eq 5, 3), (.iconst 4, 1), (.ireturn, 1)] := rfl
theorem bX4_orderWord_55 : zBf BX4_orderWord 55 = [(.aload_n 0, 1), (.ldc 111, 2), (.invokevirtual 99, 3), (.ifCond .eq 5, 3), (.iconst 5, 1), (.ireturn, 1)] := rfl
theorem bX4_orderWord_66 : zBf BX4_orderWord 66 = [(.aload_n 0, 1), (.ldc 113, 2), (.invokevirtual 99, 3), (.ifCond .eq 6, 3), (.bipush 6, 2), (.ireturn, 1)] := rfl
theorem bX4_orderWord_78 : zBf BX4_orderWord 78 = [(.aload_n 0, 1), (.ldc 115, 2), (.invokevirtual 99, 3), (.ifCond .eq 6, 3), (.bipush 7, 2), (.ireturn, 1)] := rfl
theorem bX4_orderWord_90 : zBf BX4_orderWord 90 = [(.aload_n 0, 1), (.ldc 117, 2), (.invokevirtual 99, 3), (.ifCond .eq 6, 3), (.bipush 18, 2), (.ireturn, 1)] := rfl
theorem bX4_orderWord_102 : zBf BX4_orderWord 102 = [(.aload_n 0, 1), (.ldc 119, 2), (.invokevirtual 99, 3), (.ifCond .eq 8, 3), (.bipush 19, 2), (.goto 4, 3)] := rfl
theorem bX4_orderWord_116 : zBf BX4_orderWord 116 = [(.iconst (-1), 1)] := rfl
theorem bX4_orderWord_117 : zBf BX4_orderWord 117 = [(.ireturn, 1)] := rfl
theorem hX4_orderWord : zMv yX4_orderWord cX4_orderWord 1 (some .int) := ⟨zG_mem (n := 656) (by decide +kernel), zG_mem (n := 122) (by decide +kernel), zG_mem (n := 655) (by decide +kernel), zG_mem (n := 3) (by decide +kernel)⟩
def BX4_readWay : List (Nat × List (Instr × Nat)) := [(0, [(.aload_n 0, 1), (.invokevirtual 121, 3), (.istore_n 2, 1), (.iload_n 2, 1), (.iconst (-1), 1), (.if_icmp .ne 8, 3), (.aload_n 0, 1), (.invokevirtual 48, 3), (.ireturn, 1)]), (15, [(.aload_n 0, 1), (.invokevirtual 41, 3), (.aload_n 0, 1), (.getfield 12, 3), (.iconst 1, 1), (.iload_n 2, 1), (.iload_n 1, 1), (.invokevirtual 93, 3), (.iconst 1, 1), (.ireturn, 1)])]
theorem oX4_readWay : ∀ pc, zdec cX4_readWay pc (zBf BX4_readWay pc) := zBf_ok (by decide +kernel)
theorem bX4_readWay_0 : zBf BX4_readWay 0 = [(.aload_n 0, 1), (.invokevirtual 121, 3), (.istore_n 2, 1), (.iload_n 2, 1), (.iconst (-1), 1), (.if_icmp .ne 8, 3), (.aload_n 0, 1), (.invokevirtual 48, 3), (.ireturn, 1)] := rfl
theorem bX4_readWay_15 : zBf BX4_readWay 15 = [(.aload_n 0, 1), (.invokevirtual 41, 3), (.aload_n 0, 1), (.getfield 12, 3), (.iconst 1, 1), (.iload_n 2, 1), (.iload_n 1, 1), (.invokevirtual 93, 3), (.iconst 1, 1), (.ireturn, 1)] := rfl
theorem hX4_readWay : zMv yX4_readWay cX4_readWay 3 (some .boolean) := ⟨zG_mem (n := 726) (by decide +kernel), zG_mem (n := 122) (by decide +kernel), zG_mem (n := 725) (by decide +kernel), zG_mem (n := 6) (by decide +kernel)⟩
def BX4_wayWord : List (Nat × List (Instr × Nat)) := [(0, [(.aload_n 0, 1), (.ldc 124, 2), (.invokevirtual 99, 3), (.ifCond .eq 5, 3), (.iconst 0, 1), (.ireturn, 1)]), (11, [(.aload_n 0, 1), (.ldc 126, 2), (.invokevirtual 99, 3), (.ifCond .eq 5, 3), (.iconst 1, 1), (.ireturn, 1)]), (22, [(.aload_n 0, 1), (.ldc 128, 2), (.invokevirtual 99, 3), (.ifCond .eq 5, 3), (.iconst 2, 1), (.ireturn, 1)]), (33, [(.aload_n 0, 1), (.ldc 130, 2), (.invokevirtual 99, 3), (.ifCond .eq 7, 3), (.iconst 3, 1), (.goto 4, 3)]), (46, [(.iconst (-1), 1)]), (47, [(.ireturn, 1)])]
theorem oX4_wayWord : ∀ pc, zdec cX4_wayWord pc (zBf BX4_wayWord pc) := zBf_ok (by decide +kernel)
theorem bX4_wayWord_0 : zBf BX4_wayWord 0 = [(.aload_n 0, 1), (.ldc 124, 2), (.invokevirtual 99, 3), (.ifCond .eq 5, 3), (.iconst 0, 1), (.ireturn, 1)] := rfl
theorem bX4_wayWord_11 : zBf BX4_wayWord 11 = [(.aload_n 0, 1), (.ldc 126, 2), (.invokevirtual 99, 3), (.ifCond .eq 5, 3), (.iconst 1, 1), (.ireturn, 1)] := rfl
theorem bX4_wayWord_22 : zBf BX4_wayWord 22 = [(.aload_n 0, 1), (.ldc 128, 2), (.invokevirtual 99, 3), (.ifCond .eq 5, 3), (.iconst 2, 1), (.ireturn, 1)] := rfl
theorem bX4_wayWord_33 : zBf BX4_wayWord 33 = [(.aload_n 0, 1), (.ldc 130, 2), (.invokevirtual 99, 3), (.ifCond .eq 7, 3), (.iconst 3, 1), (.goto 4, 3)] := rfl
theorem bX4_wayWord_46 : zBf BX4_wayWord 46 = [(.iconst (-1), 1)] := rfl
theorem bX4_wayWord_47 : zBf BX4_wayWord 47 = [(.ireturn, 1)] := rfl
theorem hX4_wayWord : zMv yX4_wayWord cX4_wayWord 1 (some .int) := ⟨zG_mem (n := 730) (by decide +kernel), zG_mem (n := 122) (by decide +kernel), zG_mem (n := 729) (by decide +kernel), zG_mem (n := 7) (by decide +kernel)⟩
def BX4_readRest : List (Nat × List (Instr × Nat)) := [(0, [(.aload_n 0, 1), (.iconst 1, 1), (.sipush 1440, 3), (.invokevirtual 132, 3), (.istore_n 2, 1), (.iload_n 2, 1), (.iconst (-1), 1), (.if_icmp .ne 5, 3), (.iconst 0, 1), (.ireturn, 1)]), (16, [(.aload_n 0, 1), (.getfield 12, 3), (.bipush 6, 2), (.iload_n 2, 1), (.iload_n 1, 1), (.invokevirtual 93, 3), (.iconst 1, 1), (.ireturn, 1)])]
theorem oX4_readRest : ∀ pc, zdec cX4_readRest pc (zBf BX4_readRest pc) := zBf_ok (by decide +kernel)
theorem bX4_readRest_0 : zBf BX4_readRest 0 = [(.aload_n 0, 1), (.iconst 1, 1), (.sipush 1440, 3), (.invokevirtual 132, 3), (.istore_n 2, 1), (.iload_n 2, 1), (.iconst (-1), 1), (.if_icmp .ne 5, 3), (.iconst 0, 1), (.ireturn, 1)] := rfl
theorem bX4_readRest_16 : zBf BX4_readRest 16 = [(.aload_n 0, 1), (.getfield 12, 3), (.bipush 6, 2), (.iload_n 2, 1), (.iload_n 1, 1), (.invokevirtual 93, 3), (.iconst 1, 1), (.ireturn, 1)] := rfl
theorem hX4_readRest : zMv yX4_readRest cX4_readRest 3 (some .boolean) := ⟨zG_mem (n := 742) (by decide +kernel), zG_mem (n := 122) (by decide +kernel), zG_mem (n := 741) (by decide +kernel), zG_mem (n := 8) (by decide +kernel)⟩
def BX4_readAgain : List (Nat × List (Instr × Nat)) := [(0, [(.aload_n 0, 1), (.iconst 1, 1), (.bipush 99, 2), (.invokevirtual 132, 3), (.istore_n 2, 1), (.iload_n 2, 1), (.iconst (-1), 1), (.if_icmp .ne 5, 3), (.iconst 0, 1), (.ireturn, 1)]), (15, [(.aload_n 0, 1), (.getfield 12, 3), (.bipush 7, 2), (.iload_n 2, 1), (.iload_n 1, 1), (.invokevirtual 93, 3), (.aload_n 0, 1), (.getfield 12, 3), (.getfield 38, 3), (.istore_n 3, 1), (.aload_n 0, 1), (.getfield 12, 3), (.bipush 8, 2), (.iconst 0, 1), (.iload_n 1, 1), (.invokevirtual 93, 3), (.aload_n 0, 1), (.iload_n 1, 1), (.invokevirtual 136, 3), (.ifCond .ne 5, 3), (.iconst 0, 1), (.ireturn, 1)]), (55, [(.aload_n 0, 1), (.getfield 12, 3), (.bipush 9, 2), (.iload_n 3, 1), (.iload_n 1, 1), (.invokevirtual 93, 3), (.iconst 1, 1), (.ireturn, 1)])]
theorem oX4_readAgain : ∀ pc, zdec cX4_readAgain pc (zBf BX4_readAgain pc) := zBf_ok (by decide +kernel)
theorem bX4_readAgain_0 : zBf BX4_readAgain 0 = [(.aload_n 0, 1), (.iconst 1, 1), (.bipush 99, 2), (.invokevirtual 132, 3), (.istore_n 2, 1), (.iload_n 2, 1), (.iconst (-1), 1), (.if_icmp .ne 5, 3), (.iconst 0, 1), (.ireturn, 1)] := rfl
theorem bX4_readAgain_15 : zBf BX4_readAgain 15 = [(.aload_n 0, 1), (.getfield 12, 3), (.bipush 7, 2), (.iload_n 2, 1), (.iload_n 1, 1), (.invokevirtual 93, 3), (.aload_n 0, 1), (.getfield 12, 3), (.getfield 38, 3), (.istore_n 3, 1), (.aload_n 0, 1), (.getfield 12, 3), (.bipush 8, 2), (.iconst 0, 1), (.iload_n 1, 1), (.invokevirtual 93, 3), (.aload_n 0, 1), (.iload_n 1, 1), (.invokevirtual 136, 3), (.ifCond .ne 5, 3), (.iconst 0, 1), (.ireturn, 1)] := rfl
theorem bX4_readAgain_55 : zBf BX4_readAgain 55 = [(.aload_n 0, 1), (.getfield 12, 3), (.bipush 9, 2), (.iload_n 3, 1), (.iload_n 1, 1), (.invokevirtual 93, 3), (.iconst 1, 1), (.ireturn, 1)] := rfl
theorem hX4_readAgain : zMv yX4_readAgain cX4_readAgain 4 (some .boolean) := ⟨zG_mem (n := 750) (by decide +kernel), zG_mem (n := 122) (by decide +kernel), zG_mem (n := 749) (by decide +kernel), zG_mem (n := 10) (by decide +kernel)⟩
def BX4_readIf : List (Nat × List (Instr × Nat)) := [(0, [(.aload_n 0, 1), (.iload_n 1, 1), (.invokevirtual 139, 3), (.ifCond .ne 5, 3), (.iconst 0, 1), (.ireturn, 1)]), (10, [(.aload_n 0, 1), (.getfield 12, 3), (.getfield 38, 3), (.istore_n 2, 1), (.aload_n 0, 1), (.getfield 12, 3), (.bipush 11, 2), (.iconst 0, 1), (.iconst 0, 1), (.invokevirtual 93, 3), (.aload_n 0, 1), (.iload_n 1, 1), (.invokevirtual 136, 3), (.ifCond .ne 5, 3), (.iconst 0, 1), (.ireturn, 1)]), (39, [(.aload_n 0, 1), (.getfield 12, 3), (.iload_n 2, 1), (.invokevirtual 142, 3), (.iconst 1, 1), (.ireturn, 1)])]
theorem oX4_readIf : ∀ pc, zdec cX4_readIf pc (zBf BX4_readIf pc) := zBf_ok (by decide +kernel)
theorem bX4_readIf_0 : zBf BX4_readIf 0 = [(.aload_n 0, 1), (.iload_n 1, 1), (.invokevirtual 139, 3), (.ifCond .ne 5, 3), (.iconst 0, 1), (.ireturn, 1)] := rfl
theorem bX4_readIf_10 : zBf BX4_readIf 10 = [(.aload_n 0, 1), (.getfield 12, 3), (.getfield 38, 3), (.istore_n 2, 1), (.aload_n 0, 1), (.getfield 12, 3), (.bipush 11, 2), (.iconst 0, 1), (.iconst 0, 1), (.invokevirtual 93, 3), (.aload_n 0, 1), (.iload_n 1, 1), (.invokevirtual 136, 3), (.ifCond .ne 5, 3), (.iconst 0, 1), (.ireturn, 1)] := rfl
theorem bX4_readIf_39 : zBf BX4_readIf 39 = [(.aload_n 0, 1), (.getfield 12, 3), (.iload_n 2, 1), (.invokevirtual 142, 3), (.iconst 1, 1), (.ireturn, 1)] := rfl
theorem hX4_readIf : zMv yX4_readIf cX4_readIf 3 (some .boolean) := ⟨zG_mem (n := 766) (by decide +kernel), zG_mem (n := 122) (by decide +kernel), zG_mem (n := 765) (by decide +kernel), zG_mem (n := 14) (by decide +kernel)⟩
def BX4_readWhile : List (Nat × List (Instr × Nat)) := [(0, [(.aload_n 0, 1), (.getfield 12, 3), (.getfield 38, 3), (.istore_n 2, 1), (.aload_n 0, 1), (.getfield 12, 3), (.bipush 8, 2), (.iconst 0, 1), (.iload_n 1, 1), (.invokevirtual 93, 3), (.aload_n 0, 1), (.iload_n 1, 1), (.invokevirtual 139, 3), (.ifCond .ne 5, 3), (.iconst 0, 1), (.ireturn, 1)]), (29, [(.aload_n 0, 1), (.getfield 12, 3), (.getfield 38, 3), (.istore_n 3, 1), (.aload_n 0, 1), (.getfield 12, 3), (.bipush 11, 2), (.iconst 0, 1), (.iconst 0, 1), (.invokevirtual 93, 3), (.aload_n 0, 1), (.iload_n 1, 1), (.invokevirtual 136, 3), (.ifCond .ne 5, 3), (.iconst 0, 1), (.ireturn, 1)]), (58, [(.aload_n 0, 1), (.getfield 12, 3), (.bipush 10, 2), (.iload_n 2, 1), (.iload_n 1, 1), (.invokevirtual 93, 3), (.aload_n 0, 1), (.getfield 12, 3), (.iload_n 3, 1), (.invokevirtual 142, 3), (.iconst 1, 1), (.ireturn, 1)])]
theorem oX4_readWhile : ∀ pc, zdec cX4_readWhile pc (zBf BX4_readWhile pc) := zBf_ok (by decide +kernel)
theorem bX4_readWhile_0 : zBf BX4_readWhile 0 = [(.aload_n 0, 1), (.getfield 12, 3), (.getfield 38, 3), (.istore_n 2, 1), (.aload_n 0, 1), (.getfield 12, 3), (.bipush 8, 2), (.iconst 0, 1), (.iload_n 1, 1), (.invokevirtual 93, 3), (.aload_n 0, 1), (.iload_n 1, 1), (.invokevirtual 139, 3), (.ifCond .ne 5, 3), (.iconst 0, 1), (.ireturn, 1)] := rfl
theorem bX4_readWhile_29 : zBf BX4_readWhile 29 = [(.aload_n 0, 1), (.getfield 12, 3), (.getfield 38, 3), (.istore_n 3, 1), (.aload_n 0, 1), (.getfield 12, 3), (.bipush 11, 2), (.iconst 0, 1), (.iconst 0, 1), (.invokevirtual 93, 3), (.aload_n 0, 1), (.iload_n 1, 1), (.invokevirtual 136, 3), (.ifCond .ne 5, 3), (.iconst 0, 1), (.ireturn, 1)] := rfl
theorem bX4_readWhile_58 : zBf BX4_readWhile 58 = [(.aload_n 0, 1), (.getfield 12, 3), (.bipush 10, 2), (.iload_n 2, 1), (.iload_n 1, 1), (.invokevirtual 93, 3), (.aload_n 0, 1), (.getfield 12, 3), (.iload_n 3, 1), (.invokevirtual 142, 3), (.iconst 1, 1), (.ireturn, 1)] := rfl
theorem hX4_readWhile : zMv yX4_readWhile cX4_readWhile 4 (some .boolean) := ⟨zG_mem (n := 814) (by decide +kernel), zG_mem (n := 122) (by decide +kernel), zG_mem (n := 813) (by decide +kernel), zG_mem (n := 21) (by decide +kernel)⟩
def BX4_readBlock : List (Nat × List (Instr × Nat)) := [(0, [(.aload_n 0, 1), (.bipush 40, 2), (.invokevirtual 69, 3), (.ifCond .eq 9, 3), (.iload_n 1, 1), (.bipush 6, 2), (.if_icmp .lt 8, 3)]), (15, [(.aload_n 0, 1), (.invokevirtual 48, 3), (.ireturn, 1)]), (20, [(.aload_n 0, 1), (.invokevirtual 41, 3), (.aload_n 0, 1), (.iload_n 1, 1), (.iconst 1, 1), (.iadd, 1), (.invokevirtual 44, 3), (.ifCond .eq 16, 3), (.aload_n 0, 1), (.bipush 41, 2), (.invokevirtual 146, 3), (.ifCond .eq 7, 3), (.iconst 1, 1), (.goto 4, 3)]), (47, [(.iconst 0, 1)]), (48, [(.ireturn, 1)])]
theorem oX4_readBlock : ∀ pc, zdec cX4_readBlock pc (zBf BX4_readBlock pc) := zBf_ok (by decide +kernel)
theorem bX4_readBlock_0 : zBf BX4_readBlock 0 = [(.aload_n 0, 1), (.bipush 40, 2), (.invokevirtual 69, 3), (.ifCond .eq 9, 3), (.iload_n 1, 1), (.bipush 6, 2), (.if_icmp .lt 8, 3)] := rfl
theorem bX4_readBlock_15 : zBf BX4_readBlock 15 = [(.aload_n 0, 1), (.invokevirtual 48, 3), (.ireturn, 1)] := rfl
theorem bX4_readBlock_20 : zBf BX4_readBlock 20 = [(.aload_n 0, 1), (.invokevirtual 41, 3), (.aload_n 0, 1), (.iload_n 1, 1), (.iconst 1, 1), (.iadd, 1), (.invokevirtual 44, 3), (.ifCond .eq 16, 3), (.aload_n 0, 1), (.bipush 41, 2), (.invokevirtual 146, 3), (.ifCond .eq 7, 3), (.iconst 1, 1), (.goto 4, 3)] := rfl
theorem bX4_readBlock_47 : zBf BX4_readBlock 47 = [(.iconst 0, 1)] := rfl
theorem bX4_readBlock_48 : zBf BX4_readBlock 48 = [(.ireturn, 1)] := rfl
theorem hX4_readBlock : zMv yX4_readBlock cX4_readBlock 2 (some .boolean) := ⟨zG_mem (n := 754) (by decide +kernel), zG_mem (n := 122) (by decide +kernel), zG_mem (n := 753) (by decide +kernel), zG_mem (n := 11) (by decide +kernel)⟩
def BX4_readEither : List (Nat × List (Instr × Nat)) := [(0, [(.aload_n 0, 1), (.iload_n 1, 1), (.invokevirtual 149, 3), (.ifCond .ne 5, 3), (.iconst 0, 1), (.ireturn, 1)]), (10, [(.iconst 0, 1), (.istore_n 2, 1)]), (12, [(.iload_n 2, 1), (.sipush 400, 3), (.if_icmp .ge 43, 3), (.aload_n 0, 1), (.ldc 152, 2), (.invokevirtual 99, 3), (.ifCond .eq 34, 3), (.aload_n 0, 1), (.invokevirtual 41, 3), (.aload_n 0, 1), (.iload_n 1, 1), (.invokevirtual 149, 3), (.ifCond .ne 5, 3), (.iconst 0, 1), (.ireturn, 1)]), (42, [(.aload_n 0, 1), (.getfield 12, 3), (.bipush 17, 2), (.iconst 0, 1), (.iconst 0, 1), (.invokevirtual 93, 3), (.iinc 2 1, 3), (.goto (-44), 3)]), (59, [(.iconst 1, 1), (.ireturn, 1)])]
theorem oX4_readEither : ∀ pc, zdec cX4_readEither pc (zBf BX4_readEither pc) := zBf_ok (by decide +kernel)
theorem bX4_readEither_0 : zBf BX4_readEither 0 = [(.aload_n 0, 1), (.iload_n 1, 1), (.invokevirtual 149, 3), (.ifCond .ne 5, 3), (.iconst 0, 1), (.ireturn, 1)] := rfl
theorem bX4_readEither_10 : zBf BX4_readEither 10 = [(.iconst 0, 1), (.istore_n 2, 1)] := rfl
theorem bX4_readEither_12 : zBf BX4_readEither 12 = [(.iload_n 2, 1), (.sipush 400, 3), (.if_icmp .ge 43, 3), (.aload_n 0, 1), (.ldc 152, 2), (.invokevirtual 99, 3), (.ifCond .eq 34, 3), (.aload_n 0, 1), (.invokevirtual 41, 3), (.aload_n 0, 1), (.iload_n 1, 1), (.invokevirtual 149, 3), (.ifCond .ne 5, 3), (.iconst 0, 1), (.ireturn, 1)] := rfl
theorem bX4_readEither_42 : zBf BX4_readEither 42 = [(.aload_n 0, 1), (.getfield 12, 3), (.bipush 17, 2), (.iconst 0, 1), (.iconst 0, 1), (.invokevirtual 93, 3), (.iinc 2 1, 3), (.goto (-44), 3)] := rfl
theorem bX4_readEither_59 : zBf BX4_readEither 59 = [(.iconst 1, 1), (.ireturn, 1)] := rfl
theorem hX4_readEither : zMv yX4_readEither cX4_readEither 3 (some .boolean) := ⟨zG_mem (n := 770) (by decide +kernel), zG_mem (n := 122) (by decide +kernel), zG_mem (n := 769) (by decide +kernel), zG_mem (n := 15) (by decide +kernel)⟩
def BX4_readBoth : List (Nat × List (Instr × Nat)) := [(0, [(.aload_n 0, 1), (.iload_n 1, 1), (.invokevirtual 154, 3), (.ifCond .ne 5, 3), (.iconst 0, 1), (.ireturn, 1)]), (10, [(.iconst 0, 1), (.istore_n 2, 1)]), (12, [(.iload_n 2, 1), (.sipush 400, 3), (.if_icmp .ge 43, 3), (.aload_n 0, 1), (.ldc 157, 2), (.invokevirtual 99, 3), (.ifCond .eq 34, 3), (.aload_n 0, 1), (.invokevirtual 41, 3), (.aload_n 0, 1), (.iload_n 1, 1), (.invokevirtual 154, 3), (.ifCond .ne 5, 3), (.iconst 0, 1), (.ireturn, 1)]), (42, [(.aload_n 0, 1), (.getfield 12, 3), (.bipush 16, 2), (.iconst 0, 1), (.iconst 0, 1), (.invokevirtual 93, 3), (.iinc 2 1, 3), (.goto (-44), 3)]), (59, [(.iconst 1, 1), (.ireturn, 1)])]
theorem oX4_readBoth : ∀ pc, zdec cX4_readBoth pc (zBf BX4_readBoth pc) := zBf_ok (by decide +kernel)
theorem bX4_readBoth_0 : zBf BX4_readBoth 0 = [(.aload_n 0, 1), (.iload_n 1, 1), (.invokevirtual 154, 3), (.ifCond .ne 5, 3), (.iconst 0, 1), (.ireturn, 1)] := rfl
theorem bX4_readBoth_10 : zBf BX4_readBoth 10 = [(.iconst 0, 1), (.istore_n 2, 1)] := rfl
theorem bX4_readBoth_12 : zBf BX4_readBoth 12 = [(.iload_n 2, 1), (.sipush 400, 3), (.if_icmp .ge 43, 3), (.aload_n 0, 1), (.ldc 157, 2), (.invokevirtual 99, 3), (.ifCond .eq 34, 3), (.aload_n 0, 1), (.invokevirtual 41, 3), (.aload_n 0, 1), (.iload_n 1, 1), (.invokevirtual 154, 3), (.ifCond .ne 5, 3), (.iconst 0, 1), (.ireturn, 1)] := rfl
theorem bX4_readBoth_42 : zBf BX4_readBoth 42 = [(.aload_n 0, 1), (.getfield 12, 3), (.bipush 16, 2), (.iconst 0, 1), (.iconst 0, 1), (.invokevirtual 93, 3), (.iinc 2 1, 3), (.goto (-44), 3)] := rfl
theorem bX4_readBoth_59 : zBf BX4_readBoth 59 = [(.iconst 1, 1), (.ireturn, 1)] := rfl
theorem hX4_readBoth : zMv yX4_readBoth cX4_readBoth 3 (some .boolean) := ⟨zG_mem (n := 774) (by decide +kernel), zG_mem (n := 122) (by decide +kernel), zG_mem (n := 773) (by decide +kernel), zG_mem (n := 16) (by decide +kernel)⟩
def BX4_readAtom : List (Nat × List (Instr × Nat)) := [(0, [(.aload_n 0, 1), (.ldc 159, 2), (.invokevirtual 99, 3), (.istore_n 2, 1), (.iload_n 2, 1), (.ifCond .ne 12, 3), (.aload_n 0, 1), (.bipush 91, 2), (.invokevirtual 69, 3), (.ifCond .eq 57, 3)]), (20, [(.iload_n 1, 1), (.bipush 6, 2), (.if_icmp .lt 8, 3), (.aload_n 0, 1), (.invokevirtual 48, 3), (.ireturn, 1)]), (31, [(.aload_n 0, 1), (.invokevirtual 41, 3), (.iload_n 2, 1), (.ifCond .eq 13, 3), (.aload_n 0, 1), (.iload_n 1, 1), (.iconst 1, 1), (.iadd, 1), (.invokevirtual 161, 3), (.goto 27, 3)]), (49, [(.aload_n 0, 1), (.iload_n 1, 1), (.iconst 1, 1), (.iadd, 1), (.invokevirtual 139, 3), (.ifCond .eq 16, 3), (.aload_n 0, 1), (.bipush 93, 2), (.invokevirtual 146, 3), (.ifCond .eq 7, 3), (.iconst 1, 1), (.goto 4, 3)]), (72, [(.iconst 0, 1)]), (73, [(.ireturn, 1)]), (74, [(.aload_n 0, 1), (.ldc 164, 2), (.invokevirtual 99, 3), (.ifCond .eq 20, 3), (.aload_n 0, 1), (.invokevirtual 41, 3), (.aload_n 0, 1), (.getfield 12, 3), (.bipush 14, 2), (.iconst 0, 1), (.iconst 0, 1), (.invokevirtual 93, 3), (.iconst 1, 1), (.ireturn, 1)]), (100, [(.aload_n 0, 1), (.invokevirtual 166, 3), (.ireturn, 1)])]
theorem oX4_readAtom : ∀ pc, zdec cX4_readAtom pc (zBf BX4_readAtom pc) := zBf_ok (by decide +kernel)
theorem bX4_readAtom_0 : zBf BX4_readAtom 0 = [(.aload_n 0, 1), (.ldc 159, 2), (.invokevirtual 99, 3), (.istore_n 2, 1), (.iload_n 2, 1), (.ifCond .ne 12, 3), (.aload_n 0, 1), (.bipush 91, 2), (.invokevirtual 69, 3), (.ifCond .eq 57, 3)] := rfl
theorem bX4_readAtom_20 : zBf BX4_readAtom 20 = [(.iload_n 1, 1), (.bipush 6, 2), (.if_icmp .lt 8, 3), (.aload_n 0, 1), (.invokevirtual 48, 3), (.ireturn, 1)] := rfl
theorem bX4_readAtom_31 : zBf BX4_readAtom 31 = [(.aload_n 0, 1), (.invokevirtual 41, 3), (.iload_n 2, 1), (.ifCond .eq 13, 3), (.aload_n 0, 1), (.iload_n 1, 1), (.iconst 1, 1), (.iadd, 1), (.invokevirtual 161, 3), (.goto 27, 3)] := rfl
theorem bX4_readAtom_49 : zBf BX4_readAtom 49 = [(.aload_n 0, 1), (.iload_n 1, 1), (.iconst 1, 1), (.iadd, 1), (.invokevirtual 139, 3), (.ifCond .eq 16, 3), (.aload_n 0, 1), (.bipush 93, 2), (.invokevirtual 146, 3), (.ifCond .eq 7, 3), (.iconst 1, 1), (.goto 4, 3)] := rfl
theorem bX4_readAtom_72 : zBf BX4_readAtom 72 = [(.iconst 0, 1)] := rfl
theorem bX4_readAtom_73 : zBf BX4_readAtom 73 = [(.ireturn, 1)] := rfl
theorem bX4_readAtom_74 : zBf BX4_readAtom 74 = [(.aload_n 0, 1), (.ldc 164, 2), (.invokevirtual 99, 3), (.ifCond .eq 20, 3), (.aload_n 0, 1), (.invokevirtual 41, 3), (.aload_n 0, 1), (.getfield 12, 3), (.bipush 14, 2), (.iconst 0, 1), (.iconst 0, 1), (.invokevirtual 93, 3), (.iconst 1, 1), (.ireturn, 1)] := rfl
theorem bX4_readAtom_100 : zBf BX4_readAtom 100 = [(.aload_n 0, 1), (.invokevirtual 166, 3), (.ireturn, 1)] := rfl
theorem hX4_readAtom : zMv yX4_readAtom cX4_readAtom 3 (some .boolean) := ⟨zG_mem (n := 778) (by decide +kernel), zG_mem (n := 122) (by decide +kernel), zG_mem (n := 777) (by decide +kernel), zG_mem (n := 17) (by decide +kernel)⟩
def BX4_readDenied : List (Nat × List (Instr × Nat)) := [(0, [(.aload_n 0, 1), (.iload_n 1, 1), (.invokevirtual 154, 3), (.ifCond .ne 5, 3), (.iconst 0, 1), (.ireturn, 1)]), (10, [(.aload_n 0, 1), (.getfield 12, 3), (.bipush 15, 2), (.iconst 0, 1), (.iconst 0, 1), (.invokevirtual 93, 3), (.iconst 1, 1), (.ireturn, 1)])]
theorem oX4_readDenied : ∀ pc, zdec cX4_readDenied pc (zBf BX4_readDenied pc) := zBf_ok (by decide +kernel)
theorem bX4_readDenied_0 : zBf BX4_readDenied 0 = [(.aload_n 0, 1), (.iload_n 1, 1), (.invokevirtual 154, 3), (.ifCond .ne 5, 3), (.iconst 0, 1), (.ireturn, 1)] := rfl
theorem bX4_readDenied_10 : zBf BX4_readDenied 10 = [(.aload_n 0, 1), (.getfield 12, 3), (.bipush 15, 2), (.iconst 0, 1), (.iconst 0, 1), (.invokevirtual 93, 3), (.iconst 1, 1), (.ireturn, 1)] := rfl
theorem hX4_readDenied : zMv yX4_readDenied cX4_readDenied 2 (some .boolean) := ⟨zG_mem (n := 783) (by decide +kernel), zG_mem (n := 122) (by decide +kernel), zG_mem (n := 782) (by decide +kernel), zG_mem (n := 18) (by decide +kernel)⟩
def BX4_readFact : List (Nat × List (Instr × Nat)) := [(0, [(.aload_n 0, 1), (.invokevirtual 169, 3), (.istore_n 1, 1), (.iload_n 1, 1), (.iconst (-1), 1), (.if_icmp .ne 8, 3), (.aload_n 0, 1), (.invokevirtual 48, 3), (.ireturn, 1)]), (15, [(.aload_n 0, 1), (.invokevirtual 41, 3), (.aload_n 0, 1), (.bipush 60, 2), (.invokevirtual 69, 3), (.istore_n 2, 1), (.iload_n 2, 1), (.ifCond .ne 17, 3), (.aload_n 0, 1), (.bipush 62, 2), (.invokevirtual 69, 3), (.ifCond .ne 8, 3), (.aload_n 0, 1), (.invokevirtual 48, 3), (.ireturn, 1)]), (44, [(.aload_n 0, 1), (.invokevirtual 41, 3), (.aload_n 0, 1), (.iconst 0, 1), (.sipush 9999, 3), (.invokevirtual 132, 3), (.istore_n 3, 1), (.iload_n 3, 1), (.iconst (-1), 1), (.if_icmp .ne 5, 3), (.iconst 0, 1), (.ireturn, 1)]), (64, [(.aload_n 0, 1), (.getfield 12, 3), (.iload_n 2, 1), (.ifCond .eq 8, 3), (.bipush 12, 2), (.goto 5, 3)]), (77, [(.bipush 13, 2)]), (79, [(.iload_n 3, 1), (.iload_n 1, 1), (.invokevirtual 93, 3), (.iconst 1, 1), (.ireturn, 1)])]
theorem oX4_readFact : ∀ pc, zdec cX4_readFact pc (zBf BX4_readFact pc) := zBf_ok (by decide +kernel)
theorem bX4_readFact_0 : zBf BX4_readFact 0 = [(.aload_n 0, 1), (.invokevirtual 169, 3), (.istore_n 1, 1), (.iload_n 1, 1), (.iconst (-1), 1), (.if_icmp .ne 8, 3), (.aload_n 0, 1), (.invokevirtual 48, 3), (.ireturn, 1)] := rfl
theorem bX4_readFact_15 : zBf BX4_readFact 15 = [(.aload_n 0, 1), (.invokevirtual 41, 3), (.aload_n 0, 1), (.bipush 60, 2), (.invokevirtual 69, 3), (.istore_n 2, 1), (.iload_n 2, 1), (.ifCond .ne 17, 3), (.aload_n 0, 1), (.bipush 62, 2), (.invokevirtual 69, 3), (.ifCond .ne 8, 3), (.aload_n 0, 1), (.invokevirtual 48, 3), (.ireturn, 1)] := rfl
theorem bX4_readFact_44 : zBf BX4_readFact 44 = [(.aload_n 0, 1), (.invokevirtual 41, 3), (.aload_n 0, 1), (.iconst 0, 1), (.sipush 9999, 3), (.invokevirtual 132, 3), (.istore_n 3, 1), (.iload_n 3, 1), (.iconst (-1), 1), (.if_icmp .ne 5, 3), (.iconst 0, 1), (.ireturn, 1)] := rfl
theorem bX4_readFact_64 : zBf BX4_readFact 64 = [(.aload_n 0, 1), (.getfield 12, 3), (.iload_n 2, 1), (.ifCond .eq 8, 3), (.bipush 12, 2), (.goto 5, 3)] := rfl
theorem bX4_readFact_77 : zBf BX4_readFact 77 = [(.bipush 13, 2)] := rfl
theorem bX4_readFact_79 : zBf BX4_readFact 79 = [(.iload_n 3, 1), (.iload_n 1, 1), (.invokevirtual 93, 3), (.iconst 1, 1), (.ireturn, 1)] := rfl
theorem hX4_readFact : zMv yX4_readFact cX4_readFact 4 (some .boolean) := ⟨zG_mem (n := 788) (by decide +kernel), zG_mem (n := 122) (by decide +kernel), zG_mem (n := 787) (by decide +kernel), zG_mem (n := 19) (by decide +kernel)⟩
def BX4_factWord : List (Nat × List (Instr × Nat)) := [(0, [(.aload_n 0, 1), (.ldc 172, 2), (.invokevirtual 99, 3), (.ifCond .eq 5, 3), (.iconst 0, 1), (.ireturn, 1)]), (11, [(.aload_n 0, 1), (.ldc 174, 2), (.invokevirtual 99, 3), (.ifCond .eq 5, 3), (.iconst 1, 1), (.ireturn, 1)]), (22, [(.aload_n 0, 1), (.ldc 176, 2), (.invokevirtual 99, 3), (.ifCond .eq 5, 3), (.iconst 2, 1), (.ireturn, 1)]), (33, [(.aload_n 0, 1), (.ldc 178, 2), (.invokevirtual 99, 3), (.ifCond .eq 5, 3), (.iconst 3, 1), (.ireturn, 1)]), (44, [(.aload_n 0, 1), (.ldc 180, 2), (.invokevirtual 99, 3), (.ifCond .eq 5, 3), (.iconst 4, 1), (.ireturn, 1)]), (55, [(.aload_n 0, 1), (.ldc 182, 2), (.invokevirtual 99, 3), (.ifCond .eq 5, 3), (.iconst 5, 1), (.ireturn, 1)]), (66, [(.aload_n 0, 1), (.ldc 184, 2), (.invokevirtual 99, 3), (.ifCond .eq 6, 3), (.bipush 6, 2), (.ireturn, 1)]), (78, [(.aload_n 0, 1), (.ldc 186, 2), (.invokevirtual 99, 3), (.ifCond .eq 8, 3), (.bipush 7, 2), (.goto 4, 3)]), (92, [(.iconst (-1), 1)]), (93, [(.ireturn, 1)])]
theorem oX4_factWord : ∀ pc, zdec cX4_factWord pc (zBf BX4_factWord pc) := zBf_ok (by decide +kernel)
theorem bX4_factWord_0 : zBf BX4_factWord 0 = [(.aload_n 0, 1), (.ldc 172, 2), (.invokevirtual 99, 3), (.ifCond .eq 5, 3), (.iconst 0, 1), (.ireturn, 1)] := rfl
theorem bX4_factWord_11 : zBf BX4_factWord 11 = [(.aload_n 0, 1), (.ldc 174, 2), (.invokevirtual 99, 3), (.ifCond .eq 5, 3), (.iconst 1, 1), (.ireturn, 1)] := rfl
theorem bX4_factWord_22 : zBf BX4_factWord 22 = [(.aload_n 0, 1), (.ldc 176, 2), (.invokevirtual 99, 3), (.ifCond .eq 5, 3), (.iconst 2, 1), (.ireturn, 1)] := rfl
theorem bX4_factWord_33 : zBf BX4_factWord 33 = [(.aload_n 0, 1), (.ldc 178, 2), (.invokevirtual 99, 3), (.ifCond .eq 5, 3), (.iconst 3, 1), (.ireturn, 1)] := rfl
theorem bX4_factWord_44 : zBf BX4_factWord 44 = [(.aload_n 0, 1), (.ldc 180, 2), (.invokevirtual 99, 3), (.ifCond .eq 5, 3), (.iconst 4, 1), (.ireturn, 1)] := rfl
theorem bX4_factWord_55 : zBf BX4_factWord 55 = [(.aload_n 0, 1), (.ldc 182, 2), (.invokevirtual 99, 3), (.ifCond .eq 5, 3), (.iconst 5, 1), (.ireturn, 1)] := rfl
theorem bX4_factWord_66 : zBf BX4_factWord 66 = [(.aload_n 0, 1), (.ldc 184, 2), (.invokevirtual 99, 3), (.ifCond .eq 6, 3), (.bipush 6, 2), (.ireturn, 1)] := rfl
theorem bX4_factWord_78 : zBf BX4_factWord 78 = [(.aload_n 0, 1), (.ldc 186, 2), (.invokevirtual 99, 3), (.ifCond .eq 8, 3), (.bipush 7, 2), (.goto 4, 3)] := rfl
theorem bX4_factWord_92 : zBf BX4_factWord 92 = [(.iconst (-1), 1)] := rfl
theorem bX4_factWord_93 : zBf BX4_factWord 93 = [(.ireturn, 1)] := rfl
theorem hX4_factWord : zMv yX4_factWord cX4_factWord 1 (some .int) := ⟨zG_mem (n := 792) (by decide +kernel), zG_mem (n := 122) (by decide +kernel), zG_mem (n := 791) (by decide +kernel), zG_mem (n := 20) (by decide +kernel)⟩
theorem kX4_41 : Cond.methodLink RX4 41 yX4_advance ∈ zTbl ∨ ∃ host, Cond.methodLinkNest RX4 41 yX4_advance host ∈ lw_tbl := Or.inl (zG_mem (n := 634) (by decide +kernel))
theorem kX4_52 : Cond.methodLink RX4 52 yX7_byteAt ∈ zTbl ∨ ∃ host, Cond.methodLinkNest RX4 52 yX7_byteAt host ∈ lw_tbl := Or.inl (zG_mem (n := 638) (by decide +kernel))
theorem kX4_56 : Cond.methodLink RX4 56 yX4_typeOf ∈ zTbl ∨ ∃ host, Cond.methodLinkNest RX4 56 yX4_typeOf host ∈ lw_tbl := Or.inl (zG_mem (n := 642) (by decide +kernel))
theorem kX4_44 : Cond.methodLink RX4 44 yX4_readRow ∈ zTbl ∨ ∃ host, Cond.methodLinkNest RX4 44 yX4_readRow host ∈ lw_tbl := Or.inl (zG_mem (n := 645) (by decide +kernel))
theorem kX4_72 : Cond.methodLink RX4 72 yX4_readOrder ∈ zTbl ∨ ∃ host, Cond.methodLinkNest RX4 72 yX4_readOrder host ∈ lw_tbl := Or.inl (zG_mem (n := 649) (by decide +kernel))
theorem kX4_75 : Cond.methodLink RX4 75 yX4_orderWord ∈ zTbl ∨ ∃ host, Cond.methodLinkNest RX4 75 yX4_orderWord host ∈ lw_tbl := Or.inl (zG_mem (n := 653) (by decide +kernel))
theorem kX4_99 : Cond.methodLink RX4 99 yX4_isWord ∈ zTbl ∨ ∃ host, Cond.methodLinkNest RX4 99 yX4_isWord host ∈ lw_tbl := Or.inl (zG_mem (n := 658) (by decide +kernel))
theorem kX4_59 : Cond.methodLink RX4 59 yJ0_length_8abf5 ∈ zTbl ∨ ∃ host, Cond.methodLinkNest RX4 59 yJ0_length_8abf5 host ∈ lw_tbl := Or.inl (zG_mem (n := 662) (by decide +kernel))
theorem kX4_65 : Cond.methodLink RX4 65 yJ0_charAt_5068e ∈ zTbl ∨ ∃ host, Cond.methodLinkNest RX4 65 yJ0_charAt_5068e host ∈ lw_tbl := Or.inl (zG_mem (n := 672) (by decide +kernel))
theorem kX4_48 : Cond.methodLink RX4 48 yX4_isRefused ∈ zTbl ∨ ∃ host, Cond.methodLinkNest RX4 48 yX4_isRefused host ∈ lw_tbl := Or.inl (zG_mem (n := 719) (by decide +kernel))
theorem kX4_78 : Cond.methodLink RX4 78 yX4_readWay ∈ zTbl ∨ ∃ host, Cond.methodLinkNest RX4 78 yX4_readWay host ∈ lw_tbl := Or.inl (zG_mem (n := 723) (by decide +kernel))
theorem kX4_121 : Cond.methodLink RX4 121 yX4_wayWord ∈ zTbl ∨ ∃ host, Cond.methodLinkNest RX4 121 yX4_wayWord host ∈ lw_tbl := Or.inl (zG_mem (n := 727) (by decide +kernel))
theorem kX4_93 : Cond.methodLink RX4 93 yX3_add ∈ zTbl ∨ ∃ host, Cond.methodLinkNest RX4 93 yX3_add host ∈ lw_tbl := Or.inl (zG_mem (n := 735) (by decide +kernel))
theorem kX4_81 : Cond.methodLink RX4 81 yX4_readRest ∈ zTbl ∨ ∃ host, Cond.methodLinkNest RX4 81 yX4_readRest host ∈ lw_tbl := Or.inl (zG_mem (n := 739) (by decide +kernel))
theorem kX4_132 : Cond.methodLink RX4 132 yX4_takeNumber ∈ zTbl ∨ ∃ host, Cond.methodLinkNest RX4 132 yX4_takeNumber host ∈ lw_tbl := Or.inl (zG_mem (n := 743) (by decide +kernel))
theorem kX4_84 : Cond.methodLink RX4 84 yX4_readAgain ∈ zTbl ∨ ∃ host, Cond.methodLinkNest RX4 84 yX4_readAgain host ∈ lw_tbl := Or.inl (zG_mem (n := 747) (by decide +kernel))
theorem kX4_136 : Cond.methodLink RX4 136 yX4_readBlock ∈ zTbl ∨ ∃ host, Cond.methodLinkNest RX4 136 yX4_readBlock host ∈ lw_tbl := Or.inl (zG_mem (n := 751) (by decide +kernel))
theorem kX4_69 : Cond.methodLink RX4 69 yX4_isSign ∈ zTbl ∨ ∃ host, Cond.methodLinkNest RX4 69 yX4_isSign host ∈ lw_tbl := Or.inl (zG_mem (n := 755) (by decide +kernel))
theorem kX4_146 : Cond.methodLink RX4 146 yX4_takeSign ∈ zTbl ∨ ∃ host, Cond.methodLinkNest RX4 146 yX4_takeSign host ∈ lw_tbl := Or.inl (zG_mem (n := 759) (by decide +kernel))
theorem kX4_87 : Cond.methodLink RX4 87 yX4_readIf ∈ zTbl ∨ ∃ host, Cond.methodLinkNest RX4 87 yX4_readIf host ∈ lw_tbl := Or.inl (zG_mem (n := 763) (by decide +kernel))
theorem kX4_139 : Cond.methodLink RX4 139 yX4_readEither ∈ zTbl ∨ ∃ host, Cond.methodLinkNest RX4 139 yX4_readEither host ∈ lw_tbl := Or.inl (zG_mem (n := 767) (by decide +kernel))
theorem kX4_149 : Cond.methodLink RX4 149 yX4_readBoth ∈ zTbl ∨ ∃ host, Cond.methodLinkNest RX4 149 yX4_readBoth host ∈ lw_tbl := Or.inl (zG_mem (n := 771) (by decide +kernel))
theorem kX4_154 : Cond.methodLink RX4 154 yX4_readAtom ∈ zTbl ∨ ∃ host, Cond.methodLinkNest RX4 154 yX4_readAtom host ∈ lw_tbl := Or.inl (zG_mem (n := 775) (by decide +kernel))
theorem kX4_161 : Cond.methodLink RX4 161 yX4_readDenied ∈ zTbl ∨ ∃ host, Cond.methodLinkNest RX4 161 yX4_readDenied host ∈ lw_tbl := Or.inl (zG_mem (n := 780) (by decide +kernel))
theorem kX4_166 : Cond.methodLink RX4 166 yX4_readFact ∈ zTbl ∨ ∃ host, Cond.methodLinkNest RX4 166 yX4_readFact host ∈ lw_tbl := Or.inl (zG_mem (n := 785) (by decide +kernel))
theorem kX4_169 : Cond.methodLink RX4 169 yX4_factWord ∈ zTbl ∨ ∃ host, Cond.methodLinkNest RX4 169 yX4_factWord host ∈ lw_tbl := Or.inl (zG_mem (n := 789) (by decide +kernel))
theorem kX4_142 : Cond.methodLink RX4 142 yX3_leadHere ∈ zTbl ∨ ∃ host, Cond.methodLinkNest RX4 142 yX3_leadHere host ∈ lw_tbl := Or.inl (zG_mem (n := 803) (by decide +kernel))
theorem kX4_90 : Cond.methodLink RX4 90 yX4_readWhile ∈ zTbl ∨ ∃ host, Cond.methodLinkNest RX4 90 yX4_readWhile host ∈ lw_tbl := Or.inl (zG_mem (n := 811) (by decide +kernel))
def BX5_init : List (Nat × List (Instr × Nat)) := [(0, [(.aload_n 0, 1), (.invokespecial 3, 3), (.aload_n 0, 1), (.sipush 6000, 3), (.newarray .long, 2), (.putfield 11, 3), (.aload_n 0, 1), (.bipush 100, 2), (.newarray .int, 2), (.putfield 15, 3), (.aload_n 0, 1), (.bipush 100, 2), (.newarray .boolean, 2), (.putfield 19, 3), (.aload_n 0, 1), (.bipush 100, 2), (.newarray .long, 2), (.putfield 23, 3), (.aload_n 0, 1), (.iconst 1, 1), (.putfield 26, 3), (.aload_n 0, 1), (.iconst (-1), 1), (.putfield 30, 3), (.aload_n 0, 1), (.iconst 0, 1), (.putfield 33, 3), (.aload_n 0, 1), (.iconst 0, 1), (.putfield 36, 3), (.aload_n 0, 1), (.iconst 0, 1), (.putfield 39, 3), (.return_, 1)])]
theorem oX5_init : ∀ pc, zdec cX5_init pc (zBf BX5_init pc) := zBf_ok (by decide +kernel)
theorem bX5_init_0 : zBf BX5_init 0 = [(.aload_n 0, 1), (.invokespecial 3, 3), (.aload_n 0, 1), (.sipush 6000, 3), (.newarray .long, 2), (.putfield 11, 3), (.aload_n 0, 1), (.bipush 100, 2), (.newarray .int, 2), (.putfield 15, 3), (.aload_n 0, 1), (.bipush 100, 2), (.newarray .boolean, 2), (.putfield 19, 3), (.aload_n 0, 1), (.bipush 100, 2), (.newarray .long, 2), (.putfield 23, 3), (.aload_n 0, 1), (.iconst 1, 1), (.putfield 26, 3), (.aload_n 0, 1), (.iconst (-1), 1), (.putfield 30, 3), (.aload_n 0, 1), (.iconst 0, 1), (.putfield 33, 3), (.aload_n 0, 1), (.iconst 0, 1), (.putfield 36, 3), (.aload_n 0, 1), (.iconst 0, 1), (.putfield 39, 3), (.return_, 1)] := rfl
def BX5_tell : List (Nat × List (Instr × Nat)) := [(0, [(.aload_n 0, 1), (.aload_n 1, 1), (.iload_n 2, 1), (.invokevirtual 42, 3), (.aload_n 0, 1), (.aload_n 0, 1), (.getfield 36, 3), (.aload_n 0, 1), (.getfield 39, 3), (.invokevirtual 46, 3), (.lstore 4, 2), (.lload 4, 2), (.ldc2_w 50, 3), (.lcmp, 1), (.ifCond .ne 5, 3), (.iconst (-1), 1), (.ireturn, 1)]), (31, [(.iload_n 3, 1), (.iconst (-1), 1), (.if_icmp .ne 9, 3), (.lload 4, 2), (.invokestatic 52, 3), (.ireturn, 1)]), (42, [(.lload 4, 2), (.ldc2_w 56, 3), (.lrem, 1), (.l2i, 1), (.istore 6, 2), (.iload_n 3, 1), (.iconst (-1), 1), (.if_icmp .ge 6, 3), (.iload 6, 2), (.ireturn, 1)]), (59, [(.iload_n 3, 1), (.iload 6, 2), (.if_icmp .lt 5, 3), (.iconst (-1), 1), (.ireturn, 1)]), (67, [(.iconst 0, 1), (.istore 7, 2)]), (70, [(.iload 7, 2), (.iload_n 3, 1), (.if_icmp .gt 13, 3), (.aload_n 0, 1), (.invokevirtual 58, 3), (.iinc 7 1, 3), (.goto (-13), 3)]), (86, [(.aload_n 0, 1), (.getfield 36, 3), (.ireturn, 1)])]
theorem oX5_tell : ∀ pc, zdec cX5_tell pc (zBf BX5_tell pc) := zBf_ok (by decide +kernel)
theorem bX5_tell_0 : zBf BX5_tell 0 = [(.aload_n 0, 1), (.aload_n 1, 1), (.iload_n 2, 1), (.invokevirtual 42, 3), (.aload_n 0, 1), (.aload_n 0, 1), (.getfield 36, 3), (.aload_n 0, 1), (.getfield 39, 3), (.invokevirtual 46, 3), (.lstore 4, 2), (.lload 4, 2), (.ldc2_w 50, 3), (.lcmp, 1), (.ifCond .ne 5, 3), (.iconst (-1), 1), (.ireturn, 1)] := rfl
theorem bX5_tell_31 : zBf BX5_tell 31 = [(.iload_n 3, 1), (.iconst (-1), 1), (.if_icmp .ne 9, 3), (.lload 4, 2), (.invokestatic 52, 3), (.ireturn, 1)] := rfl
theorem bX5_tell_42 : zBf BX5_tell 42 = [(.lload 4, 2), (.ldc2_w 56, 3), (.lrem, 1), (.l2i, 1), (.istore 6, 2), (.iload_n 3, 1), (.iconst (-1), 1), (.if_icmp .ge 6, 3), (.iload 6, 2), (.ireturn, 1)] := rfl
theorem bX5_tell_59 : zBf BX5_tell 59 = [(.iload_n 3, 1), (.iload 6, 2), (.if_icmp .lt 5, 3), (.iconst (-1), 1), (.ireturn, 1)] := rfl
theorem bX5_tell_67 : zBf BX5_tell 67 = [(.iconst 0, 1), (.istore 7, 2)] := rfl
theorem bX5_tell_70 : zBf BX5_tell 70 = [(.iload 7, 2), (.iload_n 3, 1), (.if_icmp .gt 13, 3), (.aload_n 0, 1), (.invokevirtual 58, 3), (.iinc 7 1, 3), (.goto (-13), 3)] := rfl
theorem bX5_tell_86 : zBf BX5_tell 86 = [(.aload_n 0, 1), (.getfield 36, 3), (.ireturn, 1)] := rfl
theorem hX5_tell : zMv yX5_tell cX5_tell 8 (some .int) := ⟨zG_mem (n := 1346) (by decide +kernel), zG_mem (n := 126) (by decide +kernel), zG_mem (n := 1344) (by decide +kernel), zG_mem (n := 1345) (by decide +kernel)⟩
def BX5_cellsWithin : List (Nat × List (Instr × Nat)) := [(0, [(.aload_n 0, 1), (.aload_n 1, 1), (.iload_n 2, 1), (.invokevirtual 42, 3), (.aload_n 0, 1), (.aload_n 0, 1), (.getfield 36, 3), (.aload_n 0, 1), (.getfield 39, 3), (.invokevirtual 46, 3), (.lstore 4, 2), (.lload 4, 2), (.ldc2_w 50, 3), (.lcmp, 1), (.ifCond .ne 5, 3), (.iconst (-1), 1), (.ireturn, 1)]), (31, [(.lload 4, 2), (.ldc2_w 56, 3), (.lrem, 1), (.l2i, 1), (.istore 6, 2), (.iconst 0, 1), (.istore 7, 2)]), (43, [(.iload 7, 2), (.iload 6, 2), (.if_icmp .ge 41, 3), (.aload_n 0, 1), (.invokevirtual 58, 3), (.lload 4, 2), (.invokestatic 52, 3), (.aload_n 0, 1), (.aload_n 0, 1), (.getfield 36, 3), (.aload_n 0, 1), (.getfield 39, 3), (.invokevirtual 46, 3), (.invokestatic 52, 3), (.isub, 1), (.iload_n 3, 1), (.if_icmp .le 6, 3), (.iload 7, 2), (.ireturn, 1)]), (82, [(.iinc 7 1, 3), (.goto (-42), 3)]), (88, [(.iload 6, 2), (.ireturn, 1)])]
theorem oX5_cellsWithin : ∀ pc, zdec cX5_cellsWithin pc (zBf BX5_cellsWithin pc) := zBf_ok (by decide +kernel)
theorem bX5_cellsWithin_0 : zBf BX5_cellsWithin 0 = [(.aload_n 0, 1), (.aload_n 1, 1), (.iload_n 2, 1), (.invokevirtual 42, 3), (.aload_n 0, 1), (.aload_n 0, 1), (.getfield 36, 3), (.aload_n 0, 1), (.getfield 39, 3), (.invokevirtual 46, 3), (.lstore 4, 2), (.lload 4, 2), (.ldc2_w 50, 3), (.lcmp, 1), (.ifCond .ne 5, 3), (.iconst (-1), 1), (.ireturn, 1)] := rfl
theorem bX5_cellsWithin_31 : zBf BX5_cellsWithin 31 = [(.lload 4, 2), (.ldc2_w 56, 3), (.lrem, 1), (.l2i, 1), (.istore 6, 2), (.iconst 0, 1), (.istore 7, 2)] := rfl
theorem bX5_cellsWithin_43 : zBf BX5_cellsWithin 43 = [(.iload 7, 2), (.iload 6, 2), (.if_icmp .ge 41, 3), (.aload_n 0, 1), (.invokevirtual 58, 3), (.lload 4, 2), (.invokestatic 52, 3), (.aload_n 0, 1), (.aload_n 0, 1), (.getfield 36, 3), (.aload_n 0, 1), (.getfield 39, 3), (.invokevirtual 46, 3), (.invokestatic 52, 3), (.isub, 1), (.iload_n 3, 1), (.if_icmp .le 6, 3), (.iload 7, 2), (.ireturn, 1)] := rfl
theorem bX5_cellsWithin_82 : zBf BX5_cellsWithin 82 = [(.iinc 7 1, 3), (.goto (-42), 3)] := rfl
theorem bX5_cellsWithin_88 : zBf BX5_cellsWithin 88 = [(.iload 6, 2), (.ireturn, 1)] := rfl
theorem hX5_cellsWithin : zMv yX5_cellsWithin cX5_cellsWithin 8 (some .int) := ⟨zG_mem (n := 1422) (by decide +kernel), zG_mem (n := 126) (by decide +kernel), zG_mem (n := 1420) (by decide +kernel), zG_mem (n := 1421) (by decide +kernel)⟩
def BX5_minutesOf : List (Nat × List (Instr × Nat)) := [(0, [(.lload_n 0, 1), (.ldc2_w 56, 3), (.ldiv, 1), (.l2i, 1), (.ireturn, 1)])]
theorem oX5_minutesOf : ∀ pc, zdec cX5_minutesOf pc (zBf BX5_minutesOf pc) := zBf_ok (by decide +kernel)
theorem bX5_minutesOf_0 : zBf BX5_minutesOf 0 = [(.lload_n 0, 1), (.ldc2_w 56, 3), (.ldiv, 1), (.l2i, 1), (.ireturn, 1)] := rfl
theorem hX5_minutesOf : zMs yX5_minutesOf cX5_minutesOf 2 (some .int) := ⟨zG_mem (n := 1400) (by decide +kernel), zG_mem (n := 126) (by decide +kernel), zG_mem (n := 1399) (by decide +kernel)⟩
def BX5_solve : List (Nat × List (Instr × Nat)) := [(0, [(.aload_n 0, 1), (.aload_n 1, 1), (.getfield 61, 3), (.invokevirtual 67, 3), (.putfield 36, 3), (.aload_n 0, 1), (.aload_n 1, 1), (.iconst 2, 1), (.invokevirtual 73, 3), (.putfield 39, 3), (.aload_n 0, 1), (.aload_n 1, 1), (.iload_n 2, 1), (.invokevirtual 77, 3), (.ifCond .eq 4, 3), (.return_, 1)]), (30, [(.iconst 0, 1), (.istore_n 3, 1)]), (32, [(.iload_n 3, 1), (.bipush 100, 2), (.if_icmp .ge 18, 3), (.aload_n 0, 1), (.getfield 23, 3), (.iload_n 3, 1), (.ldc2_w 50, 3), (.lastore, 1), (.iinc 3 1, 3), (.goto (-18), 3)]), (53, [(.iconst 0, 1), (.istore_n 3, 1)]), (55, [(.iload_n 3, 1), (.bipush 102, 2), (.if_icmp .ge 21, 3), (.aload_n 0, 1), (.invokevirtual 81, 3), (.aload_n 0, 1), (.invokevirtual 84, 3), (.ifCond .ne 4, 3), (.return_, 1)]), (73, [(.iinc 3 1, 3), (.goto (-21), 3)]), (79, [(.return_, 1)])]
theorem oX5_solve : ∀ pc, zdec cX5_solve pc (zBf BX5_solve pc) := zBf_ok (by decide +kernel)
theorem bX5_solve_0 : zBf BX5_solve 0 = [(.aload_n 0, 1), (.aload_n 1, 1), (.getfield 61, 3), (.invokevirtual 67, 3), (.putfield 36, 3), (.aload_n 0, 1), (.aload_n 1, 1), (.iconst 2, 1), (.invokevirtual 73, 3), (.putfield 39, 3), (.aload_n 0, 1), (.aload_n 1, 1), (.iload_n 2, 1), (.invokevirtual 77, 3), (.ifCond .eq 4, 3), (.return_, 1)] := rfl
theorem bX5_solve_30 : zBf BX5_solve 30 = [(.iconst 0, 1), (.istore_n 3, 1)] := rfl
theorem bX5_solve_32 : zBf BX5_solve 32 = [(.iload_n 3, 1), (.bipush 100, 2), (.if_icmp .ge 18, 3), (.aload_n 0, 1), (.getfield 23, 3), (.iload_n 3, 1), (.ldc2_w 50, 3), (.lastore, 1), (.iinc 3 1, 3), (.goto (-18), 3)] := rfl
theorem bX5_solve_53 : zBf BX5_solve 53 = [(.iconst 0, 1), (.istore_n 3, 1)] := rfl
theorem bX5_solve_55 : zBf BX5_solve 55 = [(.iload_n 3, 1), (.bipush 102, 2), (.if_icmp .ge 21, 3), (.aload_n 0, 1), (.invokevirtual 81, 3), (.aload_n 0, 1), (.invokevirtual 84, 3), (.ifCond .ne 4, 3), (.return_, 1)] := rfl
theorem bX5_solve_73 : zBf BX5_solve 73 = [(.iinc 3 1, 3), (.goto (-21), 3)] := rfl
theorem bX5_solve_79 : zBf BX5_solve 79 = [(.return_, 1)] := rfl
theorem hX5_solve : zMv yX5_solve cX5_solve 4 none := ⟨zG_mem (n := 1350) (by decide +kernel), zG_mem (n := 126) (by decide +kernel), zG_mem (n := 1349) (by decide +kernel), zG_mem (n := 31) (by decide +kernel)⟩
def BX5_isAsBefore : List (Nat × List (Instr × Nat)) := [(0, [(.iconst 1, 1), (.bipush 60, 2), (.aload_n 1, 1), (.iconst 3, 1), (.invokevirtual 73, 3), (.invokestatic 88, 3), (.invokestatic 94, 3), (.istore_n 3, 1), (.aload_n 0, 1), (.getfield 30, 3), (.iload_n 2, 1), (.if_icmp .ne 15, 3), (.aload_n 0, 1), (.getfield 26, 3), (.iload_n 3, 1), (.if_icmp .ne 7, 3), (.iconst 1, 1), (.goto 4, 3)]), (35, [(.iconst 0, 1)]), (36, [(.istore 4, 2), (.aload_n 0, 1), (.iload_n 2, 1), (.putfield 30, 3), (.aload_n 0, 1), (.iload_n 3, 1), (.putfield 26, 3), (.iconst 0, 1), (.istore 5, 2)]), (51, [(.iload 5, 2), (.bipush 100, 2), (.if_icmp .ge 101, 3), (.aload_n 1, 1), (.iload 5, 2), (.invokevirtual 97, 3), (.ifCond .eq 18, 3), (.aload_n 1, 1), (.getfield 101, 3), (.iload 5, 2), (.invokevirtual 105, 3), (.invokestatic 110, 3), (.goto 4, 3)]), (82, [(.iconst 0, 1)]), (83, [(.istore 6, 2), (.aload_n 1, 1), (.getfield 101, 3), (.iload 5, 2), (.invokevirtual 113, 3), (.istore 7, 2), (.iload 4, 2), (.ifCond .eq 31, 3), (.aload_n 0, 1), (.getfield 15, 3), (.iload 5, 2), (.iaload, 1), (.iload 6, 2), (.if_icmp .ne 19, 3), (.aload_n 0, 1), (.getfield 19, 3), (.iload 5, 2), (.baload, 1), (.iload 7, 2), (.if_icmp .ne 7, 3), (.iconst 1, 1), (.goto 4, 3)]), (129, [(.iconst 0, 1)]), (130, [(.istore 4, 2), (.aload_n 0, 1), (.getfield 15, 3), (.iload 5, 2), (.iload 6, 2), (.iastore, 1), (.aload_n 0, 1), (.getfield 19, 3), (.iload 5, 2), (.iload 7, 2), (.bastore, 1), (.iinc 5 1, 3), (.goto (-102), 3)]), (156, [(.iload 4, 2), (.ireturn, 1)])]
theorem oX5_isAsBefore : ∀ pc, zdec cX5_isAsBefore pc (zBf BX5_isAsBefore pc) := zBf_ok (by decide +kernel)
theorem bX5_isAsBefore_0 : zBf BX5_isAsBefore 0 = [(.iconst 1, 1), (.bipush 60, 2), (.aload_n 1, 1), (.iconst 3, 1), (.invokevirtual 73, 3), (.invokestatic 88, 3), (.invokestatic 94, 3), (.istore_n 3, 1), (.aload_n 0, 1), (.getfield 30, 3), (.iload_n 2, 1), (.if_icmp .ne 15, 3), (.aload_n 0, 1), (.getfield 26, 3), (.iload_n 3, 1), (.if_icmp .ne 7, 3), (.iconst 1, 1), (.goto 4, 3)] := rfl
theorem bX5_isAsBefore_35 : zBf BX5_isAsBefore 35 = [(.iconst 0, 1)] := rfl
theorem bX5_isAsBefore_36 : zBf BX5_isAsBefore 36 = [(.istore 4, 2), (.aload_n 0, 1), (.iload_n 2, 1), (.putfield 30, 3), (.aload_n 0, 1), (.iload_n 3, 1), (.putfield 26, 3), (.iconst 0, 1), (.istore 5, 2)] := rfl
theorem bX5_isAsBefore_51 : zBf BX5_isAsBefore 51 = [(.iload 5, 2), (.bipush 100, 2), (.if_icmp .ge 101, 3), (.aload_n 1, 1), (.iload 5, 2), (.invokevirtual 97, 3), (.ifCond .eq 18, 3), (.aload_n 1, 1), (.getfield 101, 3), (.iload 5, 2), (.invokevirtual 105, 3), (.invokestatic 110, 3), (.goto 4, 3)] := rfl
theorem bX5_isAsBefore_82 : zBf BX5_isAsBefore 82 = [(.iconst 0, 1)] := rfl
theorem bX5_isAsBefore_83 : zBf BX5_isAsBefore 83 = [(.istore 6, 2), (.aload_n 1, 1), (.getfield 101, 3), (.iload 5, 2), (.invokevirtual 113, 3), (.istore 7, 2), (.iload 4, 2), (.ifCond .eq 31, 3), (.aload_n 0, 1), (.getfield 15, 3), (.iload 5, 2), (.iaload, 1), (.iload 6, 2), (.if_icmp .ne 19, 3), (.aload_n 0, 1), (.getfield 19, 3), (.iload 5, 2), (.baload, 1), (.iload 7, 2), (.if_icmp .ne 7, 3), (.iconst 1, 1), (.goto 4, 3)] := rfl
theorem bX5_isAsBefore_129 : zBf BX5_isAsBefore 129 = [(.iconst 0, 1)] := rfl
theorem bX5_isAsBefore_130 : zBf BX5_isAsBefore 130 = [(.istore 4, 2), (.aload_n 0, 1), (.getfield 15, 3), (.iload 5, 2), (.iload 6, 2), (.iastore, 1), (.aload_n 0, 1), (.getfield 19, 3), (.iload 5, 2), (.iload 7, 2), (.bastore, 1), (.iinc 5 1, 3), (.goto (-102), 3)] := rfl
theorem bX5_isAsBefore_156 : zBf BX5_isAsBefore 156 = [(.iload 4, 2), (.ireturn, 1)] := rfl
theorem hX5_isAsBefore : zMv yX5_isAsBefore cX5_isAsBefore 8 (some .boolean) := ⟨zG_mem (n := 1356) (by decide +kernel), zG_mem (n := 126) (by decide +kernel), zG_mem (n := 1355) (by decide +kernel), zG_mem (n := 32) (by decide +kernel)⟩
def BX5_spread : List (Nat × List (Instr × Nat)) := [(0, [(.aload_n 0, 1), (.iconst 0, 1), (.putfield 33, 3), (.aload_n 0, 1), (.iconst 0, 1), (.invokevirtual 116, 3), (.pop, 1), (.iconst 1, 1), (.istore_n 1, 1)]), (13, [(.iload_n 1, 1), (.aload_n 0, 1), (.getfield 26, 3), (.if_icmp .ge 22, 3), (.aload_n 0, 1), (.iload_n 1, 1), (.invokevirtual 116, 3), (.ifCond .eq 14, 3), (.aload_n 0, 1), (.iload_n 1, 1), (.putfield 33, 3), (.iinc 1 1, 3), (.goto (-24), 3)]), (40, [(.return_, 1)])]
theorem oX5_spread : ∀ pc, zdec cX5_spread pc (zBf BX5_spread pc) := zBf_ok (by decide +kernel)
theorem bX5_spread_0 : zBf BX5_spread 0 = [(.aload_n 0, 1), (.iconst 0, 1), (.putfield 33, 3), (.aload_n 0, 1), (.iconst 0, 1), (.invokevirtual 116, 3), (.pop, 1), (.iconst 1, 1), (.istore_n 1, 1)] := rfl
theorem bX5_spread_13 : zBf BX5_spread 13 = [(.iload_n 1, 1), (.aload_n 0, 1), (.getfield 26, 3), (.if_icmp .ge 22, 3), (.aload_n 0, 1), (.iload_n 1, 1), (.invokevirtual 116, 3), (.ifCond .eq 14, 3), (.aload_n 0, 1), (.iload_n 1, 1), (.putfield 33, 3), (.iinc 1 1, 3), (.goto (-24), 3)] := rfl
theorem bX5_spread_40 : zBf BX5_spread 40 = [(.return_, 1)] := rfl
theorem hX5_spread : zMv yX5_spread cX5_spread 2 none := ⟨zG_mem (n := 1367) (by decide +kernel), zG_mem (n := 126) (by decide +kernel), zG_mem (n := 1366) (by decide +kernel), zG_mem (n := 33) (by decide +kernel)⟩
def BX5_spreadAt : List (Nat × List (Instr × Nat)) := [(0, [(.iconst 0, 1), (.istore_n 2, 1), (.iconst 0, 1), (.istore_n 3, 1)]), (4, [(.iload_n 3, 1), (.bipush 100, 2), (.if_icmp .ge 113, 3), (.ldc2_w 50, 3), (.lstore 4, 2), (.iload_n 3, 1), (.aload_n 0, 1), (.getfield 30, 3), (.if_icmp .ne 9, 3), (.lconst 0, 1), (.lstore 4, 2), (.goto 32, 3)]), (29, [(.aload_n 0, 1), (.getfield 15, 3), (.iload_n 3, 1), (.iaload, 1), (.ifCond .le 23, 3), (.aload_n 0, 1), (.getfield 23, 3), (.iload_n 3, 1), (.laload, 1), (.aload_n 0, 1), (.iload_n 3, 1), (.iload_n 1, 1), (.iconst 1, 1), (.isub, 1), (.iconst 0, 1), (.invokevirtual 119, 3), (.invokestatic 123, 3), (.lstore 4, 2)]), (58, [(.iload_n 1, 1), (.bipush 100, 2), (.imul, 1), (.iload_n 3, 1), (.iadd, 1), (.istore 6, 2), (.iload 6, 2), (.ifCond .lt 46, 3), (.iload 6, 2), (.aload_n 0, 1), (.getfield 11, 3), (.arraylength, 1), (.if_icmp .ge 36, 3), (.aload_n 0, 1), (.getfield 11, 3), (.iload 6, 2), (.lload 4, 2), (.lastore, 1), (.iload_n 2, 1), (.ifCond .ne 17, 3), (.lload 4, 2), (.aload_n 0, 1), (.iload_n 3, 1), (.iload_n 1, 1), (.iconst 1, 1), (.isub, 1), (.invokevirtual 126, 3), (.lcmp, 1), (.ifCond .eq 7, 3)]), (108, [(.iconst 1, 1), (.goto 4, 3)]), (112, [(.iconst 0, 1)]), (113, [(.istore_n 2, 1)]), (114, [(.iinc 3 1, 3), (.goto (-113), 3)]), (120, [(.iload_n 2, 1), (.ireturn, 1)])]
theorem oX5_spreadAt : ∀ pc, zdec cX5_spreadAt pc (zBf BX5_spreadAt pc) := zBf_ok (by decide +kernel)
theorem bX5_spreadAt_0 : zBf BX5_spreadAt 0 = [(.iconst 0, 1), (.istore_n 2, 1), (.iconst 0, 1), (.istore_n 3, 1)] := rfl
theorem bX5_spreadAt_4 : zBf BX5_spreadAt 4 = [(.iload_n 3, 1), (.bipush 100, 2), (.if_icmp .ge 113, 3), (.ldc2_w 50, 3), (.lstore 4, 2), (.iload_n 3, 1), (.aload_n 0, 1), (.getfield 30, 3), (.if_icmp .ne 9, 3), (.lconst 0, 1), (.lstore 4, 2), (.goto 32, 3)] := rfl
theorem bX5_spreadAt_29 : zBf BX5_spreadAt 29 = [(.aload_n 0, 1), (.getfield 15, 3), (.iload_n 3, 1), (.iaload, 1), (.ifCond .le 23, 3), (.aload_n 0, 1), (.getfield 23, 3), (.iload_n 3, 1), (.laload, 1), (.aload_n 0, 1), (.iload_n 3, 1), (.iload_n 1, 1), (.iconst 1, 1), (.isub, 1), (.iconst 0, 1), (.invokevirtual 119, 3), (.invokestatic 123, 3), (.lstore 4, 2)] := rfl
theorem bX5_spreadAt_58 : zBf BX5_spreadAt 58 = [(.iload_n 1, 1), (.bipush 100, 2), (.imul, 1), (.iload_n 3, 1), (.iadd, 1), (.istore 6, 2), (.iload 6, 2), (.ifCond .lt 46, 3), (.iload 6, 2), (.aload_n 0, 1), (.getfield 11, 3), (.arraylength, 1), (.if_icmp .ge 36, 3), (.aload_n 0, 1), (.getfield 11, 3), (.iload 6, 2), (.lload 4, 2), (.lastore, 1), (.iload_n 2, 1), (.ifCond .ne 17, 3), (.lload 4, 2), (.aload_n 0, 1), (.iload_n 3, 1), (.iload_n 1, 1), (.iconst 1, 1), (.isub, 1), (.invokevirtual 126, 3), (.lcmp, 1), (.ifCond .eq 7, 3)] := rfl
theorem bX5_spreadAt_108 : zBf BX5_spreadAt 108 = [(.iconst 1, 1), (.goto 4, 3)] := rfl
theorem bX5_spreadAt_112 : zBf BX5_spreadAt 112 = [(.iconst 0, 1)] := rfl
theorem bX5_spreadAt_113 : zBf BX5_spreadAt 113 = [(.istore_n 2, 1)] := rfl
theorem bX5_spreadAt_114 : zBf BX5_spreadAt 114 = [(.iinc 3 1, 3), (.goto (-113), 3)] := rfl
theorem bX5_spreadAt_120 : zBf BX5_spreadAt 120 = [(.iload_n 2, 1), (.ireturn, 1)] := rfl
theorem hX5_spreadAt : zMv yX5_spreadAt cX5_spreadAt 7 (some .boolean) := ⟨zG_mem (n := 1371) (by decide +kernel), zG_mem (n := 126) (by decide +kernel), zG_mem (n := 1370) (by decide +kernel), zG_mem (n := 34) (by decide +kernel)⟩
def BX5_takeAnew : List (Nat × List (Instr × Nat)) := [(0, [(.iconst 0, 1), (.istore_n 1, 1), (.iconst 0, 1), (.istore_n 2, 1)]), (4, [(.iload_n 2, 1), (.bipush 100, 2), (.if_icmp .ge 69, 3), (.aload_n 0, 1), (.getfield 19, 3), (.iload_n 2, 1), (.baload, 1), (.ifCond .eq 54, 3), (.aload_n 0, 1), (.getfield 15, 3), (.iload_n 2, 1), (.iaload, 1), (.ifCond .le 45, 3), (.aload_n 0, 1), (.iload_n 2, 1), (.aload_n 0, 1), (.getfield 26, 3), (.iconst 1, 1), (.isub, 1), (.bipush 15, 2), (.invokevirtual 119, 3), (.lstore_n 3, 1), (.iload_n 1, 1), (.ifCond .ne 14, 3), (.lload_n 3, 1), (.aload_n 0, 1), (.getfield 23, 3), (.iload_n 2, 1), (.laload, 1), (.lcmp, 1), (.ifCond .ge 7, 3)]), (57, [(.iconst 1, 1), (.goto 4, 3)]), (61, [(.iconst 0, 1)]), (62, [(.istore_n 1, 1), (.aload_n 0, 1), (.getfield 23, 3), (.iload_n 2, 1), (.lload_n 3, 1), (.lastore, 1)]), (70, [(.iinc 2 1, 3), (.goto (-69), 3)]), (76, [(.iload_n 1, 1), (.ireturn, 1)])]
theorem oX5_takeAnew : ∀ pc, zdec cX5_takeAnew pc (zBf BX5_takeAnew pc) := zBf_ok (by decide +kernel)
theorem bX5_takeAnew_0 : zBf BX5_takeAnew 0 = [(.iconst 0, 1), (.istore_n 1, 1), (.iconst 0, 1), (.istore_n 2, 1)] := rfl
theorem bX5_takeAnew_4 : zBf BX5_takeAnew 4 = [(.iload_n 2, 1), (.bipush 100, 2), (.if_icmp .ge 69, 3), (.aload_n 0, 1), (.getfield 19, 3), (.iload_n 2, 1), (.baload, 1), (.ifCond .eq 54, 3), (.aload_n 0, 1), (.getfield 15, 3), (.iload_n 2, 1), (.iaload, 1), (.ifCond .le 45, 3), (.aload_n 0, 1), (.iload_n 2, 1), (.aload_n 0, 1), (.getfield 26, 3), (.iconst 1, 1), (.isub, 1), (.bipush 15, 2), (.invokevirtual 119, 3), (.lstore_n 3, 1), (.iload_n 1, 1), (.ifCond .ne 14, 3), (.lload_n 3, 1), (.aload_n 0, 1), (.getfield 23, 3), (.iload_n 2, 1), (.laload, 1), (.lcmp, 1), (.ifCond .ge 7, 3)] := rfl
theorem bX5_takeAnew_57 : zBf BX5_takeAnew 57 = [(.iconst 1, 1), (.goto 4, 3)] := rfl
theorem bX5_takeAnew_61 : zBf BX5_takeAnew 61 = [(.iconst 0, 1)] := rfl
theorem bX5_takeAnew_62 : zBf BX5_takeAnew 62 = [(.istore_n 1, 1), (.aload_n 0, 1), (.getfield 23, 3), (.iload_n 2, 1), (.lload_n 3, 1), (.lastore, 1)] := rfl
theorem bX5_takeAnew_70 : zBf BX5_takeAnew 70 = [(.iinc 2 1, 3), (.goto (-69), 3)] := rfl
theorem bX5_takeAnew_76 : zBf BX5_takeAnew 76 = [(.iload_n 1, 1), (.ireturn, 1)] := rfl
theorem hX5_takeAnew : zMv yX5_takeAnew cX5_takeAnew 5 (some .boolean) := ⟨zG_mem (n := 1393) (by decide +kernel), zG_mem (n := 126) (by decide +kernel), zG_mem (n := 1392) (by decide +kernel), zG_mem (n := 38) (by decide +kernel)⟩
def BX5_leftWith : List (Nat × List (Instr × Nat)) := [(0, [(.iload_n 2, 1), (.aload_n 0, 1), (.getfield 33, 3), (.if_icmp .ge 7, 3), (.iload_n 2, 1), (.goto 7, 3)]), (12, [(.aload_n 0, 1), (.getfield 33, 3)]), (16, [(.bipush 100, 2), (.imul, 1), (.iload_n 1, 1), (.iadd, 1), (.istore_n 3, 1), (.iload_n 2, 1), (.ifCond .lt 31, 3), (.iload_n 1, 1), (.ifCond .lt 27, 3), (.iload_n 1, 1), (.bipush 100, 2), (.if_icmp .ge 21, 3), (.iload_n 3, 1), (.aload_n 0, 1), (.getfield 11, 3), (.arraylength, 1), (.if_icmp .ge 12, 3), (.aload_n 0, 1), (.getfield 11, 3), (.iload_n 3, 1), (.laload, 1), (.goto 6, 3)]), (54, [(.ldc2_w 50, 3)]), (57, [(.lreturn, 1)])]
theorem oX5_leftWith : ∀ pc, zdec cX5_leftWith pc (zBf BX5_leftWith pc) := zBf_ok (by decide +kernel)
theorem bX5_leftWith_0 : zBf BX5_leftWith 0 = [(.iload_n 2, 1), (.aload_n 0, 1), (.getfield 33, 3), (.if_icmp .ge 7, 3), (.iload_n 2, 1), (.goto 7, 3)] := rfl
theorem bX5_leftWith_12 : zBf BX5_leftWith 12 = [(.aload_n 0, 1), (.getfield 33, 3)] := rfl
theorem bX5_leftWith_16 : zBf BX5_leftWith 16 = [(.bipush 100, 2), (.imul, 1), (.iload_n 1, 1), (.iadd, 1), (.istore_n 3, 1), (.iload_n 2, 1), (.ifCond .lt 31, 3), (.iload_n 1, 1), (.ifCond .lt 27, 3), (.iload_n 1, 1), (.bipush 100, 2), (.if_icmp .ge 21, 3), (.iload_n 3, 1), (.aload_n 0, 1), (.getfield 11, 3), (.arraylength, 1), (.if_icmp .ge 12, 3), (.aload_n 0, 1), (.getfield 11, 3), (.iload_n 3, 1), (.laload, 1), (.goto 6, 3)] := rfl
theorem bX5_leftWith_54 : zBf BX5_leftWith 54 = [(.ldc2_w 50, 3)] := rfl
theorem bX5_leftWith_57 : zBf BX5_leftWith 57 = [(.lreturn, 1)] := rfl
theorem hX5_leftWith : zMv yX5_leftWith cX5_leftWith 4 (some .long) := ⟨zG_mem (n := 1385) (by decide +kernel), zG_mem (n := 126) (by decide +kernel), zG_mem (n := 1384) (by decide +kernel), zG_mem (n := 37) (by decide +kernel)⟩
def BX5_stepTo : List (Nat × List (Instr × Nat)) := [(0, [(.iload_n 1, 1), (.invokestatic 129, 3), (.ifCond .eq 12, 3), (.aload_n 0, 1), (.getfield 15, 3), (.iload_n 1, 1), (.iaload, 1), (.ifCond .ne 7, 3)]), (16, [(.ldc2_w 50, 3), (.lreturn, 1)]), (20, [(.aload_n 0, 1), (.iload_n 1, 1), (.iload_n 2, 1), (.invokevirtual 126, 3), (.lstore 4, 2), (.lload 4, 2), (.ldc2_w 50, 3), (.lcmp, 1), (.ifCond .ne 9, 3), (.ldc2_w 50, 3), (.goto 21, 3)]), (43, [(.lload 4, 2), (.aload_n 0, 1), (.getfield 15, 3), (.iload_n 1, 1), (.iaload, 1), (.iload_n 3, 1), (.iadd, 1), (.i2l, 1), (.ldc2_w 56, 3), (.lmul, 1), (.ladd, 1), (.lconst 1, 1), (.ladd, 1)]), (61, [(.lreturn, 1)])]
theorem oX5_stepTo : ∀ pc, zdec cX5_stepTo pc (zBf BX5_stepTo pc) := zBf_ok (by decide +kernel)
theorem bX5_stepTo_0 : zBf BX5_stepTo 0 = [(.iload_n 1, 1), (.invokestatic 129, 3), (.ifCond .eq 12, 3), (.aload_n 0, 1), (.getfield 15, 3), (.iload_n 1, 1), (.iaload, 1), (.ifCond .ne 7, 3)] := rfl
theorem bX5_stepTo_16 : zBf BX5_stepTo 16 = [(.ldc2_w 50, 3), (.lreturn, 1)] := rfl
theorem bX5_stepTo_20 : zBf BX5_stepTo 20 = [(.aload_n 0, 1), (.iload_n 1, 1), (.iload_n 2, 1), (.invokevirtual 126, 3), (.lstore 4, 2), (.lload 4, 2), (.ldc2_w 50, 3), (.lcmp, 1), (.ifCond .ne 9, 3), (.ldc2_w 50, 3), (.goto 21, 3)] := rfl
theorem bX5_stepTo_43 : zBf BX5_stepTo 43 = [(.lload 4, 2), (.aload_n 0, 1), (.getfield 15, 3), (.iload_n 1, 1), (.iaload, 1), (.iload_n 3, 1), (.iadd, 1), (.i2l, 1), (.ldc2_w 56, 3), (.lmul, 1), (.ladd, 1), (.lconst 1, 1), (.ladd, 1)] := rfl
theorem bX5_stepTo_61 : zBf BX5_stepTo 61 = [(.lreturn, 1)] := rfl
theorem hX5_stepTo : zMv yX5_stepTo cX5_stepTo 6 (some .long) := ⟨zG_mem (n := 1380) (by decide +kernel), zG_mem (n := 126) (by decide +kernel), zG_mem (n := 1379) (by decide +kernel), zG_mem (n := 36) (by decide +kernel)⟩
def BX5_bestStep : List (Nat × List (Instr × Nat)) := [(0, [(.ldc2_w 50, 3), (.lstore 4, 2), (.iconst 0, 1), (.istore 6, 2)]), (8, [(.iload 6, 2), (.iconst 4, 1), (.if_icmp .ge 32, 3), (.iload_n 2, 1), (.ifCond .lt 28, 3), (.lload 4, 2), (.aload_n 0, 1), (.iload_n 1, 1), (.iload 6, 2), (.invokestatic 132, 3), (.iload_n 2, 1), (.iload_n 3, 1), (.invokevirtual 135, 3), (.invokestatic 123, 3), (.lstore 4, 2), (.iinc 6 1, 3), (.goto (-32), 3)]), (43, [(.lload 4, 2), (.lreturn, 1)])]
theorem oX5_bestStep : ∀ pc, zdec cX5_bestStep pc (zBf BX5_bestStep pc) := zBf_ok (by decide +kernel)
theorem bX5_bestStep_0 : zBf BX5_bestStep 0 = [(.ldc2_w 50, 3), (.lstore 4, 2), (.iconst 0, 1), (.istore 6, 2)] := rfl
theorem bX5_bestStep_8 : zBf BX5_bestStep 8 = [(.iload 6, 2), (.iconst 4, 1), (.if_icmp .ge 32, 3), (.iload_n 2, 1), (.ifCond .lt 28, 3), (.lload 4, 2), (.aload_n 0, 1), (.iload_n 1, 1), (.iload 6, 2), (.invokestatic 132, 3), (.iload_n 2, 1), (.iload_n 3, 1), (.invokevirtual 135, 3), (.invokestatic 123, 3), (.lstore 4, 2), (.iinc 6 1, 3), (.goto (-32), 3)] := rfl
theorem bX5_bestStep_43 : zBf BX5_bestStep 43 = [(.lload 4, 2), (.lreturn, 1)] := rfl
theorem hX5_bestStep : zMv yX5_bestStep cX5_bestStep 7 (some .long) := ⟨zG_mem (n := 1375) (by decide +kernel), zG_mem (n := 126) (by decide +kernel), zG_mem (n := 1374) (by decide +kernel), zG_mem (n := 35) (by decide +kernel)⟩
def BX5_leftFrom : List (Nat × List (Instr × Nat)) := [(0, [(.iload_n 1, 1), (.aload_n 0, 1), (.getfield 30, 3), (.if_icmp .ne 5, 3), (.lconst 0, 1), (.lreturn, 1)]), (10, [(.aload_n 0, 1), (.iload_n 1, 1), (.iload_n 2, 1), (.iconst 1, 1), (.isub, 1), (.iconst 0, 1), (.invokevirtual 119, 3), (.lstore_n 3, 1), (.iload_n 1, 1), (.invokestatic 129, 3), (.ifCond .eq 16, 3), (.aload_n 0, 1), (.getfield 19, 3), (.iload_n 1, 1), (.baload, 1), (.ifCond .eq 7, 3), (.iconst 1, 1), (.goto 4, 3)]), (40, [(.iconst 0, 1)]), (41, [(.istore 5, 2), (.iload 5, 2), (.ifCond .eq 23, 3), (.lload_n 3, 1), (.aload_n 0, 1), (.iload_n 1, 1), (.aload_n 0, 1), (.getfield 26, 3), (.iconst 1, 1), (.isub, 1), (.bipush 15, 2), (.invokevirtual 119, 3), (.invokestatic 123, 3), (.goto 4, 3)]), (68, [(.lload_n 3, 1)]), (69, [(.lreturn, 1)])]
theorem oX5_leftFrom : ∀ pc, zdec cX5_leftFrom pc (zBf BX5_leftFrom pc) := zBf_ok (by decide +kernel)
theorem bX5_leftFrom_0 : zBf BX5_leftFrom 0 = [(.iload_n 1, 1), (.aload_n 0, 1), (.getfield 30, 3), (.if_icmp .ne 5, 3), (.lconst 0, 1), (.lreturn, 1)] := rfl
theorem bX5_leftFrom_10 : zBf BX5_leftFrom 10 = [(.aload_n 0, 1), (.iload_n 1, 1), (.iload_n 2, 1), (.iconst 1, 1), (.isub, 1), (.iconst 0, 1), (.invokevirtual 119, 3), (.lstore_n 3, 1), (.iload_n 1, 1), (.invokestatic 129, 3), (.ifCond .eq 16, 3), (.aload_n 0, 1), (.getfield 19, 3), (.iload_n 1, 1), (.baload, 1), (.ifCond .eq 7, 3), (.iconst 1, 1), (.goto 4, 3)] := rfl
theorem bX5_leftFrom_40 : zBf BX5_leftFrom 40 = [(.iconst 0, 1)] := rfl
theorem bX5_leftFrom_41 : zBf BX5_leftFrom 41 = [(.istore 5, 2), (.iload 5, 2), (.ifCond .eq 23, 3), (.lload_n 3, 1), (.aload_n 0, 1), (.iload_n 1, 1), (.aload_n 0, 1), (.getfield 26, 3), (.iconst 1, 1), (.isub, 1), (.bipush 15, 2), (.invokevirtual 119, 3), (.invokestatic 123, 3), (.goto 4, 3)] := rfl
theorem bX5_leftFrom_68 : zBf BX5_leftFrom 68 = [(.lload_n 3, 1)] := rfl
theorem bX5_leftFrom_69 : zBf BX5_leftFrom 69 = [(.lreturn, 1)] := rfl
theorem hX5_leftFrom : zMv yX5_leftFrom cX5_leftFrom 6 (some .long) := ⟨zG_mem (n := 1397) (by decide +kernel), zG_mem (n := 126) (by decide +kernel), zG_mem (n := 1396) (by decide +kernel), zG_mem (n := 39) (by decide +kernel)⟩
def BX5_step : List (Nat × List (Instr × Nat)) := [(0, [(.aload_n 0, 1), (.aload_n 0, 1), (.getfield 36, 3), (.aload_n 0, 1), (.getfield 39, 3), (.invokevirtual 46, 3), (.lstore_n 1, 1), (.aload_n 0, 1), (.getfield 39, 3), (.iconst 1, 1), (.isub, 1), (.istore_n 3, 1), (.aload_n 0, 1), (.lload_n 1, 1), (.iload_n 3, 1), (.iconst 0, 1), (.invokevirtual 138, 3), (.istore 4, 2), (.iload 4, 2), (.iconst (-1), 1), (.if_icmp .ne 20, 3), (.aload_n 0, 1), (.getfield 26, 3), (.iconst 1, 1), (.isub, 1), (.istore_n 3, 1), (.aload_n 0, 1), (.lload_n 1, 1), (.iload_n 3, 1), (.bipush 15, 2), (.invokevirtual 138, 3), (.istore 4, 2)]), (52, [(.iload 4, 2), (.iconst (-1), 1), (.if_icmp .eq 14, 3), (.aload_n 0, 1), (.iload 4, 2), (.putfield 36, 3), (.aload_n 0, 1), (.iload_n 3, 1), (.putfield 39, 3)]), (69, [(.return_, 1)])]
theorem oX5_step : ∀ pc, zdec cX5_step pc (zBf BX5_step pc) := zBf_ok (by decide +kernel)
theorem bX5_step_0 : zBf BX5_step 0 = [(.aload_n 0, 1), (.aload_n 0, 1), (.getfield 36, 3), (.aload_n 0, 1), (.getfield 39, 3), (.invokevirtual 46, 3), (.lstore_n 1, 1), (.aload_n 0, 1), (.getfield 39, 3), (.iconst 1, 1), (.isub, 1), (.istore_n 3, 1), (.aload_n 0, 1), (.lload_n 1, 1), (.iload_n 3, 1), (.iconst 0, 1), (.invokevirtual 138, 3), (.istore 4, 2), (.iload 4, 2), (.iconst (-1), 1), (.if_icmp .ne 20, 3), (.aload_n 0, 1), (.getfield 26, 3), (.iconst 1, 1), (.isub, 1), (.istore_n 3, 1), (.aload_n 0, 1), (.lload_n 1, 1), (.iload_n 3, 1), (.bipush 15, 2), (.invokevirtual 138, 3), (.istore 4, 2)] := rfl
theorem bX5_step_52 : zBf BX5_step 52 = [(.iload 4, 2), (.iconst (-1), 1), (.if_icmp .eq 14, 3), (.aload_n 0, 1), (.iload 4, 2), (.putfield 36, 3), (.aload_n 0, 1), (.iload_n 3, 1), (.putfield 39, 3)] := rfl
theorem bX5_step_69 : zBf BX5_step 69 = [(.return_, 1)] := rfl
theorem hX5_step : zMv yX5_step cX5_step 5 none := ⟨zG_mem (n := 1404) (by decide +kernel), zG_mem (n := 126) (by decide +kernel), zG_mem (n := 1403) (by decide +kernel), zG_mem (n := 40) (by decide +kernel)⟩
def BX5_stepThatKeeps : List (Nat × List (Instr × Nat)) := [(0, [(.iconst 0, 1), (.istore 5, 2)]), (3, [(.iload 5, 2), (.iconst 4, 1), (.if_icmp .ge 54, 3), (.aload_n 0, 1), (.getfield 36, 3), (.getstatic 142, 3), (.iload 5, 2), (.iaload, 1), (.invokestatic 132, 3), (.istore 6, 2), (.aload_n 0, 1), (.iload 6, 2), (.iload_n 3, 1), (.iload 4, 2), (.invokevirtual 135, 3), (.lstore 7, 2), (.lload 7, 2), (.ldc2_w 50, 3), (.lcmp, 1), (.ifCond .eq 13, 3), (.lload 7, 2), (.lload_n 1, 1), (.lcmp, 1), (.ifCond .ne 6, 3), (.iload 6, 2), (.ireturn, 1)]), (54, [(.iinc 5 1, 3), (.goto (-54), 3)]), (60, [(.iconst (-1), 1), (.ireturn, 1)])]
theorem oX5_stepThatKeeps : ∀ pc, zdec cX5_stepThatKeeps pc (zBf BX5_stepThatKeeps pc) := zBf_ok (by decide +kernel)
theorem bX5_stepThatKeeps_0 : zBf BX5_stepThatKeeps 0 = [(.iconst 0, 1), (.istore 5, 2)] := rfl
theorem bX5_stepThatKeeps_3 : zBf BX5_stepThatKeeps 3 = [(.iload 5, 2), (.iconst 4, 1), (.if_icmp .ge 54, 3), (.aload_n 0, 1), (.getfield 36, 3), (.getstatic 142, 3), (.iload 5, 2), (.iaload, 1), (.invokestatic 132, 3), (.istore 6, 2), (.aload_n 0, 1), (.iload 6, 2), (.iload_n 3, 1), (.iload 4, 2), (.invokevirtual 135, 3), (.lstore 7, 2), (.lload 7, 2), (.ldc2_w 50, 3), (.lcmp, 1), (.ifCond .eq 13, 3), (.lload 7, 2), (.lload_n 1, 1), (.lcmp, 1), (.ifCond .ne 6, 3), (.iload 6, 2), (.ireturn, 1)] := rfl
theorem bX5_stepThatKeeps_54 : zBf BX5_stepThatKeeps 54 = [(.iinc 5 1, 3), (.goto (-54), 3)] := rfl
theorem bX5_stepThatKeeps_60 : zBf BX5_stepThatKeeps 60 = [(.iconst (-1), 1), (.ireturn, 1)] := rfl
theorem hX5_stepThatKeeps : zMv yX5_stepThatKeeps cX5_stepThatKeeps 9 (some .int) := ⟨zG_mem (n := 1408) (by decide +kernel), zG_mem (n := 126) (by decide +kernel), zG_mem (n := 1407) (by decide +kernel), zG_mem (n := 41) (by decide +kernel)⟩
theorem kX5_42 : Cond.methodLink RX5 42 yX5_solve ∈ zTbl ∨ ∃ host, Cond.methodLinkNest RX5 42 yX5_solve host ∈ lw_tbl := Or.inl (zG_mem (n := 1347) (by decide +kernel))
theorem kX5_67 : Cond.methodLink RX5 67 yX8_head ∈ zTbl ∨ ∃ host, Cond.methodLinkNest RX5 67 yX8_head host ∈ lw_tbl := Or.inl (zG_mem (n := 1351) (by decide +kernel))
theorem kX5_73 : Cond.methodLink RX5 73 yX9_storeOf ∈ zTbl ∨ ∃ host, Cond.methodLinkNest RX5 73 yX9_storeOf host ∈ lw_tbl := Or.inl (zG_mem (n := 1352) (by decide +kernel))
theorem kX5_77 : Cond.methodLink RX5 77 yX5_isAsBefore ∈ zTbl ∨ ∃ host, Cond.methodLinkNest RX5 77 yX5_isAsBefore host ∈ lw_tbl := Or.inl (zG_mem (n := 1353) (by decide +kernel))
theorem kX5_88 : Cond.methodLink RX5 88 yJ9_min_7cf53 ∈ zTbl ∨ ∃ host, Cond.methodLinkNest RX5 88 yJ9_min_7cf53 host ∈ lw_tbl := Or.inl (zG_mem (n := 1357) (by decide +kernel))
theorem kX5_94 : Cond.methodLink RX5 94 yJ9_max_7cf53 ∈ zTbl ∨ ∃ host, Cond.methodLinkNest RX5 94 yJ9_max_7cf53 host ∈ lw_tbl := Or.inl (zG_mem (n := 1358) (by decide +kernel))
theorem kX5_97 : Cond.methodLink RX5 97 yX9_isFree ∈ zTbl ∨ ∃ host, Cond.methodLinkNest RX5 97 yX9_isFree host ∈ lw_tbl := Or.inl (zG_mem (n := 1359) (by decide +kernel))
theorem kX5_105 : Cond.methodLink RX5 105 yX0_kindOf ∈ zTbl ∨ ∃ host, Cond.methodLinkNest RX5 105 yX0_kindOf host ∈ lw_tbl := Or.inl (zG_mem (n := 1360) (by decide +kernel))
theorem kX5_110 : Cond.methodLink RX5 110 yX10_minutesOn ∈ zTbl ∨ ∃ host, Cond.methodLinkNest RX5 110 yX10_minutesOn host ∈ lw_tbl := Or.inr ⟨"SandRails", zT_mem (n := 1361) (by decide +kernel)⟩
theorem kX5_113 : Cond.methodLink RX5 113 yX0_isBesideWell ∈ zTbl ∨ ∃ host, Cond.methodLinkNest RX5 113 yX0_isBesideWell host ∈ lw_tbl := Or.inl (zG_mem (n := 1362) (by decide +kernel))
theorem kX5_81 : Cond.methodLink RX5 81 yX5_spread ∈ zTbl ∨ ∃ host, Cond.methodLinkNest RX5 81 yX5_spread host ∈ lw_tbl := Or.inl (zG_mem (n := 1364) (by decide +kernel))
theorem kX5_116 : Cond.methodLink RX5 116 yX5_spreadAt ∈ zTbl ∨ ∃ host, Cond.methodLinkNest RX5 116 yX5_spreadAt host ∈ lw_tbl := Or.inl (zG_mem (n := 1368) (by decide +kernel))
theorem kX5_119 : Cond.methodLink RX5 119 yX5_bestStep ∈ zTbl ∨ ∃ host, Cond.methodLinkNest RX5 119 yX5_bestStep host ∈ lw_tbl := Or.inl (zG_mem (n := 1372) (by decide +kernel))
theorem kX5_132 : Cond.methodLink RX5 132 yX10_beside ∈ zTbl ∨ ∃ host, Cond.methodLinkNest RX5 132 yX10_beside host ∈ lw_tbl := Or.inr ⟨"SandRails", zT_mem (n := 1376) (by decide +kernel)⟩
theorem kX5_135 : Cond.methodLink RX5 135 yX5_stepTo ∈ zTbl ∨ ∃ host, Cond.methodLinkNest RX5 135 yX5_stepTo host ∈ lw_tbl := Or.inl (zG_mem (n := 1377) (by decide +kernel))
theorem kX5_129 : Cond.methodLink RX5 129 yX10_isCell ∈ zTbl ∨ ∃ host, Cond.methodLinkNest RX5 129 yX10_isCell host ∈ lw_tbl := Or.inr ⟨"SandRails", zT_mem (n := 1381) (by decide +kernel)⟩
theorem kX5_126 : Cond.methodLink RX5 126 yX5_leftWith ∈ zTbl ∨ ∃ host, Cond.methodLinkNest RX5 126 yX5_leftWith host ∈ lw_tbl := Or.inl (zG_mem (n := 1382) (by decide +kernel))
theorem kX5_123 : Cond.methodLink RX5 123 yJ9_min_f86c9 ∈ zTbl ∨ ∃ host, Cond.methodLinkNest RX5 123 yJ9_min_f86c9 host ∈ lw_tbl := Or.inl (zG_mem (n := 1387) (by decide +kernel))
theorem kX5_84 : Cond.methodLink RX5 84 yX5_takeAnew ∈ zTbl ∨ ∃ host, Cond.methodLinkNest RX5 84 yX5_takeAnew host ∈ lw_tbl := Or.inl (zG_mem (n := 1390) (by decide +kernel))
theorem kX5_46 : Cond.methodLink RX5 46 yX5_leftFrom ∈ zTbl ∨ ∃ host, Cond.methodLinkNest RX5 46 yX5_leftFrom host ∈ lw_tbl := Or.inl (zG_mem (n := 1394) (by decide +kernel))
theorem kX5_52 : Cond.methodLink RX5 52 yX5_minutesOf ∈ zTbl ∨ ∃ host, Cond.methodLinkNest RX5 52 yX5_minutesOf host ∈ lw_tbl := Or.inl (zG_mem (n := 1398) (by decide +kernel))
theorem kX5_58 : Cond.methodLink RX5 58 yX5_step ∈ zTbl ∨ ∃ host, Cond.methodLinkNest RX5 58 yX5_step host ∈ lw_tbl := Or.inl (zG_mem (n := 1401) (by decide +kernel))
theorem kX5_138 : Cond.methodLink RX5 138 yX5_stepThatKeeps ∈ zTbl ∨ ∃ host, Cond.methodLinkNest RX5 138 yX5_stepThatKeeps host ∈ lw_tbl := Or.inl (zG_mem (n := 1405) (by decide +kernel))
def BX6_init : List (Nat × List (Instr × Nat)) := [(0, [(.aload_n 0, 1), (.invokespecial 3, 3), (.aload_n 0, 1), (.bipush 6, 2), (.newarray .int, 2), (.putfield 9, 3), (.aload_n 0, 1), (.bipush 6, 2), (.newarray .int, 2), (.putfield 15, 3), (.aload_n 0, 1), (.iconst 0, 1), (.putfield 18, 3), (.aload_n 0, 1), (.iconst 0, 1), (.putfield 22, 3), (.aload_n 0, 1), (.iconst 0, 1), (.putfield 25, 3), (.return_, 1)])]
theorem oX6_init : ∀ pc, zdec cX6_init pc (zBf BX6_init pc) := zBf_ok (by decide +kernel)
theorem bX6_init_0 : zBf BX6_init 0 = [(.aload_n 0, 1), (.invokespecial 3, 3), (.aload_n 0, 1), (.bipush 6, 2), (.newarray .int, 2), (.putfield 9, 3), (.aload_n 0, 1), (.bipush 6, 2), (.newarray .int, 2), (.putfield 15, 3), (.aload_n 0, 1), (.iconst 0, 1), (.putfield 18, 3), (.aload_n 0, 1), (.iconst 0, 1), (.putfield 22, 3), (.aload_n 0, 1), (.iconst 0, 1), (.putfield 25, 3), (.return_, 1)] := rfl
def BX6_perform : List (Nat × List (Instr × Nat)) := [(0, [(.aload_n 0, 1), (.iconst 0, 1), (.putfield 18, 3), (.aload_n 0, 1), (.iconst 0, 1), (.putfield 22, 3), (.aload_n 0, 1), (.iconst 0, 1), (.putfield 25, 3), (.aload_n 1, 1), (.iconst (-1), 1), (.putfield 28, 3), (.iconst 0, 1), (.istore 4, 2)]), (23, [(.iload 4, 2), (.ldc 33, 2), (.if_icmp .ge 143, 3), (.aload_n 0, 1), (.getfield 18, 3), (.iload_n 3, 1), (.if_icmp .ge 135, 3), (.aload_n 2, 1), (.aload_n 0, 1), (.getfield 22, 3), (.invokevirtual 34, 3), (.ifCond .eq 124, 3), (.aload_n 2, 1), (.aload_n 0, 1), (.getfield 22, 3), (.invokevirtual 40, 3), (.istore 5, 2), (.aload_n 2, 1), (.aload_n 0, 1), (.getfield 22, 3), (.invokevirtual 44, 3), (.istore 6, 2), (.aload_n 2, 1), (.aload_n 0, 1), (.getfield 22, 3), (.invokevirtual 47, 3), (.istore 7, 2), (.aload_n 0, 1), (.dup, 1), (.getfield 22, 3), (.iconst 1, 1), (.iadd, 1), (.putfield 22, 3), (.iload 5, 2), (.bipush 11, 2), (.if_icmp .le 17, 3), (.aload_n 0, 1), (.aload_n 1, 1), (.iload 5, 2), (.iload 6, 2), (.iload 7, 2), (.invokevirtual 50, 3), (.goto 57, 3)]), (110, [(.iload 5, 2), (.bipush 6, 2), (.if_icmp .le 16, 3), (.aload_n 0, 1), (.iload 5, 2), (.iload 6, 2), (.iload 7, 2), (.invokevirtual 54, 3), (.goto 37, 3)]), (130, [(.aload_n 1, 1), (.iload 5, 2), (.iload 6, 2), (.invokevirtual 58, 3), (.bipush (-2), 2), (.if_icmp .ne 14, 3), (.aload_n 1, 1), (.iload 7, 2), (.putfield 28, 3), (.aload_n 0, 1), (.getfield 18, 3), (.ireturn, 1)]), (154, [(.aload_n 0, 1), (.dup, 1), (.getfield 18, 3), (.iconst 1, 1), (.iadd, 1), (.putfield 18, 3)]), (164, [(.iinc 4 1, 3), (.goto (-144), 3)]), (170, [(.aload_n 0, 1), (.getfield 18, 3), (.ireturn, 1)])]
theorem oX6_perform : ∀ pc, zdec cX6_perform pc (zBf BX6_perform pc) := zBf_ok (by decide +kernel)
theorem bX6_perform_0 : zBf BX6_perform 0 = [(.aload_n 0, 1), (.iconst 0, 1), (.putfield 18, 3), (.aload_n 0, 1), (.iconst 0, 1), (.putfield 22, 3), (.aload_n 0, 1), (.iconst 0, 1), (.putfield 25, 3), (.aload_n 1, 1), (.iconst (-1), 1), (.putfield 28, 3), (.iconst 0, 1), (.istore 4, 2)] := rfl
theorem bX6_perform_23 : zBf BX6_perform 23 = [(.iload 4, 2), (.ldc 33, 2), (.if_icmp .ge 143, 3), (.aload_n 0, 1), (.getfield 18, 3), (.iload_n 3, 1), (.if_icmp .ge 135, 3), (.aload_n 2, 1), (.aload_n 0, 1), (.getfield 22, 3), (.invokevirtual 34, 3), (.ifCond .eq 124, 3), (.aload_n 2, 1), (.aload_n 0, 1), (.getfield 22, 3), (.invokevirtual 40, 3), (.istore 5, 2), (.aload_n 2, 1), (.aload_n 0, 1), (.getfield 22, 3), (.invokevirtual 44, 3), (.istore 6, 2), (.aload_n 2, 1), (.aload_n 0, 1), (.getfield 22, 3), (.invokevirtual 47, 3), (.istore 7, 2), (.aload_n 0, 1), (.dup, 1), (.getfield 22, 3), (.iconst 1, 1), (.iadd, 1), (.putfield 22, 3), (.iload 5, 2), (.bipush 11, 2), (.if_icmp .le 17, 3), (.aload_n 0, 1), (.aload_n 1, 1), (.iload 5, 2), (.iload 6, 2), (.iload 7, 2), (.invokevirtual 50, 3), (.goto 57, 3)] := rfl
theorem bX6_perform_110 : zBf BX6_perform 110 = [(.iload 5, 2), (.bipush 6, 2), (.if_icmp .le 16, 3), (.aload_n 0, 1), (.iload 5, 2), (.iload 6, 2), (.iload 7, 2), (.invokevirtual 54, 3), (.goto 37, 3)] := rfl
theorem bX6_perform_130 : zBf BX6_perform 130 = [(.aload_n 1, 1), (.iload 5, 2), (.iload 6, 2), (.invokevirtual 58, 3), (.bipush (-2), 2), (.if_icmp .ne 14, 3), (.aload_n 1, 1), (.iload 7, 2), (.putfield 28, 3), (.aload_n 0, 1), (.getfield 18, 3), (.ireturn, 1)] := rfl
theorem bX6_perform_154 : zBf BX6_perform 154 = [(.aload_n 0, 1), (.dup, 1), (.getfield 18, 3), (.iconst 1, 1), (.iadd, 1), (.putfield 18, 3)] := rfl
theorem bX6_perform_164 : zBf BX6_perform 164 = [(.iinc 4 1, 3), (.goto (-144), 3)] := rfl
theorem bX6_perform_170 : zBf BX6_perform 170 = [(.aload_n 0, 1), (.getfield 18, 3), (.ireturn, 1)] := rfl
theorem hX6_perform : zMv yX6_perform cX6_perform 8 (some .int) := ⟨zG_mem (n := 1268) (by decide +kernel), zG_mem (n := 125) (by decide +kernel), zG_mem (n := 1266) (by decide +kernel), zG_mem (n := 1267) (by decide +kernel)⟩
def BX6_turn : List (Nat × List (Instr × Nat)) := [(0, [(.iload_n 3, 1), (.ifCond .lt 9, 3), (.iload_n 3, 1), (.bipush 6, 2), (.if_icmp .lt 4, 3)]), (10, [(.return_, 1)]), (11, [(.iload_n 1, 1), (.tableswitch 116 7 10 #[32, 42, 55, 95], 32)]), (44, [(.aload_n 0, 1), (.getfield 9, 3), (.iload_n 3, 1), (.iload_n 2, 1), (.iastore, 1), (.goto 101, 3)]), (54, [(.aload_n 0, 1), (.getfield 15, 3), (.iload_n 3, 1), (.aload_n 0, 1), (.getfield 18, 3), (.iastore, 1), (.goto 88, 3)]), (67, [(.aload_n 0, 1), (.getfield 9, 3), (.iload_n 3, 1), (.dup2, 1), (.iaload, 1), (.iconst 1, 1), (.isub, 1), (.iastore, 1), (.aload_n 0, 1), (.getfield 9, 3), (.iload_n 3, 1), (.iaload, 1), (.ifCond .le 69, 3), (.aload_n 0, 1), (.getfield 18, 3), (.aload_n 0, 1), (.getfield 15, 3), (.iload_n 3, 1), (.iaload, 1), (.if_icmp .le 56, 3), (.aload_n 0, 1), (.iload_n 2, 1), (.putfield 22, 3), (.goto 48, 3)]), (107, [(.aload_n 0, 1), (.getfield 18, 3), (.aload_n 0, 1), (.getfield 15, 3), (.iload_n 3, 1), (.iaload, 1), (.if_icmp .le 35, 3), (.aload_n 0, 1), (.iload_n 2, 1), (.putfield 22, 3), (.goto 27, 3)]), (128, [(.aload_n 0, 1), (.getfield 25, 3), (.iconst 1, 1), (.iand, 1), (.ifCond .ne 8, 3), (.aload_n 0, 1), (.iload_n 2, 1), (.putfield 22, 3)]), (142, [(.aload_n 0, 1), (.dup, 1), (.getfield 25, 3), (.iconst 1, 1), (.iushr, 1), (.putfield 25, 3)]), (152, [(.return_, 1)])]
theorem oX6_turn : ∀ pc, zdec cX6_turn pc (zBf BX6_turn pc) := zBf_ok (by decide +kernel)
theorem bX6_turn_0 : zBf BX6_turn 0 = [(.iload_n 3, 1), (.ifCond .lt 9, 3), (.iload_n 3, 1), (.bipush 6, 2), (.if_icmp .lt 4, 3)] := rfl
theorem bX6_turn_10 : zBf BX6_turn 10 = [(.return_, 1)] := rfl
theorem bX6_turn_11 : zBf BX6_turn 11 = [(.iload_n 1, 1), (.tableswitch 116 7 10 #[32, 42, 55, 95], 32)] := rfl
theorem bX6_turn_44 : zBf BX6_turn 44 = [(.aload_n 0, 1), (.getfield 9, 3), (.iload_n 3, 1), (.iload_n 2, 1), (.iastore, 1), (.goto 101, 3)] := rfl
theorem bX6_turn_54 : zBf BX6_turn 54 = [(.aload_n 0, 1), (.getfield 15, 3), (.iload_n 3, 1), (.aload_n 0, 1), (.getfield 18, 3), (.iastore, 1), (.goto 88, 3)] := rfl
theorem bX6_turn_67 : zBf BX6_turn 67 = [(.aload_n 0, 1), (.getfield 9, 3), (.iload_n 3, 1), (.dup2, 1), (.iaload, 1), (.iconst 1, 1), (.isub, 1), (.iastore, 1), (.aload_n 0, 1), (.getfield 9, 3), (.iload_n 3, 1), (.iaload, 1), (.ifCond .le 69, 3), (.aload_n 0, 1), (.getfield 18, 3), (.aload_n 0, 1), (.getfield 15, 3), (.iload_n 3, 1), (.iaload, 1), (.if_icmp .le 56, 3), (.aload_n 0, 1), (.iload_n 2, 1), (.putfield 22, 3), (.goto 48, 3)] := rfl
theorem bX6_turn_107 : zBf BX6_turn 107 = [(.aload_n 0, 1), (.getfield 18, 3), (.aload_n 0, 1), (.getfield 15, 3), (.iload_n 3, 1), (.iaload, 1), (.if_icmp .le 35, 3), (.aload_n 0, 1), (.iload_n 2, 1), (.putfield 22, 3), (.goto 27, 3)] := rfl
theorem bX6_turn_128 : zBf BX6_turn 128 = [(.aload_n 0, 1), (.getfield 25, 3), (.iconst 1, 1), (.iand, 1), (.ifCond .ne 8, 3), (.aload_n 0, 1), (.iload_n 2, 1), (.putfield 22, 3)] := rfl
theorem bX6_turn_142 : zBf BX6_turn 142 = [(.aload_n 0, 1), (.dup, 1), (.getfield 25, 3), (.iconst 1, 1), (.iushr, 1), (.putfield 25, 3)] := rfl
theorem bX6_turn_152 : zBf BX6_turn 152 = [(.return_, 1)] := rfl
theorem hX6_turn : zMv yX6_turn cX6_turn 4 none := ⟨zG_mem (n := 1299) (by decide +kernel), zG_mem (n := 125) (by decide +kernel), zG_mem (n := 1298) (by decide +kernel), zG_mem (n := 30) (by decide +kernel)⟩
def BX6_judge : List (Nat × List (Instr × Nat)) := [(0, [(.iload_n 2, 1), (.tableswitch 140 12 16 #[35, 57, 79, 106, 119], 35)]), (36, [(.aload_n 0, 1), (.aload_n 1, 1), (.iload 4, 2), (.invokevirtual 62, 3), (.iload_n 3, 1), (.if_icmp .ge 7, 3), (.iconst 1, 1), (.goto 4, 3)]), (51, [(.iconst 0, 1)]), (52, [(.invokevirtual 65, 3), (.goto 103, 3)]), (58, [(.aload_n 0, 1), (.aload_n 1, 1), (.iload 4, 2), (.invokevirtual 62, 3), (.iload_n 3, 1), (.if_icmp .le 7, 3), (.iconst 1, 1), (.goto 4, 3)]), (73, [(.iconst 0, 1)]), (74, [(.invokevirtual 65, 3), (.goto 81, 3)]), (80, [(.aload_n 0, 1), (.aload_n 1, 1), (.getfield 69, 3), (.aload_n 1, 1), (.getfield 73, 3), (.invokevirtual 77, 3), (.iconst (-1), 1), (.if_icmp .eq 7, 3), (.iconst 1, 1), (.goto 4, 3)]), (100, [(.iconst 0, 1)]), (101, [(.invokevirtual 65, 3), (.goto 54, 3)]), (107, [(.aload_n 0, 1), (.dup, 1), (.getfield 25, 3), (.iconst 1, 1), (.ixor, 1), (.putfield 25, 3), (.goto 41, 3)]), (120, [(.aload_n 0, 1), (.aload_n 0, 1), (.getfield 25, 3), (.iconst 1, 1), (.iushr, 1), (.aload_n 0, 1), (.getfield 25, 3), (.bipush (-2), 2), (.ior, 1), (.iand, 1), (.putfield 25, 3), (.goto 20, 3)]), (141, [(.aload_n 0, 1), (.aload_n 0, 1), (.getfield 25, 3), (.iconst 1, 1), (.iushr, 1), (.aload_n 0, 1), (.getfield 25, 3), (.iconst 1, 1), (.iand, 1), (.ior, 1), (.putfield 25, 3)]), (158, [(.return_, 1)])]
theorem oX6_judge : ∀ pc, zdec cX6_judge pc (zBf BX6_judge pc) := zBf_ok (by decide +kernel)
theorem bX6_judge_0 : zBf BX6_judge 0 = [(.iload_n 2, 1), (.tableswitch 140 12 16 #[35, 57, 79, 106, 119], 35)] := rfl
theorem bX6_judge_36 : zBf BX6_judge 36 = [(.aload_n 0, 1), (.aload_n 1, 1), (.iload 4, 2), (.invokevirtual 62, 3), (.iload_n 3, 1), (.if_icmp .ge 7, 3), (.iconst 1, 1), (.goto 4, 3)] := rfl
theorem bX6_judge_51 : zBf BX6_judge 51 = [(.iconst 0, 1)] := rfl
theorem bX6_judge_52 : zBf BX6_judge 52 = [(.invokevirtual 65, 3), (.goto 103, 3)] := rfl
theorem bX6_judge_58 : zBf BX6_judge 58 = [(.aload_n 0, 1), (.aload_n 1, 1), (.iload 4, 2), (.invokevirtual 62, 3), (.iload_n 3, 1), (.if_icmp .le 7, 3), (.iconst 1, 1), (.goto 4, 3)] := rfl
theorem bX6_judge_73 : zBf BX6_judge 73 = [(.iconst 0, 1)] := rfl
theorem bX6_judge_74 : zBf BX6_judge 74 = [(.invokevirtual 65, 3), (.goto 81, 3)] := rfl
theorem bX6_judge_80 : zBf BX6_judge 80 = [(.aload_n 0, 1), (.aload_n 1, 1), (.getfield 69, 3), (.aload_n 1, 1), (.getfield 73, 3), (.invokevirtual 77, 3), (.iconst (-1), 1), (.if_icmp .eq 7, 3), (.iconst 1, 1), (.goto 4, 3)] := rfl
theorem bX6_judge_100 : zBf BX6_judge 100 = [(.iconst 0, 1)] := rfl
theorem bX6_judge_101 : zBf BX6_judge 101 = [(.invokevirtual 65, 3), (.goto 54, 3)] := rfl
theorem bX6_judge_107 : zBf BX6_judge 107 = [(.aload_n 0, 1), (.dup, 1), (.getfield 25, 3), (.iconst 1, 1), (.ixor, 1), (.putfield 25, 3), (.goto 41, 3)] := rfl
theorem bX6_judge_120 : zBf BX6_judge 120 = [(.aload_n 0, 1), (.aload_n 0, 1), (.getfield 25, 3), (.iconst 1, 1), (.iushr, 1), (.aload_n 0, 1), (.getfield 25, 3), (.bipush (-2), 2), (.ior, 1), (.iand, 1), (.putfield 25, 3), (.goto 20, 3)] := rfl
theorem bX6_judge_141 : zBf BX6_judge 141 = [(.aload_n 0, 1), (.aload_n 0, 1), (.getfield 25, 3), (.iconst 1, 1), (.iushr, 1), (.aload_n 0, 1), (.getfield 25, 3), (.iconst 1, 1), (.iand, 1), (.ior, 1), (.putfield 25, 3)] := rfl
theorem bX6_judge_158 : zBf BX6_judge 158 = [(.return_, 1)] := rfl
theorem hX6_judge : zMv yX6_judge cX6_judge 5 none := ⟨zG_mem (n := 1286) (by decide +kernel), zG_mem (n := 125) (by decide +kernel), zG_mem (n := 1285) (by decide +kernel), zG_mem (n := 28) (by decide +kernel)⟩
def BX6_push : List (Nat × List (Instr × Nat)) := [(0, [(.aload_n 0, 1), (.aload_n 0, 1), (.getfield 25, 3), (.iconst 1, 1), (.ishl, 1), (.iload_n 1, 1), (.ifCond .eq 7, 3), (.iconst 1, 1), (.goto 4, 3)]), (15, [(.iconst 0, 1)]), (16, [(.ior, 1), (.putfield 25, 3), (.return_, 1)])]
theorem oX6_push : ∀ pc, zdec cX6_push pc (zBf BX6_push pc) := zBf_ok (by decide +kernel)
theorem bX6_push_0 : zBf BX6_push 0 = [(.aload_n 0, 1), (.aload_n 0, 1), (.getfield 25, 3), (.iconst 1, 1), (.ishl, 1), (.iload_n 1, 1), (.ifCond .eq 7, 3), (.iconst 1, 1), (.goto 4, 3)] := rfl
theorem bX6_push_15 : zBf BX6_push 15 = [(.iconst 0, 1)] := rfl
theorem bX6_push_16 : zBf BX6_push 16 = [(.ior, 1), (.putfield 25, 3), (.return_, 1)] := rfl
theorem hX6_push : zMv yX6_push cX6_push 2 none := ⟨zG_mem (n := 1294) (by decide +kernel), zG_mem (n := 125) (by decide +kernel), zG_mem (n := 1293) (by decide +kernel), zG_mem (n := 29) (by decide +kernel)⟩
theorem kX6_34 : Cond.methodLink RX6 34 yX3_has ∈ zTbl ∨ ∃ host, Cond.methodLinkNest RX6 34 yX3_has host ∈ lw_tbl := Or.inl (zG_mem (n := 1270) (by decide +kernel))
theorem kX6_40 : Cond.methodLink RX6 40 yX3_operationAt ∈ zTbl ∨ ∃ host, Cond.methodLinkNest RX6 40 yX3_operationAt host ∈ lw_tbl := Or.inl (zG_mem (n := 1271) (by decide +kernel))
theorem kX6_44 : Cond.methodLink RX6 44 yX3_firstAt ∈ zTbl ∨ ∃ host, Cond.methodLinkNest RX6 44 yX3_firstAt host ∈ lw_tbl := Or.inl (zG_mem (n := 1275) (by decide +kernel))
theorem kX6_47 : Cond.methodLink RX6 47 yX3_secondAt ∈ zTbl ∨ ∃ host, Cond.methodLinkNest RX6 47 yX3_secondAt host ∈ lw_tbl := Or.inl (zG_mem (n := 1279) (by decide +kernel))
theorem kX6_50 : Cond.methodLink RX6 50 yX6_judge ∈ zTbl ∨ ∃ host, Cond.methodLinkNest RX6 50 yX6_judge host ∈ lw_tbl := Or.inl (zG_mem (n := 1283) (by decide +kernel))
theorem kX6_62 : Cond.methodLink RX6 62 yX9_factOf ∈ zTbl ∨ ∃ host, Cond.methodLinkNest RX6 62 yX9_factOf host ∈ lw_tbl := Or.inl (zG_mem (n := 1287) (by decide +kernel))
theorem kX6_65 : Cond.methodLink RX6 65 yX6_push ∈ zTbl ∨ ∃ host, Cond.methodLinkNest RX6 65 yX6_push host ∈ lw_tbl := Or.inl (zG_mem (n := 1291) (by decide +kernel))
theorem kX6_77 : Cond.methodLink RX6 77 yX8_firstBuried ∈ zTbl ∨ ∃ host, Cond.methodLinkNest RX6 77 yX8_firstBuried host ∈ lw_tbl := Or.inl (zG_mem (n := 1295) (by decide +kernel))
theorem kX6_54 : Cond.methodLink RX6 54 yX6_turn ∈ zTbl ∨ ∃ host, Cond.methodLinkNest RX6 54 yX6_turn host ∈ lw_tbl := Or.inl (zG_mem (n := 1296) (by decide +kernel))
theorem kX6_58 : Cond.methodLink RX6 58 yX9_tryAct ∈ zTbl ∨ ∃ host, Cond.methodLinkNest RX6 58 yX9_tryAct host ∈ lw_tbl := Or.inl (zG_mem (n := 1300) (by decide +kernel))
def BX7_init : List (Nat × List (Instr × Nat)) := [(0, [(.aload_n 0, 1), (.invokespecial 3, 3), (.aload_n 0, 1), (.sipush 400, 3), (.newarray .int, 2), (.putfield 9, 3), (.aload_n 0, 1), (.iconst 0, 1), (.putfield 15, 3), (.return_, 1)])]
theorem oX7_init : ∀ pc, zdec cX7_init pc (zBf BX7_init pc) := zBf_ok (by decide +kernel)
theorem bX7_init_0 : zBf BX7_init 0 = [(.aload_n 0, 1), (.invokespecial 3, 3), (.aload_n 0, 1), (.sipush 400, 3), (.newarray .int, 2), (.putfield 9, 3), (.aload_n 0, 1), (.iconst 0, 1), (.putfield 15, 3), (.return_, 1)] := rfl
def BX7_hasRoom : List (Nat × List (Instr × Nat)) := [(0, [(.aload_n 0, 1), (.getfield 15, 3), (.bipush 20, 2), (.iadd, 1), (.sipush 400, 3), (.if_icmp .gt 7, 3), (.iconst 1, 1), (.goto 4, 3)]), (17, [(.iconst 0, 1)]), (18, [(.ireturn, 1)])]
theorem oX7_hasRoom : ∀ pc, zdec cX7_hasRoom pc (zBf BX7_hasRoom pc) := zBf_ok (by decide +kernel)
theorem bX7_hasRoom_0 : zBf BX7_hasRoom 0 = [(.aload_n 0, 1), (.getfield 15, 3), (.bipush 20, 2), (.iadd, 1), (.sipush 400, 3), (.if_icmp .gt 7, 3), (.iconst 1, 1), (.goto 4, 3)] := rfl
theorem bX7_hasRoom_17 : zBf BX7_hasRoom 17 = [(.iconst 0, 1)] := rfl
theorem bX7_hasRoom_18 : zBf BX7_hasRoom 18 = [(.ireturn, 1)] := rfl
theorem hX7_hasRoom : zMv yX7_hasRoom cX7_hasRoom 1 (some .boolean) := ⟨zG_mem (n := 466) (by decide +kernel), zG_mem (n := 124) (by decide +kernel), zG_mem (n := 464) (by decide +kernel), zG_mem (n := 465) (by decide +kernel)⟩
def BX7_append : List (Nat × List (Instr × Nat)) := [(0, [(.bipush 24, 2), (.istore_n 2, 1)]), (3, [(.iload_n 2, 1), (.ifCond .lt 52, 3), (.aload_n 0, 1), (.getfield 15, 3), (.ifCond .lt 39, 3), (.aload_n 0, 1), (.getfield 15, 3), (.sipush 400, 3), (.if_icmp .ge 29, 3), (.aload_n 0, 1), (.getfield 9, 3), (.aload_n 0, 1), (.getfield 15, 3), (.iload_n 1, 1), (.iload_n 2, 1), (.iushr, 1), (.sipush 255, 3), (.iand, 1), (.iastore, 1), (.aload_n 0, 1), (.dup, 1), (.getfield 15, 3), (.iconst 1, 1), (.iadd, 1), (.putfield 15, 3)]), (50, [(.iinc 2 (-8), 3), (.goto (-50), 3)]), (56, [(.return_, 1)])]
theorem oX7_append : ∀ pc, zdec cX7_append pc (zBf BX7_append pc) := zBf_ok (by decide +kernel)
theorem bX7_append_0 : zBf BX7_append 0 = [(.bipush 24, 2), (.istore_n 2, 1)] := rfl
theorem bX7_append_3 : zBf BX7_append 3 = [(.iload_n 2, 1), (.ifCond .lt 52, 3), (.aload_n 0, 1), (.getfield 15, 3), (.ifCond .lt 39, 3), (.aload_n 0, 1), (.getfield 15, 3), (.sipush 400, 3), (.if_icmp .ge 29, 3), (.aload_n 0, 1), (.getfield 9, 3), (.aload_n 0, 1), (.getfield 15, 3), (.iload_n 1, 1), (.iload_n 2, 1), (.iushr, 1), (.sipush 255, 3), (.iand, 1), (.iastore, 1), (.aload_n 0, 1), (.dup, 1), (.getfield 15, 3), (.iconst 1, 1), (.iadd, 1), (.putfield 15, 3)] := rfl
theorem bX7_append_50 : zBf BX7_append 50 = [(.iinc 2 (-8), 3), (.goto (-50), 3)] := rfl
theorem bX7_append_56 : zBf BX7_append 56 = [(.return_, 1)] := rfl
theorem hX7_append : zMv yX7_append cX7_append 3 none := ⟨zG_mem (n := 470) (by decide +kernel), zG_mem (n := 124) (by decide +kernel), zG_mem (n := 468) (by decide +kernel), zG_mem (n := 469) (by decide +kernel)⟩
def BX7_cut : List (Nat × List (Instr × Nat)) := [(0, [(.iload_n 1, 1), (.ifCond .lt 11, 3), (.iload_n 1, 1), (.aload_n 0, 1), (.getfield 15, 3), (.if_icmp .le 5, 3)]), (12, [(.iconst 0, 1), (.ireturn, 1)]), (14, [(.aload_n 0, 1), (.iload_n 1, 1), (.putfield 15, 3), (.iconst 1, 1), (.ireturn, 1)])]
theorem oX7_cut : ∀ pc, zdec cX7_cut pc (zBf BX7_cut pc) := zBf_ok (by decide +kernel)
theorem bX7_cut_0 : zBf BX7_cut 0 = [(.iload_n 1, 1), (.ifCond .lt 11, 3), (.iload_n 1, 1), (.aload_n 0, 1), (.getfield 15, 3), (.if_icmp .le 5, 3)] := rfl
theorem bX7_cut_12 : zBf BX7_cut 12 = [(.iconst 0, 1), (.ireturn, 1)] := rfl
theorem bX7_cut_14 : zBf BX7_cut 14 = [(.aload_n 0, 1), (.iload_n 1, 1), (.putfield 15, 3), (.iconst 1, 1), (.ireturn, 1)] := rfl
theorem hX7_cut : zMv yX7_cut cX7_cut 2 (some .boolean) := ⟨zG_mem (n := 478) (by decide +kernel), zG_mem (n := 124) (by decide +kernel), zG_mem (n := 476) (by decide +kernel), zG_mem (n := 477) (by decide +kernel)⟩
def BX7_byteAt : List (Nat × List (Instr × Nat)) := [(0, [(.iload_n 1, 1), (.ifCond .lt 27, 3), (.iload_n 1, 1), (.aload_n 0, 1), (.getfield 15, 3), (.if_icmp .ge 19, 3), (.iload_n 1, 1), (.sipush 400, 3), (.if_icmp .ge 12, 3), (.aload_n 0, 1), (.getfield 9, 3), (.iload_n 1, 1), (.iaload, 1), (.goto 4, 3)]), (28, [(.iconst (-1), 1)]), (29, [(.ireturn, 1)])]
theorem oX7_byteAt : ∀ pc, zdec cX7_byteAt pc (zBf BX7_byteAt pc) := zBf_ok (by decide +kernel)
theorem bX7_byteAt_0 : zBf BX7_byteAt 0 = [(.iload_n 1, 1), (.ifCond .lt 27, 3), (.iload_n 1, 1), (.aload_n 0, 1), (.getfield 15, 3), (.if_icmp .ge 19, 3), (.iload_n 1, 1), (.sipush 400, 3), (.if_icmp .ge 12, 3), (.aload_n 0, 1), (.getfield 9, 3), (.iload_n 1, 1), (.iaload, 1), (.goto 4, 3)] := rfl
theorem bX7_byteAt_28 : zBf BX7_byteAt 28 = [(.iconst (-1), 1)] := rfl
theorem bX7_byteAt_29 : zBf BX7_byteAt 29 = [(.ireturn, 1)] := rfl
theorem hX7_byteAt : zMv yX7_byteAt cX7_byteAt 2 (some .int) := ⟨zG_mem (n := 641) (by decide +kernel), zG_mem (n := 124) (by decide +kernel), zG_mem (n := 639) (by decide +kernel), zG_mem (n := 640) (by decide +kernel)⟩
def BX8_init : List (Nat × List (Instr × Nat)) := [(0, [(.aload_n 0, 1), (.invokespecial 3, 3), (.aload_n 0, 1), (.bipush 16, 2), (.newarray .int, 2), (.putfield 9, 3), (.aload_n 0, 1), (.bipush 16, 2), (.newarray .int, 2), (.putfield 15, 3), (.aload_n 0, 1), (.bipush 16, 2), (.newarray .int, 2), (.putfield 18, 3), (.aload_n 0, 1), (.bipush 16, 2), (.newarray .int, 2), (.putfield 21, 3), (.aload_n 0, 1), (.iconst 0, 1), (.putfield 24, 3), (.aload_n 0, 1), (.bipush 16, 2), (.newarray .int, 2), (.putfield 28, 3), (.aload_n 0, 1), (.bipush 16, 2), (.newarray .int, 2), (.putfield 31, 3), (.aload_n 0, 1), (.iconst 0, 1), (.putfield 34, 3), (.aload_n 0, 1), (.iconst (-1), 1), (.putfield 37, 3), (.return_, 1)])]
theorem oX8_init : ∀ pc, zdec cX8_init pc (zBf BX8_init pc) := zBf_ok (by decide +kernel)
theorem bX8_init_0 : zBf BX8_init 0 = [(.aload_n 0, 1), (.invokespecial 3, 3), (.aload_n 0, 1), (.bipush 16, 2), (.newarray .int, 2), (.putfield 9, 3), (.aload_n 0, 1), (.bipush 16, 2), (.newarray .int, 2), (.putfield 15, 3), (.aload_n 0, 1), (.bipush 16, 2), (.newarray .int, 2), (.putfield 18, 3), (.aload_n 0, 1), (.bipush 16, 2), (.newarray .int, 2), (.putfield 21, 3), (.aload_n 0, 1), (.iconst 0, 1), (.putfield 24, 3), (.aload_n 0, 1), (.bipush 16, 2), (.newarray .int, 2), (.putfield 28, 3), (.aload_n 0, 1), (.bipush 16, 2), (.newarray .int, 2), (.putfield 31, 3), (.aload_n 0, 1), (.iconst 0, 1), (.putfield 34, 3), (.aload_n 0, 1), (.iconst (-1), 1), (.putfield 37, 3), (.return_, 1)] := rfl
def BX8_isRail : List (Nat × List (Instr × Nat)) := [(0, [(.iload_n 1, 1), (.ifCond .lt 21, 3), (.iload_n 1, 1), (.aload_n 0, 1), (.getfield 24, 3), (.if_icmp .ge 13, 3), (.iload_n 1, 1), (.bipush 16, 2), (.if_icmp .ge 7, 3), (.iconst 1, 1), (.goto 4, 3)]), (22, [(.iconst 0, 1)]), (23, [(.ireturn, 1)])]
theorem oX8_isRail : ∀ pc, zdec cX8_isRail pc (zBf BX8_isRail pc) := zBf_ok (by decide +kernel)
theorem bX8_isRail_0 : zBf BX8_isRail 0 = [(.iload_n 1, 1), (.ifCond .lt 21, 3), (.iload_n 1, 1), (.aload_n 0, 1), (.getfield 24, 3), (.if_icmp .ge 13, 3), (.iload_n 1, 1), (.bipush 16, 2), (.if_icmp .ge 7, 3), (.iconst 1, 1), (.goto 4, 3)] := rfl
theorem bX8_isRail_22 : zBf BX8_isRail 22 = [(.iconst 0, 1)] := rfl
theorem bX8_isRail_23 : zBf BX8_isRail 23 = [(.ireturn, 1)] := rfl
theorem hX8_isRail : zMv yX8_isRail cX8_isRail 2 (some .boolean) := ⟨zG_mem (n := 523) (by decide +kernel), zG_mem (n := 119) (by decide +kernel), zG_mem (n := 521) (by decide +kernel), zG_mem (n := 522) (by decide +kernel)⟩
def BX8_isSetOut : List (Nat × List (Instr × Nat)) := [(0, [(.aload_n 0, 1), (.getfield 34, 3), (.ifCond .le 7, 3), (.iconst 1, 1), (.goto 4, 3)]), (11, [(.iconst 0, 1)]), (12, [(.ireturn, 1)])]
theorem oX8_isSetOut : ∀ pc, zdec cX8_isSetOut pc (zBf BX8_isSetOut pc) := zBf_ok (by decide +kernel)
theorem bX8_isSetOut_0 : zBf BX8_isSetOut 0 = [(.aload_n 0, 1), (.getfield 34, 3), (.ifCond .le 7, 3), (.iconst 1, 1), (.goto 4, 3)] := rfl
theorem bX8_isSetOut_11 : zBf BX8_isSetOut 11 = [(.iconst 0, 1)] := rfl
theorem bX8_isSetOut_12 : zBf BX8_isSetOut 12 = [(.ireturn, 1)] := rfl
theorem hX8_isSetOut : zMv yX8_isSetOut cX8_isSetOut 1 (some .boolean) := ⟨zG_mem (n := 1037) (by decide +kernel), zG_mem (n := 119) (by decide +kernel), zG_mem (n := 1035) (by decide +kernel), zG_mem (n := 1036) (by decide +kernel)⟩
def BX8_wearOf : List (Nat × List (Instr × Nat)) := [(0, [(.aload_n 0, 1), (.iload_n 1, 1), (.invokevirtual 40, 3), (.ifCond .eq 12, 3), (.aload_n 0, 1), (.getfield 9, 3), (.iload_n 1, 1), (.iaload, 1), (.goto 4, 3)]), (17, [(.iconst 0, 1)]), (18, [(.ireturn, 1)])]
theorem oX8_wearOf : ∀ pc, zdec cX8_wearOf pc (zBf BX8_wearOf pc) := zBf_ok (by decide +kernel)
theorem bX8_wearOf_0 : zBf BX8_wearOf 0 = [(.aload_n 0, 1), (.iload_n 1, 1), (.invokevirtual 40, 3), (.ifCond .eq 12, 3), (.aload_n 0, 1), (.getfield 9, 3), (.iload_n 1, 1), (.iaload, 1), (.goto 4, 3)] := rfl
theorem bX8_wearOf_17 : zBf BX8_wearOf 17 = [(.iconst 0, 1)] := rfl
theorem bX8_wearOf_18 : zBf BX8_wearOf 18 = [(.ireturn, 1)] := rfl
theorem hX8_wearOf : zMv yX8_wearOf cX8_wearOf 2 (some .int) := ⟨zG_mem (n := 549) (by decide +kernel), zG_mem (n := 119) (by decide +kernel), zG_mem (n := 547) (by decide +kernel), zG_mem (n := 548) (by decide +kernel)⟩
def BX8_widthOf : List (Nat × List (Instr × Nat)) := [(0, [(.aload_n 0, 1), (.iload_n 1, 1), (.invokevirtual 40, 3), (.ifCond .eq 12, 3), (.aload_n 0, 1), (.getfield 15, 3), (.iload_n 1, 1), (.iaload, 1), (.goto 4, 3)]), (17, [(.iconst 0, 1)]), (18, [(.ireturn, 1)])]
theorem oX8_widthOf : ∀ pc, zdec cX8_widthOf pc (zBf BX8_widthOf pc) := zBf_ok (by decide +kernel)
theorem bX8_widthOf_0 : zBf BX8_widthOf 0 = [(.aload_n 0, 1), (.iload_n 1, 1), (.invokevirtual 40, 3), (.ifCond .eq 12, 3), (.aload_n 0, 1), (.getfield 15, 3), (.iload_n 1, 1), (.iaload, 1), (.goto 4, 3)] := rfl
theorem bX8_widthOf_17 : zBf BX8_widthOf 17 = [(.iconst 0, 1)] := rfl
theorem bX8_widthOf_18 : zBf BX8_widthOf 18 = [(.ireturn, 1)] := rfl
theorem hX8_widthOf : zMv yX8_widthOf cX8_widthOf 2 (some .int) := ⟨zG_mem (n := 519) (by decide +kernel), zG_mem (n := 119) (by decide +kernel), zG_mem (n := 517) (by decide +kernel), zG_mem (n := 518) (by decide +kernel)⟩
def BX8_stateOf : List (Nat × List (Instr × Nat)) := [(0, [(.aload_n 0, 1), (.iload_n 1, 1), (.invokevirtual 40, 3), (.ifCond .eq 12, 3), (.aload_n 0, 1), (.getfield 18, 3), (.iload_n 1, 1), (.iaload, 1), (.goto 4, 3)]), (17, [(.iconst (-1), 1)]), (18, [(.ireturn, 1)])]
theorem oX8_stateOf : ∀ pc, zdec cX8_stateOf pc (zBf BX8_stateOf pc) := zBf_ok (by decide +kernel)
theorem bX8_stateOf_0 : zBf BX8_stateOf 0 = [(.aload_n 0, 1), (.iload_n 1, 1), (.invokevirtual 40, 3), (.ifCond .eq 12, 3), (.aload_n 0, 1), (.getfield 18, 3), (.iload_n 1, 1), (.iaload, 1), (.goto 4, 3)] := rfl
theorem bX8_stateOf_17 : zBf BX8_stateOf 17 = [(.iconst (-1), 1)] := rfl
theorem bX8_stateOf_18 : zBf BX8_stateOf 18 = [(.ireturn, 1)] := rfl
theorem hX8_stateOf : zMv yX8_stateOf cX8_stateOf 2 (some .int) := ⟨zG_mem (n := 545) (by decide +kernel), zG_mem (n := 119) (by decide +kernel), zG_mem (n := 543) (by decide +kernel), zG_mem (n := 544) (by decide +kernel)⟩
def BX8_cellOf : List (Nat × List (Instr × Nat)) := [(0, [(.aload_n 0, 1), (.iload_n 1, 1), (.invokevirtual 40, 3), (.ifCond .eq 21, 3), (.aload_n 0, 1), (.getfield 18, 3), (.iload_n 1, 1), (.iaload, 1), (.ifCond .ne 12, 3), (.aload_n 0, 1), (.getfield 21, 3), (.iload_n 1, 1), (.iaload, 1), (.goto 4, 3)]), (26, [(.iconst (-1), 1)]), (27, [(.ireturn, 1)])]
theorem oX8_cellOf : ∀ pc, zdec cX8_cellOf pc (zBf BX8_cellOf pc) := zBf_ok (by decide +kernel)
theorem bX8_cellOf_0 : zBf BX8_cellOf 0 = [(.aload_n 0, 1), (.iload_n 1, 1), (.invokevirtual 40, 3), (.ifCond .eq 21, 3), (.aload_n 0, 1), (.getfield 18, 3), (.iload_n 1, 1), (.iaload, 1), (.ifCond .ne 12, 3), (.aload_n 0, 1), (.getfield 21, 3), (.iload_n 1, 1), (.iaload, 1), (.goto 4, 3)] := rfl
theorem bX8_cellOf_26 : zBf BX8_cellOf 26 = [(.iconst (-1), 1)] := rfl
theorem bX8_cellOf_27 : zBf BX8_cellOf 27 = [(.ireturn, 1)] := rfl
theorem hX8_cellOf : zMv yX8_cellOf cX8_cellOf 2 (some .int) := ⟨zG_mem (n := 1326) (by decide +kernel), zG_mem (n := 119) (by decide +kernel), zG_mem (n := 1324) (by decide +kernel), zG_mem (n := 1325) (by decide +kernel)⟩
def BX8_railAt : List (Nat × List (Instr × Nat)) := [(0, [(.iload_n 1, 1), (.ifCond .lt 26, 3), (.iload_n 1, 1), (.aload_n 0, 1), (.getfield 34, 3), (.if_icmp .ge 18, 3), (.iload_n 1, 1), (.bipush 16, 2), (.if_icmp .ge 12, 3), (.aload_n 0, 1), (.getfield 28, 3), (.iload_n 1, 1), (.iaload, 1), (.goto 4, 3)]), (27, [(.iconst (-1), 1)]), (28, [(.ireturn, 1)])]
theorem oX8_railAt : ∀ pc, zdec cX8_railAt pc (zBf BX8_railAt pc) := zBf_ok (by decide +kernel)
theorem bX8_railAt_0 : zBf BX8_railAt 0 = [(.iload_n 1, 1), (.ifCond .lt 26, 3), (.iload_n 1, 1), (.aload_n 0, 1), (.getfield 34, 3), (.if_icmp .ge 18, 3), (.iload_n 1, 1), (.bipush 16, 2), (.if_icmp .ge 12, 3), (.aload_n 0, 1), (.getfield 28, 3), (.iload_n 1, 1), (.iaload, 1), (.goto 4, 3)] := rfl
theorem bX8_railAt_27 : zBf BX8_railAt 27 = [(.iconst (-1), 1)] := rfl
theorem bX8_railAt_28 : zBf BX8_railAt 28 = [(.ireturn, 1)] := rfl
theorem hX8_railAt : zMv yX8_railAt cX8_railAt 2 (some .int) := ⟨zG_mem (n := 494) (by decide +kernel), zG_mem (n := 119) (by decide +kernel), zG_mem (n := 492) (by decide +kernel), zG_mem (n := 493) (by decide +kernel)⟩
def BX8_cellAt : List (Nat × List (Instr × Nat)) := [(0, [(.iload_n 1, 1), (.ifCond .lt 26, 3), (.iload_n 1, 1), (.aload_n 0, 1), (.getfield 34, 3), (.if_icmp .ge 18, 3), (.iload_n 1, 1), (.bipush 16, 2), (.if_icmp .ge 12, 3), (.aload_n 0, 1), (.getfield 31, 3), (.iload_n 1, 1), (.iaload, 1), (.goto 4, 3)]), (27, [(.iconst (-1), 1)]), (28, [(.ireturn, 1)])]
theorem oX8_cellAt : ∀ pc, zdec cX8_cellAt pc (zBf BX8_cellAt pc) := zBf_ok (by decide +kernel)
theorem bX8_cellAt_0 : zBf BX8_cellAt 0 = [(.iload_n 1, 1), (.ifCond .lt 26, 3), (.iload_n 1, 1), (.aload_n 0, 1), (.getfield 34, 3), (.if_icmp .ge 18, 3), (.iload_n 1, 1), (.bipush 16, 2), (.if_icmp .ge 12, 3), (.aload_n 0, 1), (.getfield 31, 3), (.iload_n 1, 1), (.iaload, 1), (.goto 4, 3)] := rfl
theorem bX8_cellAt_27 : zBf BX8_cellAt 27 = [(.iconst (-1), 1)] := rfl
theorem bX8_cellAt_28 : zBf BX8_cellAt 28 = [(.ireturn, 1)] := rfl
theorem hX8_cellAt : zMv yX8_cellAt cX8_cellAt 2 (some .int) := ⟨zG_mem (n := 498) (by decide +kernel), zG_mem (n := 119) (by decide +kernel), zG_mem (n := 496) (by decide +kernel), zG_mem (n := 497) (by decide +kernel)⟩
def BX8_head : List (Nat × List (Instr × Nat)) := [(0, [(.aload_n 0, 1), (.aload_n 0, 1), (.getfield 34, 3), (.iconst 1, 1), (.isub, 1), (.invokevirtual 44, 3), (.ireturn, 1)])]
theorem oX8_head : ∀ pc, zdec cX8_head pc (zBf BX8_head pc) := zBf_ok (by decide +kernel)
theorem bX8_head_0 : zBf BX8_head 0 = [(.aload_n 0, 1), (.aload_n 0, 1), (.getfield 34, 3), (.iconst 1, 1), (.isub, 1), (.invokevirtual 44, 3), (.ireturn, 1)] := rfl
theorem hX8_head : zMv yX8_head cX8_head 1 (some .int) := ⟨zG_mem (n := 1110) (by decide +kernel), zG_mem (n := 119) (by decide +kernel), zG_mem (n := 1108) (by decide +kernel), zG_mem (n := 1109) (by decide +kernel)⟩
def BX8_addRail : List (Nat × List (Instr × Nat)) := [(0, [(.aload_n 0, 1), (.getfield 24, 3), (.istore_n 3, 1), (.iload_n 3, 1), (.ifCond .lt 37, 3), (.iload_n 3, 1), (.bipush 16, 2), (.if_icmp .ge 31, 3), (.aload_n 0, 1), (.getfield 9, 3), (.iload_n 3, 1), (.iload_n 1, 1), (.iastore, 1), (.aload_n 0, 1), (.getfield 15, 3), (.iload_n 3, 1), (.iload_n 2, 1), (.iastore, 1), (.aload_n 0, 1), (.getfield 18, 3), (.iload_n 3, 1), (.iconst 1, 1), (.iastore, 1), (.aload_n 0, 1), (.iload_n 3, 1), (.iconst 1, 1), (.iadd, 1), (.putfield 24, 3)]), (43, [(.iload_n 3, 1), (.ireturn, 1)])]
theorem oX8_addRail : ∀ pc, zdec cX8_addRail pc (zBf BX8_addRail pc) := zBf_ok (by decide +kernel)
theorem bX8_addRail_0 : zBf BX8_addRail 0 = [(.aload_n 0, 1), (.getfield 24, 3), (.istore_n 3, 1), (.iload_n 3, 1), (.ifCond .lt 37, 3), (.iload_n 3, 1), (.bipush 16, 2), (.if_icmp .ge 31, 3), (.aload_n 0, 1), (.getfield 9, 3), (.iload_n 3, 1), (.iload_n 1, 1), (.iastore, 1), (.aload_n 0, 1), (.getfield 15, 3), (.iload_n 3, 1), (.iload_n 2, 1), (.iastore, 1), (.aload_n 0, 1), (.getfield 18, 3), (.iload_n 3, 1), (.iconst 1, 1), (.iastore, 1), (.aload_n 0, 1), (.iload_n 3, 1), (.iconst 1, 1), (.iadd, 1), (.putfield 24, 3)] := rfl
theorem bX8_addRail_43 : zBf BX8_addRail 43 = [(.iload_n 3, 1), (.ireturn, 1)] := rfl
theorem hX8_addRail : zMv yX8_addRail cX8_addRail 4 (some .int) := ⟨zG_mem (n := 968) (by decide +kernel), zG_mem (n := 119) (by decide +kernel), zG_mem (n := 966) (by decide +kernel), zG_mem (n := 967) (by decide +kernel)⟩
def BX8_changeState : List (Nat × List (Instr × Nat)) := [(0, [(.aload_n 0, 1), (.iload_n 1, 1), (.invokevirtual 40, 3), (.ifCond .eq 10, 3), (.aload_n 0, 1), (.getfield 18, 3), (.iload_n 1, 1), (.iload_n 2, 1), (.iastore, 1)]), (15, [(.return_, 1)])]
theorem oX8_changeState : ∀ pc, zdec cX8_changeState pc (zBf BX8_changeState pc) := zBf_ok (by decide +kernel)
theorem bX8_changeState_0 : zBf BX8_changeState 0 = [(.aload_n 0, 1), (.iload_n 1, 1), (.invokevirtual 40, 3), (.ifCond .eq 10, 3), (.aload_n 0, 1), (.getfield 18, 3), (.iload_n 1, 1), (.iload_n 2, 1), (.iastore, 1)] := rfl
theorem bX8_changeState_15 : zBf BX8_changeState 15 = [(.return_, 1)] := rfl
theorem hX8_changeState : zMv yX8_changeState cX8_changeState 3 none := ⟨zG_mem (n := 1144) (by decide +kernel), zG_mem (n := 119) (by decide +kernel), zG_mem (n := 1142) (by decide +kernel), zG_mem (n := 1143) (by decide +kernel)⟩
def BX8_age : List (Nat × List (Instr × Nat)) := [(0, [(.aload_n 0, 1), (.iload_n 1, 1), (.invokevirtual 40, 3), (.ifCond .eq 27, 3), (.aload_n 0, 1), (.getfield 9, 3), (.iload_n 1, 1), (.iload_n 2, 1), (.iastore, 1), (.aload_n 0, 1), (.getfield 15, 3), (.iload_n 1, 1), (.bipush (-9), 2), (.bipush 9, 2), (.iload_n 3, 1), (.invokestatic 48, 3), (.invokestatic 54, 3), (.iastore, 1)]), (32, [(.return_, 1)])]
theorem oX8_age : ∀ pc, zdec cX8_age pc (zBf BX8_age pc) := zBf_ok (by decide +kernel)
theorem bX8_age_0 : zBf BX8_age 0 = [(.aload_n 0, 1), (.iload_n 1, 1), (.invokevirtual 40, 3), (.ifCond .eq 27, 3), (.aload_n 0, 1), (.getfield 9, 3), (.iload_n 1, 1), (.iload_n 2, 1), (.iastore, 1), (.aload_n 0, 1), (.getfield 15, 3), (.iload_n 1, 1), (.bipush (-9), 2), (.bipush 9, 2), (.iload_n 3, 1), (.invokestatic 48, 3), (.invokestatic 54, 3), (.iastore, 1)] := rfl
theorem bX8_age_32 : zBf BX8_age 32 = [(.return_, 1)] := rfl
theorem hX8_age : zMv yX8_age cX8_age 4 none := ⟨zG_mem (n := 1194) (by decide +kernel), zG_mem (n := 119) (by decide +kernel), zG_mem (n := 1192) (by decide +kernel), zG_mem (n := 1193) (by decide +kernel)⟩
def BX8_leastCarried : List (Nat × List (Instr × Nat)) := [(0, [(.iconst 0, 1), (.istore_n 1, 1)]), (2, [(.iload_n 1, 1), (.bipush 16, 2), (.if_icmp .ge 20, 3), (.aload_n 0, 1), (.iload_n 1, 1), (.invokevirtual 57, 3), (.iconst 1, 1), (.if_icmp .ne 5, 3), (.iload_n 1, 1), (.ireturn, 1)]), (19, [(.iinc 1 1, 3), (.goto (-20), 3)]), (25, [(.iconst (-1), 1), (.ireturn, 1)])]
theorem oX8_leastCarried : ∀ pc, zdec cX8_leastCarried pc (zBf BX8_leastCarried pc) := zBf_ok (by decide +kernel)
theorem bX8_leastCarried_0 : zBf BX8_leastCarried 0 = [(.iconst 0, 1), (.istore_n 1, 1)] := rfl
theorem bX8_leastCarried_2 : zBf BX8_leastCarried 2 = [(.iload_n 1, 1), (.bipush 16, 2), (.if_icmp .ge 20, 3), (.aload_n 0, 1), (.iload_n 1, 1), (.invokevirtual 57, 3), (.iconst 1, 1), (.if_icmp .ne 5, 3), (.iload_n 1, 1), (.ireturn, 1)] := rfl
theorem bX8_leastCarried_19 : zBf BX8_leastCarried 19 = [(.iinc 1 1, 3), (.goto (-20), 3)] := rfl
theorem bX8_leastCarried_25 : zBf BX8_leastCarried 25 = [(.iconst (-1), 1), (.ireturn, 1)] := rfl
theorem hX8_leastCarried : zMv yX8_leastCarried cX8_leastCarried 2 (some .int) := ⟨zG_mem (n := 1087) (by decide +kernel), zG_mem (n := 119) (by decide +kernel), zG_mem (n := 1085) (by decide +kernel), zG_mem (n := 1086) (by decide +kernel)⟩
def BX8_inState : List (Nat × List (Instr × Nat)) := [(0, [(.iconst 0, 1), (.istore_n 2, 1), (.iconst 0, 1), (.istore_n 3, 1)]), (4, [(.iload_n 3, 1), (.bipush 16, 2), (.if_icmp .ge 21, 3), (.aload_n 0, 1), (.iload_n 3, 1), (.invokevirtual 57, 3), (.iload_n 1, 1), (.if_icmp .ne 6, 3), (.iinc 2 1, 3)]), (22, [(.iinc 3 1, 3), (.goto (-21), 3)]), (28, [(.iload_n 2, 1), (.ireturn, 1)])]
theorem oX8_inState : ∀ pc, zdec cX8_inState pc (zBf BX8_inState pc) := zBf_ok (by decide +kernel)
theorem bX8_inState_0 : zBf BX8_inState 0 = [(.iconst 0, 1), (.istore_n 2, 1), (.iconst 0, 1), (.istore_n 3, 1)] := rfl
theorem bX8_inState_4 : zBf BX8_inState 4 = [(.iload_n 3, 1), (.bipush 16, 2), (.if_icmp .ge 21, 3), (.aload_n 0, 1), (.iload_n 3, 1), (.invokevirtual 57, 3), (.iload_n 1, 1), (.if_icmp .ne 6, 3), (.iinc 2 1, 3)] := rfl
theorem bX8_inState_22 : zBf BX8_inState 22 = [(.iinc 3 1, 3), (.goto (-21), 3)] := rfl
theorem bX8_inState_28 : zBf BX8_inState 28 = [(.iload_n 2, 1), (.ireturn, 1)] := rfl
theorem hX8_inState : zMv yX8_inState cX8_inState 4 (some .int) := ⟨zG_mem (n := 557) (by decide +kernel), zG_mem (n := 119) (by decide +kernel), zG_mem (n := 555) (by decide +kernel), zG_mem (n := 556) (by decide +kernel)⟩
def BX8_covers : List (Nat × List (Instr × Nat)) := [(0, [(.iconst 0, 1), (.istore_n 2, 1)]), (2, [(.iload_n 2, 1), (.aload_n 0, 1), (.getfield 34, 3), (.if_icmp .ge 20, 3), (.aload_n 0, 1), (.iload_n 2, 1), (.invokevirtual 44, 3), (.iload_n 1, 1), (.if_icmp .ne 5, 3), (.iconst 1, 1), (.ireturn, 1)]), (21, [(.iinc 2 1, 3), (.goto (-22), 3)]), (27, [(.iconst 0, 1), (.ireturn, 1)])]
theorem oX8_covers : ∀ pc, zdec cX8_covers pc (zBf BX8_covers pc) := zBf_ok (by decide +kernel)
theorem bX8_covers_0 : zBf BX8_covers 0 = [(.iconst 0, 1), (.istore_n 2, 1)] := rfl
theorem bX8_covers_2 : zBf BX8_covers 2 = [(.iload_n 2, 1), (.aload_n 0, 1), (.getfield 34, 3), (.if_icmp .ge 20, 3), (.aload_n 0, 1), (.iload_n 2, 1), (.invokevirtual 44, 3), (.iload_n 1, 1), (.if_icmp .ne 5, 3), (.iconst 1, 1), (.ireturn, 1)] := rfl
theorem bX8_covers_21 : zBf BX8_covers 21 = [(.iinc 2 1, 3), (.goto (-22), 3)] := rfl
theorem bX8_covers_27 : zBf BX8_covers 27 = [(.iconst 0, 1), (.ireturn, 1)] := rfl
theorem hX8_covers : zMv yX8_covers cX8_covers 3 (some .boolean) := ⟨zG_mem (n := 943) (by decide +kernel), zG_mem (n := 119) (by decide +kernel), zG_mem (n := 941) (by decide +kernel), zG_mem (n := 942) (by decide +kernel)⟩
def BX8_append : List (Nat × List (Instr × Nat)) := [(0, [(.aload_n 0, 1), (.iload_n 1, 1), (.invokevirtual 40, 3), (.ifCond .eq 63, 3), (.aload_n 0, 1), (.getfield 34, 3), (.ifCond .lt 56, 3), (.aload_n 0, 1), (.getfield 34, 3), (.bipush 16, 2), (.if_icmp .ge 47, 3), (.aload_n 0, 1), (.getfield 18, 3), (.iload_n 1, 1), (.iconst 0, 1), (.iastore, 1), (.aload_n 0, 1), (.getfield 21, 3), (.iload_n 1, 1), (.iload_n 2, 1), (.iastore, 1), (.aload_n 0, 1), (.getfield 28, 3), (.aload_n 0, 1), (.getfield 34, 3), (.iload_n 1, 1), (.iastore, 1), (.aload_n 0, 1), (.getfield 31, 3), (.aload_n 0, 1), (.getfield 34, 3), (.iload_n 2, 1), (.iastore, 1), (.aload_n 0, 1), (.dup, 1), (.getfield 34, 3), (.iconst 1, 1), (.iadd, 1), (.putfield 34, 3)]), (68, [(.return_, 1)])]
theorem oX8_append : ∀ pc, zdec cX8_append pc (zBf BX8_append pc) := zBf_ok (by decide +kernel)
theorem bX8_append_0 : zBf BX8_append 0 = [(.aload_n 0, 1), (.iload_n 1, 1), (.invokevirtual 40, 3), (.ifCond .eq 63, 3), (.aload_n 0, 1), (.getfield 34, 3), (.ifCond .lt 56, 3), (.aload_n 0, 1), (.getfield 34, 3), (.bipush 16, 2), (.if_icmp .ge 47, 3), (.aload_n 0, 1), (.getfield 18, 3), (.iload_n 1, 1), (.iconst 0, 1), (.iastore, 1), (.aload_n 0, 1), (.getfield 21, 3), (.iload_n 1, 1), (.iload_n 2, 1), (.iastore, 1), (.aload_n 0, 1), (.getfield 28, 3), (.aload_n 0, 1), (.getfield 34, 3), (.iload_n 1, 1), (.iastore, 1), (.aload_n 0, 1), (.getfield 31, 3), (.aload_n 0, 1), (.getfield 34, 3), (.iload_n 2, 1), (.iastore, 1), (.aload_n 0, 1), (.dup, 1), (.getfield 34, 3), (.iconst 1, 1), (.iadd, 1), (.putfield 34, 3)] := rfl
theorem bX8_append_68 : zBf BX8_append 68 = [(.return_, 1)] := rfl
theorem hX8_append : zMv yX8_append cX8_append 3 none := ⟨zG_mem (n := 1095) (by decide +kernel), zG_mem (n := 119) (by decide +kernel), zG_mem (n := 1093) (by decide +kernel), zG_mem (n := 1094) (by decide +kernel)⟩
def BX8_removeTail : List (Nat × List (Instr × Nat)) := [(0, [(.aload_n 0, 1), (.aload_n 0, 1), (.iconst 0, 1), (.invokevirtual 60, 3), (.iconst 1, 1), (.invokevirtual 63, 3), (.iconst 1, 1), (.istore_n 1, 1)]), (12, [(.iload_n 1, 1), (.aload_n 0, 1), (.getfield 34, 3), (.if_icmp .ge 43, 3), (.iload_n 1, 1), (.bipush 16, 2), (.if_icmp .ge 37, 3), (.aload_n 0, 1), (.getfield 28, 3), (.iload_n 1, 1), (.iconst 1, 1), (.isub, 1), (.aload_n 0, 1), (.getfield 28, 3), (.iload_n 1, 1), (.iaload, 1), (.iastore, 1), (.aload_n 0, 1), (.getfield 31, 3), (.iload_n 1, 1), (.iconst 1, 1), (.isub, 1), (.aload_n 0, 1), (.getfield 31, 3), (.iload_n 1, 1), (.iaload, 1), (.iastore, 1), (.iinc 1 1, 3), (.goto (-45), 3)]), (60, [(.aload_n 0, 1), (.dup, 1), (.getfield 34, 3), (.iconst 1, 1), (.isub, 1), (.putfield 34, 3), (.aload_n 0, 1), (.dup, 1), (.getfield 37, 3), (.iconst 1, 1), (.isub, 1), (.putfield 37, 3), (.return_, 1)])]
theorem oX8_removeTail : ∀ pc, zdec cX8_removeTail pc (zBf BX8_removeTail pc) := zBf_ok (by decide +kernel)
theorem bX8_removeTail_0 : zBf BX8_removeTail 0 = [(.aload_n 0, 1), (.aload_n 0, 1), (.iconst 0, 1), (.invokevirtual 60, 3), (.iconst 1, 1), (.invokevirtual 63, 3), (.iconst 1, 1), (.istore_n 1, 1)] := rfl
theorem bX8_removeTail_12 : zBf BX8_removeTail 12 = [(.iload_n 1, 1), (.aload_n 0, 1), (.getfield 34, 3), (.if_icmp .ge 43, 3), (.iload_n 1, 1), (.bipush 16, 2), (.if_icmp .ge 37, 3), (.aload_n 0, 1), (.getfield 28, 3), (.iload_n 1, 1), (.iconst 1, 1), (.isub, 1), (.aload_n 0, 1), (.getfield 28, 3), (.iload_n 1, 1), (.iaload, 1), (.iastore, 1), (.aload_n 0, 1), (.getfield 31, 3), (.iload_n 1, 1), (.iconst 1, 1), (.isub, 1), (.aload_n 0, 1), (.getfield 31, 3), (.iload_n 1, 1), (.iaload, 1), (.iastore, 1), (.iinc 1 1, 3), (.goto (-45), 3)] := rfl
theorem bX8_removeTail_60 : zBf BX8_removeTail 60 = [(.aload_n 0, 1), (.dup, 1), (.getfield 34, 3), (.iconst 1, 1), (.isub, 1), (.putfield 34, 3), (.aload_n 0, 1), (.dup, 1), (.getfield 37, 3), (.iconst 1, 1), (.isub, 1), (.putfield 37, 3), (.return_, 1)] := rfl
theorem hX8_removeTail : zMv yX8_removeTail cX8_removeTail 2 none := ⟨zG_mem (n := 1140) (by decide +kernel), zG_mem (n := 119) (by decide +kernel), zG_mem (n := 1138) (by decide +kernel), zG_mem (n := 1139) (by decide +kernel)⟩
def BX8_isBuried : List (Nat × List (Instr × Nat)) := [(0, [(.aload_n 2, 1), (.aload_n 0, 1), (.iload_n 1, 1), (.invokevirtual 44, 3), (.invokevirtual 67, 3), (.iconst 2, 1), (.if_icmp .ne 7, 3), (.iconst 1, 1), (.goto 4, 3)]), (17, [(.iconst 0, 1)]), (18, [(.ireturn, 1)])]
theorem oX8_isBuried : ∀ pc, zdec cX8_isBuried pc (zBf BX8_isBuried pc) := zBf_ok (by decide +kernel)
theorem bX8_isBuried_0 : zBf BX8_isBuried 0 = [(.aload_n 2, 1), (.aload_n 0, 1), (.iload_n 1, 1), (.invokevirtual 44, 3), (.invokevirtual 67, 3), (.iconst 2, 1), (.if_icmp .ne 7, 3), (.iconst 1, 1), (.goto 4, 3)] := rfl
theorem bX8_isBuried_17 : zBf BX8_isBuried 17 = [(.iconst 0, 1)] := rfl
theorem bX8_isBuried_18 : zBf BX8_isBuried 18 = [(.ireturn, 1)] := rfl
theorem hX8_isBuried : zMv yX8_isBuried cX8_isBuried 3 (some .boolean) := ⟨zG_mem (n := 569) (by decide +kernel), zG_mem (n := 119) (by decide +kernel), zG_mem (n := 567) (by decide +kernel), zG_mem (n := 568) (by decide +kernel)⟩
def BX8_buriedIn : List (Nat × List (Instr × Nat)) := [(0, [(.iconst 0, 1), (.istore_n 2, 1), (.iconst 0, 1), (.istore_n 3, 1)]), (4, [(.iload_n 3, 1), (.aload_n 0, 1), (.getfield 34, 3), (.if_icmp .ge 21, 3), (.aload_n 0, 1), (.iload_n 3, 1), (.aload_n 1, 1), (.invokevirtual 72, 3), (.ifCond .eq 6, 3), (.iinc 2 1, 3)]), (24, [(.iinc 3 1, 3), (.goto (-23), 3)]), (30, [(.iload_n 2, 1), (.ireturn, 1)])]
theorem oX8_buriedIn : ∀ pc, zdec cX8_buriedIn pc (zBf BX8_buriedIn pc) := zBf_ok (by decide +kernel)
theorem bX8_buriedIn_0 : zBf BX8_buriedIn 0 = [(.iconst 0, 1), (.istore_n 2, 1), (.iconst 0, 1), (.istore_n 3, 1)] := rfl
theorem bX8_buriedIn_4 : zBf BX8_buriedIn 4 = [(.iload_n 3, 1), (.aload_n 0, 1), (.getfield 34, 3), (.if_icmp .ge 21, 3), (.aload_n 0, 1), (.iload_n 3, 1), (.aload_n 1, 1), (.invokevirtual 72, 3), (.ifCond .eq 6, 3), (.iinc 2 1, 3)] := rfl
theorem bX8_buriedIn_24 : zBf BX8_buriedIn 24 = [(.iinc 3 1, 3), (.goto (-23), 3)] := rfl
theorem bX8_buriedIn_30 : zBf BX8_buriedIn 30 = [(.iload_n 2, 1), (.ireturn, 1)] := rfl
theorem hX8_buriedIn : zMv yX8_buriedIn cX8_buriedIn 4 (some .int) := ⟨zG_mem (n := 565) (by decide +kernel), zG_mem (n := 119) (by decide +kernel), zG_mem (n := 563) (by decide +kernel), zG_mem (n := 564) (by decide +kernel)⟩
def BX8_firstBuried : List (Nat × List (Instr × Nat)) := [(0, [(.iconst 0, 1), (.istore_n 2, 1)]), (2, [(.iload_n 2, 1), (.aload_n 0, 1), (.getfield 34, 3), (.if_icmp .ge 20, 3), (.aload_n 0, 1), (.iload_n 2, 1), (.aload_n 1, 1), (.invokevirtual 72, 3), (.ifCond .eq 5, 3), (.iload_n 2, 1), (.ireturn, 1)]), (21, [(.iinc 2 1, 3), (.goto (-22), 3)]), (27, [(.iconst (-1), 1), (.ireturn, 1)])]
theorem oX8_firstBuried : ∀ pc, zdec cX8_firstBuried pc (zBf BX8_firstBuried pc) := zBf_ok (by decide +kernel)
theorem bX8_firstBuried_0 : zBf BX8_firstBuried 0 = [(.iconst 0, 1), (.istore_n 2, 1)] := rfl
theorem bX8_firstBuried_2 : zBf BX8_firstBuried 2 = [(.iload_n 2, 1), (.aload_n 0, 1), (.getfield 34, 3), (.if_icmp .ge 20, 3), (.aload_n 0, 1), (.iload_n 2, 1), (.aload_n 1, 1), (.invokevirtual 72, 3), (.ifCond .eq 5, 3), (.iload_n 2, 1), (.ireturn, 1)] := rfl
theorem bX8_firstBuried_21 : zBf BX8_firstBuried 21 = [(.iinc 2 1, 3), (.goto (-22), 3)] := rfl
theorem bX8_firstBuried_27 : zBf BX8_firstBuried 27 = [(.iconst (-1), 1), (.ireturn, 1)] := rfl
theorem hX8_firstBuried : zMv yX8_firstBuried cX8_firstBuried 3 (some .int) := ⟨zG_mem (n := 1245) (by decide +kernel), zG_mem (n := 119) (by decide +kernel), zG_mem (n := 1243) (by decide +kernel), zG_mem (n := 1244) (by decide +kernel)⟩
def BX8_jointOf : List (Nat × List (Instr × Nat)) := [(0, [(.aload_n 0, 1), (.aload_n 0, 1), (.iload_n 1, 1), (.invokevirtual 60, 3), (.invokevirtual 76, 3), (.aload_n 0, 1), (.aload_n 0, 1), (.iload_n 2, 1), (.invokevirtual 60, 3), (.invokevirtual 76, 3), (.isub, 1), (.invokestatic 79, 3), (.ireturn, 1)])]
theorem oX8_jointOf : ∀ pc, zdec cX8_jointOf pc (zBf BX8_jointOf pc) := zBf_ok (by decide +kernel)
theorem bX8_jointOf_0 : zBf BX8_jointOf 0 = [(.aload_n 0, 1), (.aload_n 0, 1), (.iload_n 1, 1), (.invokevirtual 60, 3), (.invokevirtual 76, 3), (.aload_n 0, 1), (.aload_n 0, 1), (.iload_n 2, 1), (.invokevirtual 60, 3), (.invokevirtual 76, 3), (.isub, 1), (.invokestatic 79, 3), (.ireturn, 1)] := rfl
theorem hX8_jointOf : zMv yX8_jointOf cX8_jointOf 3 (some .int) := ⟨zG_mem (n := 514) (by decide +kernel), zG_mem (n := 119) (by decide +kernel), zG_mem (n := 512) (by decide +kernel), zG_mem (n := 513) (by decide +kernel)⟩
def BX8_widestJoint : List (Nat × List (Instr × Nat)) := [(0, [(.iconst 0, 1), (.istore_n 1, 1), (.iconst 0, 1), (.istore_n 2, 1)]), (4, [(.iload_n 2, 1), (.iconst 1, 1), (.iadd, 1), (.aload_n 0, 1), (.getfield 34, 3), (.if_icmp .ge 22, 3), (.iload_n 1, 1), (.aload_n 0, 1), (.iload_n 2, 1), (.iload_n 2, 1), (.iconst 1, 1), (.iadd, 1), (.invokevirtual 82, 3), (.invokestatic 54, 3), (.istore_n 1, 1), (.iinc 2 1, 3), (.goto (-26), 3)]), (33, [(.iload_n 1, 1), (.ireturn, 1)])]
theorem oX8_widestJoint : ∀ pc, zdec cX8_widestJoint pc (zBf BX8_widestJoint pc) := zBf_ok (by decide +kernel)
theorem bX8_widestJoint_0 : zBf BX8_widestJoint 0 = [(.iconst 0, 1), (.istore_n 1, 1), (.iconst 0, 1), (.istore_n 2, 1)] := rfl
theorem bX8_widestJoint_4 : zBf BX8_widestJoint 4 = [(.iload_n 2, 1), (.iconst 1, 1), (.iadd, 1), (.aload_n 0, 1), (.getfield 34, 3), (.if_icmp .ge 22, 3), (.iload_n 1, 1), (.aload_n 0, 1), (.iload_n 2, 1), (.iload_n 2, 1), (.iconst 1, 1), (.iadd, 1), (.invokevirtual 82, 3), (.invokestatic 54, 3), (.istore_n 1, 1), (.iinc 2 1, 3), (.goto (-26), 3)] := rfl
theorem bX8_widestJoint_33 : zBf BX8_widestJoint 33 = [(.iload_n 1, 1), (.ireturn, 1)] := rfl
theorem hX8_widestJoint : zMv yX8_widestJoint cX8_widestJoint 3 (some .int) := ⟨zG_mem (n := 530) (by decide +kernel), zG_mem (n := 119) (by decide +kernel), zG_mem (n := 528) (by decide +kernel), zG_mem (n := 529) (by decide +kernel)⟩
def BX8_firstJointAbove : List (Nat × List (Instr × Nat)) := [(0, [(.iconst 0, 1), (.istore_n 2, 1)]), (2, [(.iload_n 2, 1), (.iconst 1, 1), (.iadd, 1), (.aload_n 0, 1), (.getfield 34, 3), (.if_icmp .ge 23, 3), (.aload_n 0, 1), (.iload_n 2, 1), (.iload_n 2, 1), (.iconst 1, 1), (.iadd, 1), (.invokevirtual 82, 3), (.iload_n 1, 1), (.if_icmp .le 5, 3), (.iload_n 2, 1), (.ireturn, 1)]), (26, [(.iinc 2 1, 3), (.goto (-27), 3)]), (32, [(.iconst (-1), 1), (.ireturn, 1)])]
theorem oX8_firstJointAbove : ∀ pc, zdec cX8_firstJointAbove pc (zBf BX8_firstJointAbove pc) := zBf_ok (by decide +kernel)
theorem bX8_firstJointAbove_0 : zBf BX8_firstJointAbove 0 = [(.iconst 0, 1), (.istore_n 2, 1)] := rfl
theorem bX8_firstJointAbove_2 : zBf BX8_firstJointAbove 2 = [(.iload_n 2, 1), (.iconst 1, 1), (.iadd, 1), (.aload_n 0, 1), (.getfield 34, 3), (.if_icmp .ge 23, 3), (.aload_n 0, 1), (.iload_n 2, 1), (.iload_n 2, 1), (.iconst 1, 1), (.iadd, 1), (.invokevirtual 82, 3), (.iload_n 1, 1), (.if_icmp .le 5, 3), (.iload_n 2, 1), (.ireturn, 1)] := rfl
theorem bX8_firstJointAbove_26 : zBf BX8_firstJointAbove 26 = [(.iinc 2 1, 3), (.goto (-27), 3)] := rfl
theorem bX8_firstJointAbove_32 : zBf BX8_firstJointAbove 32 = [(.iconst (-1), 1), (.ireturn, 1)] := rfl
theorem hX8_firstJointAbove : zMv yX8_firstJointAbove cX8_firstJointAbove 3 (some .int) := ⟨zG_mem (n := 510) (by decide +kernel), zG_mem (n := 119) (by decide +kernel), zG_mem (n := 508) (by decide +kernel), zG_mem (n := 509) (by decide +kernel)⟩
def BX8_mostWorn : List (Nat × List (Instr × Nat)) := [(0, [(.iconst (-1), 1), (.istore_n 1, 1), (.iconst 0, 1), (.istore_n 2, 1)]), (4, [(.iload_n 2, 1), (.aload_n 0, 1), (.getfield 24, 3), (.if_icmp .ge 56, 3), (.aload_n 0, 1), (.iload_n 2, 1), (.invokevirtual 57, 3), (.istore_n 3, 1), (.iload_n 3, 1), (.ifCond .eq 8, 3), (.iload_n 3, 1), (.iconst 1, 1), (.if_icmp .ne 7, 3)]), (27, [(.iconst 1, 1), (.goto 4, 3)]), (31, [(.iconst 0, 1)]), (32, [(.istore 4, 2), (.iload 4, 2), (.ifCond .eq 23, 3), (.iload_n 1, 1), (.iconst (-1), 1), (.if_icmp .eq 16, 3), (.aload_n 0, 1), (.iload_n 2, 1), (.invokevirtual 85, 3), (.aload_n 0, 1), (.iload_n 1, 1), (.invokevirtual 85, 3), (.if_icmp .le 5, 3)]), (57, [(.iload_n 2, 1), (.istore_n 1, 1)]), (59, [(.iinc 2 1, 3), (.goto (-58), 3)]), (65, [(.iload_n 1, 1), (.ireturn, 1)])]
theorem oX8_mostWorn : ∀ pc, zdec cX8_mostWorn pc (zBf BX8_mostWorn pc) := zBf_ok (by decide +kernel)
theorem bX8_mostWorn_0 : zBf BX8_mostWorn 0 = [(.iconst (-1), 1), (.istore_n 1, 1), (.iconst 0, 1), (.istore_n 2, 1)] := rfl
theorem bX8_mostWorn_4 : zBf BX8_mostWorn 4 = [(.iload_n 2, 1), (.aload_n 0, 1), (.getfield 24, 3), (.if_icmp .ge 56, 3), (.aload_n 0, 1), (.iload_n 2, 1), (.invokevirtual 57, 3), (.istore_n 3, 1), (.iload_n 3, 1), (.ifCond .eq 8, 3), (.iload_n 3, 1), (.iconst 1, 1), (.if_icmp .ne 7, 3)] := rfl
theorem bX8_mostWorn_27 : zBf BX8_mostWorn 27 = [(.iconst 1, 1), (.goto 4, 3)] := rfl
theorem bX8_mostWorn_31 : zBf BX8_mostWorn 31 = [(.iconst 0, 1)] := rfl
theorem bX8_mostWorn_32 : zBf BX8_mostWorn 32 = [(.istore 4, 2), (.iload 4, 2), (.ifCond .eq 23, 3), (.iload_n 1, 1), (.iconst (-1), 1), (.if_icmp .eq 16, 3), (.aload_n 0, 1), (.iload_n 2, 1), (.invokevirtual 85, 3), (.aload_n 0, 1), (.iload_n 1, 1), (.invokevirtual 85, 3), (.if_icmp .le 5, 3)] := rfl
theorem bX8_mostWorn_57 : zBf BX8_mostWorn 57 = [(.iload_n 2, 1), (.istore_n 1, 1)] := rfl
theorem bX8_mostWorn_59 : zBf BX8_mostWorn 59 = [(.iinc 2 1, 3), (.goto (-58), 3)] := rfl
theorem bX8_mostWorn_65 : zBf BX8_mostWorn 65 = [(.iload_n 1, 1), (.ireturn, 1)] := rfl
theorem hX8_mostWorn : zMv yX8_mostWorn cX8_mostWorn 5 (some .int) := ⟨zG_mem (n := 541) (by decide +kernel), zG_mem (n := 119) (by decide +kernel), zG_mem (n := 539) (by decide +kernel), zG_mem (n := 540) (by decide +kernel)⟩
def BX8_copyFrom : List (Nat × List (Instr × Nat)) := [(0, [(.aload_n 1, 1), (.getfield 9, 3), (.iconst 0, 1), (.aload_n 0, 1), (.getfield 9, 3), (.iconst 0, 1), (.bipush 16, 2), (.invokestatic 88, 3), (.aload_n 1, 1), (.getfield 15, 3), (.iconst 0, 1), (.aload_n 0, 1), (.getfield 15, 3), (.iconst 0, 1), (.bipush 16, 2), (.invokestatic 88, 3), (.aload_n 1, 1), (.getfield 18, 3), (.iconst 0, 1), (.aload_n 0, 1), (.getfield 18, 3), (.iconst 0, 1), (.bipush 16, 2), (.invokestatic 88, 3), (.aload_n 1, 1), (.getfield 21, 3), (.iconst 0, 1), (.aload_n 0, 1), (.getfield 21, 3), (.iconst 0, 1), (.bipush 16, 2), (.invokestatic 88, 3), (.aload_n 1, 1), (.getfield 28, 3), (.iconst 0, 1), (.aload_n 0, 1), (.getfield 28, 3), (.iconst 0, 1), (.bipush 16, 2), (.invokestatic 88, 3), (.aload_n 1, 1), (.getfield 31, 3), (.iconst 0, 1), (.aload_n 0, 1), (.getfield 31, 3), (.iconst 0, 1), (.bipush 16, 2), (.invokestatic 88, 3), (.aload_n 0, 1), (.aload_n 1, 1), (.getfield 24, 3), (.putfield 24, 3), (.aload_n 0, 1), (.aload_n 1, 1), (.getfield 34, 3), (.putfield 34, 3), (.aload_n 0, 1), (.aload_n 1, 1), (.getfield 37, 3), (.putfield 37, 3), (.return_, 1)])]
theorem oX8_copyFrom : ∀ pc, zdec cX8_copyFrom pc (zBf BX8_copyFrom pc) := zBf_ok (by decide +kernel)
theorem bX8_copyFrom_0 : zBf BX8_copyFrom 0 = [(.aload_n 1, 1), (.getfield 9, 3), (.iconst 0, 1), (.aload_n 0, 1), (.getfield 9, 3), (.iconst 0, 1), (.bipush 16, 2), (.invokestatic 88, 3), (.aload_n 1, 1), (.getfield 15, 3), (.iconst 0, 1), (.aload_n 0, 1), (.getfield 15, 3), (.iconst 0, 1), (.bipush 16, 2), (.invokestatic 88, 3), (.aload_n 1, 1), (.getfield 18, 3), (.iconst 0, 1), (.aload_n 0, 1), (.getfield 18, 3), (.iconst 0, 1), (.bipush 16, 2), (.invokestatic 88, 3), (.aload_n 1, 1), (.getfield 21, 3), (.iconst 0, 1), (.aload_n 0, 1), (.getfield 21, 3), (.iconst 0, 1), (.bipush 16, 2), (.invokestatic 88, 3), (.aload_n 1, 1), (.getfield 28, 3), (.iconst 0, 1), (.aload_n 0, 1), (.getfield 28, 3), (.iconst 0, 1), (.bipush 16, 2), (.invokestatic 88, 3), (.aload_n 1, 1), (.getfield 31, 3), (.iconst 0, 1), (.aload_n 0, 1), (.getfield 31, 3), (.iconst 0, 1), (.bipush 16, 2), (.invokestatic 88, 3), (.aload_n 0, 1), (.aload_n 1, 1), (.getfield 24, 3), (.putfield 24, 3), (.aload_n 0, 1), (.aload_n 1, 1), (.getfield 34, 3), (.putfield 34, 3), (.aload_n 0, 1), (.aload_n 1, 1), (.getfield 37, 3), (.putfield 37, 3), (.return_, 1)] := rfl
theorem hX8_copyFrom : zMv yX8_copyFrom cX8_copyFrom 2 none := ⟨zG_mem (n := 604) (by decide +kernel), zG_mem (n := 119) (by decide +kernel), zG_mem (n := 602) (by decide +kernel), zG_mem (n := 603) (by decide +kernel)⟩
theorem kX8_82 : Cond.methodLink RX8 82 yX8_jointOf ∈ zTbl ∨ ∃ host, Cond.methodLinkNest RX8 82 yX8_jointOf host ∈ lw_tbl := Or.inl (zG_mem (n := 511) (by decide +kernel))
theorem kX8_60 : Cond.methodLink RX8 60 yX8_railAt ∈ zTbl ∨ ∃ host, Cond.methodLinkNest RX8 60 yX8_railAt host ∈ lw_tbl := Or.inl (zG_mem (n := 515) (by decide +kernel))
theorem kX8_76 : Cond.methodLink RX8 76 yX8_widthOf ∈ zTbl ∨ ∃ host, Cond.methodLinkNest RX8 76 yX8_widthOf host ∈ lw_tbl := Or.inl (zG_mem (n := 516) (by decide +kernel))
theorem kX8_40 : Cond.methodLink RX8 40 yX8_isRail ∈ zTbl ∨ ∃ host, Cond.methodLinkNest RX8 40 yX8_isRail host ∈ lw_tbl := Or.inl (zG_mem (n := 520) (by decide +kernel))
theorem kX8_79 : Cond.methodLink RX8 79 yJ9_abs_0f7a4 ∈ zTbl ∨ ∃ host, Cond.methodLinkNest RX8 79 yJ9_abs_0f7a4 host ∈ lw_tbl := Or.inl (zG_mem (n := 524) (by decide +kernel))
theorem kX8_54 : Cond.methodLink RX8 54 yJ9_max_7cf53 ∈ zTbl ∨ ∃ host, Cond.methodLinkNest RX8 54 yJ9_max_7cf53 host ∈ lw_tbl := Or.inl (zG_mem (n := 531) (by decide +kernel))
theorem kX8_57 : Cond.methodLink RX8 57 yX8_stateOf ∈ zTbl ∨ ∃ host, Cond.methodLinkNest RX8 57 yX8_stateOf host ∈ lw_tbl := Or.inl (zG_mem (n := 542) (by decide +kernel))
theorem kX8_85 : Cond.methodLink RX8 85 yX8_wearOf ∈ zTbl ∨ ∃ host, Cond.methodLinkNest RX8 85 yX8_wearOf host ∈ lw_tbl := Or.inl (zG_mem (n := 546) (by decide +kernel))
theorem kX8_72 : Cond.methodLink RX8 72 yX8_isBuried ∈ zTbl ∨ ∃ host, Cond.methodLinkNest RX8 72 yX8_isBuried host ∈ lw_tbl := Or.inl (zG_mem (n := 566) (by decide +kernel))
theorem kX8_44 : Cond.methodLink RX8 44 yX8_cellAt ∈ zTbl ∨ ∃ host, Cond.methodLinkNest RX8 44 yX8_cellAt host ∈ lw_tbl := Or.inl (zG_mem (n := 570) (by decide +kernel))
theorem kX8_67 : Cond.methodLink RX8 67 yX0_kindOf ∈ zTbl ∨ ∃ host, Cond.methodLinkNest RX8 67 yX0_kindOf host ∈ lw_tbl := Or.inl (zG_mem (n := 571) (by decide +kernel))
theorem kX8_63 : Cond.methodLink RX8 63 yX8_changeState ∈ zTbl ∨ ∃ host, Cond.methodLinkNest RX8 63 yX8_changeState host ∈ lw_tbl := Or.inl (zG_mem (n := 1141) (by decide +kernel))
theorem kX8_48 : Cond.methodLink RX8 48 yJ9_min_7cf53 ∈ zTbl ∨ ∃ host, Cond.methodLinkNest RX8 48 yJ9_min_7cf53 host ∈ lw_tbl := Or.inl (zG_mem (n := 1195) (by decide +kernel))
def BX9_init : List (Nat × List (Instr × Nat)) := [(0, [(.aload_n 0, 1), (.invokespecial 3, 3), (.aload_n 0, 1), (.new 9, 3), (.dup, 1), (.invokespecial 11, 3), (.putfield 12, 3), (.aload_n 0, 1), (.new 18, 3), (.dup, 1), (.invokespecial 20, 3), (.putfield 21, 3), (.aload_n 0, 1), (.new 25, 3), (.dup, 1), (.invokespecial 27, 3), (.putfield 28, 3), (.aload_n 0, 1), (.new 32, 3), (.dup, 1), (.invokespecial 34, 3), (.putfield 35, 3), (.aload_n 0, 1), (.bipush 8, 2), (.newarray .int, 2), (.dup, 1), (.iconst 0, 1), (.iconst 0, 1), (.iastore, 1), (.dup, 1), (.iconst 1, 1), (.iconst 0, 1), (.iastore, 1), (.dup, 1), (.iconst 2, 1), (.iconst 0, 1), (.iastore, 1), (.dup, 1), (.iconst 3, 1), (.bipush 30, 2), (.iastore, 1), (.dup, 1), (.iconst 4, 1), (.iconst 1, 1), (.iastore, 1), (.dup, 1), (.iconst 5, 1), (.iconst 3, 1), (.iastore, 1), (.dup, 1), (.bipush 6, 2), (.iconst 0, 1), (.iastore, 1), (.dup, 1), (.bipush 7, 2), (.iconst 2, 1), (.iastore, 1), (.putfield 39, 3), (.aload_n 0, 1), (.iconst 0, 1), (.putfield 43, 3), (.aload_n 0, 1), (.iconst (-1), 1), (.putfield 47, 3), (.aload_n 0, 1), (.iconst 0, 1), (.putfield 50, 3), (.aload_n 0, 1), (.iconst 0, 1), (.putfield 53, 3), (.aload_n 0, 1), (.iconst (-1), 1), (.putfield 56, 3), (.return_, 1)])]
theorem oX9_init : ∀ pc, zdec cX9_init pc (zBf BX9_init pc) := zBf_ok (by decide +kernel)
theorem bX9_init_0 : zBf BX9_init 0 = [(.aload_n 0, 1), (.invokespecial 3, 3), (.aload_n 0, 1), (.new 9, 3), (.dup, 1), (.invokespecial 11, 3), (.putfield 12, 3), (.aload_n 0, 1), (.new 18, 3), (.dup, 1), (.invokespecial 20, 3), (.putfield 21, 3), (.aload_n 0, 1), (.new 25, 3), (.dup, 1), (.invokespecial 27, 3), (.putfield 28, 3), (.aload_n 0, 1), (.new 32, 3), (.dup, 1), (.invokespecial 34, 3), (.putfield 35, 3), (.aload_n 0, 1), (.bipush 8, 2), (.newarray .int, 2), (.dup, 1), (.iconst 0, 1), (.iconst 0, 1), (.iastore, 1), (.dup, 1), (.iconst 1, 1), (.iconst 0, 1), (.iastore, 1), (.dup, 1), (.iconst 2, 1), (.iconst 0, 1), (.iastore, 1), (.dup, 1), (.iconst 3, 1), (.bipush 30, 2), (.iastore, 1), (.dup, 1), (.iconst 4, 1), (.iconst 1, 1), (.iastore, 1), (.dup, 1), (.iconst 5, 1), (.iconst 3, 1), (.iastore, 1), (.dup, 1), (.bipush 6, 2), (.iconst 0, 1), (.iastore, 1), (.dup, 1), (.bipush 7, 2), (.iconst 2, 1), (.iastore, 1), (.putfield 39, 3), (.aload_n 0, 1), (.iconst 0, 1), (.putfield 43, 3), (.aload_n 0, 1), (.iconst (-1), 1), (.putfield 47, 3), (.aload_n 0, 1), (.iconst 0, 1), (.putfield 50, 3), (.aload_n 0, 1), (.iconst 0, 1), (.putfield 53, 3), (.aload_n 0, 1), (.iconst (-1), 1), (.putfield 56, 3), (.return_, 1)] := rfl
def BX9_storeOf : List (Nat × List (Instr × Nat)) := [(0, [(.iload_n 1, 1), (.ifCond .lt 18, 3), (.iload_n 1, 1), (.bipush 7, 2), (.if_icmp .gt 12, 3), (.aload_n 0, 1), (.getfield 39, 3), (.iload_n 1, 1), (.iaload, 1), (.goto 4, 3)]), (19, [(.iconst 0, 1)]), (20, [(.ireturn, 1)])]
theorem oX9_storeOf : ∀ pc, zdec cX9_storeOf pc (zBf BX9_storeOf pc) := zBf_ok (by decide +kernel)
theorem bX9_storeOf_0 : zBf BX9_storeOf 0 = [(.iload_n 1, 1), (.ifCond .lt 18, 3), (.iload_n 1, 1), (.bipush 7, 2), (.if_icmp .gt 12, 3), (.aload_n 0, 1), (.getfield 39, 3), (.iload_n 1, 1), (.iaload, 1), (.goto 4, 3)] := rfl
theorem bX9_storeOf_19 : zBf BX9_storeOf 19 = [(.iconst 0, 1)] := rfl
theorem bX9_storeOf_20 : zBf BX9_storeOf 20 = [(.ireturn, 1)] := rfl
theorem hX9_storeOf : zMv yX9_storeOf cX9_storeOf 2 (some .int) := ⟨zG_mem (n := 506) (by decide +kernel), zG_mem (n := 117) (by decide +kernel), zG_mem (n := 504) (by decide +kernel), zG_mem (n := 505) (by decide +kernel)⟩
def BX9_mayStore : List (Nat × List (Instr × Nat)) := [(0, [(.iload_n 1, 1), (.ifCond .lt 9, 3), (.iload_n 1, 1), (.bipush 7, 2), (.if_icmp .le 15, 3)]), (10, [(.iload_n 1, 1), (.bipush 8, 2), (.if_icmp .ne 7, 3), (.iconst 1, 1), (.goto 4, 3)]), (20, [(.iconst 0, 1)]), (21, [(.ireturn, 1)]), (22, [(.iload_n 1, 1), (.iconst 2, 1), (.if_icmp .ne 12, 3), (.aload_n 0, 1), (.getfield 39, 3), (.iconst 3, 1), (.iaload, 1), (.goto 8, 3)]), (36, [(.getstatic 59, 3), (.iload_n 1, 1), (.iaload, 1)]), (41, [(.istore_n 3, 1), (.iload_n 2, 1), (.getstatic 62, 3), (.iload_n 1, 1), (.iaload, 1), (.if_icmp .lt 12, 3), (.iload_n 2, 1), (.iload_n 3, 1), (.if_icmp .gt 7, 3), (.iconst 1, 1), (.goto 4, 3)]), (60, [(.iconst 0, 1)]), (61, [(.ireturn, 1)])]
theorem oX9_mayStore : ∀ pc, zdec cX9_mayStore pc (zBf BX9_mayStore pc) := zBf_ok (by decide +kernel)
theorem bX9_mayStore_0 : zBf BX9_mayStore 0 = [(.iload_n 1, 1), (.ifCond .lt 9, 3), (.iload_n 1, 1), (.bipush 7, 2), (.if_icmp .le 15, 3)] := rfl
theorem bX9_mayStore_10 : zBf BX9_mayStore 10 = [(.iload_n 1, 1), (.bipush 8, 2), (.if_icmp .ne 7, 3), (.iconst 1, 1), (.goto 4, 3)] := rfl
theorem bX9_mayStore_20 : zBf BX9_mayStore 20 = [(.iconst 0, 1)] := rfl
theorem bX9_mayStore_21 : zBf BX9_mayStore 21 = [(.ireturn, 1)] := rfl
theorem bX9_mayStore_22 : zBf BX9_mayStore 22 = [(.iload_n 1, 1), (.iconst 2, 1), (.if_icmp .ne 12, 3), (.aload_n 0, 1), (.getfield 39, 3), (.iconst 3, 1), (.iaload, 1), (.goto 8, 3)] := rfl
theorem bX9_mayStore_36 : zBf BX9_mayStore 36 = [(.getstatic 59, 3), (.iload_n 1, 1), (.iaload, 1)] := rfl
theorem bX9_mayStore_41 : zBf BX9_mayStore 41 = [(.istore_n 3, 1), (.iload_n 2, 1), (.getstatic 62, 3), (.iload_n 1, 1), (.iaload, 1), (.if_icmp .lt 12, 3), (.iload_n 2, 1), (.iload_n 3, 1), (.if_icmp .gt 7, 3), (.iconst 1, 1), (.goto 4, 3)] := rfl
theorem bX9_mayStore_60 : zBf BX9_mayStore 60 = [(.iconst 0, 1)] := rfl
theorem bX9_mayStore_61 : zBf BX9_mayStore 61 = [(.ireturn, 1)] := rfl
theorem hX9_mayStore : zMv yX9_mayStore cX9_mayStore 4 (some .boolean) := ⟨zG_mem (n := 1028) (by decide +kernel), zG_mem (n := 117) (by decide +kernel), zG_mem (n := 1026) (by decide +kernel), zG_mem (n := 1027) (by decide +kernel)⟩
def BX9_changeStore : List (Nat × List (Instr × Nat)) := [(0, [(.iload_n 1, 1), (.ifCond .lt 9, 3), (.iload_n 1, 1), (.bipush 7, 2), (.if_icmp .le 21, 3)]), (10, [(.aload_n 0, 1), (.getfield 12, 3), (.getfield 65, 3), (.istore_n 3, 1), (.aload_n 0, 1), (.getfield 12, 3), (.iload_n 2, 1), (.putfield 65, 3), (.iload_n 3, 1), (.ireturn, 1)]), (28, [(.aload_n 0, 1), (.getfield 39, 3), (.iload_n 1, 1), (.iaload, 1), (.istore_n 3, 1), (.aload_n 0, 1), (.getfield 39, 3), (.iload_n 1, 1), (.iload_n 2, 1), (.iastore, 1), (.aload_n 0, 1), (.getfield 39, 3), (.iconst 2, 1), (.aload_n 0, 1), (.getfield 39, 3), (.iconst 2, 1), (.iaload, 1), (.aload_n 0, 1), (.getfield 39, 3), (.iconst 3, 1), (.iaload, 1), (.invokestatic 68, 3), (.iastore, 1), (.iload_n 3, 1), (.ireturn, 1)])]
theorem oX9_changeStore : ∀ pc, zdec cX9_changeStore pc (zBf BX9_changeStore pc) := zBf_ok (by decide +kernel)
theorem bX9_changeStore_0 : zBf BX9_changeStore 0 = [(.iload_n 1, 1), (.ifCond .lt 9, 3), (.iload_n 1, 1), (.bipush 7, 2), (.if_icmp .le 21, 3)] := rfl
theorem bX9_changeStore_10 : zBf BX9_changeStore 10 = [(.aload_n 0, 1), (.getfield 12, 3), (.getfield 65, 3), (.istore_n 3, 1), (.aload_n 0, 1), (.getfield 12, 3), (.iload_n 2, 1), (.putfield 65, 3), (.iload_n 3, 1), (.ireturn, 1)] := rfl
theorem bX9_changeStore_28 : zBf BX9_changeStore 28 = [(.aload_n 0, 1), (.getfield 39, 3), (.iload_n 1, 1), (.iaload, 1), (.istore_n 3, 1), (.aload_n 0, 1), (.getfield 39, 3), (.iload_n 1, 1), (.iload_n 2, 1), (.iastore, 1), (.aload_n 0, 1), (.getfield 39, 3), (.iconst 2, 1), (.aload_n 0, 1), (.getfield 39, 3), (.iconst 2, 1), (.iaload, 1), (.aload_n 0, 1), (.getfield 39, 3), (.iconst 3, 1), (.iaload, 1), (.invokestatic 68, 3), (.iastore, 1), (.iload_n 3, 1), (.ireturn, 1)] := rfl
theorem hX9_changeStore : zMv yX9_changeStore cX9_changeStore 4 (some .int) := ⟨zG_mem (n := 1057) (by decide +kernel), zG_mem (n := 117) (by decide +kernel), zG_mem (n := 1055) (by decide +kernel), zG_mem (n := 1056) (by decide +kernel)⟩
def BX9_takePlates : List (Nat × List (Instr × Nat)) := [(0, [(.iload_n 1, 1), (.aload_n 0, 1), (.getfield 39, 3), (.iconst 0, 1), (.iaload, 1), (.invokestatic 68, 3), (.istore_n 2, 1), (.aload_n 0, 1), (.getfield 39, 3), (.iconst 0, 1), (.dup2, 1), (.iaload, 1), (.iload_n 2, 1), (.isub, 1), (.iastore, 1), (.iload_n 2, 1), (.ireturn, 1)])]
theorem oX9_takePlates : ∀ pc, zdec cX9_takePlates pc (zBf BX9_takePlates pc) := zBf_ok (by decide +kernel)
theorem bX9_takePlates_0 : zBf BX9_takePlates 0 = [(.iload_n 1, 1), (.aload_n 0, 1), (.getfield 39, 3), (.iconst 0, 1), (.iaload, 1), (.invokestatic 68, 3), (.istore_n 2, 1), (.aload_n 0, 1), (.getfield 39, 3), (.iconst 0, 1), (.dup2, 1), (.iaload, 1), (.iload_n 2, 1), (.isub, 1), (.iastore, 1), (.iload_n 2, 1), (.ireturn, 1)] := rfl
theorem hX9_takePlates : zMv yX9_takePlates cX9_takePlates 3 (some .int) := ⟨zG_mem (n := 1434) (by decide +kernel), zG_mem (n := 117) (by decide +kernel), zG_mem (n := 1432) (by decide +kernel), zG_mem (n := 1433) (by decide +kernel)⟩
def BX9_shape : List (Nat × List (Instr × Nat)) := [(0, [(.iconst 0, 1), (.istore 4, 2), (.iload_n 1, 1), (.bipush 10, 2), (.idiv, 1), (.iload_n 2, 1), (.bipush 10, 2), (.idiv, 1), (.invokestatic 74, 3), (.istore 5, 2), (.iload_n 1, 1), (.bipush 10, 2), (.irem, 1), (.iload_n 2, 1), (.bipush 10, 2), (.irem, 1), (.invokestatic 74, 3), (.istore 6, 2), (.iload_n 1, 1), (.bipush 10, 2), (.idiv, 1), (.iload_n 2, 1), (.bipush 10, 2), (.idiv, 1), (.invokestatic 68, 3), (.istore 7, 2)]), (42, [(.iload 7, 2), (.iload 5, 2), (.if_icmp .gt 70, 3), (.iload_n 1, 1), (.bipush 10, 2), (.irem, 1), (.iload_n 2, 1), (.bipush 10, 2), (.irem, 1), (.invokestatic 68, 3), (.istore 8, 2)]), (62, [(.iload 8, 2), (.iload 6, 2), (.if_icmp .gt 44, 3), (.bipush 10, 2), (.iload 7, 2), (.imul, 1), (.iload 8, 2), (.iadd, 1), (.istore 9, 2), (.aload_n 0, 1), (.getfield 21, 3), (.iload 9, 2), (.invokevirtual 77, 3), (.ifCond .ne 16, 3), (.aload_n 0, 1), (.getfield 12, 3), (.iload 9, 2), (.iload_n 3, 1), (.invokevirtual 81, 3), (.iinc 4 1, 3)]), (104, [(.iinc 8 1, 3), (.goto (-45), 3)]), (110, [(.iinc 7 1, 3), (.goto (-71), 3)]), (116, [(.iload 4, 2), (.ireturn, 1)])]
theorem oX9_shape : ∀ pc, zdec cX9_shape pc (zBf BX9_shape pc) := zBf_ok (by decide +kernel)
theorem bX9_shape_0 : zBf BX9_shape 0 = [(.iconst 0, 1), (.istore 4, 2), (.iload_n 1, 1), (.bipush 10, 2), (.idiv, 1), (.iload_n 2, 1), (.bipush 10, 2), (.idiv, 1), (.invokestatic 74, 3), (.istore 5, 2), (.iload_n 1, 1), (.bipush 10, 2), (.irem, 1), (.iload_n 2, 1), (.bipush 10, 2), (.irem, 1), (.invokestatic 74, 3), (.istore 6, 2), (.iload_n 1, 1), (.bipush 10, 2), (.idiv, 1), (.iload_n 2, 1), (.bipush 10, 2), (.idiv, 1), (.invokestatic 68, 3), (.istore 7, 2)] := rfl
theorem bX9_shape_42 : zBf BX9_shape 42 = [(.iload 7, 2), (.iload 5, 2), (.if_icmp .gt 70, 3), (.iload_n 1, 1), (.bipush 10, 2), (.irem, 1), (.iload_n 2, 1), (.bipush 10, 2), (.irem, 1), (.invokestatic 68, 3), (.istore 8, 2)] := rfl
theorem bX9_shape_62 : zBf BX9_shape 62 = [(.iload 8, 2), (.iload 6, 2), (.if_icmp .gt 44, 3), (.bipush 10, 2), (.iload 7, 2), (.imul, 1), (.iload 8, 2), (.iadd, 1), (.istore 9, 2), (.aload_n 0, 1), (.getfield 21, 3), (.iload 9, 2), (.invokevirtual 77, 3), (.ifCond .ne 16, 3), (.aload_n 0, 1), (.getfield 12, 3), (.iload 9, 2), (.iload_n 3, 1), (.invokevirtual 81, 3), (.iinc 4 1, 3)] := rfl
theorem bX9_shape_104 : zBf BX9_shape 104 = [(.iinc 8 1, 3), (.goto (-45), 3)] := rfl
theorem bX9_shape_110 : zBf BX9_shape 110 = [(.iinc 7 1, 3), (.goto (-71), 3)] := rfl
theorem bX9_shape_116 : zBf BX9_shape 116 = [(.iload 4, 2), (.ireturn, 1)] := rfl
theorem hX9_shape : zMv yX9_shape cX9_shape 10 (some .int) := ⟨zG_mem (n := 935) (by decide +kernel), zG_mem (n := 117) (by decide +kernel), zG_mem (n := 933) (by decide +kernel), zG_mem (n := 934) (by decide +kernel)⟩
def BX9_isFree : List (Nat × List (Instr × Nat)) := [(0, [(.iload_n 1, 1), (.invokestatic 85, 3), (.ifCond .eq 30, 3), (.aload_n 0, 1), (.getfield 12, 3), (.iload_n 1, 1), (.invokevirtual 88, 3), (.iconst 3, 1), (.if_icmp .eq 18, 3), (.aload_n 0, 1), (.getfield 21, 3), (.iload_n 1, 1), (.invokevirtual 77, 3), (.ifCond .ne 7, 3), (.iconst 1, 1), (.goto 4, 3)]), (34, [(.iconst 0, 1)]), (35, [(.ireturn, 1)])]
theorem oX9_isFree : ∀ pc, zdec cX9_isFree pc (zBf BX9_isFree pc) := zBf_ok (by decide +kernel)
theorem bX9_isFree_0 : zBf BX9_isFree 0 = [(.iload_n 1, 1), (.invokestatic 85, 3), (.ifCond .eq 30, 3), (.aload_n 0, 1), (.getfield 12, 3), (.iload_n 1, 1), (.invokevirtual 88, 3), (.iconst 3, 1), (.if_icmp .eq 18, 3), (.aload_n 0, 1), (.getfield 21, 3), (.iload_n 1, 1), (.invokevirtual 77, 3), (.ifCond .ne 7, 3), (.iconst 1, 1), (.goto 4, 3)] := rfl
theorem bX9_isFree_34 : zBf BX9_isFree 34 = [(.iconst 0, 1)] := rfl
theorem bX9_isFree_35 : zBf BX9_isFree 35 = [(.ireturn, 1)] := rfl
theorem hX9_isFree : zMv yX9_isFree cX9_isFree 2 (some .boolean) := ⟨zG_mem (n := 1180) (by decide +kernel), zG_mem (n := 117) (by decide +kernel), zG_mem (n := 1178) (by decide +kernel), zG_mem (n := 1179) (by decide +kernel)⟩
def BX9_maySetOut : List (Nat × List (Instr × Nat)) := [(0, [(.iload_n 3, 1), (.aload_n 0, 1), (.getfield 39, 3), (.bipush 7, 2), (.iaload, 1), (.if_icmp .lt 15, 3), (.iload_n 3, 1), (.aload_n 0, 1), (.getfield 21, 3), (.iconst 1, 1), (.invokevirtual 92, 3), (.if_icmp .le 5, 3)]), (23, [(.iconst 0, 1), (.ireturn, 1)]), (25, [(.iload_n 1, 1), (.istore 4, 2), (.iconst 0, 1), (.istore 5, 2)]), (31, [(.iload 5, 2), (.iload_n 3, 1), (.if_icmp .ge 40, 3), (.iload 4, 2), (.invokestatic 85, 3), (.ifCond .eq 16, 3), (.aload_n 0, 1), (.getfield 12, 3), (.iload 4, 2), (.invokevirtual 88, 3), (.iconst 3, 1), (.if_icmp .ne 5, 3)]), (58, [(.iconst 0, 1), (.ireturn, 1)]), (60, [(.iload 4, 2), (.iload_n 2, 1), (.invokestatic 95, 3), (.istore 4, 2), (.iinc 5 1, 3), (.goto (-40), 3)]), (74, [(.iconst 1, 1), (.ireturn, 1)])]
theorem oX9_maySetOut : ∀ pc, zdec cX9_maySetOut pc (zBf BX9_maySetOut pc) := zBf_ok (by decide +kernel)
theorem bX9_maySetOut_0 : zBf BX9_maySetOut 0 = [(.iload_n 3, 1), (.aload_n 0, 1), (.getfield 39, 3), (.bipush 7, 2), (.iaload, 1), (.if_icmp .lt 15, 3), (.iload_n 3, 1), (.aload_n 0, 1), (.getfield 21, 3), (.iconst 1, 1), (.invokevirtual 92, 3), (.if_icmp .le 5, 3)] := rfl
theorem bX9_maySetOut_23 : zBf BX9_maySetOut 23 = [(.iconst 0, 1), (.ireturn, 1)] := rfl
theorem bX9_maySetOut_25 : zBf BX9_maySetOut 25 = [(.iload_n 1, 1), (.istore 4, 2), (.iconst 0, 1), (.istore 5, 2)] := rfl
theorem bX9_maySetOut_31 : zBf BX9_maySetOut 31 = [(.iload 5, 2), (.iload_n 3, 1), (.if_icmp .ge 40, 3), (.iload 4, 2), (.invokestatic 85, 3), (.ifCond .eq 16, 3), (.aload_n 0, 1), (.getfield 12, 3), (.iload 4, 2), (.invokevirtual 88, 3), (.iconst 3, 1), (.if_icmp .ne 5, 3)] := rfl
theorem bX9_maySetOut_58 : zBf BX9_maySetOut 58 = [(.iconst 0, 1), (.ireturn, 1)] := rfl
theorem bX9_maySetOut_60 : zBf BX9_maySetOut 60 = [(.iload 4, 2), (.iload_n 2, 1), (.invokestatic 95, 3), (.istore 4, 2), (.iinc 5 1, 3), (.goto (-40), 3)] := rfl
theorem bX9_maySetOut_74 : zBf BX9_maySetOut 74 = [(.iconst 1, 1), (.ireturn, 1)] := rfl
theorem hX9_maySetOut : zMv yX9_maySetOut cX9_maySetOut 6 (some .boolean) := ⟨zG_mem (n := 1072) (by decide +kernel), zG_mem (n := 117) (by decide +kernel), zG_mem (n := 1070) (by decide +kernel), zG_mem (n := 1071) (by decide +kernel)⟩
def BX9_setOut : List (Nat × List (Instr × Nat)) := [(0, [(.iload_n 1, 1), (.istore 4, 2), (.iconst 0, 1), (.istore 5, 2)]), (6, [(.iload 5, 2), (.iload_n 3, 1), (.if_icmp .ge 34, 3), (.aload_n 0, 1), (.aload_n 0, 1), (.getfield 21, 3), (.invokevirtual 98, 3), (.iload 4, 2), (.aload_n 0, 1), (.getfield 43, 3), (.invokevirtual 102, 3), (.iload 4, 2), (.iload_n 2, 1), (.invokestatic 95, 3), (.istore 4, 2), (.iinc 5 1, 3), (.goto (-34), 3)]), (43, [(.aload_n 0, 1), (.getfield 21, 3), (.aload_n 0, 1), (.getfield 39, 3), (.bipush 7, 2), (.iaload, 1), (.iconst 1, 1), (.isub, 1), (.putfield 106, 3), (.aload_n 0, 1), (.getfield 21, 3), (.invokevirtual 109, 3), (.ireturn, 1)])]
theorem oX9_setOut : ∀ pc, zdec cX9_setOut pc (zBf BX9_setOut pc) := zBf_ok (by decide +kernel)
theorem bX9_setOut_0 : zBf BX9_setOut 0 = [(.iload_n 1, 1), (.istore 4, 2), (.iconst 0, 1), (.istore 5, 2)] := rfl
theorem bX9_setOut_6 : zBf BX9_setOut 6 = [(.iload 5, 2), (.iload_n 3, 1), (.if_icmp .ge 34, 3), (.aload_n 0, 1), (.aload_n 0, 1), (.getfield 21, 3), (.invokevirtual 98, 3), (.iload 4, 2), (.aload_n 0, 1), (.getfield 43, 3), (.invokevirtual 102, 3), (.iload 4, 2), (.iload_n 2, 1), (.invokestatic 95, 3), (.istore 4, 2), (.iinc 5 1, 3), (.goto (-34), 3)] := rfl
theorem bX9_setOut_43 : zBf BX9_setOut 43 = [(.aload_n 0, 1), (.getfield 21, 3), (.aload_n 0, 1), (.getfield 39, 3), (.bipush 7, 2), (.iaload, 1), (.iconst 1, 1), (.isub, 1), (.putfield 106, 3), (.aload_n 0, 1), (.getfield 21, 3), (.invokevirtual 109, 3), (.ireturn, 1)] := rfl
theorem hX9_setOut : zMv yX9_setOut cX9_setOut 6 (some .int) := ⟨zG_mem (n := 1083) (by decide +kernel), zG_mem (n := 117) (by decide +kernel), zG_mem (n := 1081) (by decide +kernel), zG_mem (n := 1082) (by decide +kernel)⟩
def BX9_putRail : List (Nat × List (Instr × Nat)) := [(0, [(.aload_n 0, 1), (.getfield 12, 3), (.iload_n 2, 1), (.invokevirtual 88, 3), (.iconst 2, 1), (.if_icmp .ne 12, 3), (.aload_n 0, 1), (.getfield 12, 3), (.iload_n 2, 1), (.iconst 0, 1), (.invokevirtual 81, 3)]), (21, [(.aload_n 0, 1), (.getfield 21, 3), (.iload_n 1, 1), (.iload_n 2, 1), (.invokevirtual 112, 3), (.aload_n 0, 1), (.getfield 35, 3), (.iload_n 1, 1), (.iload_n 2, 1), (.iload_n 3, 1), (.iconst 1, 1), (.invokevirtual 115, 3), (.return_, 1)])]
theorem oX9_putRail : ∀ pc, zdec cX9_putRail pc (zBf BX9_putRail pc) := zBf_ok (by decide +kernel)
theorem bX9_putRail_0 : zBf BX9_putRail 0 = [(.aload_n 0, 1), (.getfield 12, 3), (.iload_n 2, 1), (.invokevirtual 88, 3), (.iconst 2, 1), (.if_icmp .ne 12, 3), (.aload_n 0, 1), (.getfield 12, 3), (.iload_n 2, 1), (.iconst 0, 1), (.invokevirtual 81, 3)] := rfl
theorem bX9_putRail_21 : zBf BX9_putRail 21 = [(.aload_n 0, 1), (.getfield 21, 3), (.iload_n 1, 1), (.iload_n 2, 1), (.invokevirtual 112, 3), (.aload_n 0, 1), (.getfield 35, 3), (.iload_n 1, 1), (.iload_n 2, 1), (.iload_n 3, 1), (.iconst 1, 1), (.invokevirtual 115, 3), (.return_, 1)] := rfl
theorem hX9_putRail : zMv yX9_putRail cX9_putRail 4 none := ⟨zG_mem (n := 1091) (by decide +kernel), zG_mem (n := 117) (by decide +kernel), zG_mem (n := 1090) (by decide +kernel), zG_mem (n := 23) (by decide +kernel)⟩
def BX9_lastOfTrain : List (Nat × List (Instr × Nat)) := [(0, [(.aload_n 0, 1), (.getfield 21, 3), (.getfield 106, 3), (.aload_n 0, 1), (.getfield 39, 3), (.bipush 7, 2), (.iaload, 1), (.isub, 1), (.iconst 1, 1), (.iadd, 1), (.ireturn, 1)])]
theorem oX9_lastOfTrain : ∀ pc, zdec cX9_lastOfTrain pc (zBf BX9_lastOfTrain pc) := zBf_ok (by decide +kernel)
theorem bX9_lastOfTrain_0 : zBf BX9_lastOfTrain 0 = [(.aload_n 0, 1), (.getfield 21, 3), (.getfield 106, 3), (.aload_n 0, 1), (.getfield 39, 3), (.bipush 7, 2), (.iaload, 1), (.isub, 1), (.iconst 1, 1), (.iadd, 1), (.ireturn, 1)] := rfl
theorem hX9_lastOfTrain : zMv yX9_lastOfTrain cX9_lastOfTrain 1 (some .int) := ⟨zG_mem (n := 1130) (by decide +kernel), zG_mem (n := 117) (by decide +kernel), zG_mem (n := 1129) (by decide +kernel), zG_mem (n := 25) (by decide +kernel)⟩
def BX9_tryAct : List (Nat × List (Instr × Nat)) := [(0, [(.iload_n 1, 1), (.tableswitch 72 0 5 #[39, 44, 50, 56, 62, 67], 39)]), (40, [(.aload_n 0, 1), (.invokevirtual 119, 3), (.ireturn, 1)]), (45, [(.aload_n 0, 1), (.iload_n 2, 1), (.invokevirtual 122, 3), (.ireturn, 1)]), (51, [(.aload_n 0, 1), (.iconst 0, 1), (.invokevirtual 125, 3), (.ireturn, 1)]), (57, [(.aload_n 0, 1), (.iconst 1, 1), (.invokevirtual 125, 3), (.ireturn, 1)]), (63, [(.aload_n 0, 1), (.invokevirtual 129, 3), (.ireturn, 1)]), (68, [(.aload_n 0, 1), (.invokevirtual 132, 3), (.ireturn, 1)]), (73, [(.aload_n 0, 1), (.iload_n 2, 1), (.invokevirtual 135, 3), (.iconst 0, 1), (.ireturn, 1)])]
theorem oX9_tryAct : ∀ pc, zdec cX9_tryAct pc (zBf BX9_tryAct pc) := zBf_ok (by decide +kernel)
theorem bX9_tryAct_0 : zBf BX9_tryAct 0 = [(.iload_n 1, 1), (.tableswitch 72 0 5 #[39, 44, 50, 56, 62, 67], 39)] := rfl
theorem bX9_tryAct_40 : zBf BX9_tryAct 40 = [(.aload_n 0, 1), (.invokevirtual 119, 3), (.ireturn, 1)] := rfl
theorem bX9_tryAct_45 : zBf BX9_tryAct 45 = [(.aload_n 0, 1), (.iload_n 2, 1), (.invokevirtual 122, 3), (.ireturn, 1)] := rfl
theorem bX9_tryAct_51 : zBf BX9_tryAct 51 = [(.aload_n 0, 1), (.iconst 0, 1), (.invokevirtual 125, 3), (.ireturn, 1)] := rfl
theorem bX9_tryAct_57 : zBf BX9_tryAct 57 = [(.aload_n 0, 1), (.iconst 1, 1), (.invokevirtual 125, 3), (.ireturn, 1)] := rfl
theorem bX9_tryAct_63 : zBf BX9_tryAct 63 = [(.aload_n 0, 1), (.invokevirtual 129, 3), (.ireturn, 1)] := rfl
theorem bX9_tryAct_68 : zBf BX9_tryAct 68 = [(.aload_n 0, 1), (.invokevirtual 132, 3), (.ireturn, 1)] := rfl
theorem bX9_tryAct_73 : zBf BX9_tryAct 73 = [(.aload_n 0, 1), (.iload_n 2, 1), (.invokevirtual 135, 3), (.iconst 0, 1), (.ireturn, 1)] := rfl
theorem hX9_tryAct : zMv yX9_tryAct cX9_tryAct 3 (some .int) := ⟨zG_mem (n := 1303) (by decide +kernel), zG_mem (n := 117) (by decide +kernel), zG_mem (n := 1301) (by decide +kernel), zG_mem (n := 1302) (by decide +kernel)⟩
def BX9_tryLift : List (Nat × List (Instr × Nat)) := [(0, [(.aload_n 0, 1), (.getfield 28, 3), (.iconst 1, 1), (.invokevirtual 139, 3), (.istore_n 1, 1), (.aload_n 0, 1), (.getfield 21, 3), (.invokevirtual 142, 3), (.ifCond .eq 29, 3), (.aload_n 0, 1), (.invokevirtual 146, 3), (.ifCond .le 22, 3), (.aload_n 0, 1), (.getfield 21, 3), (.iconst 0, 1), (.aload_n 0, 1), (.getfield 12, 3), (.invokevirtual 149, 3), (.ifCond .ne 7, 3), (.iload_n 1, 1), (.ifCond .ne 6, 3)]), (45, [(.bipush (-2), 2), (.ireturn, 1)]), (48, [(.aload_n 0, 1), (.getfield 21, 3), (.iconst 0, 1), (.invokevirtual 153, 3), (.istore_n 2, 1), (.aload_n 0, 1), (.getfield 21, 3), (.iconst 0, 1), (.invokevirtual 156, 3), (.istore_n 3, 1), (.bipush 8, 2), (.iload_n 1, 1), (.invokestatic 159, 3), (.istore 4, 2), (.aload_n 0, 1), (.getfield 21, 3), (.invokevirtual 162, 3), (.aload_n 0, 1), (.getfield 39, 3), (.iconst 0, 1), (.getstatic 59, 3), (.iconst 0, 1), (.iaload, 1), (.aload_n 0, 1), (.getfield 39, 3), (.iconst 0, 1), (.iaload, 1), (.iconst 2, 1), (.iadd, 1), (.invokestatic 68, 3), (.iastore, 1), (.aload_n 0, 1), (.getfield 35, 3), (.iload_n 2, 1), (.iload_n 3, 1), (.aload_n 0, 1), (.getfield 43, 3), (.iload 4, 2), (.iadd, 1), (.iconst 0, 1), (.invokevirtual 115, 3), (.aload_n 0, 1), (.iload 4, 2), (.invokevirtual 135, 3), (.iload_n 2, 1), (.ireturn, 1)])]
theorem oX9_tryLift : ∀ pc, zdec cX9_tryLift pc (zBf BX9_tryLift pc) := zBf_ok (by decide +kernel)
theorem bX9_tryLift_0 : zBf BX9_tryLift 0 = [(.aload_n 0, 1), (.getfield 28, 3), (.iconst 1, 1), (.invokevirtual 139, 3), (.istore_n 1, 1), (.aload_n 0, 1), (.getfield 21, 3), (.invokevirtual 142, 3), (.ifCond .eq 29, 3), (.aload_n 0, 1), (.invokevirtual 146, 3), (.ifCond .le 22, 3), (.aload_n 0, 1), (.getfield 21, 3), (.iconst 0, 1), (.aload_n 0, 1), (.getfield 12, 3), (.invokevirtual 149, 3), (.ifCond .ne 7, 3), (.iload_n 1, 1), (.ifCond .ne 6, 3)] := rfl
theorem bX9_tryLift_45 : zBf BX9_tryLift 45 = [(.bipush (-2), 2), (.ireturn, 1)] := rfl
theorem bX9_tryLift_48 : zBf BX9_tryLift 48 = [(.aload_n 0, 1), (.getfield 21, 3), (.iconst 0, 1), (.invokevirtual 153, 3), (.istore_n 2, 1), (.aload_n 0, 1), (.getfield 21, 3), (.iconst 0, 1), (.invokevirtual 156, 3), (.istore_n 3, 1), (.bipush 8, 2), (.iload_n 1, 1), (.invokestatic 159, 3), (.istore 4, 2), (.aload_n 0, 1), (.getfield 21, 3), (.invokevirtual 162, 3), (.aload_n 0, 1), (.getfield 39, 3), (.iconst 0, 1), (.getstatic 59, 3), (.iconst 0, 1), (.iaload, 1), (.aload_n 0, 1), (.getfield 39, 3), (.iconst 0, 1), (.iaload, 1), (.iconst 2, 1), (.iadd, 1), (.invokestatic 68, 3), (.iastore, 1), (.aload_n 0, 1), (.getfield 35, 3), (.iload_n 2, 1), (.iload_n 3, 1), (.aload_n 0, 1), (.getfield 43, 3), (.iload 4, 2), (.iadd, 1), (.iconst 0, 1), (.invokevirtual 115, 3), (.aload_n 0, 1), (.iload 4, 2), (.invokevirtual 135, 3), (.iload_n 2, 1), (.ireturn, 1)] := rfl
theorem hX9_tryLift : zMv yX9_tryLift cX9_tryLift 5 (some .int) := ⟨zG_mem (n := 1121) (by decide +kernel), zG_mem (n := 117) (by decide +kernel), zG_mem (n := 1119) (by decide +kernel), zG_mem (n := 1120) (by decide +kernel)⟩
def BX9_tryLay : List (Nat × List (Instr × Nat)) := [(0, [(.aload_n 0, 1), (.getfield 21, 3), (.invokevirtual 109, 3), (.iload_n 1, 1), (.invokestatic 95, 3), (.istore_n 2, 1), (.aload_n 0, 1), (.getfield 21, 3), (.invokevirtual 98, 3), (.istore_n 3, 1), (.aload_n 0, 1), (.getfield 28, 3), (.iconst 2, 1), (.invokevirtual 139, 3), (.istore 4, 2), (.aload_n 0, 1), (.iload_n 2, 1), (.invokevirtual 165, 3), (.ifCond .eq 23, 3), (.iload_n 3, 1), (.iconst (-1), 1), (.if_icmp .eq 18, 3), (.aload_n 0, 1), (.getfield 39, 3), (.iconst 0, 1), (.iaload, 1), (.iconst 2, 1), (.if_icmp .lt 8, 3), (.iload 4, 2), (.ifCond .ne 6, 3)]), (58, [(.bipush (-2), 2), (.ireturn, 1)]), (61, [(.aload_n 0, 1), (.getfield 12, 3), (.iload_n 2, 1), (.invokevirtual 88, 3), (.istore 5, 2), (.iload 5, 2), (.invokestatic 168, 3), (.aload_n 0, 1), (.getfield 21, 3), (.getfield 171, 3), (.iadd, 1), (.iload 4, 2), (.invokestatic 159, 3), (.istore 6, 2), (.aload_n 0, 1), (.getfield 21, 3), (.iload_n 3, 1), (.invokevirtual 174, 3), (.iload 5, 2), (.invokestatic 177, 3), (.iadd, 1), (.istore 7, 2), (.aload_n 0, 1), (.getfield 39, 3), (.iconst 0, 1), (.dup2, 1), (.iaload, 1), (.iconst 2, 1), (.isub, 1), (.iastore, 1), (.iload 7, 2), (.bipush 99, 2), (.if_icmp .le 20, 3), (.aload_n 0, 1), (.getfield 21, 3), (.iload_n 3, 1), (.iconst 2, 1), (.invokevirtual 180, 3), (.aload_n 0, 1), (.iload 6, 2), (.invokevirtual 135, 3), (.iconst (-1), 1), (.ireturn, 1)]), (141, [(.aload_n 0, 1), (.getfield 21, 3), (.iload_n 3, 1), (.iload 7, 2), (.aload_n 0, 1), (.getfield 21, 3), (.iload_n 3, 1), (.invokevirtual 183, 3), (.aload_n 0, 1), (.getfield 12, 3), (.invokevirtual 186, 3), (.iconst 3, 1), (.irem, 1), (.iadd, 1), (.iconst 1, 1), (.isub, 1), (.invokevirtual 189, 3), (.aload_n 0, 1), (.iload_n 3, 1), (.iload_n 2, 1), (.aload_n 0, 1), (.getfield 43, 3), (.iload 6, 2), (.iadd, 1), (.invokevirtual 102, 3), (.aload_n 0, 1), (.iload 6, 2), (.invokevirtual 135, 3), (.iload_n 3, 1), (.ireturn, 1)])]
theorem oX9_tryLay : ∀ pc, zdec cX9_tryLay pc (zBf BX9_tryLay pc) := zBf_ok (by decide +kernel)
theorem bX9_tryLay_0 : zBf BX9_tryLay 0 = [(.aload_n 0, 1), (.getfield 21, 3), (.invokevirtual 109, 3), (.iload_n 1, 1), (.invokestatic 95, 3), (.istore_n 2, 1), (.aload_n 0, 1), (.getfield 21, 3), (.invokevirtual 98, 3), (.istore_n 3, 1), (.aload_n 0, 1), (.getfield 28, 3), (.iconst 2, 1), (.invokevirtual 139, 3), (.istore 4, 2), (.aload_n 0, 1), (.iload_n 2, 1), (.invokevirtual 165, 3), (.ifCond .eq 23, 3), (.iload_n 3, 1), (.iconst (-1), 1), (.if_icmp .eq 18, 3), (.aload_n 0, 1), (.getfield 39, 3), (.iconst 0, 1), (.iaload, 1), (.iconst 2, 1), (.if_icmp .lt 8, 3), (.iload 4, 2), (.ifCond .ne 6, 3)] := rfl
theorem bX9_tryLay_58 : zBf BX9_tryLay 58 = [(.bipush (-2), 2), (.ireturn, 1)] := rfl
theorem bX9_tryLay_61 : zBf BX9_tryLay 61 = [(.aload_n 0, 1), (.getfield 12, 3), (.iload_n 2, 1), (.invokevirtual 88, 3), (.istore 5, 2), (.iload 5, 2), (.invokestatic 168, 3), (.aload_n 0, 1), (.getfield 21, 3), (.getfield 171, 3), (.iadd, 1), (.iload 4, 2), (.invokestatic 159, 3), (.istore 6, 2), (.aload_n 0, 1), (.getfield 21, 3), (.iload_n 3, 1), (.invokevirtual 174, 3), (.iload 5, 2), (.invokestatic 177, 3), (.iadd, 1), (.istore 7, 2), (.aload_n 0, 1), (.getfield 39, 3), (.iconst 0, 1), (.dup2, 1), (.iaload, 1), (.iconst 2, 1), (.isub, 1), (.iastore, 1), (.iload 7, 2), (.bipush 99, 2), (.if_icmp .le 20, 3), (.aload_n 0, 1), (.getfield 21, 3), (.iload_n 3, 1), (.iconst 2, 1), (.invokevirtual 180, 3), (.aload_n 0, 1), (.iload 6, 2), (.invokevirtual 135, 3), (.iconst (-1), 1), (.ireturn, 1)] := rfl
theorem bX9_tryLay_141 : zBf BX9_tryLay 141 = [(.aload_n 0, 1), (.getfield 21, 3), (.iload_n 3, 1), (.iload 7, 2), (.aload_n 0, 1), (.getfield 21, 3), (.iload_n 3, 1), (.invokevirtual 183, 3), (.aload_n 0, 1), (.getfield 12, 3), (.invokevirtual 186, 3), (.iconst 3, 1), (.irem, 1), (.iadd, 1), (.iconst 1, 1), (.isub, 1), (.invokevirtual 189, 3), (.aload_n 0, 1), (.iload_n 3, 1), (.iload_n 2, 1), (.aload_n 0, 1), (.getfield 43, 3), (.iload 6, 2), (.iadd, 1), (.invokevirtual 102, 3), (.aload_n 0, 1), (.iload 6, 2), (.invokevirtual 135, 3), (.iload_n 3, 1), (.ireturn, 1)] := rfl
theorem hX9_tryLay : zMv yX9_tryLay cX9_tryLay 8 (some .int) := ⟨zG_mem (n := 1176) (by decide +kernel), zG_mem (n := 117) (by decide +kernel), zG_mem (n := 1174) (by decide +kernel), zG_mem (n := 1175) (by decide +kernel)⟩
def BX9_tryGo : List (Nat × List (Instr × Nat)) := [(0, [(.iload_n 1, 1), (.ifCond .eq 10, 3), (.aload_n 0, 1), (.invokevirtual 146, 3), (.goto 10, 3)]), (11, [(.aload_n 0, 1), (.getfield 21, 3), (.getfield 106, 3)]), (18, [(.istore_n 2, 1), (.iload_n 1, 1), (.ifCond .eq 9, 3), (.iload_n 2, 1), (.iconst 1, 1), (.isub, 1), (.goto 6, 3)]), (29, [(.iload_n 2, 1), (.iconst 1, 1), (.iadd, 1)]), (32, [(.istore_n 3, 1), (.aload_n 0, 1), (.getfield 21, 3), (.invokevirtual 142, 3), (.ifCond .eq 23, 3), (.aload_n 0, 1), (.getfield 21, 3), (.iload_n 3, 1), (.invokevirtual 153, 3), (.iconst (-1), 1), (.if_icmp .eq 11, 3), (.aload_n 0, 1), (.iload_n 3, 1), (.invokevirtual 192, 3), (.ifCond .eq 6, 3)]), (63, [(.bipush (-2), 2), (.ireturn, 1)]), (66, [(.aload_n 0, 1), (.getfield 39, 3), (.iconst 2, 1), (.iaload, 1), (.aload_n 0, 1), (.getfield 39, 3), (.iconst 4, 1), (.iaload, 1), (.if_icmp .lt 13, 3), (.aload_n 0, 1), (.getfield 39, 3), (.iconst 1, 1), (.iaload, 1), (.iconst 1, 1), (.if_icmp .ge 6, 3)]), (91, [(.bipush (-2), 2), (.ireturn, 1)]), (94, [(.aload_n 0, 1), (.getfield 39, 3), (.iconst 2, 1), (.dup2, 1), (.iaload, 1), (.aload_n 0, 1), (.getfield 39, 3), (.iconst 4, 1), (.iaload, 1), (.isub, 1), (.iastore, 1), (.aload_n 0, 1), (.getfield 39, 3), (.iconst 1, 1), (.dup2, 1), (.iaload, 1), (.iconst 1, 1), (.isub, 1), (.iastore, 1), (.aload_n 0, 1), (.getfield 21, 3), (.iload_n 2, 1), (.iload_n 3, 1), (.invokevirtual 195, 3), (.aload_n 0, 1), (.getfield 39, 3), (.iconst 5, 1), (.iaload, 1), (.if_icmp .le 21, 3), (.aload_n 0, 1), (.dup, 1), (.getfield 50, 3), (.iconst 1, 1), (.iadd, 1), (.putfield 50, 3), (.aload_n 0, 1), (.bipush 60, 2), (.invokevirtual 135, 3), (.iconst 0, 1), (.ireturn, 1)]), (155, [(.aload_n 0, 1), (.getfield 21, 3), (.dup, 1), (.getfield 106, 3), (.iload_n 1, 1), (.ifCond .eq 7, 3), (.iconst (-1), 1), (.goto 4, 3)]), (171, [(.iconst 1, 1)]), (172, [(.iadd, 1), (.putfield 106, 3), (.aload_n 0, 1), (.iconst 2, 1), (.invokevirtual 135, 3), (.iconst 1, 1), (.ireturn, 1)])]
theorem oX9_tryGo : ∀ pc, zdec cX9_tryGo pc (zBf BX9_tryGo pc) := zBf_ok (by decide +kernel)
theorem bX9_tryGo_0 : zBf BX9_tryGo 0 = [(.iload_n 1, 1), (.ifCond .eq 10, 3), (.aload_n 0, 1), (.invokevirtual 146, 3), (.goto 10, 3)] := rfl
theorem bX9_tryGo_11 : zBf BX9_tryGo 11 = [(.aload_n 0, 1), (.getfield 21, 3), (.getfield 106, 3)] := rfl
theorem bX9_tryGo_18 : zBf BX9_tryGo 18 = [(.istore_n 2, 1), (.iload_n 1, 1), (.ifCond .eq 9, 3), (.iload_n 2, 1), (.iconst 1, 1), (.isub, 1), (.goto 6, 3)] := rfl
theorem bX9_tryGo_29 : zBf BX9_tryGo 29 = [(.iload_n 2, 1), (.iconst 1, 1), (.iadd, 1)] := rfl
theorem bX9_tryGo_32 : zBf BX9_tryGo 32 = [(.istore_n 3, 1), (.aload_n 0, 1), (.getfield 21, 3), (.invokevirtual 142, 3), (.ifCond .eq 23, 3), (.aload_n 0, 1), (.getfield 21, 3), (.iload_n 3, 1), (.invokevirtual 153, 3), (.iconst (-1), 1), (.if_icmp .eq 11, 3), (.aload_n 0, 1), (.iload_n 3, 1), (.invokevirtual 192, 3), (.ifCond .eq 6, 3)] := rfl
theorem bX9_tryGo_63 : zBf BX9_tryGo 63 = [(.bipush (-2), 2), (.ireturn, 1)] := rfl
theorem bX9_tryGo_66 : zBf BX9_tryGo 66 = [(.aload_n 0, 1), (.getfield 39, 3), (.iconst 2, 1), (.iaload, 1), (.aload_n 0, 1), (.getfield 39, 3), (.iconst 4, 1), (.iaload, 1), (.if_icmp .lt 13, 3), (.aload_n 0, 1), (.getfield 39, 3), (.iconst 1, 1), (.iaload, 1), (.iconst 1, 1), (.if_icmp .ge 6, 3)] := rfl
theorem bX9_tryGo_91 : zBf BX9_tryGo 91 = [(.bipush (-2), 2), (.ireturn, 1)] := rfl
theorem bX9_tryGo_94 : zBf BX9_tryGo 94 = [(.aload_n 0, 1), (.getfield 39, 3), (.iconst 2, 1), (.dup2, 1), (.iaload, 1), (.aload_n 0, 1), (.getfield 39, 3), (.iconst 4, 1), (.iaload, 1), (.isub, 1), (.iastore, 1), (.aload_n 0, 1), (.getfield 39, 3), (.iconst 1, 1), (.dup2, 1), (.iaload, 1), (.iconst 1, 1), (.isub, 1), (.iastore, 1), (.aload_n 0, 1), (.getfield 21, 3), (.iload_n 2, 1), (.iload_n 3, 1), (.invokevirtual 195, 3), (.aload_n 0, 1), (.getfield 39, 3), (.iconst 5, 1), (.iaload, 1), (.if_icmp .le 21, 3), (.aload_n 0, 1), (.dup, 1), (.getfield 50, 3), (.iconst 1, 1), (.iadd, 1), (.putfield 50, 3), (.aload_n 0, 1), (.bipush 60, 2), (.invokevirtual 135, 3), (.iconst 0, 1), (.ireturn, 1)] := rfl
theorem bX9_tryGo_155 : zBf BX9_tryGo 155 = [(.aload_n 0, 1), (.getfield 21, 3), (.dup, 1), (.getfield 106, 3), (.iload_n 1, 1), (.ifCond .eq 7, 3), (.iconst (-1), 1), (.goto 4, 3)] := rfl
theorem bX9_tryGo_171 : zBf BX9_tryGo 171 = [(.iconst 1, 1)] := rfl
theorem bX9_tryGo_172 : zBf BX9_tryGo 172 = [(.iadd, 1), (.putfield 106, 3), (.aload_n 0, 1), (.iconst 2, 1), (.invokevirtual 135, 3), (.iconst 1, 1), (.ireturn, 1)] := rfl
theorem hX9_tryGo : zMv yX9_tryGo cX9_tryGo 4 (some .int) := ⟨zG_mem (n := 1207) (by decide +kernel), zG_mem (n := 117) (by decide +kernel), zG_mem (n := 1205) (by decide +kernel), zG_mem (n := 1206) (by decide +kernel)⟩
def BX9_isStuck : List (Nat × List (Instr × Nat)) := [(0, [(.aload_n 0, 1), (.getfield 21, 3), (.iload_n 1, 1), (.aload_n 0, 1), (.getfield 12, 3), (.invokevirtual 149, 3), (.ifCond .eq 5, 3), (.iconst 1, 1), (.ireturn, 1)]), (17, [(.aload_n 0, 1), (.invokevirtual 146, 3), (.istore_n 2, 1)]), (22, [(.iload_n 2, 1), (.aload_n 0, 1), (.getfield 21, 3), (.getfield 106, 3), (.if_icmp .gt 26, 3), (.aload_n 0, 1), (.getfield 21, 3), (.iload_n 2, 1), (.aload_n 0, 1), (.getfield 12, 3), (.invokevirtual 149, 3), (.ifCond .eq 5, 3), (.iconst 1, 1), (.ireturn, 1)]), (50, [(.iinc 2 1, 3), (.goto (-31), 3)]), (56, [(.iconst 0, 1), (.ireturn, 1)])]
theorem oX9_isStuck : ∀ pc, zdec cX9_isStuck pc (zBf BX9_isStuck pc) := zBf_ok (by decide +kernel)
theorem bX9_isStuck_0 : zBf BX9_isStuck 0 = [(.aload_n 0, 1), (.getfield 21, 3), (.iload_n 1, 1), (.aload_n 0, 1), (.getfield 12, 3), (.invokevirtual 149, 3), (.ifCond .eq 5, 3), (.iconst 1, 1), (.ireturn, 1)] := rfl
theorem bX9_isStuck_17 : zBf BX9_isStuck 17 = [(.aload_n 0, 1), (.invokevirtual 146, 3), (.istore_n 2, 1)] := rfl
theorem bX9_isStuck_22 : zBf BX9_isStuck 22 = [(.iload_n 2, 1), (.aload_n 0, 1), (.getfield 21, 3), (.getfield 106, 3), (.if_icmp .gt 26, 3), (.aload_n 0, 1), (.getfield 21, 3), (.iload_n 2, 1), (.aload_n 0, 1), (.getfield 12, 3), (.invokevirtual 149, 3), (.ifCond .eq 5, 3), (.iconst 1, 1), (.ireturn, 1)] := rfl
theorem bX9_isStuck_50 : zBf BX9_isStuck 50 = [(.iinc 2 1, 3), (.goto (-31), 3)] := rfl
theorem bX9_isStuck_56 : zBf BX9_isStuck 56 = [(.iconst 0, 1), (.ireturn, 1)] := rfl
theorem hX9_isStuck : zMv yX9_isStuck cX9_isStuck 3 (some .boolean) := ⟨zG_mem (n := 1211) (by decide +kernel), zG_mem (n := 117) (by decide +kernel), zG_mem (n := 1210) (by decide +kernel), zG_mem (n := 27) (by decide +kernel)⟩
def BX9_tryFill : List (Nat × List (Instr × Nat)) := [(0, [(.iconst 0, 1), (.istore_n 1, 1), (.aload_n 0, 1), (.invokevirtual 146, 3), (.istore_n 2, 1)]), (7, [(.iload_n 2, 1), (.aload_n 0, 1), (.getfield 21, 3), (.getfield 106, 3), (.if_icmp .gt 37, 3), (.iload_n 1, 1), (.ifCond .ne 21, 3), (.aload_n 0, 1), (.getfield 12, 3), (.aload_n 0, 1), (.getfield 21, 3), (.iload_n 2, 1), (.invokevirtual 156, 3), (.invokevirtual 198, 3), (.ifCond .eq 7, 3)]), (40, [(.iconst 1, 1), (.goto 4, 3)]), (44, [(.iconst 0, 1)]), (45, [(.istore_n 1, 1), (.iinc 2 1, 3), (.goto (-42), 3)]), (52, [(.aload_n 0, 1), (.getfield 21, 3), (.invokevirtual 142, 3), (.ifCond .eq 7, 3), (.iload_n 1, 1), (.ifCond .ne 6, 3)]), (66, [(.bipush (-2), 2), (.ireturn, 1)]), (69, [(.aload_n 0, 1), (.getfield 39, 3), (.iconst 3, 1), (.iaload, 1), (.aload_n 0, 1), (.getfield 39, 3), (.iconst 2, 1), (.iaload, 1), (.isub, 1), (.istore_n 2, 1), (.aload_n 0, 1), (.getfield 39, 3), (.iconst 2, 1), (.aload_n 0, 1), (.getfield 39, 3), (.iconst 3, 1), (.iaload, 1), (.iastore, 1), (.aload_n 0, 1), (.bipush 15, 2), (.invokevirtual 135, 3), (.iload_n 2, 1), (.ireturn, 1)])]
theorem oX9_tryFill : ∀ pc, zdec cX9_tryFill pc (zBf BX9_tryFill pc) := zBf_ok (by decide +kernel)
theorem bX9_tryFill_0 : zBf BX9_tryFill 0 = [(.iconst 0, 1), (.istore_n 1, 1), (.aload_n 0, 1), (.invokevirtual 146, 3), (.istore_n 2, 1)] := rfl
theorem bX9_tryFill_7 : zBf BX9_tryFill 7 = [(.iload_n 2, 1), (.aload_n 0, 1), (.getfield 21, 3), (.getfield 106, 3), (.if_icmp .gt 37, 3), (.iload_n 1, 1), (.ifCond .ne 21, 3), (.aload_n 0, 1), (.getfield 12, 3), (.aload_n 0, 1), (.getfield 21, 3), (.iload_n 2, 1), (.invokevirtual 156, 3), (.invokevirtual 198, 3), (.ifCond .eq 7, 3)] := rfl
theorem bX9_tryFill_40 : zBf BX9_tryFill 40 = [(.iconst 1, 1), (.goto 4, 3)] := rfl
theorem bX9_tryFill_44 : zBf BX9_tryFill 44 = [(.iconst 0, 1)] := rfl
theorem bX9_tryFill_45 : zBf BX9_tryFill 45 = [(.istore_n 1, 1), (.iinc 2 1, 3), (.goto (-42), 3)] := rfl
theorem bX9_tryFill_52 : zBf BX9_tryFill 52 = [(.aload_n 0, 1), (.getfield 21, 3), (.invokevirtual 142, 3), (.ifCond .eq 7, 3), (.iload_n 1, 1), (.ifCond .ne 6, 3)] := rfl
theorem bX9_tryFill_66 : zBf BX9_tryFill 66 = [(.bipush (-2), 2), (.ireturn, 1)] := rfl
theorem bX9_tryFill_69 : zBf BX9_tryFill 69 = [(.aload_n 0, 1), (.getfield 39, 3), (.iconst 3, 1), (.iaload, 1), (.aload_n 0, 1), (.getfield 39, 3), (.iconst 2, 1), (.iaload, 1), (.isub, 1), (.istore_n 2, 1), (.aload_n 0, 1), (.getfield 39, 3), (.iconst 2, 1), (.aload_n 0, 1), (.getfield 39, 3), (.iconst 3, 1), (.iaload, 1), (.iastore, 1), (.aload_n 0, 1), (.bipush 15, 2), (.invokevirtual 135, 3), (.iload_n 2, 1), (.ireturn, 1)] := rfl
theorem hX9_tryFill : zMv yX9_tryFill cX9_tryFill 3 (some .int) := ⟨zG_mem (n := 1224) (by decide +kernel), zG_mem (n := 117) (by decide +kernel), zG_mem (n := 1222) (by decide +kernel), zG_mem (n := 1223) (by decide +kernel)⟩
def BX9_tryDig : List (Nat × List (Instr × Nat)) := [(0, [(.aload_n 0, 1), (.getfield 28, 3), (.iconst 3, 1), (.invokevirtual 139, 3), (.istore_n 1, 1), (.aload_n 0, 1), (.getfield 21, 3), (.aload_n 0, 1), (.getfield 12, 3), (.invokevirtual 201, 3), (.istore_n 2, 1), (.iload_n 2, 1), (.iconst (-1), 1), (.if_icmp .eq 7, 3), (.iload_n 1, 1), (.ifCond .ne 6, 3)]), (30, [(.bipush (-2), 2), (.ireturn, 1)]), (33, [(.aload_n 0, 1), (.getfield 21, 3), (.iload_n 2, 1), (.invokevirtual 156, 3), (.istore_n 3, 1), (.aload_n 0, 1), (.getfield 12, 3), (.iload_n 3, 1), (.iconst 0, 1), (.invokevirtual 81, 3), (.aload_n 0, 1), (.bipush 25, 2), (.iload_n 1, 1), (.invokestatic 159, 3), (.invokevirtual 135, 3), (.iload_n 3, 1), (.ireturn, 1)])]
theorem oX9_tryDig : ∀ pc, zdec cX9_tryDig pc (zBf BX9_tryDig pc) := zBf_ok (by decide +kernel)
theorem bX9_tryDig_0 : zBf BX9_tryDig 0 = [(.aload_n 0, 1), (.getfield 28, 3), (.iconst 3, 1), (.invokevirtual 139, 3), (.istore_n 1, 1), (.aload_n 0, 1), (.getfield 21, 3), (.aload_n 0, 1), (.getfield 12, 3), (.invokevirtual 201, 3), (.istore_n 2, 1), (.iload_n 2, 1), (.iconst (-1), 1), (.if_icmp .eq 7, 3), (.iload_n 1, 1), (.ifCond .ne 6, 3)] := rfl
theorem bX9_tryDig_30 : zBf BX9_tryDig 30 = [(.bipush (-2), 2), (.ireturn, 1)] := rfl
theorem bX9_tryDig_33 : zBf BX9_tryDig 33 = [(.aload_n 0, 1), (.getfield 21, 3), (.iload_n 2, 1), (.invokevirtual 156, 3), (.istore_n 3, 1), (.aload_n 0, 1), (.getfield 12, 3), (.iload_n 3, 1), (.iconst 0, 1), (.invokevirtual 81, 3), (.aload_n 0, 1), (.bipush 25, 2), (.iload_n 1, 1), (.invokestatic 159, 3), (.invokevirtual 135, 3), (.iload_n 3, 1), (.ireturn, 1)] := rfl
theorem hX9_tryDig : zMv yX9_tryDig cX9_tryDig 4 (some .int) := ⟨zG_mem (n := 1241) (by decide +kernel), zG_mem (n := 117) (by decide +kernel), zG_mem (n := 1239) (by decide +kernel), zG_mem (n := 1240) (by decide +kernel)⟩
def BX9_pass : List (Nat × List (Instr × Nat)) := [(0, [(.aload_n 0, 1), (.getfield 43, 3), (.istore_n 2, 1), (.aload_n 0, 1), (.getfield 43, 3), (.iload_n 1, 1), (.iadd, 1), (.istore_n 3, 1), (.aload_n 0, 1), (.iload_n 3, 1), (.putfield 43, 3), (.aload_n 0, 1), (.getfield 28, 3), (.invokevirtual 205, 3), (.bipush 20, 2), (.iadd, 1), (.iconst 1, 1), (.isub, 1), (.bipush 20, 2), (.idiv, 1), (.istore 4, 2), (.iload_n 2, 1), (.bipush 60, 2), (.idiv, 1), (.iconst 1, 1), (.iadd, 1), (.istore 5, 2)]), (42, [(.iload 5, 2), (.iload_n 3, 1), (.bipush 60, 2), (.idiv, 1), (.if_icmp .gt 56, 3), (.aload_n 0, 1), (.getfield 39, 3), (.iconst 2, 1), (.iaload, 1), (.iload 4, 2), (.if_icmp .ge 20, 3), (.aload_n 0, 1), (.getfield 47, 3), (.iconst (-1), 1), (.if_icmp .ne 12, 3), (.aload_n 0, 1), (.iload 5, 2), (.bipush 60, 2), (.imul, 1), (.putfield 47, 3)]), (79, [(.aload_n 0, 1), (.getfield 39, 3), (.iconst 2, 1), (.iconst 0, 1), (.aload_n 0, 1), (.getfield 39, 3), (.iconst 2, 1), (.iaload, 1), (.iload 4, 2), (.isub, 1), (.invokestatic 74, 3), (.iastore, 1), (.iinc 5 1, 3), (.goto (-59), 3)]), (104, [(.iload_n 2, 1), (.sipush 1440, 3), (.idiv, 1), (.iconst 1, 1), (.iadd, 1), (.istore 5, 2)]), (113, [(.iload 5, 2), (.iload_n 3, 1), (.sipush 1440, 3), (.idiv, 1), (.if_icmp .gt 23, 3), (.aload_n 0, 1), (.getfield 12, 3), (.aload_n 0, 1), (.getfield 39, 3), (.bipush 6, 2), (.iaload, 1), (.invokevirtual 208, 3), (.iinc 5 1, 3), (.goto (-27), 3)]), (143, [(.return_, 1)])]
theorem oX9_pass : ∀ pc, zdec cX9_pass pc (zBf BX9_pass pc) := zBf_ok (by decide +kernel)
theorem bX9_pass_0 : zBf BX9_pass 0 = [(.aload_n 0, 1), (.getfield 43, 3), (.istore_n 2, 1), (.aload_n 0, 1), (.getfield 43, 3), (.iload_n 1, 1), (.iadd, 1), (.istore_n 3, 1), (.aload_n 0, 1), (.iload_n 3, 1), (.putfield 43, 3), (.aload_n 0, 1), (.getfield 28, 3), (.invokevirtual 205, 3), (.bipush 20, 2), (.iadd, 1), (.iconst 1, 1), (.isub, 1), (.bipush 20, 2), (.idiv, 1), (.istore 4, 2), (.iload_n 2, 1), (.bipush 60, 2), (.idiv, 1), (.iconst 1, 1), (.iadd, 1), (.istore 5, 2)] := rfl
theorem bX9_pass_42 : zBf BX9_pass 42 = [(.iload 5, 2), (.iload_n 3, 1), (.bipush 60, 2), (.idiv, 1), (.if_icmp .gt 56, 3), (.aload_n 0, 1), (.getfield 39, 3), (.iconst 2, 1), (.iaload, 1), (.iload 4, 2), (.if_icmp .ge 20, 3), (.aload_n 0, 1), (.getfield 47, 3), (.iconst (-1), 1), (.if_icmp .ne 12, 3), (.aload_n 0, 1), (.iload 5, 2), (.bipush 60, 2), (.imul, 1), (.putfield 47, 3)] := rfl
theorem bX9_pass_79 : zBf BX9_pass 79 = [(.aload_n 0, 1), (.getfield 39, 3), (.iconst 2, 1), (.iconst 0, 1), (.aload_n 0, 1), (.getfield 39, 3), (.iconst 2, 1), (.iaload, 1), (.iload 4, 2), (.isub, 1), (.invokestatic 74, 3), (.iastore, 1), (.iinc 5 1, 3), (.goto (-59), 3)] := rfl
theorem bX9_pass_104 : zBf BX9_pass 104 = [(.iload_n 2, 1), (.sipush 1440, 3), (.idiv, 1), (.iconst 1, 1), (.iadd, 1), (.istore 5, 2)] := rfl
theorem bX9_pass_113 : zBf BX9_pass 113 = [(.iload 5, 2), (.iload_n 3, 1), (.sipush 1440, 3), (.idiv, 1), (.if_icmp .gt 23, 3), (.aload_n 0, 1), (.getfield 12, 3), (.aload_n 0, 1), (.getfield 39, 3), (.bipush 6, 2), (.iaload, 1), (.invokevirtual 208, 3), (.iinc 5 1, 3), (.goto (-27), 3)] := rfl
theorem bX9_pass_143 : zBf BX9_pass 143 = [(.return_, 1)] := rfl
theorem hX9_pass : zMv yX9_pass cX9_pass 6 none := ⟨zG_mem (n := 1148) (by decide +kernel), zG_mem (n := 117) (by decide +kernel), zG_mem (n := 1146) (by decide +kernel), zG_mem (n := 1147) (by decide +kernel)⟩
def BX9_factOf : List (Nat × List (Instr × Nat)) := [(0, [(.iload_n 1, 1), (.tableswitch 148 0 7 #[47, 54, 61, 68, 77, 109, 128, 139], 47)]), (48, [(.aload_n 0, 1), (.getfield 39, 3), (.iconst 2, 1), (.iaload, 1), (.ireturn, 1)]), (55, [(.aload_n 0, 1), (.getfield 39, 3), (.iconst 1, 1), (.iaload, 1), (.ireturn, 1)]), (62, [(.aload_n 0, 1), (.getfield 39, 3), (.iconst 0, 1), (.iaload, 1), (.ireturn, 1)]), (69, [(.aload_n 0, 1), (.getfield 21, 3), (.iconst 1, 1), (.invokevirtual 92, 3), (.ireturn, 1)]), (78, [(.aload_n 0, 1), (.getfield 21, 3), (.invokevirtual 142, 3), (.ifCond .eq 23, 3), (.aload_n 0, 1), (.getfield 21, 3), (.getfield 171, 3), (.iconst 1, 1), (.isub, 1), (.aload_n 0, 1), (.getfield 21, 3), (.getfield 106, 3), (.isub, 1), (.goto 4, 3)]), (108, [(.iconst 0, 1)]), (109, [(.ireturn, 1)]), (110, [(.aload_n 0, 1), (.getfield 21, 3), (.invokevirtual 142, 3), (.ifCond .eq 10, 3), (.aload_n 0, 1), (.invokevirtual 146, 3), (.goto 4, 3)]), (127, [(.iconst 0, 1)]), (128, [(.ireturn, 1)]), (129, [(.aload_n 0, 1), (.getfield 43, 3), (.bipush 60, 2), (.idiv, 1), (.bipush 24, 2), (.irem, 1), (.ireturn, 1)]), (140, [(.aload_n 0, 1), (.getfield 43, 3), (.sipush 1440, 3), (.idiv, 1), (.ireturn, 1)]), (149, [(.iconst 0, 1), (.ireturn, 1)])]
theorem oX9_factOf : ∀ pc, zdec cX9_factOf pc (zBf BX9_factOf pc) := zBf_ok (by decide +kernel)
theorem bX9_factOf_0 : zBf BX9_factOf 0 = [(.iload_n 1, 1), (.tableswitch 148 0 7 #[47, 54, 61, 68, 77, 109, 128, 139], 47)] := rfl
theorem bX9_factOf_48 : zBf BX9_factOf 48 = [(.aload_n 0, 1), (.getfield 39, 3), (.iconst 2, 1), (.iaload, 1), (.ireturn, 1)] := rfl
theorem bX9_factOf_55 : zBf BX9_factOf 55 = [(.aload_n 0, 1), (.getfield 39, 3), (.iconst 1, 1), (.iaload, 1), (.ireturn, 1)] := rfl
theorem bX9_factOf_62 : zBf BX9_factOf 62 = [(.aload_n 0, 1), (.getfield 39, 3), (.iconst 0, 1), (.iaload, 1), (.ireturn, 1)] := rfl
theorem bX9_factOf_69 : zBf BX9_factOf 69 = [(.aload_n 0, 1), (.getfield 21, 3), (.iconst 1, 1), (.invokevirtual 92, 3), (.ireturn, 1)] := rfl
theorem bX9_factOf_78 : zBf BX9_factOf 78 = [(.aload_n 0, 1), (.getfield 21, 3), (.invokevirtual 142, 3), (.ifCond .eq 23, 3), (.aload_n 0, 1), (.getfield 21, 3), (.getfield 171, 3), (.iconst 1, 1), (.isub, 1), (.aload_n 0, 1), (.getfield 21, 3), (.getfield 106, 3), (.isub, 1), (.goto 4, 3)] := rfl
theorem bX9_factOf_108 : zBf BX9_factOf 108 = [(.iconst 0, 1)] := rfl
theorem bX9_factOf_109 : zBf BX9_factOf 109 = [(.ireturn, 1)] := rfl
theorem bX9_factOf_110 : zBf BX9_factOf 110 = [(.aload_n 0, 1), (.getfield 21, 3), (.invokevirtual 142, 3), (.ifCond .eq 10, 3), (.aload_n 0, 1), (.invokevirtual 146, 3), (.goto 4, 3)] := rfl
theorem bX9_factOf_127 : zBf BX9_factOf 127 = [(.iconst 0, 1)] := rfl
theorem bX9_factOf_128 : zBf BX9_factOf 128 = [(.ireturn, 1)] := rfl
theorem bX9_factOf_129 : zBf BX9_factOf 129 = [(.aload_n 0, 1), (.getfield 43, 3), (.bipush 60, 2), (.idiv, 1), (.bipush 24, 2), (.irem, 1), (.ireturn, 1)] := rfl
theorem bX9_factOf_140 : zBf BX9_factOf 140 = [(.aload_n 0, 1), (.getfield 43, 3), (.sipush 1440, 3), (.idiv, 1), (.ireturn, 1)] := rfl
theorem bX9_factOf_149 : zBf BX9_factOf 149 = [(.iconst 0, 1), (.ireturn, 1)] := rfl
theorem hX9_factOf : zMv yX9_factOf cX9_factOf 2 (some .int) := ⟨zG_mem (n := 1290) (by decide +kernel), zG_mem (n := 117) (by decide +kernel), zG_mem (n := 1288) (by decide +kernel), zG_mem (n := 1289) (by decide +kernel)⟩
def BX9_tellOfRail : List (Nat × List (Instr × Nat)) := [(0, [(.iload_n 2, 1), (.tableswitch 67 0 3 #[31, 40, 49, 58], 31)]), (32, [(.aload_n 0, 1), (.getfield 21, 3), (.iload_n 1, 1), (.invokevirtual 174, 3), (.ireturn, 1)]), (41, [(.aload_n 0, 1), (.getfield 21, 3), (.iload_n 1, 1), (.invokevirtual 183, 3), (.ireturn, 1)]), (50, [(.aload_n 0, 1), (.getfield 21, 3), (.iload_n 1, 1), (.invokevirtual 211, 3), (.ireturn, 1)]), (59, [(.aload_n 0, 1), (.getfield 21, 3), (.iload_n 1, 1), (.invokevirtual 214, 3), (.ireturn, 1)]), (68, [(.aload_n 0, 1), (.getfield 35, 3), (.iload_n 1, 1), (.invokevirtual 217, 3), (.ireturn, 1)])]
theorem oX9_tellOfRail : ∀ pc, zdec cX9_tellOfRail pc (zBf BX9_tellOfRail pc) := zBf_ok (by decide +kernel)
theorem bX9_tellOfRail_0 : zBf BX9_tellOfRail 0 = [(.iload_n 2, 1), (.tableswitch 67 0 3 #[31, 40, 49, 58], 31)] := rfl
theorem bX9_tellOfRail_32 : zBf BX9_tellOfRail 32 = [(.aload_n 0, 1), (.getfield 21, 3), (.iload_n 1, 1), (.invokevirtual 174, 3), (.ireturn, 1)] := rfl
theorem bX9_tellOfRail_41 : zBf BX9_tellOfRail 41 = [(.aload_n 0, 1), (.getfield 21, 3), (.iload_n 1, 1), (.invokevirtual 183, 3), (.ireturn, 1)] := rfl
theorem bX9_tellOfRail_50 : zBf BX9_tellOfRail 50 = [(.aload_n 0, 1), (.getfield 21, 3), (.iload_n 1, 1), (.invokevirtual 211, 3), (.ireturn, 1)] := rfl
theorem bX9_tellOfRail_59 : zBf BX9_tellOfRail 59 = [(.aload_n 0, 1), (.getfield 21, 3), (.iload_n 1, 1), (.invokevirtual 214, 3), (.ireturn, 1)] := rfl
theorem bX9_tellOfRail_68 : zBf BX9_tellOfRail 68 = [(.aload_n 0, 1), (.getfield 35, 3), (.iload_n 1, 1), (.invokevirtual 217, 3), (.ireturn, 1)] := rfl
theorem hX9_tellOfRail : zMv yX9_tellOfRail cX9_tellOfRail 3 (some .int) := ⟨zG_mem (n := 1322) (by decide +kernel), zG_mem (n := 117) (by decide +kernel), zG_mem (n := 1320) (by decide +kernel), zG_mem (n := 1321) (by decide +kernel)⟩
def BX9_copyFrom : List (Nat × List (Instr × Nat)) := [(0, [(.aload_n 0, 1), (.getfield 12, 3), (.aload_n 1, 1), (.getfield 12, 3), (.invokevirtual 220, 3), (.aload_n 0, 1), (.getfield 21, 3), (.aload_n 1, 1), (.getfield 21, 3), (.invokevirtual 224, 3), (.aload_n 0, 1), (.getfield 28, 3), (.aload_n 1, 1), (.getfield 28, 3), (.invokevirtual 227, 3), (.aload_n 0, 1), (.getfield 35, 3), (.aload_n 1, 1), (.getfield 35, 3), (.invokevirtual 230, 3), (.aload_n 1, 1), (.getfield 39, 3), (.iconst 0, 1), (.aload_n 0, 1), (.getfield 39, 3), (.iconst 0, 1), (.aload_n 0, 1), (.getfield 39, 3), (.arraylength, 1), (.invokestatic 233, 3), (.aload_n 0, 1), (.aload_n 1, 1), (.getfield 43, 3), (.putfield 43, 3), (.aload_n 0, 1), (.aload_n 1, 1), (.getfield 47, 3), (.putfield 47, 3), (.aload_n 0, 1), (.aload_n 1, 1), (.getfield 50, 3), (.putfield 50, 3), (.aload_n 0, 1), (.aload_n 1, 1), (.getfield 53, 3), (.putfield 53, 3), (.aload_n 0, 1), (.aload_n 1, 1), (.getfield 56, 3), (.putfield 56, 3), (.return_, 1)])]
theorem oX9_copyFrom : ∀ pc, zdec cX9_copyFrom pc (zBf BX9_copyFrom pc) := zBf_ok (by decide +kernel)
theorem bX9_copyFrom_0 : zBf BX9_copyFrom 0 = [(.aload_n 0, 1), (.getfield 12, 3), (.aload_n 1, 1), (.getfield 12, 3), (.invokevirtual 220, 3), (.aload_n 0, 1), (.getfield 21, 3), (.aload_n 1, 1), (.getfield 21, 3), (.invokevirtual 224, 3), (.aload_n 0, 1), (.getfield 28, 3), (.aload_n 1, 1), (.getfield 28, 3), (.invokevirtual 227, 3), (.aload_n 0, 1), (.getfield 35, 3), (.aload_n 1, 1), (.getfield 35, 3), (.invokevirtual 230, 3), (.aload_n 1, 1), (.getfield 39, 3), (.iconst 0, 1), (.aload_n 0, 1), (.getfield 39, 3), (.iconst 0, 1), (.aload_n 0, 1), (.getfield 39, 3), (.arraylength, 1), (.invokestatic 233, 3), (.aload_n 0, 1), (.aload_n 1, 1), (.getfield 43, 3), (.putfield 43, 3), (.aload_n 0, 1), (.aload_n 1, 1), (.getfield 47, 3), (.putfield 47, 3), (.aload_n 0, 1), (.aload_n 1, 1), (.getfield 50, 3), (.putfield 50, 3), (.aload_n 0, 1), (.aload_n 1, 1), (.getfield 53, 3), (.putfield 53, 3), (.aload_n 0, 1), (.aload_n 1, 1), (.getfield 56, 3), (.putfield 56, 3), (.return_, 1)] := rfl
theorem hX9_copyFrom : zMv yX9_copyFrom cX9_copyFrom 2 none := ⟨zG_mem (n := 593) (by decide +kernel), zG_mem (n := 117) (by decide +kernel), zG_mem (n := 591) (by decide +kernel), zG_mem (n := 592) (by decide +kernel)⟩
theorem kX9_220 : Cond.methodLink RX9 220 yX0_copyFrom ∈ zTbl ∨ ∃ host, Cond.methodLinkNest RX9 220 yX0_copyFrom host ∈ lw_tbl := Or.inl (zG_mem (n := 594) (by decide +kernel))
theorem kX9_224 : Cond.methodLink RX9 224 yX8_copyFrom ∈ zTbl ∨ ∃ host, Cond.methodLinkNest RX9 224 yX8_copyFrom host ∈ lw_tbl := Or.inl (zG_mem (n := 601) (by decide +kernel))
theorem kX9_227 : Cond.methodLink RX9 227 yX1_copyFrom ∈ zTbl ∨ ∃ host, Cond.methodLinkNest RX9 227 yX1_copyFrom host ∈ lw_tbl := Or.inl (zG_mem (n := 606) (by decide +kernel))
theorem kX9_230 : Cond.methodLink RX9 230 yX2_copyFrom ∈ zTbl ∨ ∃ host, Cond.methodLinkNest RX9 230 yX2_copyFrom host ∈ lw_tbl := Or.inl (zG_mem (n := 611) (by decide +kernel))
theorem kX9_74 : Cond.methodLink RX9 74 yJ9_max_7cf53 ∈ zTbl ∨ ∃ host, Cond.methodLinkNest RX9 74 yJ9_max_7cf53 host ∈ lw_tbl := Or.inl (zG_mem (n := 936) (by decide +kernel))
theorem kX9_68 : Cond.methodLink RX9 68 yJ9_min_7cf53 ∈ zTbl ∨ ∃ host, Cond.methodLinkNest RX9 68 yJ9_min_7cf53 host ∈ lw_tbl := Or.inl (zG_mem (n := 937) (by decide +kernel))
theorem kX9_77 : Cond.methodLink RX9 77 yX8_covers ∈ zTbl ∨ ∃ host, Cond.methodLinkNest RX9 77 yX8_covers host ∈ lw_tbl := Or.inl (zG_mem (n := 940) (by decide +kernel))
theorem kX9_81 : Cond.methodLink RX9 81 yX0_put ∈ zTbl ∨ ∃ host, Cond.methodLinkNest RX9 81 yX0_put host ∈ lw_tbl := Or.inl (zG_mem (n := 944) (by decide +kernel))
theorem kX9_92 : Cond.methodLink RX9 92 yX8_inState ∈ zTbl ∨ ∃ host, Cond.methodLinkNest RX9 92 yX8_inState host ∈ lw_tbl := Or.inl (zG_mem (n := 1073) (by decide +kernel))
theorem kX9_85 : Cond.methodLink RX9 85 yX10_isCell ∈ zTbl ∨ ∃ host, Cond.methodLinkNest RX9 85 yX10_isCell host ∈ lw_tbl := Or.inr ⟨"SandRails", zT_mem (n := 1074) (by decide +kernel)⟩
theorem kX9_88 : Cond.methodLink RX9 88 yX0_kindOf ∈ zTbl ∨ ∃ host, Cond.methodLinkNest RX9 88 yX0_kindOf host ∈ lw_tbl := Or.inl (zG_mem (n := 1075) (by decide +kernel))
theorem kX9_95 : Cond.methodLink RX9 95 yX10_beside ∈ zTbl ∨ ∃ host, Cond.methodLinkNest RX9 95 yX10_beside host ∈ lw_tbl := Or.inr ⟨"SandRails", zT_mem (n := 1076) (by decide +kernel)⟩
theorem kX9_98 : Cond.methodLink RX9 98 yX8_leastCarried ∈ zTbl ∨ ∃ host, Cond.methodLinkNest RX9 98 yX8_leastCarried host ∈ lw_tbl := Or.inl (zG_mem (n := 1084) (by decide +kernel))
theorem kX9_102 : Cond.methodLink RX9 102 yX9_putRail ∈ zTbl ∨ ∃ host, Cond.methodLinkNest RX9 102 yX9_putRail host ∈ lw_tbl := Or.inl (zG_mem (n := 1088) (by decide +kernel))
theorem kX9_112 : Cond.methodLink RX9 112 yX8_append ∈ zTbl ∨ ∃ host, Cond.methodLinkNest RX9 112 yX8_append host ∈ lw_tbl := Or.inl (zG_mem (n := 1092) (by decide +kernel))
theorem kX9_115 : Cond.methodLink RX9 115 yX2_note ∈ zTbl ∨ ∃ host, Cond.methodLinkNest RX9 115 yX2_note host ∈ lw_tbl := Or.inl (zG_mem (n := 1096) (by decide +kernel))
theorem kX9_109 : Cond.methodLink RX9 109 yX8_head ∈ zTbl ∨ ∃ host, Cond.methodLinkNest RX9 109 yX8_head host ∈ lw_tbl := Or.inl (zG_mem (n := 1107) (by decide +kernel))
theorem kX9_139 : Cond.methodLink RX9 139 yX1_strengthAt ∈ zTbl ∨ ∃ host, Cond.methodLinkNest RX9 139 yX1_strengthAt host ∈ lw_tbl := Or.inl (zG_mem (n := 1122) (by decide +kernel))
theorem kX9_142 : Cond.methodLink RX9 142 yX8_isSetOut ∈ zTbl ∨ ∃ host, Cond.methodLinkNest RX9 142 yX8_isSetOut host ∈ lw_tbl := Or.inl (zG_mem (n := 1126) (by decide +kernel))
theorem kX9_146 : Cond.methodLink RX9 146 yX9_lastOfTrain ∈ zTbl ∨ ∃ host, Cond.methodLinkNest RX9 146 yX9_lastOfTrain host ∈ lw_tbl := Or.inl (zG_mem (n := 1127) (by decide +kernel))
theorem kX9_149 : Cond.methodLink RX9 149 yX8_isBuried ∈ zTbl ∨ ∃ host, Cond.methodLinkNest RX9 149 yX8_isBuried host ∈ lw_tbl := Or.inl (zG_mem (n := 1131) (by decide +kernel))
theorem kX9_153 : Cond.methodLink RX9 153 yX8_railAt ∈ zTbl ∨ ∃ host, Cond.methodLinkNest RX9 153 yX8_railAt host ∈ lw_tbl := Or.inl (zG_mem (n := 1132) (by decide +kernel))
theorem kX9_156 : Cond.methodLink RX9 156 yX8_cellAt ∈ zTbl ∨ ∃ host, Cond.methodLinkNest RX9 156 yX8_cellAt host ∈ lw_tbl := Or.inl (zG_mem (n := 1133) (by decide +kernel))
theorem kX9_159 : Cond.methodLink RX9 159 yX10_workMinutes ∈ zTbl ∨ ∃ host, Cond.methodLinkNest RX9 159 yX10_workMinutes host ∈ lw_tbl := Or.inr ⟨"SandRails", zT_mem (n := 1134) (by decide +kernel)⟩
theorem kX9_162 : Cond.methodLink RX9 162 yX8_removeTail ∈ zTbl ∨ ∃ host, Cond.methodLinkNest RX9 162 yX8_removeTail host ∈ lw_tbl := Or.inl (zG_mem (n := 1137) (by decide +kernel))
theorem kX9_135 : Cond.methodLink RX9 135 yX9_pass ∈ zTbl ∨ ∃ host, Cond.methodLinkNest RX9 135 yX9_pass host ∈ lw_tbl := Or.inl (zG_mem (n := 1145) (by decide +kernel))
theorem kX9_205 : Cond.methodLink RX9 205 yX1_allMen ∈ zTbl ∨ ∃ host, Cond.methodLinkNest RX9 205 yX1_allMen host ∈ lw_tbl := Or.inl (zG_mem (n := 1149) (by decide +kernel))
theorem kX9_208 : Cond.methodLink RX9 208 yX0_night ∈ zTbl ∨ ∃ host, Cond.methodLinkNest RX9 208 yX0_night host ∈ lw_tbl := Or.inl (zG_mem (n := 1150) (by decide +kernel))
theorem kX9_165 : Cond.methodLink RX9 165 yX9_isFree ∈ zTbl ∨ ∃ host, Cond.methodLinkNest RX9 165 yX9_isFree host ∈ lw_tbl := Or.inl (zG_mem (n := 1177) (by decide +kernel))
theorem kX9_168 : Cond.methodLink RX9 168 yX10_minutesOn ∈ zTbl ∨ ∃ host, Cond.methodLinkNest RX9 168 yX10_minutesOn host ∈ lw_tbl := Or.inr ⟨"SandRails", zT_mem (n := 1181) (by decide +kernel)⟩
theorem kX9_174 : Cond.methodLink RX9 174 yX8_wearOf ∈ zTbl ∨ ∃ host, Cond.methodLinkNest RX9 174 yX8_wearOf host ∈ lw_tbl := Or.inl (zG_mem (n := 1184) (by decide +kernel))
theorem kX9_177 : Cond.methodLink RX9 177 yX10_wearOn ∈ zTbl ∨ ∃ host, Cond.methodLinkNest RX9 177 yX10_wearOn host ∈ lw_tbl := Or.inr ⟨"SandRails", zT_mem (n := 1185) (by decide +kernel)⟩
theorem kX9_180 : Cond.methodLink RX9 180 yX8_changeState ∈ zTbl ∨ ∃ host, Cond.methodLinkNest RX9 180 yX8_changeState host ∈ lw_tbl := Or.inl (zG_mem (n := 1188) (by decide +kernel))
theorem kX9_183 : Cond.methodLink RX9 183 yX8_widthOf ∈ zTbl ∨ ∃ host, Cond.methodLinkNest RX9 183 yX8_widthOf host ∈ lw_tbl := Or.inl (zG_mem (n := 1189) (by decide +kernel))
theorem kX9_186 : Cond.methodLink RX9 186 yX0_draw ∈ zTbl ∨ ∃ host, Cond.methodLinkNest RX9 186 yX0_draw host ∈ lw_tbl := Or.inl (zG_mem (n := 1190) (by decide +kernel))
theorem kX9_189 : Cond.methodLink RX9 189 yX8_age ∈ zTbl ∨ ∃ host, Cond.methodLinkNest RX9 189 yX8_age host ∈ lw_tbl := Or.inl (zG_mem (n := 1191) (by decide +kernel))
theorem kX9_192 : Cond.methodLink RX9 192 yX9_isStuck ∈ zTbl ∨ ∃ host, Cond.methodLinkNest RX9 192 yX9_isStuck host ∈ lw_tbl := Or.inl (zG_mem (n := 1208) (by decide +kernel))
theorem kX9_195 : Cond.methodLink RX9 195 yX8_jointOf ∈ zTbl ∨ ∃ host, Cond.methodLinkNest RX9 195 yX8_jointOf host ∈ lw_tbl := Or.inl (zG_mem (n := 1212) (by decide +kernel))
theorem kX9_198 : Cond.methodLink RX9 198 yX0_isBesideWell ∈ zTbl ∨ ∃ host, Cond.methodLinkNest RX9 198 yX0_isBesideWell host ∈ lw_tbl := Or.inl (zG_mem (n := 1225) (by decide +kernel))
theorem kX9_201 : Cond.methodLink RX9 201 yX8_firstBuried ∈ zTbl ∨ ∃ host, Cond.methodLinkNest RX9 201 yX8_firstBuried host ∈ lw_tbl := Or.inl (zG_mem (n := 1242) (by decide +kernel))
theorem kX9_119 : Cond.methodLink RX9 119 yX9_tryLift ∈ zTbl ∨ ∃ host, Cond.methodLinkNest RX9 119 yX9_tryLift host ∈ lw_tbl := Or.inl (zG_mem (n := 1304) (by decide +kernel))
theorem kX9_122 : Cond.methodLink RX9 122 yX9_tryLay ∈ zTbl ∨ ∃ host, Cond.methodLinkNest RX9 122 yX9_tryLay host ∈ lw_tbl := Or.inl (zG_mem (n := 1305) (by decide +kernel))
theorem kX9_125 : Cond.methodLink RX9 125 yX9_tryGo ∈ zTbl ∨ ∃ host, Cond.methodLinkNest RX9 125 yX9_tryGo host ∈ lw_tbl := Or.inl (zG_mem (n := 1306) (by decide +kernel))
theorem kX9_129 : Cond.methodLink RX9 129 yX9_tryFill ∈ zTbl ∨ ∃ host, Cond.methodLinkNest RX9 129 yX9_tryFill host ∈ lw_tbl := Or.inl (zG_mem (n := 1307) (by decide +kernel))
theorem kX9_132 : Cond.methodLink RX9 132 yX9_tryDig ∈ zTbl ∨ ∃ host, Cond.methodLinkNest RX9 132 yX9_tryDig host ∈ lw_tbl := Or.inl (zG_mem (n := 1308) (by decide +kernel))
theorem kX9_211 : Cond.methodLink RX9 211 yX8_cellOf ∈ zTbl ∨ ∃ host, Cond.methodLinkNest RX9 211 yX8_cellOf host ∈ lw_tbl := Or.inl (zG_mem (n := 1323) (by decide +kernel))
theorem kX9_214 : Cond.methodLink RX9 214 yX8_stateOf ∈ zTbl ∨ ∃ host, Cond.methodLinkNest RX9 214 yX8_stateOf host ∈ lw_tbl := Or.inl (zG_mem (n := 1327) (by decide +kernel))
theorem kX9_217 : Cond.methodLink RX9 217 yX2_cellsUnder ∈ zTbl ∨ ∃ host, Cond.methodLinkNest RX9 217 yX2_cellsUnder host ∈ lw_tbl := Or.inl (zG_mem (n := 1328) (by decide +kernel))
def BX10_init : List (Nat × List (Instr × Nat)) := [(0, [(.aload_n 0, 1), (.invokespecial 1, 3), (.aload_n 0, 1), (.new 7, 3), (.dup, 1), (.invokespecial 9, 3), (.putfield 10, 3), (.aload_n 0, 1), (.new 7, 3), (.dup, 1), (.invokespecial 9, 3), (.putfield 16, 3), (.aload_n 0, 1), (.iconst 0, 1), (.putfield 19, 3), (.aload_n 0, 1), (.new 23, 3), (.dup, 1), (.invokespecial 25, 3), (.putfield 26, 3), (.aload_n 0, 1), (.new 30, 3), (.dup, 1), (.invokespecial 32, 3), (.putfield 33, 3), (.aload_n 0, 1), (.iconst 4, 1), (.anewarray 37, 3), (.putfield 39, 3), (.aload_n 0, 1), (.iconst (-1), 1), (.putfield 43, 3), (.aload_n 0, 1), (.new 47, 3), (.dup, 1), (.invokespecial 49, 3), (.putfield 50, 3), (.aload_n 0, 1), (.new 54, 3), (.dup, 1), (.invokespecial 56, 3), (.putfield 57, 3), (.iconst 0, 1), (.istore_n 1, 1)]), (90, [(.iload_n 1, 1), (.iconst 4, 1), (.if_icmp .ge 22, 3), (.aload_n 0, 1), (.getfield 39, 3), (.iload_n 1, 1), (.new 37, 3), (.dup, 1), (.invokespecial 61, 3), (.aastore, 1), (.iinc 1 1, 3), (.goto (-21), 3)]), (114, [(.return_, 1)])]
theorem oX10_init : ∀ pc, zdec cX10_init pc (zBf BX10_init pc) := zBf_ok (by decide +kernel)
theorem bX10_init_0 : zBf BX10_init 0 = [(.aload_n 0, 1), (.invokespecial 1, 3), (.aload_n 0, 1), (.new 7, 3), (.dup, 1), (.invokespecial 9, 3), (.putfield 10, 3), (.aload_n 0, 1), (.new 7, 3), (.dup, 1), (.invokespecial 9, 3), (.putfield 16, 3), (.aload_n 0, 1), (.iconst 0, 1), (.putfield 19, 3), (.aload_n 0, 1), (.new 23, 3), (.dup, 1), (.invokespecial 25, 3), (.putfield 26, 3), (.aload_n 0, 1), (.new 30, 3), (.dup, 1), (.invokespecial 32, 3), (.putfield 33, 3), (.aload_n 0, 1), (.iconst 4, 1), (.anewarray 37, 3), (.putfield 39, 3), (.aload_n 0, 1), (.iconst (-1), 1), (.putfield 43, 3), (.aload_n 0, 1), (.new 47, 3), (.dup, 1), (.invokespecial 49, 3), (.putfield 50, 3), (.aload_n 0, 1), (.new 54, 3), (.dup, 1), (.invokespecial 56, 3), (.putfield 57, 3), (.iconst 0, 1), (.istore_n 1, 1)] := rfl
theorem bX10_init_90 : zBf BX10_init 90 = [(.iload_n 1, 1), (.iconst 4, 1), (.if_icmp .ge 22, 3), (.aload_n 0, 1), (.getfield 39, 3), (.iload_n 1, 1), (.new 37, 3), (.dup, 1), (.invokespecial 61, 3), (.aastore, 1), (.iinc 1 1, 3), (.goto (-21), 3)] := rfl
theorem bX10_init_114 : zBf BX10_init 114 = [(.return_, 1)] := rfl
def BX10_feed : List (Nat × List (Instr × Nat)) := [(0, [(.aload_n 0, 1), (.getfield 33, 3), (.getfield 62, 3), (.astore 6, 2), (.aload 6, 2), (.invokevirtual 66, 3), (.ifCond .ne 5, 3), (.iconst (-1), 1), (.ireturn, 1)]), (19, [(.aload 6, 2), (.iload_n 1, 1), (.invokevirtual 72, 3), (.aload 6, 2), (.iload_n 2, 1), (.invokevirtual 72, 3), (.aload 6, 2), (.iload_n 3, 1), (.invokevirtual 72, 3), (.aload 6, 2), (.iload 4, 2), (.invokevirtual 72, 3), (.aload 6, 2), (.iload 5, 2), (.invokevirtual 72, 3), (.aload 6, 2), (.getfield 76, 3), (.ireturn, 1)])]
theorem oX10_feed : ∀ pc, zdec cX10_feed pc (zBf BX10_feed pc) := zBf_ok (by decide +kernel)
theorem bX10_feed_0 : zBf BX10_feed 0 = [(.aload_n 0, 1), (.getfield 33, 3), (.getfield 62, 3), (.astore 6, 2), (.aload 6, 2), (.invokevirtual 66, 3), (.ifCond .ne 5, 3), (.iconst (-1), 1), (.ireturn, 1)] := rfl
theorem bX10_feed_19 : zBf BX10_feed 19 = [(.aload 6, 2), (.iload_n 1, 1), (.invokevirtual 72, 3), (.aload 6, 2), (.iload_n 2, 1), (.invokevirtual 72, 3), (.aload 6, 2), (.iload_n 3, 1), (.invokevirtual 72, 3), (.aload 6, 2), (.iload 4, 2), (.invokevirtual 72, 3), (.aload 6, 2), (.iload 5, 2), (.invokevirtual 72, 3), (.aload 6, 2), (.getfield 76, 3), (.ireturn, 1)] := rfl
theorem hX10_feed : zMv yX10_feed cX10_feed 7 (some .int) := ⟨zG_mem (n := 462) (by decide +kernel), zG_mem (n := 116) (by decide +kernel), zG_mem (n := 460) (by decide +kernel), zG_mem (n := 461) (by decide +kernel)⟩
def BX10_end : List (Nat × List (Instr × Nat)) := [(0, [(.aload_n 0, 1), (.getfield 33, 3), (.getfield 62, 3), (.iload_n 1, 1), (.invokevirtual 79, 3), (.ireturn, 1)])]
theorem oX10_end : ∀ pc, zdec cX10_end pc (zBf BX10_end pc) := zBf_ok (by decide +kernel)
theorem bX10_end_0 : zBf BX10_end 0 = [(.aload_n 0, 1), (.getfield 33, 3), (.getfield 62, 3), (.iload_n 1, 1), (.invokevirtual 79, 3), (.ireturn, 1)] := rfl
theorem hX10_end : zMv yX10_end cX10_end 2 (some .boolean) := ⟨zG_mem (n := 474) (by decide +kernel), zG_mem (n := 116) (by decide +kernel), zG_mem (n := 472) (by decide +kernel), zG_mem (n := 473) (by decide +kernel)⟩
def BX10_orders : List (Nat × List (Instr × Nat)) := [(0, [(.aload_n 0, 1), (.aload_n 0, 1), (.getfield 33, 3), (.invokevirtual 83, 3), (.putfield 43, 3), (.aload_n 0, 1), (.getfield 33, 3), (.getfield 62, 3), (.iconst 0, 1), (.invokevirtual 79, 3), (.pop, 1), (.aload_n 0, 1), (.getfield 43, 3), (.iconst (-1), 1), (.if_icmp .eq 13, 3), (.new 87, 3), (.dup, 1), (.ldc 89, 2), (.invokespecial 91, 3), (.athrow, 1)]), (41, [(.aload_n 0, 1), (.getfield 10, 3), (.getfield 94, 3), (.istore_n 1, 1), (.iload_n 1, 1), (.ifCond .lt 8, 3), (.iload_n 1, 1), (.iconst 4, 1), (.if_icmp .lt 13, 3)]), (58, [(.new 97, 3), (.dup, 1), (.ldc 99, 2), (.invokespecial 101, 3), (.athrow, 1)]), (68, [(.aload_n 0, 1), (.getfield 39, 3), (.iload_n 1, 1), (.aaload, 1), (.ifnull 19, 3), (.aload_n 0, 1), (.getfield 39, 3), (.iload_n 1, 1), (.aaload, 1), (.aload_n 0, 1), (.getfield 33, 3), (.getfield 102, 3), (.invokevirtual 106, 3)]), (93, [(.aload_n 0, 1), (.getfield 10, 3), (.iload_n 1, 1), (.iconst 1, 1), (.iadd, 1), (.putfield 94, 3), (.iload_n 1, 1), (.ireturn, 1)])]
theorem oX10_orders : ∀ pc, zdec cX10_orders pc (zBf BX10_orders pc) := zBf_ok (by decide +kernel)
theorem bX10_orders_0 : zBf BX10_orders 0 = [(.aload_n 0, 1), (.aload_n 0, 1), (.getfield 33, 3), (.invokevirtual 83, 3), (.putfield 43, 3), (.aload_n 0, 1), (.getfield 33, 3), (.getfield 62, 3), (.iconst 0, 1), (.invokevirtual 79, 3), (.pop, 1), (.aload_n 0, 1), (.getfield 43, 3), (.iconst (-1), 1), (.if_icmp .eq 13, 3), (.new 87, 3), (.dup, 1), (.ldc 89, 2), (.invokespecial 91, 3), (.athrow, 1)] := rfl
theorem bX10_orders_41 : zBf BX10_orders 41 = [(.aload_n 0, 1), (.getfield 10, 3), (.getfield 94, 3), (.istore_n 1, 1), (.iload_n 1, 1), (.ifCond .lt 8, 3), (.iload_n 1, 1), (.iconst 4, 1), (.if_icmp .lt 13, 3)] := rfl
theorem bX10_orders_58 : zBf BX10_orders 58 = [(.new 97, 3), (.dup, 1), (.ldc 99, 2), (.invokespecial 101, 3), (.athrow, 1)] := rfl
theorem bX10_orders_68 : zBf BX10_orders 68 = [(.aload_n 0, 1), (.getfield 39, 3), (.iload_n 1, 1), (.aaload, 1), (.ifnull 19, 3), (.aload_n 0, 1), (.getfield 39, 3), (.iload_n 1, 1), (.aaload, 1), (.aload_n 0, 1), (.getfield 33, 3), (.getfield 102, 3), (.invokevirtual 106, 3)] := rfl
theorem bX10_orders_93 : zBf BX10_orders 93 = [(.aload_n 0, 1), (.getfield 10, 3), (.iload_n 1, 1), (.iconst 1, 1), (.iadd, 1), (.putfield 94, 3), (.iload_n 1, 1), (.ireturn, 1)] := rfl
theorem hX10_orders : zMv yX10_orders cX10_orders 2 (some .int) := ⟨zG_mem (n := 629) (by decide +kernel), zG_mem (n := 116) (by decide +kernel), zG_mem (n := 627) (by decide +kernel), zG_mem (n := 628) (by decide +kernel)⟩
def BX10_fault : List (Nat × List (Instr × Nat)) := [(0, [(.aload_n 0, 1), (.getfield 43, 3), (.ireturn, 1)])]
theorem oX10_fault : ∀ pc, zdec cX10_fault pc (zBf BX10_fault pc) := zBf_ok (by decide +kernel)
theorem bX10_fault_0 : zBf BX10_fault 0 = [(.aload_n 0, 1), (.getfield 43, 3), (.ireturn, 1)] := rfl
theorem hX10_fault : zMv yX10_fault cX10_fault 1 (some .int) := ⟨zG_mem (n := 482) (by decide +kernel), zG_mem (n := 116) (by decide +kernel), zG_mem (n := 480) (by decide +kernel), zG_mem (n := 481) (by decide +kernel)⟩
def BX10_run : List (Nat × List (Instr × Nat)) := [(0, [(.iload_n 1, 1), (.ifCond .lt 19, 3), (.iload_n 1, 1), (.aload_n 0, 1), (.getfield 10, 3), (.getfield 94, 3), (.if_icmp .ge 8, 3), (.iload_n 1, 1), (.iconst 4, 1), (.if_icmp .lt 13, 3)]), (20, [(.new 110, 3), (.dup, 1), (.ldc 112, 2), (.invokespecial 114, 3), (.athrow, 1)]), (30, [(.iload_n 2, 1), (.iconst 1, 1), (.if_icmp .lt 10, 3), (.iload_n 2, 1), (.sipush 200, 3), (.if_icmp .le 13, 3)]), (42, [(.new 87, 3), (.dup, 1), (.ldc 115, 2), (.invokespecial 91, 3), (.athrow, 1)]), (52, [(.aload_n 0, 1), (.getfield 39, 3), (.iload_n 1, 1), (.aaload, 1), (.astore_n 3, 1), (.aload_n 3, 1), (.ifnonnull 7, 3), (.iconst 0, 1), (.goto 16, 3)]), (67, [(.aload_n 0, 1), (.getfield 50, 3), (.aload_n 0, 1), (.getfield 10, 3), (.aload_n 3, 1), (.iload_n 2, 1), (.invokevirtual 117, 3)]), (80, [(.ireturn, 1)])]
theorem oX10_run : ∀ pc, zdec cX10_run pc (zBf BX10_run pc) := zBf_ok (by decide +kernel)
theorem bX10_run_0 : zBf BX10_run 0 = [(.iload_n 1, 1), (.ifCond .lt 19, 3), (.iload_n 1, 1), (.aload_n 0, 1), (.getfield 10, 3), (.getfield 94, 3), (.if_icmp .ge 8, 3), (.iload_n 1, 1), (.iconst 4, 1), (.if_icmp .lt 13, 3)] := rfl
theorem bX10_run_20 : zBf BX10_run 20 = [(.new 110, 3), (.dup, 1), (.ldc 112, 2), (.invokespecial 114, 3), (.athrow, 1)] := rfl
theorem bX10_run_30 : zBf BX10_run 30 = [(.iload_n 2, 1), (.iconst 1, 1), (.if_icmp .lt 10, 3), (.iload_n 2, 1), (.sipush 200, 3), (.if_icmp .le 13, 3)] := rfl
theorem bX10_run_42 : zBf BX10_run 42 = [(.new 87, 3), (.dup, 1), (.ldc 115, 2), (.invokespecial 91, 3), (.athrow, 1)] := rfl
theorem bX10_run_52 : zBf BX10_run 52 = [(.aload_n 0, 1), (.getfield 39, 3), (.iload_n 1, 1), (.aaload, 1), (.astore_n 3, 1), (.aload_n 3, 1), (.ifnonnull 7, 3), (.iconst 0, 1), (.goto 16, 3)] := rfl
theorem bX10_run_67 : zBf BX10_run 67 = [(.aload_n 0, 1), (.getfield 50, 3), (.aload_n 0, 1), (.getfield 10, 3), (.aload_n 3, 1), (.iload_n 2, 1), (.invokevirtual 117, 3)] := rfl
theorem bX10_run_80 : zBf BX10_run 80 = [(.ireturn, 1)] := rfl
theorem hX10_run : zMv yX10_run cX10_run 4 (some .int) := ⟨zG_mem (n := 1262) (by decide +kernel), zG_mem (n := 116) (by decide +kernel), zG_mem (n := 1260) (by decide +kernel), zG_mem (n := 1261) (by decide +kernel)⟩
def BX10_where : List (Nat × List (Instr × Nat)) := [(0, [(.aload_n 0, 1), (.getfield 10, 3), (.getfield 121, 3), (.ireturn, 1)])]
theorem oX10_where : ∀ pc, zdec cX10_where pc (zBf BX10_where pc) := zBf_ok (by decide +kernel)
theorem bX10_where_0 : zBf BX10_where 0 = [(.aload_n 0, 1), (.getfield 10, 3), (.getfield 121, 3), (.ireturn, 1)] := rfl
theorem hX10_where : zMv yX10_where cX10_where 1 (some .int) := ⟨zG_mem (n := 486) (by decide +kernel), zG_mem (n := 116) (by decide +kernel), zG_mem (n := 484) (by decide +kernel), zG_mem (n := 485) (by decide +kernel)⟩
def BX10_ground : List (Nat × List (Instr × Nat)) := [(0, [(.iload_n 1, 1), (.invokestatic 124, 3), (.ifCond .eq 10, 3), (.iload_n 2, 1), (.invokestatic 124, 3), (.ifCond .ne 13, 3)]), (14, [(.new 110, 3), (.dup, 1), (.ldc 127, 2), (.invokespecial 114, 3), (.athrow, 1)]), (24, [(.iload_n 3, 1), (.ifCond .lt 8, 3), (.iload_n 3, 1), (.iconst 3, 1), (.if_icmp .le 13, 3)]), (33, [(.new 87, 3), (.dup, 1), (.ldc 129, 2), (.invokespecial 91, 3), (.athrow, 1)]), (43, [(.aload_n 0, 1), (.getfield 10, 3), (.iload_n 1, 1), (.iload_n 2, 1), (.iload_n 3, 1), (.invokevirtual 131, 3), (.ireturn, 1)])]
theorem oX10_ground : ∀ pc, zdec cX10_ground pc (zBf BX10_ground pc) := zBf_ok (by decide +kernel)
theorem bX10_ground_0 : zBf BX10_ground 0 = [(.iload_n 1, 1), (.invokestatic 124, 3), (.ifCond .eq 10, 3), (.iload_n 2, 1), (.invokestatic 124, 3), (.ifCond .ne 13, 3)] := rfl
theorem bX10_ground_14 : zBf BX10_ground 14 = [(.new 110, 3), (.dup, 1), (.ldc 127, 2), (.invokespecial 114, 3), (.athrow, 1)] := rfl
theorem bX10_ground_24 : zBf BX10_ground 24 = [(.iload_n 3, 1), (.ifCond .lt 8, 3), (.iload_n 3, 1), (.iconst 3, 1), (.if_icmp .le 13, 3)] := rfl
theorem bX10_ground_33 : zBf BX10_ground 33 = [(.new 87, 3), (.dup, 1), (.ldc 129, 2), (.invokespecial 91, 3), (.athrow, 1)] := rfl
theorem bX10_ground_43 : zBf BX10_ground 43 = [(.aload_n 0, 1), (.getfield 10, 3), (.iload_n 1, 1), (.iload_n 2, 1), (.iload_n 3, 1), (.invokevirtual 131, 3), (.ireturn, 1)] := rfl
theorem hX10_ground : zMv yX10_ground cX10_ground 4 (some .int) := ⟨zG_mem (n := 913) (by decide +kernel), zG_mem (n := 116) (by decide +kernel), zG_mem (n := 911) (by decide +kernel), zG_mem (n := 912) (by decide +kernel)⟩
def BX10_kind : List (Nat × List (Instr × Nat)) := [(0, [(.iload_n 1, 1), (.invokestatic 124, 3), (.ifCond .ne 13, 3), (.new 110, 3), (.dup, 1), (.ldc 127, 2), (.invokespecial 114, 3), (.athrow, 1)]), (17, [(.aload_n 0, 1), (.getfield 10, 3), (.getfield 135, 3), (.iload_n 1, 1), (.invokevirtual 138, 3), (.ireturn, 1)])]
theorem oX10_kind : ∀ pc, zdec cX10_kind pc (zBf BX10_kind pc) := zBf_ok (by decide +kernel)
theorem bX10_kind_0 : zBf BX10_kind 0 = [(.iload_n 1, 1), (.invokestatic 124, 3), (.ifCond .ne 13, 3), (.new 110, 3), (.dup, 1), (.ldc 127, 2), (.invokespecial 114, 3), (.athrow, 1)] := rfl
theorem bX10_kind_17 : zBf BX10_kind 17 = [(.aload_n 0, 1), (.getfield 10, 3), (.getfield 135, 3), (.iload_n 1, 1), (.invokevirtual 138, 3), (.ireturn, 1)] := rfl
theorem hX10_kind : zMv yX10_kind cX10_kind 2 (some .int) := ⟨zG_mem (n := 954) (by decide +kernel), zG_mem (n := 116) (by decide +kernel), zG_mem (n := 952) (by decide +kernel), zG_mem (n := 953) (by decide +kernel)⟩
def BX10_rail : List (Nat × List (Instr × Nat)) := [(0, [(.iload_n 1, 1), (.ifCond .lt 21, 3), (.iload_n 1, 1), (.bipush 99, 2), (.if_icmp .gt 15, 3), (.iload_n 2, 1), (.bipush (-9), 2), (.if_icmp .lt 9, 3), (.iload_n 2, 1), (.bipush 9, 2), (.if_icmp .le 13, 3)]), (22, [(.new 87, 3), (.dup, 1), (.ldc 142, 2), (.invokespecial 91, 3), (.athrow, 1)]), (32, [(.aload_n 0, 1), (.getfield 10, 3), (.getfield 144, 3), (.getfield 148, 3), (.bipush 16, 2), (.if_icmp .lt 13, 3), (.new 97, 3), (.dup, 1), (.ldc 153, 2), (.invokespecial 101, 3), (.athrow, 1)]), (57, [(.aload_n 0, 1), (.getfield 10, 3), (.getfield 144, 3), (.iload_n 1, 1), (.iload_n 2, 1), (.invokevirtual 155, 3), (.ireturn, 1)])]
theorem oX10_rail : ∀ pc, zdec cX10_rail pc (zBf BX10_rail pc) := zBf_ok (by decide +kernel)
theorem bX10_rail_0 : zBf BX10_rail 0 = [(.iload_n 1, 1), (.ifCond .lt 21, 3), (.iload_n 1, 1), (.bipush 99, 2), (.if_icmp .gt 15, 3), (.iload_n 2, 1), (.bipush (-9), 2), (.if_icmp .lt 9, 3), (.iload_n 2, 1), (.bipush 9, 2), (.if_icmp .le 13, 3)] := rfl
theorem bX10_rail_22 : zBf BX10_rail 22 = [(.new 87, 3), (.dup, 1), (.ldc 142, 2), (.invokespecial 91, 3), (.athrow, 1)] := rfl
theorem bX10_rail_32 : zBf BX10_rail 32 = [(.aload_n 0, 1), (.getfield 10, 3), (.getfield 144, 3), (.getfield 148, 3), (.bipush 16, 2), (.if_icmp .lt 13, 3), (.new 97, 3), (.dup, 1), (.ldc 153, 2), (.invokespecial 101, 3), (.athrow, 1)] := rfl
theorem bX10_rail_57 : zBf BX10_rail 57 = [(.aload_n 0, 1), (.getfield 10, 3), (.getfield 144, 3), (.iload_n 1, 1), (.iload_n 2, 1), (.invokevirtual 155, 3), (.ireturn, 1)] := rfl
theorem hX10_rail : zMv yX10_rail cX10_rail 3 (some .int) := ⟨zG_mem (n := 962) (by decide +kernel), zG_mem (n := 116) (by decide +kernel), zG_mem (n := 960) (by decide +kernel), zG_mem (n := 961) (by decide +kernel)⟩
def BX10_gang : List (Nat × List (Instr × Nat)) := [(0, [(.iload_n 1, 1), (.iconst 1, 1), (.if_icmp .lt 20, 3), (.iload_n 1, 1), (.bipush 9, 2), (.if_icmp .gt 14, 3), (.iload_n 2, 1), (.iconst 1, 1), (.if_icmp .lt 9, 3), (.iload_n 2, 1), (.bipush 30, 2), (.if_icmp .le 13, 3)]), (22, [(.new 87, 3), (.dup, 1), (.ldc 159, 2), (.invokespecial 91, 3), (.athrow, 1)]), (32, [(.aload_n 0, 1), (.getfield 10, 3), (.getfield 161, 3), (.getfield 165, 3), (.iconst 4, 1), (.if_icmp .lt 13, 3), (.new 97, 3), (.dup, 1), (.ldc 168, 2), (.invokespecial 101, 3), (.athrow, 1)]), (56, [(.aload_n 0, 1), (.getfield 10, 3), (.getfield 161, 3), (.iload_n 1, 1), (.iload_n 2, 1), (.invokevirtual 170, 3), (.ireturn, 1)])]
theorem oX10_gang : ∀ pc, zdec cX10_gang pc (zBf BX10_gang pc) := zBf_ok (by decide +kernel)
theorem bX10_gang_0 : zBf BX10_gang 0 = [(.iload_n 1, 1), (.iconst 1, 1), (.if_icmp .lt 20, 3), (.iload_n 1, 1), (.bipush 9, 2), (.if_icmp .gt 14, 3), (.iload_n 2, 1), (.iconst 1, 1), (.if_icmp .lt 9, 3), (.iload_n 2, 1), (.bipush 30, 2), (.if_icmp .le 13, 3)] := rfl
theorem bX10_gang_22 : zBf BX10_gang 22 = [(.new 87, 3), (.dup, 1), (.ldc 159, 2), (.invokespecial 91, 3), (.athrow, 1)] := rfl
theorem bX10_gang_32 : zBf BX10_gang 32 = [(.aload_n 0, 1), (.getfield 10, 3), (.getfield 161, 3), (.getfield 165, 3), (.iconst 4, 1), (.if_icmp .lt 13, 3), (.new 97, 3), (.dup, 1), (.ldc 168, 2), (.invokespecial 101, 3), (.athrow, 1)] := rfl
theorem bX10_gang_56 : zBf BX10_gang 56 = [(.aload_n 0, 1), (.getfield 10, 3), (.getfield 161, 3), (.iload_n 1, 1), (.iload_n 2, 1), (.invokevirtual 170, 3), (.ireturn, 1)] := rfl
theorem hX10_gang : zMv yX10_gang cX10_gang 3 (some .int) := ⟨zG_mem (n := 975) (by decide +kernel), zG_mem (n := 116) (by decide +kernel), zG_mem (n := 973) (by decide +kernel), zG_mem (n := 974) (by decide +kernel)⟩
def BX10_task : List (Nat × List (Instr × Nat)) := [(0, [(.aload_n 0, 1), (.getfield 10, 3), (.getfield 161, 3), (.iload_n 1, 1), (.invokevirtual 173, 3), (.ifCond .ne 13, 3), (.new 110, 3), (.dup, 1), (.ldc 176, 2), (.invokespecial 114, 3), (.athrow, 1)]), (24, [(.iload_n 2, 1), (.ifCond .lt 8, 3), (.iload_n 2, 1), (.iconst 3, 1), (.if_icmp .le 13, 3)]), (33, [(.new 87, 3), (.dup, 1), (.ldc 178, 2), (.invokespecial 91, 3), (.athrow, 1)]), (43, [(.aload_n 0, 1), (.getfield 10, 3), (.getfield 161, 3), (.iload_n 1, 1), (.iload_n 2, 1), (.invokevirtual 180, 3), (.ireturn, 1)])]
theorem oX10_task : ∀ pc, zdec cX10_task pc (zBf BX10_task pc) := zBf_ok (by decide +kernel)
theorem bX10_task_0 : zBf BX10_task 0 = [(.aload_n 0, 1), (.getfield 10, 3), (.getfield 161, 3), (.iload_n 1, 1), (.invokevirtual 173, 3), (.ifCond .ne 13, 3), (.new 110, 3), (.dup, 1), (.ldc 176, 2), (.invokespecial 114, 3), (.athrow, 1)] := rfl
theorem bX10_task_24 : zBf BX10_task 24 = [(.iload_n 2, 1), (.ifCond .lt 8, 3), (.iload_n 2, 1), (.iconst 3, 1), (.if_icmp .le 13, 3)] := rfl
theorem bX10_task_33 : zBf BX10_task 33 = [(.new 87, 3), (.dup, 1), (.ldc 178, 2), (.invokespecial 91, 3), (.athrow, 1)] := rfl
theorem bX10_task_43 : zBf BX10_task 43 = [(.aload_n 0, 1), (.getfield 10, 3), (.getfield 161, 3), (.iload_n 1, 1), (.iload_n 2, 1), (.invokevirtual 180, 3), (.ireturn, 1)] := rfl
theorem hX10_task : zMv yX10_task cX10_task 3 (some .int) := ⟨zG_mem (n := 988) (by decide +kernel), zG_mem (n := 116) (by decide +kernel), zG_mem (n := 986) (by decide +kernel), zG_mem (n := 987) (by decide +kernel)⟩
def BX10_store : List (Nat × List (Instr × Nat)) := [(0, [(.iload_n 1, 1), (.ifCond .lt 9, 3), (.iload_n 1, 1), (.bipush 8, 2), (.if_icmp .le 13, 3)]), (10, [(.new 183, 3), (.dup, 1), (.ldc 185, 2), (.invokespecial 187, 3), (.athrow, 1)]), (20, [(.aload_n 0, 1), (.getfield 10, 3), (.iload_n 1, 1), (.iload_n 2, 1), (.invokevirtual 188, 3), (.ifCond .ne 13, 3), (.new 87, 3), (.dup, 1), (.ldc 192, 2), (.invokespecial 91, 3), (.athrow, 1)]), (42, [(.iload_n 1, 1), (.bipush 7, 2), (.if_icmp .ne 26, 3), (.aload_n 0, 1), (.getfield 10, 3), (.getfield 144, 3), (.invokevirtual 194, 3), (.ifCond .eq 13, 3), (.new 197, 3), (.dup, 1), (.ldc 199, 2), (.invokespecial 201, 3), (.athrow, 1)]), (71, [(.aload_n 0, 1), (.getfield 10, 3), (.iload_n 1, 1), (.iload_n 2, 1), (.invokevirtual 202, 3), (.ireturn, 1)])]
theorem oX10_store : ∀ pc, zdec cX10_store pc (zBf BX10_store pc) := zBf_ok (by decide +kernel)
theorem bX10_store_0 : zBf BX10_store 0 = [(.iload_n 1, 1), (.ifCond .lt 9, 3), (.iload_n 1, 1), (.bipush 8, 2), (.if_icmp .le 13, 3)] := rfl
theorem bX10_store_10 : zBf BX10_store 10 = [(.new 183, 3), (.dup, 1), (.ldc 185, 2), (.invokespecial 187, 3), (.athrow, 1)] := rfl
theorem bX10_store_20 : zBf BX10_store 20 = [(.aload_n 0, 1), (.getfield 10, 3), (.iload_n 1, 1), (.iload_n 2, 1), (.invokevirtual 188, 3), (.ifCond .ne 13, 3), (.new 87, 3), (.dup, 1), (.ldc 192, 2), (.invokespecial 91, 3), (.athrow, 1)] := rfl
theorem bX10_store_42 : zBf BX10_store 42 = [(.iload_n 1, 1), (.bipush 7, 2), (.if_icmp .ne 26, 3), (.aload_n 0, 1), (.getfield 10, 3), (.getfield 144, 3), (.invokevirtual 194, 3), (.ifCond .eq 13, 3), (.new 197, 3), (.dup, 1), (.ldc 199, 2), (.invokespecial 201, 3), (.athrow, 1)] := rfl
theorem bX10_store_71 : zBf BX10_store 71 = [(.aload_n 0, 1), (.getfield 10, 3), (.iload_n 1, 1), (.iload_n 2, 1), (.invokevirtual 202, 3), (.ireturn, 1)] := rfl
theorem hX10_store : zMv yX10_store cX10_store 3 (some .int) := ⟨zG_mem (n := 1008) (by decide +kernel), zG_mem (n := 116) (by decide +kernel), zG_mem (n := 1006) (by decide +kernel), zG_mem (n := 1007) (by decide +kernel)⟩
def BX10_steal : List (Nat × List (Instr × Nat)) := [(0, [(.iload_n 1, 1), (.ifCond .ge 13, 3), (.new 87, 3), (.dup, 1), (.ldc 205, 2), (.invokespecial 91, 3), (.athrow, 1)]), (14, [(.aload_n 0, 1), (.getfield 10, 3), (.iload_n 1, 1), (.invokevirtual 207, 3), (.ireturn, 1)])]
theorem oX10_steal : ∀ pc, zdec cX10_steal pc (zBf BX10_steal pc) := zBf_ok (by decide +kernel)
theorem bX10_steal_0 : zBf BX10_steal 0 = [(.iload_n 1, 1), (.ifCond .ge 13, 3), (.new 87, 3), (.dup, 1), (.ldc 205, 2), (.invokespecial 91, 3), (.athrow, 1)] := rfl
theorem bX10_steal_14 : zBf BX10_steal 14 = [(.aload_n 0, 1), (.getfield 10, 3), (.iload_n 1, 1), (.invokevirtual 207, 3), (.ireturn, 1)] := rfl
theorem hX10_steal : zMv yX10_steal cX10_steal 2 (some .int) := ⟨zG_mem (n := 1429) (by decide +kernel), zG_mem (n := 116) (by decide +kernel), zG_mem (n := 1427) (by decide +kernel), zG_mem (n := 1428) (by decide +kernel)⟩
def BX10_lose : List (Nat × List (Instr × Nat)) := [(0, [(.aload_n 0, 1), (.getfield 10, 3), (.getfield 144, 3), (.iload_n 1, 1), (.invokevirtual 210, 3), (.ifCond .ne 13, 3), (.new 110, 3), (.dup, 1), (.ldc 213, 2), (.invokespecial 114, 3), (.athrow, 1)]), (24, [(.aload_n 0, 1), (.getfield 10, 3), (.getfield 144, 3), (.iload_n 1, 1), (.invokevirtual 215, 3), (.iconst 1, 1), (.if_icmp .eq 13, 3), (.new 197, 3), (.dup, 1), (.ldc 218, 2), (.invokespecial 201, 3), (.athrow, 1)]), (49, [(.aload_n 0, 1), (.getfield 10, 3), (.getfield 144, 3), (.iload_n 1, 1), (.iconst 3, 1), (.invokevirtual 220, 3), (.return_, 1)])]
theorem oX10_lose : ∀ pc, zdec cX10_lose pc (zBf BX10_lose pc) := zBf_ok (by decide +kernel)
theorem bX10_lose_0 : zBf BX10_lose 0 = [(.aload_n 0, 1), (.getfield 10, 3), (.getfield 144, 3), (.iload_n 1, 1), (.invokevirtual 210, 3), (.ifCond .ne 13, 3), (.new 110, 3), (.dup, 1), (.ldc 213, 2), (.invokespecial 114, 3), (.athrow, 1)] := rfl
theorem bX10_lose_24 : zBf BX10_lose 24 = [(.aload_n 0, 1), (.getfield 10, 3), (.getfield 144, 3), (.iload_n 1, 1), (.invokevirtual 215, 3), (.iconst 1, 1), (.if_icmp .eq 13, 3), (.new 197, 3), (.dup, 1), (.ldc 218, 2), (.invokespecial 201, 3), (.athrow, 1)] := rfl
theorem bX10_lose_49 : zBf BX10_lose 49 = [(.aload_n 0, 1), (.getfield 10, 3), (.getfield 144, 3), (.iload_n 1, 1), (.iconst 3, 1), (.invokevirtual 220, 3), (.return_, 1)] := rfl
theorem hX10_lose : zMv yX10_lose cX10_lose 2 none := ⟨zG_mem (n := 1441) (by decide +kernel), zG_mem (n := 116) (by decide +kernel), zG_mem (n := 1439) (by decide +kernel), zG_mem (n := 1440) (by decide +kernel)⟩
def BX10_set : List (Nat × List (Instr × Nat)) := [(0, [(.iload_n 1, 1), (.invokestatic 124, 3), (.ifCond .eq 10, 3), (.iload_n 2, 1), (.invokestatic 224, 3), (.ifCond .ne 13, 3)]), (14, [(.new 110, 3), (.dup, 1), (.ldc 227, 2), (.invokespecial 114, 3), (.athrow, 1)]), (24, [(.aload_n 0, 1), (.getfield 10, 3), (.iload_n 1, 1), (.iload_n 2, 1), (.iload_n 3, 1), (.invokevirtual 229, 3), (.ifCond .ne 13, 3), (.new 87, 3), (.dup, 1), (.ldc 233, 2), (.invokespecial 91, 3), (.athrow, 1)]), (47, [(.aload_n 0, 1), (.getfield 10, 3), (.getfield 144, 3), (.invokevirtual 194, 3), (.ifCond .eq 13, 3), (.new 197, 3), (.dup, 1), (.ldc 199, 2), (.invokespecial 201, 3), (.athrow, 1)]), (70, [(.aload_n 0, 1), (.getfield 10, 3), (.iload_n 1, 1), (.iload_n 2, 1), (.iload_n 3, 1), (.invokevirtual 235, 3), (.ireturn, 1)])]
theorem oX10_set : ∀ pc, zdec cX10_set pc (zBf BX10_set pc) := zBf_ok (by decide +kernel)
theorem bX10_set_0 : zBf BX10_set 0 = [(.iload_n 1, 1), (.invokestatic 124, 3), (.ifCond .eq 10, 3), (.iload_n 2, 1), (.invokestatic 224, 3), (.ifCond .ne 13, 3)] := rfl
theorem bX10_set_14 : zBf BX10_set 14 = [(.new 110, 3), (.dup, 1), (.ldc 227, 2), (.invokespecial 114, 3), (.athrow, 1)] := rfl
theorem bX10_set_24 : zBf BX10_set 24 = [(.aload_n 0, 1), (.getfield 10, 3), (.iload_n 1, 1), (.iload_n 2, 1), (.iload_n 3, 1), (.invokevirtual 229, 3), (.ifCond .ne 13, 3), (.new 87, 3), (.dup, 1), (.ldc 233, 2), (.invokespecial 91, 3), (.athrow, 1)] := rfl
theorem bX10_set_47 : zBf BX10_set 47 = [(.aload_n 0, 1), (.getfield 10, 3), (.getfield 144, 3), (.invokevirtual 194, 3), (.ifCond .eq 13, 3), (.new 197, 3), (.dup, 1), (.ldc 199, 2), (.invokespecial 201, 3), (.athrow, 1)] := rfl
theorem bX10_set_70 : zBf BX10_set 70 = [(.aload_n 0, 1), (.getfield 10, 3), (.iload_n 1, 1), (.iload_n 2, 1), (.iload_n 3, 1), (.invokevirtual 235, 3), (.ireturn, 1)] := rfl
theorem hX10_set : zMv yX10_set cX10_set 4 (some .int) := ⟨zG_mem (n := 1064) (by decide +kernel), zG_mem (n := 116) (by decide +kernel), zG_mem (n := 1062) (by decide +kernel), zG_mem (n := 1063) (by decide +kernel)⟩
def BX10_lift : List (Nat × List (Instr × Nat)) := [(0, [(.aload_n 0, 1), (.getfield 10, 3), (.invokevirtual 238, 3), (.istore_n 1, 1), (.iload_n 1, 1), (.bipush (-2), 2), (.if_icmp .ne 13, 3), (.new 197, 3), (.dup, 1), (.ldc 241, 2), (.invokespecial 201, 3), (.athrow, 1)]), (24, [(.iload_n 1, 1), (.ireturn, 1)])]
theorem oX10_lift : ∀ pc, zdec cX10_lift pc (zBf BX10_lift pc) := zBf_ok (by decide +kernel)
theorem bX10_lift_0 : zBf BX10_lift 0 = [(.aload_n 0, 1), (.getfield 10, 3), (.invokevirtual 238, 3), (.istore_n 1, 1), (.iload_n 1, 1), (.bipush (-2), 2), (.if_icmp .ne 13, 3), (.new 197, 3), (.dup, 1), (.ldc 241, 2), (.invokespecial 201, 3), (.athrow, 1)] := rfl
theorem bX10_lift_24 : zBf BX10_lift 24 = [(.iload_n 1, 1), (.ireturn, 1)] := rfl
theorem hX10_lift : zMv yX10_lift cX10_lift 2 (some .int) := ⟨zG_mem (n := 1117) (by decide +kernel), zG_mem (n := 116) (by decide +kernel), zG_mem (n := 1115) (by decide +kernel), zG_mem (n := 1116) (by decide +kernel)⟩
def BX10_lay : List (Nat × List (Instr × Nat)) := [(0, [(.iload_n 1, 1), (.invokestatic 224, 3), (.ifCond .ne 13, 3), (.new 110, 3), (.dup, 1), (.ldc 243, 2), (.invokespecial 114, 3), (.athrow, 1)]), (17, [(.aload_n 0, 1), (.getfield 10, 3), (.iload_n 1, 1), (.invokevirtual 245, 3), (.istore_n 2, 1), (.iload_n 2, 1), (.bipush (-2), 2), (.if_icmp .ne 13, 3), (.new 197, 3), (.dup, 1), (.ldc 248, 2), (.invokespecial 201, 3), (.athrow, 1)]), (42, [(.iload_n 2, 1), (.ireturn, 1)])]
theorem oX10_lay : ∀ pc, zdec cX10_lay pc (zBf BX10_lay pc) := zBf_ok (by decide +kernel)
theorem bX10_lay_0 : zBf BX10_lay 0 = [(.iload_n 1, 1), (.invokestatic 224, 3), (.ifCond .ne 13, 3), (.new 110, 3), (.dup, 1), (.ldc 243, 2), (.invokespecial 114, 3), (.athrow, 1)] := rfl
theorem bX10_lay_17 : zBf BX10_lay 17 = [(.aload_n 0, 1), (.getfield 10, 3), (.iload_n 1, 1), (.invokevirtual 245, 3), (.istore_n 2, 1), (.iload_n 2, 1), (.bipush (-2), 2), (.if_icmp .ne 13, 3), (.new 197, 3), (.dup, 1), (.ldc 248, 2), (.invokespecial 201, 3), (.athrow, 1)] := rfl
theorem bX10_lay_42 : zBf BX10_lay 42 = [(.iload_n 2, 1), (.ireturn, 1)] := rfl
theorem hX10_lay : zMv yX10_lay cX10_lay 3 (some .int) := ⟨zG_mem (n := 1171) (by decide +kernel), zG_mem (n := 116) (by decide +kernel), zG_mem (n := 1169) (by decide +kernel), zG_mem (n := 1170) (by decide +kernel)⟩
def BX10_go : List (Nat × List (Instr × Nat)) := [(0, [(.aload_n 0, 1), (.getfield 10, 3), (.iload_n 1, 1), (.invokevirtual 250, 3), (.istore_n 2, 1), (.iload_n 2, 1), (.bipush (-2), 2), (.if_icmp .ne 13, 3), (.new 197, 3), (.dup, 1), (.ldc 254, 2), (.invokespecial 201, 3), (.athrow, 1)]), (25, [(.iload_n 2, 1), (.iconst 1, 1), (.if_icmp .ne 7, 3), (.iconst 1, 1), (.goto 4, 3)]), (34, [(.iconst 0, 1)]), (35, [(.ireturn, 1)])]
theorem oX10_go : ∀ pc, zdec cX10_go pc (zBf BX10_go pc) := zBf_ok (by decide +kernel)
theorem bX10_go_0 : zBf BX10_go 0 = [(.aload_n 0, 1), (.getfield 10, 3), (.iload_n 1, 1), (.invokevirtual 250, 3), (.istore_n 2, 1), (.iload_n 2, 1), (.bipush (-2), 2), (.if_icmp .ne 13, 3), (.new 197, 3), (.dup, 1), (.ldc 254, 2), (.invokespecial 201, 3), (.athrow, 1)] := rfl
theorem bX10_go_25 : zBf BX10_go 25 = [(.iload_n 2, 1), (.iconst 1, 1), (.if_icmp .ne 7, 3), (.iconst 1, 1), (.goto 4, 3)] := rfl
theorem bX10_go_34 : zBf BX10_go 34 = [(.iconst 0, 1)] := rfl
theorem bX10_go_35 : zBf BX10_go 35 = [(.ireturn, 1)] := rfl
theorem hX10_go : zMv yX10_go cX10_go 3 (some .boolean) := ⟨zG_mem (n := 1203) (by decide +kernel), zG_mem (n := 116) (by decide +kernel), zG_mem (n := 1201) (by decide +kernel), zG_mem (n := 1202) (by decide +kernel)⟩
def BX10_fill : List (Nat × List (Instr × Nat)) := [(0, [(.aload_n 0, 1), (.getfield 10, 3), (.invokevirtual 256, 3), (.istore_n 1, 1), (.iload_n 1, 1), (.bipush (-2), 2), (.if_icmp .ne 14, 3), (.new 197, 3), (.dup, 1), (.ldc_w 259, 3), (.invokespecial 201, 3), (.athrow, 1)]), (25, [(.iload_n 1, 1), (.ireturn, 1)])]
theorem oX10_fill : ∀ pc, zdec cX10_fill pc (zBf BX10_fill pc) := zBf_ok (by decide +kernel)
theorem bX10_fill_0 : zBf BX10_fill 0 = [(.aload_n 0, 1), (.getfield 10, 3), (.invokevirtual 256, 3), (.istore_n 1, 1), (.iload_n 1, 1), (.bipush (-2), 2), (.if_icmp .ne 14, 3), (.new 197, 3), (.dup, 1), (.ldc_w 259, 3), (.invokespecial 201, 3), (.athrow, 1)] := rfl
theorem bX10_fill_25 : zBf BX10_fill 25 = [(.iload_n 1, 1), (.ireturn, 1)] := rfl
theorem hX10_fill : zMv yX10_fill cX10_fill 2 (some .int) := ⟨zG_mem (n := 1220) (by decide +kernel), zG_mem (n := 116) (by decide +kernel), zG_mem (n := 1218) (by decide +kernel), zG_mem (n := 1219) (by decide +kernel)⟩
def BX10_dig : List (Nat × List (Instr × Nat)) := [(0, [(.aload_n 0, 1), (.getfield 10, 3), (.invokevirtual 261, 3), (.istore_n 1, 1), (.iload_n 1, 1), (.bipush (-2), 2), (.if_icmp .ne 14, 3), (.new 197, 3), (.dup, 1), (.ldc_w 264, 3), (.invokespecial 201, 3), (.athrow, 1)]), (25, [(.iload_n 1, 1), (.ireturn, 1)])]
theorem oX10_dig : ∀ pc, zdec cX10_dig pc (zBf BX10_dig pc) := zBf_ok (by decide +kernel)
theorem bX10_dig_0 : zBf BX10_dig 0 = [(.aload_n 0, 1), (.getfield 10, 3), (.invokevirtual 261, 3), (.istore_n 1, 1), (.iload_n 1, 1), (.bipush (-2), 2), (.if_icmp .ne 14, 3), (.new 197, 3), (.dup, 1), (.ldc_w 264, 3), (.invokespecial 201, 3), (.athrow, 1)] := rfl
theorem bX10_dig_25 : zBf BX10_dig 25 = [(.iload_n 1, 1), (.ireturn, 1)] := rfl
theorem hX10_dig : zMv yX10_dig cX10_dig 2 (some .int) := ⟨zG_mem (n := 1237) (by decide +kernel), zG_mem (n := 116) (by decide +kernel), zG_mem (n := 1235) (by decide +kernel), zG_mem (n := 1236) (by decide +kernel)⟩
def BX10_rest : List (Nat × List (Instr × Nat)) := [(0, [(.iload_n 1, 1), (.iconst 1, 1), (.if_icmp .lt 10, 3), (.iload_n 1, 1), (.sipush 1440, 3), (.if_icmp .le 14, 3)]), (12, [(.new 87, 3), (.dup, 1), (.ldc_w 266, 3), (.invokespecial 91, 3), (.athrow, 1)]), (23, [(.aload_n 0, 1), (.getfield 10, 3), (.iload_n 1, 1), (.invokevirtual 268, 3), (.aload_n 0, 1), (.getfield 10, 3), (.getfield 271, 3), (.ireturn, 1)])]
theorem oX10_rest : ∀ pc, zdec cX10_rest pc (zBf BX10_rest pc) := zBf_ok (by decide +kernel)
theorem bX10_rest_0 : zBf BX10_rest 0 = [(.iload_n 1, 1), (.iconst 1, 1), (.if_icmp .lt 10, 3), (.iload_n 1, 1), (.sipush 1440, 3), (.if_icmp .le 14, 3)] := rfl
theorem bX10_rest_12 : zBf BX10_rest 12 = [(.new 87, 3), (.dup, 1), (.ldc_w 266, 3), (.invokespecial 91, 3), (.athrow, 1)] := rfl
theorem bX10_rest_23 : zBf BX10_rest 23 = [(.aload_n 0, 1), (.getfield 10, 3), (.iload_n 1, 1), (.invokevirtual 268, 3), (.aload_n 0, 1), (.getfield 10, 3), (.getfield 271, 3), (.ireturn, 1)] := rfl
theorem hX10_rest : zMv yX10_rest cX10_rest 2 (some .int) := ⟨zG_mem (n := 1253) (by decide +kernel), zG_mem (n := 116) (by decide +kernel), zG_mem (n := 1251) (by decide +kernel), zG_mem (n := 1252) (by decide +kernel)⟩
def BX10_look : List (Nat × List (Instr × Nat)) := [(0, [(.aload_n 0, 1), (.getfield 10, 3), (.getfield 144, 3), (.iload_n 1, 1), (.invokevirtual 210, 3), (.ifCond .ne 13, 3), (.new 110, 3), (.dup, 1), (.ldc 213, 2), (.invokespecial 114, 3), (.athrow, 1)]), (24, [(.iload_n 2, 1), (.ifCond .lt 8, 3), (.iload_n 2, 1), (.iconst 4, 1), (.if_icmp .le 14, 3)]), (33, [(.new 183, 3), (.dup, 1), (.ldc_w 274, 3), (.invokespecial 187, 3), (.athrow, 1)]), (44, [(.aload_n 0, 1), (.getfield 10, 3), (.iload_n 1, 1), (.iload_n 2, 1), (.invokevirtual 276, 3), (.ireturn, 1)])]
theorem oX10_look : ∀ pc, zdec cX10_look pc (zBf BX10_look pc) := zBf_ok (by decide +kernel)
theorem bX10_look_0 : zBf BX10_look 0 = [(.aload_n 0, 1), (.getfield 10, 3), (.getfield 144, 3), (.iload_n 1, 1), (.invokevirtual 210, 3), (.ifCond .ne 13, 3), (.new 110, 3), (.dup, 1), (.ldc 213, 2), (.invokespecial 114, 3), (.athrow, 1)] := rfl
theorem bX10_look_24 : zBf BX10_look 24 = [(.iload_n 2, 1), (.ifCond .lt 8, 3), (.iload_n 2, 1), (.iconst 4, 1), (.if_icmp .le 14, 3)] := rfl
theorem bX10_look_33 : zBf BX10_look 33 = [(.new 183, 3), (.dup, 1), (.ldc_w 274, 3), (.invokespecial 187, 3), (.athrow, 1)] := rfl
theorem bX10_look_44 : zBf BX10_look 44 = [(.aload_n 0, 1), (.getfield 10, 3), (.iload_n 1, 1), (.iload_n 2, 1), (.invokevirtual 276, 3), (.ireturn, 1)] := rfl
theorem hX10_look : zMv yX10_look cX10_look 3 (some .int) := ⟨zG_mem (n := 1315) (by decide +kernel), zG_mem (n := 116) (by decide +kernel), zG_mem (n := 1313) (by decide +kernel), zG_mem (n := 1314) (by decide +kernel)⟩
def BX10_line : List (Nat × List (Instr × Nat)) := [(0, [(.iload_n 2, 1), (.ifCond .eq 17, 3), (.aload_n 0, 1), (.getfield 10, 3), (.getfield 144, 3), (.iload_n 1, 1), (.invokevirtual 279, 3), (.goto 14, 3)]), (18, [(.aload_n 0, 1), (.getfield 10, 3), (.getfield 144, 3), (.iload_n 1, 1), (.invokevirtual 282, 3)]), (29, [(.ireturn, 1)])]
theorem oX10_line : ∀ pc, zdec cX10_line pc (zBf BX10_line pc) := zBf_ok (by decide +kernel)
theorem bX10_line_0 : zBf BX10_line 0 = [(.iload_n 2, 1), (.ifCond .eq 17, 3), (.aload_n 0, 1), (.getfield 10, 3), (.getfield 144, 3), (.iload_n 1, 1), (.invokevirtual 279, 3), (.goto 14, 3)] := rfl
theorem bX10_line_18 : zBf BX10_line 18 = [(.aload_n 0, 1), (.getfield 10, 3), (.getfield 144, 3), (.iload_n 1, 1), (.invokevirtual 282, 3)] := rfl
theorem bX10_line_29 : zBf BX10_line 29 = [(.ireturn, 1)] := rfl
theorem hX10_line : zMv yX10_line cX10_line 3 (some .int) := ⟨zG_mem (n := 490) (by decide +kernel), zG_mem (n := 116) (by decide +kernel), zG_mem (n := 488) (by decide +kernel), zG_mem (n := 489) (by decide +kernel)⟩
def BX10_route : List (Nat × List (Instr × Nat)) := [(0, [(.iload_n 1, 1), (.invokestatic 124, 3), (.ifCond .ne 13, 3), (.new 110, 3), (.dup, 1), (.ldc 127, 2), (.invokespecial 114, 3), (.athrow, 1)]), (17, [(.aload_n 0, 1), (.getfield 10, 3), (.iload_n 1, 1), (.invokevirtual 285, 3), (.ifCond .eq 9, 3), (.iload_n 2, 1), (.bipush (-2), 2), (.if_icmp .ge 14, 3)]), (34, [(.new 87, 3), (.dup, 1), (.ldc_w 288, 3), (.invokespecial 91, 3), (.athrow, 1)]), (45, [(.aload_n 0, 1), (.getfield 10, 3), (.getfield 144, 3), (.invokevirtual 194, 3), (.ifCond .ne 14, 3), (.new 197, 3), (.dup, 1), (.ldc_w 290, 3), (.invokespecial 201, 3), (.athrow, 1)]), (69, [(.aload_n 0, 1), (.getfield 57, 3), (.aload_n 0, 1), (.getfield 10, 3), (.iload_n 1, 1), (.iload_n 2, 1), (.invokevirtual 292, 3), (.ireturn, 1)])]
theorem oX10_route : ∀ pc, zdec cX10_route pc (zBf BX10_route pc) := zBf_ok (by decide +kernel)
theorem bX10_route_0 : zBf BX10_route 0 = [(.iload_n 1, 1), (.invokestatic 124, 3), (.ifCond .ne 13, 3), (.new 110, 3), (.dup, 1), (.ldc 127, 2), (.invokespecial 114, 3), (.athrow, 1)] := rfl
theorem bX10_route_17 : zBf BX10_route 17 = [(.aload_n 0, 1), (.getfield 10, 3), (.iload_n 1, 1), (.invokevirtual 285, 3), (.ifCond .eq 9, 3), (.iload_n 2, 1), (.bipush (-2), 2), (.if_icmp .ge 14, 3)] := rfl
theorem bX10_route_34 : zBf BX10_route 34 = [(.new 87, 3), (.dup, 1), (.ldc_w 288, 3), (.invokespecial 91, 3), (.athrow, 1)] := rfl
theorem bX10_route_45 : zBf BX10_route 45 = [(.aload_n 0, 1), (.getfield 10, 3), (.getfield 144, 3), (.invokevirtual 194, 3), (.ifCond .ne 14, 3), (.new 197, 3), (.dup, 1), (.ldc_w 290, 3), (.invokespecial 201, 3), (.athrow, 1)] := rfl
theorem bX10_route_69 : zBf BX10_route 69 = [(.aload_n 0, 1), (.getfield 57, 3), (.aload_n 0, 1), (.getfield 10, 3), (.iload_n 1, 1), (.iload_n 2, 1), (.invokevirtual 292, 3), (.ireturn, 1)] := rfl
theorem hX10_route : zMv yX10_route cX10_route 3 (some .int) := ⟨zG_mem (n := 1339) (by decide +kernel), zG_mem (n := 116) (by decide +kernel), zG_mem (n := 1337) (by decide +kernel), zG_mem (n := 1338) (by decide +kernel)⟩
def BX10_reach : List (Nat × List (Instr × Nat)) := [(0, [(.iload_n 1, 1), (.invokestatic 124, 3), (.ifCond .ne 13, 3), (.new 110, 3), (.dup, 1), (.ldc 127, 2), (.invokespecial 114, 3), (.athrow, 1)]), (17, [(.aload_n 0, 1), (.getfield 10, 3), (.iload_n 1, 1), (.invokevirtual 285, 3), (.ifCond .eq 7, 3), (.iload_n 2, 1), (.ifCond .ge 14, 3)]), (32, [(.new 87, 3), (.dup, 1), (.ldc_w 296, 3), (.invokespecial 91, 3), (.athrow, 1)]), (43, [(.aload_n 0, 1), (.getfield 10, 3), (.getfield 144, 3), (.invokevirtual 194, 3), (.ifCond .ne 14, 3), (.new 197, 3), (.dup, 1), (.ldc_w 290, 3), (.invokespecial 201, 3), (.athrow, 1)]), (67, [(.aload_n 0, 1), (.getfield 57, 3), (.aload_n 0, 1), (.getfield 10, 3), (.iload_n 1, 1), (.iload_n 2, 1), (.invokevirtual 298, 3), (.ireturn, 1)])]
theorem oX10_reach : ∀ pc, zdec cX10_reach pc (zBf BX10_reach pc) := zBf_ok (by decide +kernel)
theorem bX10_reach_0 : zBf BX10_reach 0 = [(.iload_n 1, 1), (.invokestatic 124, 3), (.ifCond .ne 13, 3), (.new 110, 3), (.dup, 1), (.ldc 127, 2), (.invokespecial 114, 3), (.athrow, 1)] := rfl
theorem bX10_reach_17 : zBf BX10_reach 17 = [(.aload_n 0, 1), (.getfield 10, 3), (.iload_n 1, 1), (.invokevirtual 285, 3), (.ifCond .eq 7, 3), (.iload_n 2, 1), (.ifCond .ge 14, 3)] := rfl
theorem bX10_reach_32 : zBf BX10_reach 32 = [(.new 87, 3), (.dup, 1), (.ldc_w 296, 3), (.invokespecial 91, 3), (.athrow, 1)] := rfl
theorem bX10_reach_43 : zBf BX10_reach 43 = [(.aload_n 0, 1), (.getfield 10, 3), (.getfield 144, 3), (.invokevirtual 194, 3), (.ifCond .ne 14, 3), (.new 197, 3), (.dup, 1), (.ldc_w 290, 3), (.invokespecial 201, 3), (.athrow, 1)] := rfl
theorem bX10_reach_67 : zBf BX10_reach 67 = [(.aload_n 0, 1), (.getfield 57, 3), (.aload_n 0, 1), (.getfield 10, 3), (.iload_n 1, 1), (.iload_n 2, 1), (.invokevirtual 298, 3), (.ireturn, 1)] := rfl
theorem hX10_reach : zMv yX10_reach cX10_reach 3 (some .int) := ⟨zG_mem (n := 1417) (by decide +kernel), zG_mem (n := 116) (by decide +kernel), zG_mem (n := 1415) (by decide +kernel), zG_mem (n := 1416) (by decide +kernel)⟩
def BX10_joints : List (Nat × List (Instr × Nat)) := [(0, [(.iload_n 1, 1), (.ifCond .eq 24, 3), (.aload_n 0, 1), (.getfield 10, 3), (.getfield 144, 3), (.aload_n 0, 1), (.getfield 10, 3), (.iconst 5, 1), (.invokevirtual 301, 3), (.invokevirtual 304, 3), (.goto 13, 3)]), (25, [(.aload_n 0, 1), (.getfield 10, 3), (.getfield 144, 3), (.invokevirtual 307, 3)]), (35, [(.ireturn, 1)])]
theorem oX10_joints : ∀ pc, zdec cX10_joints pc (zBf BX10_joints pc) := zBf_ok (by decide +kernel)
theorem bX10_joints_0 : zBf BX10_joints 0 = [(.iload_n 1, 1), (.ifCond .eq 24, 3), (.aload_n 0, 1), (.getfield 10, 3), (.getfield 144, 3), (.aload_n 0, 1), (.getfield 10, 3), (.iconst 5, 1), (.invokevirtual 301, 3), (.invokevirtual 304, 3), (.goto 13, 3)] := rfl
theorem bX10_joints_25 : zBf BX10_joints 25 = [(.aload_n 0, 1), (.getfield 10, 3), (.getfield 144, 3), (.invokevirtual 307, 3)] := rfl
theorem bX10_joints_35 : zBf BX10_joints 35 = [(.ireturn, 1)] := rfl
theorem hX10_joints : zMv yX10_joints cX10_joints 2 (some .int) := ⟨zG_mem (n := 502) (by decide +kernel), zG_mem (n := 116) (by decide +kernel), zG_mem (n := 500) (by decide +kernel), zG_mem (n := 501) (by decide +kernel)⟩
def BX10_worn : List (Nat × List (Instr × Nat)) := [(0, [(.aload_n 0, 1), (.getfield 10, 3), (.getfield 144, 3), (.invokevirtual 310, 3), (.ireturn, 1)])]
theorem oX10_worn : ∀ pc, zdec cX10_worn pc (zBf BX10_worn pc) := zBf_ok (by decide +kernel)
theorem bX10_worn_0 : zBf BX10_worn 0 = [(.aload_n 0, 1), (.getfield 10, 3), (.getfield 144, 3), (.invokevirtual 310, 3), (.ireturn, 1)] := rfl
theorem hX10_worn : zMv yX10_worn cX10_worn 1 (some .int) := ⟨zG_mem (n := 537) (by decide +kernel), zG_mem (n := 116) (by decide +kernel), zG_mem (n := 535) (by decide +kernel), zG_mem (n := 536) (by decide +kernel)⟩
def BX10_few : List (Nat × List (Instr × Nat)) := [(0, [(.aload_n 0, 1), (.getfield 10, 3), (.getfield 144, 3), (.iconst 0, 1), (.invokevirtual 313, 3), (.aload_n 0, 1), (.getfield 10, 3), (.getfield 144, 3), (.iconst 1, 1), (.invokevirtual 313, 3), (.iadd, 1), (.aload_n 0, 1), (.getfield 10, 3), (.bipush 7, 2), (.invokevirtual 301, 3), (.if_icmp .le 7, 3), (.iconst 1, 1), (.goto 4, 3)]), (39, [(.iconst 0, 1)]), (40, [(.ireturn, 1)])]
theorem oX10_few : ∀ pc, zdec cX10_few pc (zBf BX10_few pc) := zBf_ok (by decide +kernel)
theorem bX10_few_0 : zBf BX10_few 0 = [(.aload_n 0, 1), (.getfield 10, 3), (.getfield 144, 3), (.iconst 0, 1), (.invokevirtual 313, 3), (.aload_n 0, 1), (.getfield 10, 3), (.getfield 144, 3), (.iconst 1, 1), (.invokevirtual 313, 3), (.iadd, 1), (.aload_n 0, 1), (.getfield 10, 3), (.bipush 7, 2), (.invokevirtual 301, 3), (.if_icmp .le 7, 3), (.iconst 1, 1), (.goto 4, 3)] := rfl
theorem bX10_few_39 : zBf BX10_few 39 = [(.iconst 0, 1)] := rfl
theorem bX10_few_40 : zBf BX10_few 40 = [(.ireturn, 1)] := rfl
theorem hX10_few : zMv yX10_few cX10_few 1 (some .boolean) := ⟨zG_mem (n := 553) (by decide +kernel), zG_mem (n := 116) (by decide +kernel), zG_mem (n := 551) (by decide +kernel), zG_mem (n := 552) (by decide +kernel)⟩
def BX10_which : List (Nat × List (Instr × Nat)) := [(0, [(.iload_n 1, 1), (.invokestatic 124, 3), (.ifCond .ne 13, 3), (.new 110, 3), (.dup, 1), (.ldc 127, 2), (.invokespecial 114, 3), (.athrow, 1)]), (17, [(.aload_n 0, 1), (.getfield 10, 3), (.getfield 316, 3), (.iload_n 1, 1), (.iload_n 2, 1), (.invokevirtual 320, 3), (.ireturn, 1)])]
theorem oX10_which : ∀ pc, zdec cX10_which pc (zBf BX10_which pc) := zBf_ok (by decide +kernel)
theorem bX10_which_0 : zBf BX10_which 0 = [(.iload_n 1, 1), (.invokestatic 124, 3), (.ifCond .ne 13, 3), (.new 110, 3), (.dup, 1), (.ldc 127, 2), (.invokespecial 114, 3), (.athrow, 1)] := rfl
theorem bX10_which_17 : zBf BX10_which 17 = [(.aload_n 0, 1), (.getfield 10, 3), (.getfield 316, 3), (.iload_n 1, 1), (.iload_n 2, 1), (.invokevirtual 320, 3), (.ireturn, 1)] := rfl
theorem hX10_which : zMv yX10_which cX10_which 3 (some .int) := ⟨zG_mem (n := 1451) (by decide +kernel), zG_mem (n := 116) (by decide +kernel), zG_mem (n := 1449) (by decide +kernel), zG_mem (n := 1450) (by decide +kernel)⟩
def BX10_ahead : List (Nat × List (Instr × Nat)) := [(0, [(.iload_n 1, 1), (.ifCond .lt 9, 3), (.iload_n 1, 1), (.bipush 30, 2), (.if_icmp .le 14, 3)]), (10, [(.new 87, 3), (.dup, 1), (.ldc_w 325, 3), (.invokespecial 91, 3), (.athrow, 1)]), (21, [(.aload_n 0, 1), (.getfield 26, 3), (.aload_n 0, 1), (.getfield 10, 3), (.getfield 135, 3), (.invokevirtual 327, 3), (.iconst 0, 1), (.istore_n 3, 1)]), (37, [(.iload_n 3, 1), (.iload_n 1, 1), (.if_icmp .ge 25, 3), (.aload_n 0, 1), (.getfield 26, 3), (.aload_n 0, 1), (.getfield 10, 3), (.bipush 6, 2), (.invokevirtual 301, 3), (.invokevirtual 330, 3), (.iinc 3 1, 3), (.goto (-24), 3)]), (64, [(.iload_n 2, 1), (.ifCond .eq 13, 3), (.aload_n 0, 1), (.getfield 26, 3), (.invokevirtual 333, 3), (.goto 17, 3)]), (78, [(.aload_n 0, 1), (.getfield 10, 3), (.getfield 144, 3), (.aload_n 0, 1), (.getfield 26, 3), (.invokevirtual 336, 3)]), (92, [(.ireturn, 1)])]
theorem oX10_ahead : ∀ pc, zdec cX10_ahead pc (zBf BX10_ahead pc) := zBf_ok (by decide +kernel)
theorem bX10_ahead_0 : zBf BX10_ahead 0 = [(.iload_n 1, 1), (.ifCond .lt 9, 3), (.iload_n 1, 1), (.bipush 30, 2), (.if_icmp .le 14, 3)] := rfl
theorem bX10_ahead_10 : zBf BX10_ahead 10 = [(.new 87, 3), (.dup, 1), (.ldc_w 325, 3), (.invokespecial 91, 3), (.athrow, 1)] := rfl
theorem bX10_ahead_21 : zBf BX10_ahead 21 = [(.aload_n 0, 1), (.getfield 26, 3), (.aload_n 0, 1), (.getfield 10, 3), (.getfield 135, 3), (.invokevirtual 327, 3), (.iconst 0, 1), (.istore_n 3, 1)] := rfl
theorem bX10_ahead_37 : zBf BX10_ahead 37 = [(.iload_n 3, 1), (.iload_n 1, 1), (.if_icmp .ge 25, 3), (.aload_n 0, 1), (.getfield 26, 3), (.aload_n 0, 1), (.getfield 10, 3), (.bipush 6, 2), (.invokevirtual 301, 3), (.invokevirtual 330, 3), (.iinc 3 1, 3), (.goto (-24), 3)] := rfl
theorem bX10_ahead_64 : zBf BX10_ahead 64 = [(.iload_n 2, 1), (.ifCond .eq 13, 3), (.aload_n 0, 1), (.getfield 26, 3), (.invokevirtual 333, 3), (.goto 17, 3)] := rfl
theorem bX10_ahead_78 : zBf BX10_ahead 78 = [(.aload_n 0, 1), (.getfield 10, 3), (.getfield 144, 3), (.aload_n 0, 1), (.getfield 26, 3), (.invokevirtual 336, 3)] := rfl
theorem bX10_ahead_92 : zBf BX10_ahead 92 = [(.ireturn, 1)] := rfl
theorem hX10_ahead : zMv yX10_ahead cX10_ahead 4 (some .int) := ⟨zG_mem (n := 1462) (by decide +kernel), zG_mem (n := 116) (by decide +kernel), zG_mem (n := 1460) (by decide +kernel), zG_mem (n := 1461) (by decide +kernel)⟩
def BX10_count : List (Nat × List (Instr × Nat)) := [(0, [(.iload_n 1, 1), (.tableswitch 203 0 12 #[67, 75, 86, 98, 109, 118, 127, 136, 144, 162, 173, 184, 195], 67)]), (68, [(.aload_n 0, 1), (.getfield 10, 3), (.getfield 271, 3), (.ireturn, 1)]), (76, [(.aload_n 0, 1), (.getfield 10, 3), (.getfield 144, 3), (.getfield 340, 3), (.ireturn, 1)]), (87, [(.aload_n 0, 1), (.getfield 10, 3), (.getfield 144, 3), (.iconst 1, 1), (.invokevirtual 313, 3), (.ireturn, 1)]), (99, [(.aload_n 0, 1), (.getfield 10, 3), (.getfield 144, 3), (.getfield 341, 3), (.ireturn, 1)]), (110, [(.aload_n 0, 1), (.getfield 10, 3), (.iconst 0, 1), (.invokevirtual 301, 3), (.ireturn, 1)]), (119, [(.aload_n 0, 1), (.getfield 10, 3), (.iconst 1, 1), (.invokevirtual 301, 3), (.ireturn, 1)]), (128, [(.aload_n 0, 1), (.getfield 10, 3), (.iconst 2, 1), (.invokevirtual 301, 3), (.ireturn, 1)]), (137, [(.aload_n 0, 1), (.getfield 10, 3), (.getfield 344, 3), (.ireturn, 1)]), (145, [(.aload_n 0, 1), (.getfield 10, 3), (.getfield 144, 3), (.aload_n 0, 1), (.getfield 10, 3), (.getfield 135, 3), (.invokevirtual 336, 3), (.ireturn, 1)]), (163, [(.aload_n 0, 1), (.getfield 10, 3), (.getfield 135, 3), (.invokevirtual 333, 3), (.ireturn, 1)]), (174, [(.aload_n 0, 1), (.getfield 10, 3), (.getfield 161, 3), (.invokevirtual 347, 3), (.ireturn, 1)]), (185, [(.aload_n 0, 1), (.getfield 10, 3), (.getfield 316, 3), (.getfield 350, 3), (.ireturn, 1)]), (196, [(.aload_n 0, 1), (.getfield 10, 3), (.getfield 351, 3), (.ireturn, 1)]), (204, [(.iconst (-1), 1), (.ireturn, 1)])]
theorem oX10_count : ∀ pc, zdec cX10_count pc (zBf BX10_count pc) := zBf_ok (by decide +kernel)
theorem bX10_count_0 : zBf BX10_count 0 = [(.iload_n 1, 1), (.tableswitch 203 0 12 #[67, 75, 86, 98, 109, 118, 127, 136, 144, 162, 173, 184, 195], 67)] := rfl
theorem bX10_count_68 : zBf BX10_count 68 = [(.aload_n 0, 1), (.getfield 10, 3), (.getfield 271, 3), (.ireturn, 1)] := rfl
theorem bX10_count_76 : zBf BX10_count 76 = [(.aload_n 0, 1), (.getfield 10, 3), (.getfield 144, 3), (.getfield 340, 3), (.ireturn, 1)] := rfl
theorem bX10_count_87 : zBf BX10_count 87 = [(.aload_n 0, 1), (.getfield 10, 3), (.getfield 144, 3), (.iconst 1, 1), (.invokevirtual 313, 3), (.ireturn, 1)] := rfl
theorem bX10_count_99 : zBf BX10_count 99 = [(.aload_n 0, 1), (.getfield 10, 3), (.getfield 144, 3), (.getfield 341, 3), (.ireturn, 1)] := rfl
theorem bX10_count_110 : zBf BX10_count 110 = [(.aload_n 0, 1), (.getfield 10, 3), (.iconst 0, 1), (.invokevirtual 301, 3), (.ireturn, 1)] := rfl
theorem bX10_count_119 : zBf BX10_count 119 = [(.aload_n 0, 1), (.getfield 10, 3), (.iconst 1, 1), (.invokevirtual 301, 3), (.ireturn, 1)] := rfl
theorem bX10_count_128 : zBf BX10_count 128 = [(.aload_n 0, 1), (.getfield 10, 3), (.iconst 2, 1), (.invokevirtual 301, 3), (.ireturn, 1)] := rfl
theorem bX10_count_137 : zBf BX10_count 137 = [(.aload_n 0, 1), (.getfield 10, 3), (.getfield 344, 3), (.ireturn, 1)] := rfl
theorem bX10_count_145 : zBf BX10_count 145 = [(.aload_n 0, 1), (.getfield 10, 3), (.getfield 144, 3), (.aload_n 0, 1), (.getfield 10, 3), (.getfield 135, 3), (.invokevirtual 336, 3), (.ireturn, 1)] := rfl
theorem bX10_count_163 : zBf BX10_count 163 = [(.aload_n 0, 1), (.getfield 10, 3), (.getfield 135, 3), (.invokevirtual 333, 3), (.ireturn, 1)] := rfl
theorem bX10_count_174 : zBf BX10_count 174 = [(.aload_n 0, 1), (.getfield 10, 3), (.getfield 161, 3), (.invokevirtual 347, 3), (.ireturn, 1)] := rfl
theorem bX10_count_185 : zBf BX10_count 185 = [(.aload_n 0, 1), (.getfield 10, 3), (.getfield 316, 3), (.getfield 350, 3), (.ireturn, 1)] := rfl
theorem bX10_count_196 : zBf BX10_count 196 = [(.aload_n 0, 1), (.getfield 10, 3), (.getfield 351, 3), (.ireturn, 1)] := rfl
theorem bX10_count_204 : zBf BX10_count 204 = [(.iconst (-1), 1), (.ireturn, 1)] := rfl
theorem hX10_count : zMv yX10_count cX10_count 2 (some .int) := ⟨zG_mem (n := 561) (by decide +kernel), zG_mem (n := 116) (by decide +kernel), zG_mem (n := 559) (by decide +kernel), zG_mem (n := 560) (by decide +kernel)⟩
def BX10_image : List (Nat × List (Instr × Nat)) := [(0, [(.aload_n 0, 1), (.getfield 16, 3), (.aload_n 0, 1), (.getfield 10, 3), (.invokevirtual 354, 3), (.aload_n 0, 1), (.iconst 1, 1), (.putfield 19, 3), (.return_, 1)])]
theorem oX10_image : ∀ pc, zdec cX10_image pc (zBf BX10_image pc) := zBf_ok (by decide +kernel)
theorem bX10_image_0 : zBf BX10_image 0 = [(.aload_n 0, 1), (.getfield 16, 3), (.aload_n 0, 1), (.getfield 10, 3), (.invokevirtual 354, 3), (.aload_n 0, 1), (.iconst 1, 1), (.putfield 19, 3), (.return_, 1)] := rfl
theorem hX10_image : zMv yX10_image cX10_image 1 none := ⟨zG_mem (n := 589) (by decide +kernel), zG_mem (n := 116) (by decide +kernel), zG_mem (n := 587) (by decide +kernel), zG_mem (n := 588) (by decide +kernel)⟩
def BX10_back : List (Nat × List (Instr × Nat)) := [(0, [(.aload_n 0, 1), (.getfield 19, 3), (.ifCond .ne 5, 3), (.iconst 0, 1), (.ireturn, 1)]), (9, [(.aload_n 0, 1), (.getfield 10, 3), (.aload_n 0, 1), (.getfield 16, 3), (.invokevirtual 354, 3), (.iconst 1, 1), (.ireturn, 1)])]
theorem oX10_back : ∀ pc, zdec cX10_back pc (zBf BX10_back pc) := zBf_ok (by decide +kernel)
theorem bX10_back_0 : zBf BX10_back 0 = [(.aload_n 0, 1), (.getfield 19, 3), (.ifCond .ne 5, 3), (.iconst 0, 1), (.ireturn, 1)] := rfl
theorem bX10_back_9 : zBf BX10_back 9 = [(.aload_n 0, 1), (.getfield 10, 3), (.aload_n 0, 1), (.getfield 16, 3), (.invokevirtual 354, 3), (.iconst 1, 1), (.ireturn, 1)] := rfl
theorem hX10_back : zMv yX10_back cX10_back 1 (some .boolean) := ⟨zG_mem (n := 620) (by decide +kernel), zG_mem (n := 116) (by decide +kernel), zG_mem (n := 618) (by decide +kernel), zG_mem (n := 619) (by decide +kernel)⟩
def BX10_isCell : List (Nat × List (Instr × Nat)) := [(0, [(.iload_n 0, 1), (.ifCond .lt 13, 3), (.iload_n 0, 1), (.bipush 100, 2), (.if_icmp .ge 7, 3), (.iconst 1, 1), (.goto 4, 3)]), (14, [(.iconst 0, 1)]), (15, [(.ireturn, 1)])]
theorem oX10_isCell : ∀ pc, zdec cX10_isCell pc (zBf BX10_isCell pc) := zBf_ok (by decide +kernel)
theorem bX10_isCell_0 : zBf BX10_isCell 0 = [(.iload_n 0, 1), (.ifCond .lt 13, 3), (.iload_n 0, 1), (.bipush 100, 2), (.if_icmp .ge 7, 3), (.iconst 1, 1), (.goto 4, 3)] := rfl
theorem bX10_isCell_14 : zBf BX10_isCell 14 = [(.iconst 0, 1)] := rfl
theorem bX10_isCell_15 : zBf BX10_isCell 15 = [(.ireturn, 1)] := rfl
theorem hX10_isCell : zMs yX10_isCell cX10_isCell 1 (some .boolean) := ⟨zG_mem (n := 577) (by decide +kernel), zG_mem (n := 116) (by decide +kernel), zG_mem (n := 576) (by decide +kernel)⟩
def BX10_isWay : List (Nat × List (Instr × Nat)) := [(0, [(.iload_n 0, 1), (.ifCond .lt 12, 3), (.iload_n 0, 1), (.iconst 4, 1), (.if_icmp .ge 7, 3), (.iconst 1, 1), (.goto 4, 3)]), (13, [(.iconst 0, 1)]), (14, [(.ireturn, 1)])]
theorem oX10_isWay : ∀ pc, zdec cX10_isWay pc (zBf BX10_isWay pc) := zBf_ok (by decide +kernel)
theorem bX10_isWay_0 : zBf BX10_isWay 0 = [(.iload_n 0, 1), (.ifCond .lt 12, 3), (.iload_n 0, 1), (.iconst 4, 1), (.if_icmp .ge 7, 3), (.iconst 1, 1), (.goto 4, 3)] := rfl
theorem bX10_isWay_13 : zBf BX10_isWay 13 = [(.iconst 0, 1)] := rfl
theorem bX10_isWay_14 : zBf BX10_isWay 14 = [(.ireturn, 1)] := rfl
theorem hX10_isWay : zMs yX10_isWay cX10_isWay 1 (some .boolean) := ⟨zG_mem (n := 1067) (by decide +kernel), zG_mem (n := 116) (by decide +kernel), zG_mem (n := 1066) (by decide +kernel)⟩
def BX10_beside : List (Nat × List (Instr × Nat)) := [(0, [(.iload_n 0, 1), (.ifCond .lt 9, 3), (.iload_n 0, 1), (.bipush 100, 2), (.if_icmp .lt 5, 3)]), (10, [(.iconst (-1), 1), (.ireturn, 1)]), (12, [(.iload_n 1, 1), (.tableswitch 93 0 3 #[31, 46, 63, 78], 31)]), (44, [(.iload_n 0, 1), (.bipush 10, 2), (.if_icmp .lt 10, 3), (.iload_n 0, 1), (.bipush 10, 2), (.isub, 1), (.goto 4, 3)]), (57, [(.iconst (-1), 1)]), (58, [(.ireturn, 1)]), (59, [(.iload_n 0, 1), (.bipush 10, 2), (.irem, 1), (.bipush 9, 2), (.if_icmp .ge 9, 3), (.iload_n 0, 1), (.iconst 1, 1), (.iadd, 1), (.goto 4, 3)]), (74, [(.iconst (-1), 1)]), (75, [(.ireturn, 1)]), (76, [(.iload_n 0, 1), (.bipush 90, 2), (.if_icmp .ge 10, 3), (.iload_n 0, 1), (.bipush 10, 2), (.iadd, 1), (.goto 4, 3)]), (89, [(.iconst (-1), 1)]), (90, [(.ireturn, 1)]), (91, [(.iload_n 0, 1), (.bipush 10, 2), (.irem, 1), (.ifCond .le 9, 3), (.iload_n 0, 1), (.iconst 1, 1), (.isub, 1), (.goto 4, 3)]), (104, [(.iconst (-1), 1)]), (105, [(.ireturn, 1)]), (106, [(.iconst (-1), 1), (.ireturn, 1)])]
theorem oX10_beside : ∀ pc, zdec cX10_beside pc (zBf BX10_beside pc) := zBf_ok (by decide +kernel)
theorem bX10_beside_0 : zBf BX10_beside 0 = [(.iload_n 0, 1), (.ifCond .lt 9, 3), (.iload_n 0, 1), (.bipush 100, 2), (.if_icmp .lt 5, 3)] := rfl
theorem bX10_beside_10 : zBf BX10_beside 10 = [(.iconst (-1), 1), (.ireturn, 1)] := rfl
theorem bX10_beside_12 : zBf BX10_beside 12 = [(.iload_n 1, 1), (.tableswitch 93 0 3 #[31, 46, 63, 78], 31)] := rfl
theorem bX10_beside_44 : zBf BX10_beside 44 = [(.iload_n 0, 1), (.bipush 10, 2), (.if_icmp .lt 10, 3), (.iload_n 0, 1), (.bipush 10, 2), (.isub, 1), (.goto 4, 3)] := rfl
theorem bX10_beside_57 : zBf BX10_beside 57 = [(.iconst (-1), 1)] := rfl
theorem bX10_beside_58 : zBf BX10_beside 58 = [(.ireturn, 1)] := rfl
theorem bX10_beside_59 : zBf BX10_beside 59 = [(.iload_n 0, 1), (.bipush 10, 2), (.irem, 1), (.bipush 9, 2), (.if_icmp .ge 9, 3), (.iload_n 0, 1), (.iconst 1, 1), (.iadd, 1), (.goto 4, 3)] := rfl
theorem bX10_beside_74 : zBf BX10_beside 74 = [(.iconst (-1), 1)] := rfl
theorem bX10_beside_75 : zBf BX10_beside 75 = [(.ireturn, 1)] := rfl
theorem bX10_beside_76 : zBf BX10_beside 76 = [(.iload_n 0, 1), (.bipush 90, 2), (.if_icmp .ge 10, 3), (.iload_n 0, 1), (.bipush 10, 2), (.iadd, 1), (.goto 4, 3)] := rfl
theorem bX10_beside_89 : zBf BX10_beside 89 = [(.iconst (-1), 1)] := rfl
theorem bX10_beside_90 : zBf BX10_beside 90 = [(.ireturn, 1)] := rfl
theorem bX10_beside_91 : zBf BX10_beside 91 = [(.iload_n 0, 1), (.bipush 10, 2), (.irem, 1), (.ifCond .le 9, 3), (.iload_n 0, 1), (.iconst 1, 1), (.isub, 1), (.goto 4, 3)] := rfl
theorem bX10_beside_104 : zBf BX10_beside 104 = [(.iconst (-1), 1)] := rfl
theorem bX10_beside_105 : zBf BX10_beside 105 = [(.ireturn, 1)] := rfl
theorem bX10_beside_106 : zBf BX10_beside 106 = [(.iconst (-1), 1), (.ireturn, 1)] := rfl
theorem hX10_beside : zMs yX10_beside cX10_beside 2 (some .int) := ⟨zG_mem (n := 1078) (by decide +kernel), zG_mem (n := 116) (by decide +kernel), zG_mem (n := 1077) (by decide +kernel)⟩
def BX10_minutesOn : List (Nat × List (Instr × Nat)) := [(0, [(.iload_n 0, 1), (.iconst 1, 1), (.if_icmp .ne 8, 3), (.bipush 20, 2), (.goto 15, 3)]), (10, [(.iload_n 0, 1), (.iconst 2, 1), (.if_icmp .ne 8, 3), (.bipush 40, 2), (.goto 5, 3)]), (20, [(.bipush 12, 2)]), (22, [(.ireturn, 1)])]
theorem oX10_minutesOn : ∀ pc, zdec cX10_minutesOn pc (zBf BX10_minutesOn pc) := zBf_ok (by decide +kernel)
theorem bX10_minutesOn_0 : zBf BX10_minutesOn 0 = [(.iload_n 0, 1), (.iconst 1, 1), (.if_icmp .ne 8, 3), (.bipush 20, 2), (.goto 15, 3)] := rfl
theorem bX10_minutesOn_10 : zBf BX10_minutesOn 10 = [(.iload_n 0, 1), (.iconst 2, 1), (.if_icmp .ne 8, 3), (.bipush 40, 2), (.goto 5, 3)] := rfl
theorem bX10_minutesOn_20 : zBf BX10_minutesOn 20 = [(.bipush 12, 2)] := rfl
theorem bX10_minutesOn_22 : zBf BX10_minutesOn 22 = [(.ireturn, 1)] := rfl
theorem hX10_minutesOn : zMs yX10_minutesOn cX10_minutesOn 1 (some .int) := ⟨zG_mem (n := 1183) (by decide +kernel), zG_mem (n := 116) (by decide +kernel), zG_mem (n := 1182) (by decide +kernel)⟩
def BX10_wearOn : List (Nat × List (Instr × Nat)) := [(0, [(.iload_n 0, 1), (.iconst 1, 1), (.if_icmp .ne 7, 3), (.iconst 3, 1), (.goto 13, 3)]), (9, [(.iload_n 0, 1), (.iconst 2, 1), (.if_icmp .ne 7, 3), (.iconst 2, 1), (.goto 4, 3)]), (18, [(.iconst 1, 1)]), (19, [(.ireturn, 1)])]
theorem oX10_wearOn : ∀ pc, zdec cX10_wearOn pc (zBf BX10_wearOn pc) := zBf_ok (by decide +kernel)
theorem bX10_wearOn_0 : zBf BX10_wearOn 0 = [(.iload_n 0, 1), (.iconst 1, 1), (.if_icmp .ne 7, 3), (.iconst 3, 1), (.goto 13, 3)] := rfl
theorem bX10_wearOn_9 : zBf BX10_wearOn 9 = [(.iload_n 0, 1), (.iconst 2, 1), (.if_icmp .ne 7, 3), (.iconst 2, 1), (.goto 4, 3)] := rfl
theorem bX10_wearOn_18 : zBf BX10_wearOn 18 = [(.iconst 1, 1)] := rfl
theorem bX10_wearOn_19 : zBf BX10_wearOn 19 = [(.ireturn, 1)] := rfl
theorem hX10_wearOn : zMs yX10_wearOn cX10_wearOn 1 (some .int) := ⟨zG_mem (n := 1187) (by decide +kernel), zG_mem (n := 116) (by decide +kernel), zG_mem (n := 1186) (by decide +kernel)⟩
def BX10_workMinutes : List (Nat × List (Instr × Nat)) := [(0, [(.iload_n 1, 1), (.ifCond .le 15, 3), (.iload_n 0, 1), (.iconst 4, 1), (.imul, 1), (.iload_n 1, 1), (.iadd, 1), (.iconst 1, 1), (.isub, 1), (.iload_n 1, 1), (.idiv, 1), (.goto 4, 3)]), (16, [(.iconst 0, 1)]), (17, [(.ireturn, 1)])]
theorem oX10_workMinutes : ∀ pc, zdec cX10_workMinutes pc (zBf BX10_workMinutes pc) := zBf_ok (by decide +kernel)
theorem bX10_workMinutes_0 : zBf BX10_workMinutes 0 = [(.iload_n 1, 1), (.ifCond .le 15, 3), (.iload_n 0, 1), (.iconst 4, 1), (.imul, 1), (.iload_n 1, 1), (.iadd, 1), (.iconst 1, 1), (.isub, 1), (.iload_n 1, 1), (.idiv, 1), (.goto 4, 3)] := rfl
theorem bX10_workMinutes_16 : zBf BX10_workMinutes 16 = [(.iconst 0, 1)] := rfl
theorem bX10_workMinutes_17 : zBf BX10_workMinutes 17 = [(.ireturn, 1)] := rfl
theorem hX10_workMinutes : zMs yX10_workMinutes cX10_workMinutes 2 (some .int) := ⟨zG_mem (n := 1136) (by decide +kernel), zG_mem (n := 116) (by decide +kernel), zG_mem (n := 1135) (by decide +kernel)⟩
theorem kX10_66 : Cond.methodLink RX10 66 yX7_hasRoom ∈ zTbl ∨ ∃ host, Cond.methodLinkNest RX10 66 yX7_hasRoom host ∈ lw_tbl := Or.inl (zG_mem (n := 463) (by decide +kernel))
theorem kX10_72 : Cond.methodLink RX10 72 yX7_append ∈ zTbl ∨ ∃ host, Cond.methodLinkNest RX10 72 yX7_append host ∈ lw_tbl := Or.inl (zG_mem (n := 467) (by decide +kernel))
theorem kX10_79 : Cond.methodLink RX10 79 yX7_cut ∈ zTbl ∨ ∃ host, Cond.methodLinkNest RX10 79 yX7_cut host ∈ lw_tbl := Or.inl (zG_mem (n := 475) (by decide +kernel))
theorem kX10_279 : Cond.methodLink RX10 279 yX8_railAt ∈ zTbl ∨ ∃ host, Cond.methodLinkNest RX10 279 yX8_railAt host ∈ lw_tbl := Or.inl (zG_mem (n := 491) (by decide +kernel))
theorem kX10_282 : Cond.methodLink RX10 282 yX8_cellAt ∈ zTbl ∨ ∃ host, Cond.methodLinkNest RX10 282 yX8_cellAt host ∈ lw_tbl := Or.inl (zG_mem (n := 495) (by decide +kernel))
theorem kX10_301 : Cond.methodLink RX10 301 yX9_storeOf ∈ zTbl ∨ ∃ host, Cond.methodLinkNest RX10 301 yX9_storeOf host ∈ lw_tbl := Or.inl (zG_mem (n := 503) (by decide +kernel))
theorem kX10_304 : Cond.methodLink RX10 304 yX8_firstJointAbove ∈ zTbl ∨ ∃ host, Cond.methodLinkNest RX10 304 yX8_firstJointAbove host ∈ lw_tbl := Or.inl (zG_mem (n := 507) (by decide +kernel))
theorem kX10_307 : Cond.methodLink RX10 307 yX8_widestJoint ∈ zTbl ∨ ∃ host, Cond.methodLinkNest RX10 307 yX8_widestJoint host ∈ lw_tbl := Or.inl (zG_mem (n := 527) (by decide +kernel))
theorem kX10_310 : Cond.methodLink RX10 310 yX8_mostWorn ∈ zTbl ∨ ∃ host, Cond.methodLinkNest RX10 310 yX8_mostWorn host ∈ lw_tbl := Or.inl (zG_mem (n := 538) (by decide +kernel))
theorem kX10_313 : Cond.methodLink RX10 313 yX8_inState ∈ zTbl ∨ ∃ host, Cond.methodLinkNest RX10 313 yX8_inState host ∈ lw_tbl := Or.inl (zG_mem (n := 554) (by decide +kernel))
theorem kX10_336 : Cond.methodLink RX10 336 yX8_buriedIn ∈ zTbl ∨ ∃ host, Cond.methodLinkNest RX10 336 yX8_buriedIn host ∈ lw_tbl := Or.inl (zG_mem (n := 562) (by decide +kernel))
theorem kX10_333 : Cond.methodLink RX10 333 yX0_dunes ∈ zTbl ∨ ∃ host, Cond.methodLinkNest RX10 333 yX0_dunes host ∈ lw_tbl := Or.inl (zG_mem (n := 578) (by decide +kernel))
theorem kX10_347 : Cond.methodLink RX10 347 yX1_allMen ∈ zTbl ∨ ∃ host, Cond.methodLinkNest RX10 347 yX1_allMen host ∈ lw_tbl := Or.inl (zG_mem (n := 582) (by decide +kernel))
theorem kX10_354 : Cond.methodLink RX10 354 yX9_copyFrom ∈ zTbl ∨ ∃ host, Cond.methodLinkNest RX10 354 yX9_copyFrom host ∈ lw_tbl := Or.inl (zG_mem (n := 590) (by decide +kernel))
theorem kX10_83 : Cond.methodLink RX10 83 yX4_read ∈ zTbl ∨ ∃ host, Cond.methodLinkNest RX10 83 yX4_read host ∈ lw_tbl := Or.inl (zG_mem (n := 630) (by decide +kernel))
theorem kX10_106 : Cond.methodLink RX10 106 yX3_copyFrom ∈ zTbl ∨ ∃ host, Cond.methodLinkNest RX10 106 yX3_copyFrom host ∈ lw_tbl := Or.inl (zG_mem (n := 901) (by decide +kernel))
theorem kX10_124 : Cond.methodLink RX10 124 yX10_isCell ∈ zTbl ∨ ∃ host, Cond.methodLinkNest RX10 124 yX10_isCell host ∈ lw_tbl := Or.inl (zG_mem (n := 914) (by decide +kernel))
theorem kX10_131 : Cond.methodLink RX10 131 yX9_shape ∈ zTbl ∨ ∃ host, Cond.methodLinkNest RX10 131 yX9_shape host ∈ lw_tbl := Or.inl (zG_mem (n := 932) (by decide +kernel))
theorem kX10_138 : Cond.methodLink RX10 138 yX0_kindOf ∈ zTbl ∨ ∃ host, Cond.methodLinkNest RX10 138 yX0_kindOf host ∈ lw_tbl := Or.inl (zG_mem (n := 955) (by decide +kernel))
theorem kX10_155 : Cond.methodLink RX10 155 yX8_addRail ∈ zTbl ∨ ∃ host, Cond.methodLinkNest RX10 155 yX8_addRail host ∈ lw_tbl := Or.inl (zG_mem (n := 965) (by decide +kernel))
theorem kX10_170 : Cond.methodLink RX10 170 yX1_addGang ∈ zTbl ∨ ∃ host, Cond.methodLinkNest RX10 170 yX1_addGang host ∈ lw_tbl := Or.inl (zG_mem (n := 978) (by decide +kernel))
theorem kX10_173 : Cond.methodLink RX10 173 yX1_isGang ∈ zTbl ∨ ∃ host, Cond.methodLinkNest RX10 173 yX1_isGang host ∈ lw_tbl := Or.inl (zG_mem (n := 989) (by decide +kernel))
theorem kX10_180 : Cond.methodLink RX10 180 yX1_changeTask ∈ zTbl ∨ ∃ host, Cond.methodLinkNest RX10 180 yX1_changeTask host ∈ lw_tbl := Or.inl (zG_mem (n := 995) (by decide +kernel))
theorem kX10_188 : Cond.methodLink RX10 188 yX9_mayStore ∈ zTbl ∨ ∃ host, Cond.methodLinkNest RX10 188 yX9_mayStore host ∈ lw_tbl := Or.inl (zG_mem (n := 1025) (by decide +kernel))
theorem kX10_194 : Cond.methodLink RX10 194 yX8_isSetOut ∈ zTbl ∨ ∃ host, Cond.methodLinkNest RX10 194 yX8_isSetOut host ∈ lw_tbl := Or.inl (zG_mem (n := 1034) (by decide +kernel))
theorem kX10_202 : Cond.methodLink RX10 202 yX9_changeStore ∈ zTbl ∨ ∃ host, Cond.methodLinkNest RX10 202 yX9_changeStore host ∈ lw_tbl := Or.inl (zG_mem (n := 1054) (by decide +kernel))
theorem kX10_224 : Cond.methodLink RX10 224 yX10_isWay ∈ zTbl ∨ ∃ host, Cond.methodLinkNest RX10 224 yX10_isWay host ∈ lw_tbl := Or.inl (zG_mem (n := 1065) (by decide +kernel))
theorem kX10_229 : Cond.methodLink RX10 229 yX9_maySetOut ∈ zTbl ∨ ∃ host, Cond.methodLinkNest RX10 229 yX9_maySetOut host ∈ lw_tbl := Or.inl (zG_mem (n := 1069) (by decide +kernel))
theorem kX10_235 : Cond.methodLink RX10 235 yX9_setOut ∈ zTbl ∨ ∃ host, Cond.methodLinkNest RX10 235 yX9_setOut host ∈ lw_tbl := Or.inl (zG_mem (n := 1080) (by decide +kernel))
theorem kX10_238 : Cond.methodLink RX10 238 yX9_tryLift ∈ zTbl ∨ ∃ host, Cond.methodLinkNest RX10 238 yX9_tryLift host ∈ lw_tbl := Or.inl (zG_mem (n := 1118) (by decide +kernel))
theorem kX10_245 : Cond.methodLink RX10 245 yX9_tryLay ∈ zTbl ∨ ∃ host, Cond.methodLinkNest RX10 245 yX9_tryLay host ∈ lw_tbl := Or.inl (zG_mem (n := 1173) (by decide +kernel))
theorem kX10_250 : Cond.methodLink RX10 250 yX9_tryGo ∈ zTbl ∨ ∃ host, Cond.methodLinkNest RX10 250 yX9_tryGo host ∈ lw_tbl := Or.inl (zG_mem (n := 1204) (by decide +kernel))
theorem kX10_256 : Cond.methodLink RX10 256 yX9_tryFill ∈ zTbl ∨ ∃ host, Cond.methodLinkNest RX10 256 yX9_tryFill host ∈ lw_tbl := Or.inl (zG_mem (n := 1221) (by decide +kernel))
theorem kX10_261 : Cond.methodLink RX10 261 yX9_tryDig ∈ zTbl ∨ ∃ host, Cond.methodLinkNest RX10 261 yX9_tryDig host ∈ lw_tbl := Or.inl (zG_mem (n := 1238) (by decide +kernel))
theorem kX10_268 : Cond.methodLink RX10 268 yX9_pass ∈ zTbl ∨ ∃ host, Cond.methodLinkNest RX10 268 yX9_pass host ∈ lw_tbl := Or.inl (zG_mem (n := 1255) (by decide +kernel))
theorem kX10_117 : Cond.methodLink RX10 117 yX6_perform ∈ zTbl ∨ ∃ host, Cond.methodLinkNest RX10 117 yX6_perform host ∈ lw_tbl := Or.inl (zG_mem (n := 1265) (by decide +kernel))
theorem kX10_210 : Cond.methodLink RX10 210 yX8_isRail ∈ zTbl ∨ ∃ host, Cond.methodLinkNest RX10 210 yX8_isRail host ∈ lw_tbl := Or.inl (zG_mem (n := 1316) (by decide +kernel))
theorem kX10_276 : Cond.methodLink RX10 276 yX9_tellOfRail ∈ zTbl ∨ ∃ host, Cond.methodLinkNest RX10 276 yX9_tellOfRail host ∈ lw_tbl := Or.inl (zG_mem (n := 1319) (by decide +kernel))
theorem kX10_285 : Cond.methodLink RX10 285 yX9_isFree ∈ zTbl ∨ ∃ host, Cond.methodLinkNest RX10 285 yX9_isFree host ∈ lw_tbl := Or.inl (zG_mem (n := 1340) (by decide +kernel))
theorem kX10_292 : Cond.methodLink RX10 292 yX5_tell ∈ zTbl ∨ ∃ host, Cond.methodLinkNest RX10 292 yX5_tell host ∈ lw_tbl := Or.inl (zG_mem (n := 1343) (by decide +kernel))
theorem kX10_298 : Cond.methodLink RX10 298 yX5_cellsWithin ∈ zTbl ∨ ∃ host, Cond.methodLinkNest RX10 298 yX5_cellsWithin host ∈ lw_tbl := Or.inl (zG_mem (n := 1419) (by decide +kernel))
theorem kX10_207 : Cond.methodLink RX10 207 yX9_takePlates ∈ zTbl ∨ ∃ host, Cond.methodLinkNest RX10 207 yX9_takePlates host ∈ lw_tbl := Or.inl (zG_mem (n := 1431) (by decide +kernel))
theorem kX10_215 : Cond.methodLink RX10 215 yX8_stateOf ∈ zTbl ∨ ∃ host, Cond.methodLinkNest RX10 215 yX8_stateOf host ∈ lw_tbl := Or.inl (zG_mem (n := 1442) (by decide +kernel))
theorem kX10_220 : Cond.methodLink RX10 220 yX8_changeState ∈ zTbl ∨ ∃ host, Cond.methodLinkNest RX10 220 yX8_changeState host ∈ lw_tbl := Or.inl (zG_mem (n := 1444) (by decide +kernel))
theorem kX10_320 : Cond.methodLink RX10 320 yX2_railOn ∈ zTbl ∨ ∃ host, Cond.methodLinkNest RX10 320 yX2_railOn host ∈ lw_tbl := Or.inl (zG_mem (n := 1452) (by decide +kernel))
theorem kX10_327 : Cond.methodLink RX10 327 yX0_copyFrom ∈ zTbl ∨ ∃ host, Cond.methodLinkNest RX10 327 yX0_copyFrom host ∈ lw_tbl := Or.inl (zG_mem (n := 1464) (by decide +kernel))
theorem kX10_330 : Cond.methodLink RX10 330 yX0_night ∈ zTbl ∨ ∃ host, Cond.methodLinkNest RX10 330 yX0_night host ∈ lw_tbl := Or.inl (zG_mem (n := 1465) (by decide +kernel))
end
section
/-! ===== blocks, words, links (by program) ===== -/

def BX11_throwsIf : List (Nat × List (Instr × Nat)) := [(0, [(.iload_n 1, 1), (.ifCond .eq 8, 3), (.aload_n 0, 1), (.iload_n 2, 1), (.putfield 3, 3)]), (9, [(.iload_n 1, 1), (.ireturn, 1)])]
theorem oX11_throwsIf : ∀ pc, zdec cX11_throwsIf pc (zBf BX11_throwsIf pc) := zBf_ok (by decide +kernel)
theorem bX11_throwsIf_0 : zBf BX11_throwsIf 0 = [(.iload_n 1, 1), (.ifCond .eq 8, 3), (.aload_n 0, 1), (.iload_n 2, 1), (.putfield 3, 3)] := rfl
theorem bX11_throwsIf_9 : zBf BX11_throwsIf 9 = [(.iload_n 1, 1), (.ireturn, 1)] := rfl
theorem hX11_throwsIf : zMv yX11_throwsIf cX11_throwsIf 3 (some .boolean) := ⟨zG_mem (n := 1700) (by decide +kernel), zG_mem (n := 127) (by decide +kernel), zG_mem (n := 1699) (by decide +kernel), zG_mem (n := 64) (by decide +kernel)⟩
def BX11_in : List (Nat × List (Instr × Nat)) := [(0, [(.iload_n 0, 1), (.iload_n 1, 1), (.if_icmp .lt 12, 3), (.iload_n 0, 1), (.iload_n 2, 1), (.if_icmp .gt 7, 3), (.iconst 1, 1), (.goto 4, 3)]), (14, [(.iconst 0, 1)]), (15, [(.ireturn, 1)])]
theorem oX11_in : ∀ pc, zdec cX11_in pc (zBf BX11_in pc) := zBf_ok (by decide +kernel)
theorem bX11_in_0 : zBf BX11_in 0 = [(.iload_n 0, 1), (.iload_n 1, 1), (.if_icmp .lt 12, 3), (.iload_n 0, 1), (.iload_n 2, 1), (.if_icmp .gt 7, 3), (.iconst 1, 1), (.goto 4, 3)] := rfl
theorem bX11_in_14 : zBf BX11_in 14 = [(.iconst 0, 1)] := rfl
theorem bX11_in_15 : zBf BX11_in 15 = [(.ireturn, 1)] := rfl
theorem hX11_in : zMs yX11_in cX11_in 3 (some .boolean) := ⟨zG_mem (n := 1710) (by decide +kernel), zG_mem (n := 127) (by decide +kernel), zG_mem (n := 1709) (by decide +kernel)⟩
def BX11_init : List (Nat × List (Instr × Nat)) := [(0, [(.aload_n 0, 1), (.invokespecial 7, 3), (.aload_n 0, 1), (.sipush 5917, 3), (.newarray .int, 2), (.putfield 13, 3), (.aload_n 0, 1), (.sipush 4856, 3), (.newarray .int, 2), (.putfield 17, 3), (.aload_n 0, 1), (.sipush 400, 3), (.newarray .byte, 2), (.putfield 20, 3), (.aload_n 0, 1), (.iconst (-1), 1), (.putfield 24, 3), (.aload_n 0, 1), (.iconst 5, 1), (.newarray .int, 2), (.putfield 27, 3), (.aload_n 0, 1), (.bipush 16, 2), (.newarray .int, 2), (.putfield 30, 3), (.aload_n 0, 1), (.bipush 100, 2), (.newarray .boolean, 2), (.putfield 33, 3), (.aload_n 0, 1), (.sipush 200, 3), (.newarray .int, 2), (.putfield 37, 3), (.aload_n 0, 1), (.bipush 7, 2), (.newarray .int, 2), (.putfield 40, 3), (.aload_n 0, 1), (.bipush 7, 2), (.newarray .int, 2), (.putfield 43, 3), (.aload_n 0, 1), (.sipush 6100, 3), (.newarray .long, 2), (.putfield 46, 3), (.aload_n 0, 1), (.bipush 100, 2), (.newarray .boolean, 2), (.putfield 50, 3), (.aload_n 0, 1), (.bipush 100, 2), (.newarray .boolean, 2), (.putfield 53, 3), (.aload_n 0, 1), (.bipush 100, 2), (.newarray .int, 2), (.putfield 56, 3), (.aload_n 0, 1), (.getfield 13, 3), (.iconst 3, 1), (.bipush 30, 2), (.iastore, 1), (.aload_n 0, 1), (.getfield 13, 3), (.iconst 4, 1), (.iconst 1, 1), (.iastore, 1), (.aload_n 0, 1), (.getfield 13, 3), (.iconst 5, 1), (.iconst 3, 1), (.iastore, 1), (.aload_n 0, 1), (.getfield 13, 3), (.bipush 7, 2), (.iconst 2, 1), (.iastore, 1), (.aload_n 0, 1), (.getfield 13, 3), (.bipush 8, 2), (.iconst 1, 1), (.iastore, 1), (.aload_n 0, 1), (.getfield 13, 3), (.bipush 10, 2), (.iconst (-1), 1), (.iastore, 1), (.aload_n 0, 1), (.getfield 13, 3), (.bipush 14, 2), (.iconst (-1), 1), (.iastore, 1), (.return_, 1)])]
theorem oX11_init : ∀ pc, zdec cX11_init pc (zBf BX11_init pc) := zBf_ok (by decide +kernel)
theorem bX11_init_0 : zBf BX11_init 0 = [(.aload_n 0, 1), (.invokespecial 7, 3), (.aload_n 0, 1), (.sipush 5917, 3), (.newarray .int, 2), (.putfield 13, 3), (.aload_n 0, 1), (.sipush 4856, 3), (.newarray .int, 2), (.putfield 17, 3), (.aload_n 0, 1), (.sipush 400, 3), (.newarray .byte, 2), (.putfield 20, 3), (.aload_n 0, 1), (.iconst (-1), 1), (.putfield 24, 3), (.aload_n 0, 1), (.iconst 5, 1), (.newarray .int, 2), (.putfield 27, 3), (.aload_n 0, 1), (.bipush 16, 2), (.newarray .int, 2), (.putfield 30, 3), (.aload_n 0, 1), (.bipush 100, 2), (.newarray .boolean, 2), (.putfield 33, 3), (.aload_n 0, 1), (.sipush 200, 3), (.newarray .int, 2), (.putfield 37, 3), (.aload_n 0, 1), (.bipush 7, 2), (.newarray .int, 2), (.putfield 40, 3), (.aload_n 0, 1), (.bipush 7, 2), (.newarray .int, 2), (.putfield 43, 3), (.aload_n 0, 1), (.sipush 6100, 3), (.newarray .long, 2), (.putfield 46, 3), (.aload_n 0, 1), (.bipush 100, 2), (.newarray .boolean, 2), (.putfield 50, 3), (.aload_n 0, 1), (.bipush 100, 2), (.newarray .boolean, 2), (.putfield 53, 3), (.aload_n 0, 1), (.bipush 100, 2), (.newarray .int, 2), (.putfield 56, 3), (.aload_n 0, 1), (.getfield 13, 3), (.iconst 3, 1), (.bipush 30, 2), (.iastore, 1), (.aload_n 0, 1), (.getfield 13, 3), (.iconst 4, 1), (.iconst 1, 1), (.iastore, 1), (.aload_n 0, 1), (.getfield 13, 3), (.iconst 5, 1), (.iconst 3, 1), (.iastore, 1), (.aload_n 0, 1), (.getfield 13, 3), (.bipush 7, 2), (.iconst 2, 1), (.iastore, 1), (.aload_n 0, 1), (.getfield 13, 3), (.bipush 8, 2), (.iconst 1, 1), (.iastore, 1), (.aload_n 0, 1), (.getfield 13, 3), (.bipush 10, 2), (.iconst (-1), 1), (.iastore, 1), (.aload_n 0, 1), (.getfield 13, 3), (.bipush 14, 2), (.iconst (-1), 1), (.iastore, 1), (.return_, 1)] := rfl
def BX11_image : List (Nat × List (Instr × Nat)) := [(0, [(.aload_n 0, 1), (.iconst 0, 1), (.putfield 3, 3), (.iconst 0, 1), (.istore_n 1, 1)]), (7, [(.iload_n 1, 1), (.sipush 4856, 3), (.if_icmp .ge 21, 3), (.aload_n 0, 1), (.getfield 17, 3), (.iload_n 1, 1), (.aload_n 0, 1), (.getfield 13, 3), (.iload_n 1, 1), (.iaload, 1), (.iastore, 1), (.iinc 1 1, 3), (.goto (-22), 3)]), (32, [(.aload_n 0, 1), (.iconst 1, 1), (.putfield 59, 3), (.return_, 1)])]
theorem oX11_image : ∀ pc, zdec cX11_image pc (zBf BX11_image pc) := zBf_ok (by decide +kernel)
theorem bX11_image_0 : zBf BX11_image 0 = [(.aload_n 0, 1), (.iconst 0, 1), (.putfield 3, 3), (.iconst 0, 1), (.istore_n 1, 1)] := rfl
theorem bX11_image_7 : zBf BX11_image 7 = [(.iload_n 1, 1), (.sipush 4856, 3), (.if_icmp .ge 21, 3), (.aload_n 0, 1), (.getfield 17, 3), (.iload_n 1, 1), (.aload_n 0, 1), (.getfield 13, 3), (.iload_n 1, 1), (.iaload, 1), (.iastore, 1), (.iinc 1 1, 3), (.goto (-22), 3)] := rfl
theorem bX11_image_32 : zBf BX11_image 32 = [(.aload_n 0, 1), (.iconst 1, 1), (.putfield 59, 3), (.return_, 1)] := rfl
theorem hX11_image : zMv yX11_image cX11_image 2 none := ⟨zG_mem (n := 1551) (by decide +kernel), zG_mem (n := 127) (by decide +kernel), zG_mem (n := 1549) (by decide +kernel), zG_mem (n := 1550) (by decide +kernel)⟩
def BX11_back : List (Nat × List (Instr × Nat)) := [(0, [(.aload_n 0, 1), (.iconst 0, 1), (.putfield 3, 3), (.aload_n 0, 1), (.getfield 59, 3), (.ifCond .ne 5, 3), (.iconst 0, 1), (.ireturn, 1)]), (14, [(.iconst 0, 1), (.istore_n 1, 1)]), (16, [(.iload_n 1, 1), (.sipush 4856, 3), (.if_icmp .ge 21, 3), (.aload_n 0, 1), (.getfield 13, 3), (.iload_n 1, 1), (.aload_n 0, 1), (.getfield 17, 3), (.iload_n 1, 1), (.iaload, 1), (.iastore, 1), (.iinc 1 1, 3), (.goto (-22), 3)]), (41, [(.iconst 1, 1), (.ireturn, 1)])]
theorem oX11_back : ∀ pc, zdec cX11_back pc (zBf BX11_back pc) := zBf_ok (by decide +kernel)
theorem bX11_back_0 : zBf BX11_back 0 = [(.aload_n 0, 1), (.iconst 0, 1), (.putfield 3, 3), (.aload_n 0, 1), (.getfield 59, 3), (.ifCond .ne 5, 3), (.iconst 0, 1), (.ireturn, 1)] := rfl
theorem bX11_back_14 : zBf BX11_back 14 = [(.iconst 0, 1), (.istore_n 1, 1)] := rfl
theorem bX11_back_16 : zBf BX11_back 16 = [(.iload_n 1, 1), (.sipush 4856, 3), (.if_icmp .ge 21, 3), (.aload_n 0, 1), (.getfield 13, 3), (.iload_n 1, 1), (.aload_n 0, 1), (.getfield 17, 3), (.iload_n 1, 1), (.iaload, 1), (.iastore, 1), (.iinc 1 1, 3), (.goto (-22), 3)] := rfl
theorem bX11_back_41 : zBf BX11_back 41 = [(.iconst 1, 1), (.ireturn, 1)] := rfl
theorem hX11_back : zMv yX11_back cX11_back 2 (some .boolean) := ⟨zG_mem (n := 1555) (by decide +kernel), zG_mem (n := 127) (by decide +kernel), zG_mem (n := 1553) (by decide +kernel), zG_mem (n := 1554) (by decide +kernel)⟩
def BX11_feed : List (Nat × List (Instr × Nat)) := [(0, [(.aload_n 0, 1), (.iconst 0, 1), (.putfield 3, 3), (.aload_n 0, 1), (.getfield 63, 3), (.bipush 20, 2), (.iadd, 1), (.sipush 400, 3), (.if_icmp .le 5, 3), (.iconst (-1), 1), (.ireturn, 1)]), (20, [(.aload_n 0, 1), (.getfield 27, 3), (.iconst 0, 1), (.iload_n 1, 1), (.iastore, 1), (.aload_n 0, 1), (.getfield 27, 3), (.iconst 1, 1), (.iload_n 2, 1), (.iastore, 1), (.aload_n 0, 1), (.getfield 27, 3), (.iconst 2, 1), (.iload_n 3, 1), (.iastore, 1), (.aload_n 0, 1), (.getfield 27, 3), (.iconst 3, 1), (.iload 4, 2), (.iastore, 1), (.aload_n 0, 1), (.getfield 27, 3), (.iconst 4, 1), (.iload 5, 2), (.iastore, 1), (.iconst 0, 1), (.istore 6, 2)]), (60, [(.iload 6, 2), (.bipush 20, 2), (.if_icmp .ge 42, 3), (.aload_n 0, 1), (.getfield 20, 3), (.aload_n 0, 1), (.getfield 63, 3), (.iload 6, 2), (.iadd, 1), (.aload_n 0, 1), (.getfield 27, 3), (.iload 6, 2), (.iconst 4, 1), (.idiv, 1), (.iaload, 1), (.bipush 24, 2), (.bipush 8, 2), (.iload 6, 2), (.iconst 4, 1), (.irem, 1), (.imul, 1), (.isub, 1), (.ishr, 1), (.i2b, 1), (.bastore, 1), (.iinc 6 1, 3), (.goto (-43), 3)]), (106, [(.aload_n 0, 1), (.dup, 1), (.getfield 63, 3), (.bipush 20, 2), (.iadd, 1), (.putfield 63, 3), (.aload_n 0, 1), (.getfield 63, 3), (.ireturn, 1)])]
theorem oX11_feed : ∀ pc, zdec cX11_feed pc (zBf BX11_feed pc) := zBf_ok (by decide +kernel)
theorem bX11_feed_0 : zBf BX11_feed 0 = [(.aload_n 0, 1), (.iconst 0, 1), (.putfield 3, 3), (.aload_n 0, 1), (.getfield 63, 3), (.bipush 20, 2), (.iadd, 1), (.sipush 400, 3), (.if_icmp .le 5, 3), (.iconst (-1), 1), (.ireturn, 1)] := rfl
theorem bX11_feed_20 : zBf BX11_feed 20 = [(.aload_n 0, 1), (.getfield 27, 3), (.iconst 0, 1), (.iload_n 1, 1), (.iastore, 1), (.aload_n 0, 1), (.getfield 27, 3), (.iconst 1, 1), (.iload_n 2, 1), (.iastore, 1), (.aload_n 0, 1), (.getfield 27, 3), (.iconst 2, 1), (.iload_n 3, 1), (.iastore, 1), (.aload_n 0, 1), (.getfield 27, 3), (.iconst 3, 1), (.iload 4, 2), (.iastore, 1), (.aload_n 0, 1), (.getfield 27, 3), (.iconst 4, 1), (.iload 5, 2), (.iastore, 1), (.iconst 0, 1), (.istore 6, 2)] := rfl
theorem bX11_feed_60 : zBf BX11_feed 60 = [(.iload 6, 2), (.bipush 20, 2), (.if_icmp .ge 42, 3), (.aload_n 0, 1), (.getfield 20, 3), (.aload_n 0, 1), (.getfield 63, 3), (.iload 6, 2), (.iadd, 1), (.aload_n 0, 1), (.getfield 27, 3), (.iload 6, 2), (.iconst 4, 1), (.idiv, 1), (.iaload, 1), (.bipush 24, 2), (.bipush 8, 2), (.iload 6, 2), (.iconst 4, 1), (.irem, 1), (.imul, 1), (.isub, 1), (.ishr, 1), (.i2b, 1), (.bastore, 1), (.iinc 6 1, 3), (.goto (-43), 3)] := rfl
theorem bX11_feed_106 : zBf BX11_feed 106 = [(.aload_n 0, 1), (.dup, 1), (.getfield 63, 3), (.bipush 20, 2), (.iadd, 1), (.putfield 63, 3), (.aload_n 0, 1), (.getfield 63, 3), (.ireturn, 1)] := rfl
theorem hX11_feed : zMv yX11_feed cX11_feed 7 (some .int) := ⟨zG_mem (n := 1559) (by decide +kernel), zG_mem (n := 127) (by decide +kernel), zG_mem (n := 1557) (by decide +kernel), zG_mem (n := 1558) (by decide +kernel)⟩
def BX11_end : List (Nat × List (Instr × Nat)) := [(0, [(.aload_n 0, 1), (.iconst 0, 1), (.putfield 3, 3), (.iload_n 1, 1), (.ifCond .lt 11, 3), (.iload_n 1, 1), (.aload_n 0, 1), (.getfield 63, 3), (.if_icmp .le 5, 3)]), (17, [(.iconst 0, 1), (.ireturn, 1)]), (19, [(.aload_n 0, 1), (.iload_n 1, 1), (.putfield 63, 3), (.iconst 1, 1), (.ireturn, 1)])]
theorem oX11_end : ∀ pc, zdec cX11_end pc (zBf BX11_end pc) := zBf_ok (by decide +kernel)
theorem bX11_end_0 : zBf BX11_end 0 = [(.aload_n 0, 1), (.iconst 0, 1), (.putfield 3, 3), (.iload_n 1, 1), (.ifCond .lt 11, 3), (.iload_n 1, 1), (.aload_n 0, 1), (.getfield 63, 3), (.if_icmp .le 5, 3)] := rfl
theorem bX11_end_17 : zBf BX11_end 17 = [(.iconst 0, 1), (.ireturn, 1)] := rfl
theorem bX11_end_19 : zBf BX11_end 19 = [(.aload_n 0, 1), (.iload_n 1, 1), (.putfield 63, 3), (.iconst 1, 1), (.ireturn, 1)] := rfl
theorem hX11_end : zMv yX11_end cX11_end 2 (some .boolean) := ⟨zG_mem (n := 1563) (by decide +kernel), zG_mem (n := 127) (by decide +kernel), zG_mem (n := 1561) (by decide +kernel), zG_mem (n := 1562) (by decide +kernel)⟩
def BX11_isAt : List (Nat × List (Instr × Nat)) := [(0, [(.aload_n 0, 1), (.getfield 66, 3), (.aload_n 0, 1), (.getfield 69, 3), (.if_icmp .ge 33, 3), (.aload_n 0, 1), (.getfield 20, 3), (.aload_n 0, 1), (.getfield 66, 3), (.baload, 1), (.iload_n 1, 1), (.if_icmp .lt 20, 3), (.aload_n 0, 1), (.getfield 20, 3), (.aload_n 0, 1), (.getfield 66, 3), (.baload, 1), (.iload_n 2, 1), (.if_icmp .gt 7, 3), (.iconst 1, 1), (.goto 4, 3)]), (41, [(.iconst 0, 1)]), (42, [(.ireturn, 1)])]
theorem oX11_isAt : ∀ pc, zdec cX11_isAt pc (zBf BX11_isAt pc) := zBf_ok (by decide +kernel)
theorem bX11_isAt_0 : zBf BX11_isAt 0 = [(.aload_n 0, 1), (.getfield 66, 3), (.aload_n 0, 1), (.getfield 69, 3), (.if_icmp .ge 33, 3), (.aload_n 0, 1), (.getfield 20, 3), (.aload_n 0, 1), (.getfield 66, 3), (.baload, 1), (.iload_n 1, 1), (.if_icmp .lt 20, 3), (.aload_n 0, 1), (.getfield 20, 3), (.aload_n 0, 1), (.getfield 66, 3), (.baload, 1), (.iload_n 2, 1), (.if_icmp .gt 7, 3), (.iconst 1, 1), (.goto 4, 3)] := rfl
theorem bX11_isAt_41 : zBf BX11_isAt 41 = [(.iconst 0, 1)] := rfl
theorem bX11_isAt_42 : zBf BX11_isAt 42 = [(.ireturn, 1)] := rfl
theorem hX11_isAt : zMv yX11_isAt cX11_isAt 3 (some .boolean) := ⟨zG_mem (n := 1583) (by decide +kernel), zG_mem (n := 127) (by decide +kernel), zG_mem (n := 1582) (by decide +kernel), zG_mem (n := 44) (by decide +kernel)⟩
def BX11_blanks : List (Nat × List (Instr × Nat)) := [(0, [(.aload_n 0, 1), (.bipush 32, 2), (.bipush 32, 2), (.invokevirtual 72, 3), (.ifCond .eq 16, 3), (.aload_n 0, 1), (.dup, 1), (.getfield 66, 3), (.iconst 1, 1), (.iadd, 1), (.putfield 66, 3), (.goto (-21), 3)]), (24, [(.aload_n 0, 1), (.aload_n 0, 1), (.getfield 66, 3), (.putfield 76, 3), (.return_, 1)])]
theorem oX11_blanks : ∀ pc, zdec cX11_blanks pc (zBf BX11_blanks pc) := zBf_ok (by decide +kernel)
theorem bX11_blanks_0 : zBf BX11_blanks 0 = [(.aload_n 0, 1), (.bipush 32, 2), (.bipush 32, 2), (.invokevirtual 72, 3), (.ifCond .eq 16, 3), (.aload_n 0, 1), (.dup, 1), (.getfield 66, 3), (.iconst 1, 1), (.iadd, 1), (.putfield 66, 3), (.goto (-21), 3)] := rfl
theorem bX11_blanks_24 : zBf BX11_blanks 24 = [(.aload_n 0, 1), (.aload_n 0, 1), (.getfield 66, 3), (.putfield 76, 3), (.return_, 1)] := rfl
theorem hX11_blanks : zMv yX11_blanks cX11_blanks 1 none := ⟨zG_mem (n := 1579) (by decide +kernel), zG_mem (n := 127) (by decide +kernel), zG_mem (n := 1578) (by decide +kernel), zG_mem (n := 43) (by decide +kernel)⟩
def BX11_letters : List (Nat × List (Instr × Nat)) := [(0, [(.aload_n 0, 1), (.invokevirtual 79, 3)]), (4, [(.aload_n 0, 1), (.bipush 97, 2), (.bipush 122, 2), (.invokevirtual 72, 3), (.ifCond .eq 16, 3), (.aload_n 0, 1), (.dup, 1), (.getfield 66, 3), (.iconst 1, 1), (.iadd, 1), (.putfield 66, 3), (.goto (-21), 3)]), (28, [(.return_, 1)])]
theorem oX11_letters : ∀ pc, zdec cX11_letters pc (zBf BX11_letters pc) := zBf_ok (by decide +kernel)
theorem bX11_letters_0 : zBf BX11_letters 0 = [(.aload_n 0, 1), (.invokevirtual 79, 3)] := rfl
theorem bX11_letters_4 : zBf BX11_letters 4 = [(.aload_n 0, 1), (.bipush 97, 2), (.bipush 122, 2), (.invokevirtual 72, 3), (.ifCond .eq 16, 3), (.aload_n 0, 1), (.dup, 1), (.getfield 66, 3), (.iconst 1, 1), (.iadd, 1), (.putfield 66, 3), (.goto (-21), 3)] := rfl
theorem bX11_letters_28 : zBf BX11_letters 28 = [(.return_, 1)] := rfl
theorem hX11_letters : zMv yX11_letters cX11_letters 1 none := ⟨zG_mem (n := 1595) (by decide +kernel), zG_mem (n := 127) (by decide +kernel), zG_mem (n := 1594) (by decide +kernel), zG_mem (n := 47) (by decide +kernel)⟩
def BX11_isWord : List (Nat × List (Instr × Nat)) := [(0, [(.aload_n 0, 1), (.getfield 66, 3), (.aload_n 0, 1), (.getfield 76, 3), (.isub, 1), (.aload_n 1, 1), (.invokevirtual 82, 3), (.if_icmp .ne 7, 3), (.iconst 1, 1), (.goto 4, 3)]), (20, [(.iconst 0, 1)]), (21, [(.istore_n 2, 1), (.iconst 0, 1), (.istore_n 3, 1)]), (24, [(.iload_n 2, 1), (.ifCond .eq 42, 3), (.iload_n 3, 1), (.aload_n 1, 1), (.invokevirtual 82, 3), (.if_icmp .ge 34, 3), (.aload_n 0, 1), (.getfield 20, 3), (.aload_n 0, 1), (.getfield 76, 3), (.iload_n 3, 1), (.iadd, 1), (.baload, 1), (.aload_n 1, 1), (.iload_n 3, 1), (.invokevirtual 88, 3), (.if_icmp .ne 7, 3), (.iconst 1, 1), (.goto 4, 3)]), (59, [(.iconst 0, 1)]), (60, [(.istore_n 2, 1), (.iinc 3 1, 3), (.goto (-40), 3)]), (67, [(.iload_n 2, 1), (.ireturn, 1)])]
theorem oX11_isWord : ∀ pc, zdec cX11_isWord pc (zBf BX11_isWord pc) := zBf_ok (by decide +kernel)
theorem bX11_isWord_0 : zBf BX11_isWord 0 = [(.aload_n 0, 1), (.getfield 66, 3), (.aload_n 0, 1), (.getfield 76, 3), (.isub, 1), (.aload_n 1, 1), (.invokevirtual 82, 3), (.if_icmp .ne 7, 3), (.iconst 1, 1), (.goto 4, 3)] := rfl
theorem bX11_isWord_20 : zBf BX11_isWord 20 = [(.iconst 0, 1)] := rfl
theorem bX11_isWord_21 : zBf BX11_isWord 21 = [(.istore_n 2, 1), (.iconst 0, 1), (.istore_n 3, 1)] := rfl
theorem bX11_isWord_24 : zBf BX11_isWord 24 = [(.iload_n 2, 1), (.ifCond .eq 42, 3), (.iload_n 3, 1), (.aload_n 1, 1), (.invokevirtual 82, 3), (.if_icmp .ge 34, 3), (.aload_n 0, 1), (.getfield 20, 3), (.aload_n 0, 1), (.getfield 76, 3), (.iload_n 3, 1), (.iadd, 1), (.baload, 1), (.aload_n 1, 1), (.iload_n 3, 1), (.invokevirtual 88, 3), (.if_icmp .ne 7, 3), (.iconst 1, 1), (.goto 4, 3)] := rfl
theorem bX11_isWord_59 : zBf BX11_isWord 59 = [(.iconst 0, 1)] := rfl
theorem bX11_isWord_60 : zBf BX11_isWord 60 = [(.istore_n 2, 1), (.iinc 3 1, 3), (.goto (-40), 3)] := rfl
theorem bX11_isWord_67 : zBf BX11_isWord 67 = [(.iload_n 2, 1), (.ireturn, 1)] := rfl
theorem hX11_isWord : zMv yX11_isWord cX11_isWord 4 (some .boolean) := ⟨zG_mem (n := 1600) (by decide +kernel), zG_mem (n := 127) (by decide +kernel), zG_mem (n := 1599) (by decide +kernel), zG_mem (n := 48) (by decide +kernel)⟩
def BX11_passes : List (Nat × List (Instr × Nat)) := [(0, [(.aload_n 0, 1), (.invokevirtual 92, 3), (.aload_n 0, 1), (.aload_n 1, 1), (.invokevirtual 95, 3), (.ifCond .eq 5, 3), (.iconst 1, 1), (.ireturn, 1)]), (14, [(.aload_n 0, 1), (.aload_n 0, 1), (.getfield 76, 3), (.putfield 66, 3), (.iconst 0, 1), (.ireturn, 1)])]
theorem oX11_passes : ∀ pc, zdec cX11_passes pc (zBf BX11_passes pc) := zBf_ok (by decide +kernel)
theorem bX11_passes_0 : zBf BX11_passes 0 = [(.aload_n 0, 1), (.invokevirtual 92, 3), (.aload_n 0, 1), (.aload_n 1, 1), (.invokevirtual 95, 3), (.ifCond .eq 5, 3), (.iconst 1, 1), (.ireturn, 1)] := rfl
theorem bX11_passes_14 : zBf BX11_passes 14 = [(.aload_n 0, 1), (.aload_n 0, 1), (.getfield 76, 3), (.putfield 66, 3), (.iconst 0, 1), (.ireturn, 1)] := rfl
theorem hX11_passes : zMv yX11_passes cX11_passes 2 (some .boolean) := ⟨zG_mem (n := 1663) (by decide +kernel), zG_mem (n := 127) (by decide +kernel), zG_mem (n := 1662) (by decide +kernel), zG_mem (n := 60) (by decide +kernel)⟩
def BX11_sign : List (Nat × List (Instr × Nat)) := [(0, [(.aload_n 0, 1), (.invokevirtual 79, 3), (.aload_n 0, 1), (.iload_n 1, 1), (.iload_n 1, 1), (.invokevirtual 72, 3), (.ifCond .ne 5, 3), (.iconst 0, 1), (.ireturn, 1)]), (15, [(.aload_n 0, 1), (.dup, 1), (.getfield 66, 3), (.iconst 1, 1), (.iadd, 1), (.putfield 66, 3), (.iconst 1, 1), (.ireturn, 1)])]
theorem oX11_sign : ∀ pc, zdec cX11_sign pc (zBf BX11_sign pc) := zBf_ok (by decide +kernel)
theorem bX11_sign_0 : zBf BX11_sign 0 = [(.aload_n 0, 1), (.invokevirtual 79, 3), (.aload_n 0, 1), (.iload_n 1, 1), (.iload_n 1, 1), (.invokevirtual 72, 3), (.ifCond .ne 5, 3), (.iconst 0, 1), (.ireturn, 1)] := rfl
theorem bX11_sign_15 : zBf BX11_sign 15 = [(.aload_n 0, 1), (.dup, 1), (.getfield 66, 3), (.iconst 1, 1), (.iadd, 1), (.putfield 66, 3), (.iconst 1, 1), (.ireturn, 1)] := rfl
theorem hX11_sign : zMv yX11_sign cX11_sign 2 (some .boolean) := ⟨zG_mem (n := 1633) (by decide +kernel), zG_mem (n := 127) (by decide +kernel), zG_mem (n := 1632) (by decide +kernel), zG_mem (n := 53) (by decide +kernel)⟩
def BX11_number : List (Nat × List (Instr × Nat)) := [(0, [(.aload_n 0, 1), (.invokevirtual 79, 3), (.iconst 0, 1), (.istore_n 3, 1)]), (6, [(.aload_n 0, 1), (.bipush 48, 2), (.bipush 57, 2), (.invokevirtual 72, 3), (.ifCond .eq 51, 3), (.aload_n 0, 1), (.getfield 66, 3), (.aload_n 0, 1), (.getfield 76, 3), (.isub, 1), (.iconst 4, 1), (.if_icmp .ge 23, 3), (.bipush 10, 2), (.iload_n 3, 1), (.imul, 1), (.aload_n 0, 1), (.getfield 20, 3), (.aload_n 0, 1), (.getfield 66, 3), (.baload, 1), (.iadd, 1), (.bipush 48, 2), (.isub, 1), (.goto 4, 3)]), (50, [(.iload_n 3, 1)]), (51, [(.istore_n 3, 1), (.aload_n 0, 1), (.dup, 1), (.getfield 66, 3), (.iconst 1, 1), (.iadd, 1), (.putfield 66, 3), (.goto (-56), 3)]), (65, [(.aload_n 0, 1), (.getfield 66, 3), (.aload_n 0, 1), (.getfield 76, 3), (.if_icmp .eq 26, 3), (.aload_n 0, 1), (.getfield 66, 3), (.aload_n 0, 1), (.getfield 76, 3), (.isub, 1), (.iconst 4, 1), (.if_icmp .gt 13, 3), (.iload_n 3, 1), (.iload_n 1, 1), (.if_icmp .lt 8, 3), (.iload_n 3, 1), (.iload_n 2, 1), (.if_icmp .le 7, 3)]), (99, [(.iconst (-1), 1), (.goto 4, 3)]), (103, [(.iload_n 3, 1)]), (104, [(.ireturn, 1)])]
theorem oX11_number : ∀ pc, zdec cX11_number pc (zBf BX11_number pc) := zBf_ok (by decide +kernel)
theorem bX11_number_0 : zBf BX11_number 0 = [(.aload_n 0, 1), (.invokevirtual 79, 3), (.iconst 0, 1), (.istore_n 3, 1)] := rfl
theorem bX11_number_6 : zBf BX11_number 6 = [(.aload_n 0, 1), (.bipush 48, 2), (.bipush 57, 2), (.invokevirtual 72, 3), (.ifCond .eq 51, 3), (.aload_n 0, 1), (.getfield 66, 3), (.aload_n 0, 1), (.getfield 76, 3), (.isub, 1), (.iconst 4, 1), (.if_icmp .ge 23, 3), (.bipush 10, 2), (.iload_n 3, 1), (.imul, 1), (.aload_n 0, 1), (.getfield 20, 3), (.aload_n 0, 1), (.getfield 66, 3), (.baload, 1), (.iadd, 1), (.bipush 48, 2), (.isub, 1), (.goto 4, 3)] := rfl
theorem bX11_number_50 : zBf BX11_number 50 = [(.iload_n 3, 1)] := rfl
theorem bX11_number_51 : zBf BX11_number 51 = [(.istore_n 3, 1), (.aload_n 0, 1), (.dup, 1), (.getfield 66, 3), (.iconst 1, 1), (.iadd, 1), (.putfield 66, 3), (.goto (-56), 3)] := rfl
theorem bX11_number_65 : zBf BX11_number 65 = [(.aload_n 0, 1), (.getfield 66, 3), (.aload_n 0, 1), (.getfield 76, 3), (.if_icmp .eq 26, 3), (.aload_n 0, 1), (.getfield 66, 3), (.aload_n 0, 1), (.getfield 76, 3), (.isub, 1), (.iconst 4, 1), (.if_icmp .gt 13, 3), (.iload_n 3, 1), (.iload_n 1, 1), (.if_icmp .lt 8, 3), (.iload_n 3, 1), (.iload_n 2, 1), (.if_icmp .le 7, 3)] := rfl
theorem bX11_number_99 : zBf BX11_number 99 = [(.iconst (-1), 1), (.goto 4, 3)] := rfl
theorem bX11_number_103 : zBf BX11_number 103 = [(.iload_n 3, 1)] := rfl
theorem bX11_number_104 : zBf BX11_number 104 = [(.ireturn, 1)] := rfl
theorem hX11_number : zMv yX11_number cX11_number 4 (some .int) := ⟨zG_mem (n := 1625) (by decide +kernel), zG_mem (n := 127) (by decide +kernel), zG_mem (n := 1624) (by decide +kernel), zG_mem (n := 51) (by decide +kernel)⟩
def BX11_fault : List (Nat × List (Instr × Nat)) := [(0, [(.aload_n 0, 1), (.iconst 0, 1), (.putfield 3, 3), (.aload_n 0, 1), (.getfield 24, 3), (.ireturn, 1)])]
theorem oX11_fault : ∀ pc, zdec cX11_fault pc (zBf BX11_fault pc) := zBf_ok (by decide +kernel)
theorem bX11_fault_0 : zBf BX11_fault 0 = [(.aload_n 0, 1), (.iconst 0, 1), (.putfield 3, 3), (.aload_n 0, 1), (.getfield 24, 3), (.ireturn, 1)] := rfl
theorem hX11_fault : zMv yX11_fault cX11_fault 1 (some .int) := ⟨zG_mem (n := 1567) (by decide +kernel), zG_mem (n := 127) (by decide +kernel), zG_mem (n := 1565) (by decide +kernel), zG_mem (n := 1566) (by decide +kernel)⟩
def BX11_textAt : List (Nat × List (Instr × Nat)) := [(0, [(.sipush 612, 3), (.sipush 1061, 3), (.iload_n 0, 1), (.imul, 1), (.iadd, 1), (.ireturn, 1)])]
theorem oX11_textAt : ∀ pc, zdec cX11_textAt pc (zBf BX11_textAt pc) := zBf_ok (by decide +kernel)
theorem bX11_textAt_0 : zBf BX11_textAt 0 = [(.sipush 612, 3), (.sipush 1061, 3), (.iload_n 0, 1), (.imul, 1), (.iadd, 1), (.ireturn, 1)] := rfl
theorem hX11_textAt : zMs yX11_textAt cX11_textAt 1 (some .int) := ⟨zG_mem (n := 1612) (by decide +kernel), zG_mem (n := 127) (by decide +kernel), zG_mem (n := 1611) (by decide +kernel)⟩
def BX11_opAt : List (Nat × List (Instr × Nat)) := [(0, [(.iload_n 0, 1), (.invokestatic 99, 3), (.iconst 1, 1), (.iadd, 1), (.iconst 3, 1), (.iload_n 1, 1), (.imul, 1), (.iadd, 1), (.ireturn, 1)])]
theorem oX11_opAt : ∀ pc, zdec cX11_opAt pc (zBf BX11_opAt pc) := zBf_ok (by decide +kernel)
theorem bX11_opAt_0 : zBf BX11_opAt 0 = [(.iload_n 0, 1), (.invokestatic 99, 3), (.iconst 1, 1), (.iadd, 1), (.iconst 3, 1), (.iload_n 1, 1), (.imul, 1), (.iadd, 1), (.ireturn, 1)] := rfl
theorem hX11_opAt : zMs yX11_opAt cX11_opAt 2 (some .int) := ⟨zG_mem (n := 1609) (by decide +kernel), zG_mem (n := 127) (by decide +kernel), zG_mem (n := 1608) (by decide +kernel)⟩
def BX11_stepAt : List (Nat × List (Instr × Nat)) := [(0, [(.iload_n 0, 1), (.invokestatic 99, 3), (.sipush 661, 3), (.iadd, 1), (.iconst 2, 1), (.iload_n 1, 1), (.imul, 1), (.iadd, 1), (.ireturn, 1)])]
theorem oX11_stepAt : ∀ pc, zdec cX11_stepAt pc (zBf BX11_stepAt pc) := zBf_ok (by decide +kernel)
theorem bX11_stepAt_0 : zBf BX11_stepAt 0 = [(.iload_n 0, 1), (.invokestatic 99, 3), (.sipush 661, 3), (.iadd, 1), (.iconst 2, 1), (.iload_n 1, 1), (.imul, 1), (.iadd, 1), (.ireturn, 1)] := rfl
theorem hX11_stepAt : zMs yX11_stepAt cX11_stepAt 2 (some .int) := ⟨zG_mem (n := 1670) (by decide +kernel), zG_mem (n := 127) (by decide +kernel), zG_mem (n := 1669) (by decide +kernel)⟩
def BX11_puts : List (Nat × List (Instr × Nat)) := [(0, [(.iconst 4, 1), (.aload_n 0, 1), (.getfield 103, 3), (.invokestatic 106, 3), (.istore 4, 2), (.aload_n 0, 1), (.getfield 13, 3), (.iload 4, 2), (.iload_n 1, 1), (.iastore, 1), (.aload_n 0, 1), (.getfield 13, 3), (.iload 4, 2), (.iconst 1, 1), (.iadd, 1), (.iload_n 2, 1), (.iastore, 1), (.aload_n 0, 1), (.getfield 13, 3), (.iload 4, 2), (.iconst 2, 1), (.iadd, 1), (.iload_n 3, 1), (.iastore, 1), (.aload_n 0, 1), (.dup, 1), (.getfield 103, 3), (.iconst 1, 1), (.iadd, 1), (.putfield 103, 3), (.aload_n 0, 1), (.getfield 103, 3), (.iconst 1, 1), (.isub, 1), (.ireturn, 1)])]
theorem oX11_puts : ∀ pc, zdec cX11_puts pc (zBf BX11_puts pc) := zBf_ok (by decide +kernel)
theorem bX11_puts_0 : zBf BX11_puts 0 = [(.iconst 4, 1), (.aload_n 0, 1), (.getfield 103, 3), (.invokestatic 106, 3), (.istore 4, 2), (.aload_n 0, 1), (.getfield 13, 3), (.iload 4, 2), (.iload_n 1, 1), (.iastore, 1), (.aload_n 0, 1), (.getfield 13, 3), (.iload 4, 2), (.iconst 1, 1), (.iadd, 1), (.iload_n 2, 1), (.iastore, 1), (.aload_n 0, 1), (.getfield 13, 3), (.iload 4, 2), (.iconst 2, 1), (.iadd, 1), (.iload_n 3, 1), (.iastore, 1), (.aload_n 0, 1), (.dup, 1), (.getfield 103, 3), (.iconst 1, 1), (.iadd, 1), (.putfield 103, 3), (.aload_n 0, 1), (.getfield 103, 3), (.iconst 1, 1), (.isub, 1), (.ireturn, 1)] := rfl
theorem hX11_puts : zMv yX11_puts cX11_puts 5 (some .int) := ⟨zG_mem (n := 1606) (by decide +kernel), zG_mem (n := 127) (by decide +kernel), zG_mem (n := 1605) (by decide +kernel), zG_mem (n := 49) (by decide +kernel)⟩
def BX11_emits : List (Nat × List (Instr × Nat)) := [(0, [(.aload_n 0, 1), (.getfield 13, 3), (.iconst 4, 1), (.aload_n 0, 1), (.getfield 110, 3), (.invokestatic 113, 3), (.iload_n 1, 1), (.iastore, 1), (.aload_n 0, 1), (.getfield 13, 3), (.iconst 4, 1), (.aload_n 0, 1), (.getfield 110, 3), (.invokestatic 113, 3), (.iconst 1, 1), (.iadd, 1), (.iload_n 2, 1), (.iastore, 1), (.aload_n 0, 1), (.dup, 1), (.getfield 110, 3), (.iconst 1, 1), (.iadd, 1), (.putfield 110, 3), (.iload_n 2, 1), (.ifCond .lt 7, 3), (.iconst 1, 1), (.goto 4, 3)]), (48, [(.iconst 0, 1)]), (49, [(.ireturn, 1)])]
theorem oX11_emits : ∀ pc, zdec cX11_emits pc (zBf BX11_emits pc) := zBf_ok (by decide +kernel)
theorem bX11_emits_0 : zBf BX11_emits 0 = [(.aload_n 0, 1), (.getfield 13, 3), (.iconst 4, 1), (.aload_n 0, 1), (.getfield 110, 3), (.invokestatic 113, 3), (.iload_n 1, 1), (.iastore, 1), (.aload_n 0, 1), (.getfield 13, 3), (.iconst 4, 1), (.aload_n 0, 1), (.getfield 110, 3), (.invokestatic 113, 3), (.iconst 1, 1), (.iadd, 1), (.iload_n 2, 1), (.iastore, 1), (.aload_n 0, 1), (.dup, 1), (.getfield 110, 3), (.iconst 1, 1), (.iadd, 1), (.putfield 110, 3), (.iload_n 2, 1), (.ifCond .lt 7, 3), (.iconst 1, 1), (.goto 4, 3)] := rfl
theorem bX11_emits_48 : zBf BX11_emits 48 = [(.iconst 0, 1)] := rfl
theorem bX11_emits_49 : zBf BX11_emits 49 = [(.ireturn, 1)] := rfl
theorem hX11_emits : zMv yX11_emits cX11_emits 3 (some .boolean) := ⟨zG_mem (n := 1667) (by decide +kernel), zG_mem (n := 127) (by decide +kernel), zG_mem (n := 1666) (by decide +kernel), zG_mem (n := 61) (by decide +kernel)⟩
def BX11_deeper : List (Nat × List (Instr × Nat)) := [(0, [(.aload_n 0, 1), (.getfield 116, 3), (.bipush 6, 2), (.if_icmp .ne 5, 3), (.iconst 0, 1), (.ireturn, 1)]), (11, [(.aload_n 0, 1), (.dup, 1), (.getfield 116, 3), (.iconst 1, 1), (.iadd, 1), (.putfield 116, 3), (.iconst 1, 1), (.ireturn, 1)])]
theorem oX11_deeper : ∀ pc, zdec cX11_deeper pc (zBf BX11_deeper pc) := zBf_ok (by decide +kernel)
theorem bX11_deeper_0 : zBf BX11_deeper 0 = [(.aload_n 0, 1), (.getfield 116, 3), (.bipush 6, 2), (.if_icmp .ne 5, 3), (.iconst 0, 1), (.ireturn, 1)] := rfl
theorem bX11_deeper_11 : zBf BX11_deeper 11 = [(.aload_n 0, 1), (.dup, 1), (.getfield 116, 3), (.iconst 1, 1), (.iadd, 1), (.putfield 116, 3), (.iconst 1, 1), (.ireturn, 1)] := rfl
theorem hX11_deeper : zMv yX11_deeper cX11_deeper 1 (some .boolean) := ⟨zG_mem (n := 1637) (by decide +kernel), zG_mem (n := 127) (by decide +kernel), zG_mem (n := 1636) (by decide +kernel), zG_mem (n := 54) (by decide +kernel)⟩
def BX11_opens : List (Nat × List (Instr × Nat)) := [(0, [(.aload_n 0, 1), (.iload_n 1, 1), (.invokevirtual 119, 3), (.ifCond .eq 14, 3), (.aload_n 0, 1), (.invokevirtual 123, 3), (.ifCond .eq 7, 3), (.iconst 1, 1), (.goto 4, 3)]), (19, [(.iconst 0, 1)]), (20, [(.ireturn, 1)])]
theorem oX11_opens : ∀ pc, zdec cX11_opens pc (zBf BX11_opens pc) := zBf_ok (by decide +kernel)
theorem bX11_opens_0 : zBf BX11_opens 0 = [(.aload_n 0, 1), (.iload_n 1, 1), (.invokevirtual 119, 3), (.ifCond .eq 14, 3), (.aload_n 0, 1), (.invokevirtual 123, 3), (.ifCond .eq 7, 3), (.iconst 1, 1), (.goto 4, 3)] := rfl
theorem bX11_opens_19 : zBf BX11_opens 19 = [(.iconst 0, 1)] := rfl
theorem bX11_opens_20 : zBf BX11_opens 20 = [(.ireturn, 1)] := rfl
theorem hX11_opens : zMv yX11_opens cX11_opens 2 (some .boolean) := ⟨zG_mem (n := 1629) (by decide +kernel), zG_mem (n := 127) (by decide +kernel), zG_mem (n := 1628) (by decide +kernel), zG_mem (n := 52) (by decide +kernel)⟩
def BX11_closes : List (Nat × List (Instr × Nat)) := [(0, [(.aload_n 0, 1), (.iload_n 1, 1), (.invokevirtual 119, 3), (.ifCond .ne 5, 3), (.iconst 0, 1), (.ireturn, 1)]), (10, [(.aload_n 0, 1), (.dup, 1), (.getfield 116, 3), (.iconst 1, 1), (.isub, 1), (.putfield 116, 3), (.iconst 1, 1), (.ireturn, 1)])]
theorem oX11_closes : ∀ pc, zdec cX11_closes pc (zBf BX11_closes pc) := zBf_ok (by decide +kernel)
theorem bX11_closes_0 : zBf BX11_closes 0 = [(.aload_n 0, 1), (.iload_n 1, 1), (.invokevirtual 119, 3), (.ifCond .ne 5, 3), (.iconst 0, 1), (.ireturn, 1)] := rfl
theorem bX11_closes_10 : zBf BX11_closes 10 = [(.aload_n 0, 1), (.dup, 1), (.getfield 116, 3), (.iconst 1, 1), (.isub, 1), (.putfield 116, 3), (.iconst 1, 1), (.ireturn, 1)] := rfl
theorem hX11_closes : zMv yX11_closes cX11_closes 2 (some .boolean) := ⟨zG_mem (n := 1641) (by decide +kernel), zG_mem (n := 127) (by decide +kernel), zG_mem (n := 1640) (by decide +kernel), zG_mem (n := 55) (by decide +kernel)⟩
def BX11_factAt : List (Nat × List (Instr × Nat)) := [(0, [(.aload_n 0, 1), (.ldc 127, 2), (.invokevirtual 95, 3), (.ifCond .eq 7, 3), (.iconst 0, 1), (.goto 97, 3)]), (13, [(.aload_n 0, 1), (.ldc 129, 2), (.invokevirtual 95, 3), (.ifCond .eq 7, 3), (.iconst 1, 1), (.goto 84, 3)]), (26, [(.aload_n 0, 1), (.ldc 131, 2), (.invokevirtual 95, 3), (.ifCond .eq 7, 3), (.iconst 2, 1), (.goto 71, 3)]), (39, [(.aload_n 0, 1), (.ldc 133, 2), (.invokevirtual 95, 3), (.ifCond .eq 7, 3), (.iconst 3, 1), (.goto 58, 3)]), (52, [(.aload_n 0, 1), (.ldc 135, 2), (.invokevirtual 95, 3), (.ifCond .eq 7, 3), (.iconst 4, 1), (.goto 45, 3)]), (65, [(.aload_n 0, 1), (.ldc 137, 2), (.invokevirtual 95, 3), (.ifCond .eq 7, 3), (.iconst 5, 1), (.goto 32, 3)]), (78, [(.aload_n 0, 1), (.ldc 139, 2), (.invokevirtual 95, 3), (.ifCond .eq 8, 3), (.bipush 6, 2), (.goto 18, 3)]), (92, [(.aload_n 0, 1), (.ldc 141, 2), (.invokevirtual 95, 3), (.ifCond .eq 8, 3), (.bipush 7, 2), (.goto 4, 3)]), (106, [(.iconst (-1), 1)]), (107, [(.ireturn, 1)])]
theorem oX11_factAt : ∀ pc, zdec cX11_factAt pc (zBf BX11_factAt pc) := zBf_ok (by decide +kernel)
theorem bX11_factAt_0 : zBf BX11_factAt 0 = [(.aload_n 0, 1), (.ldc 127, 2), (.invokevirtual 95, 3), (.ifCond .eq 7, 3), (.iconst 0, 1), (.goto 97, 3)] := rfl
theorem bX11_factAt_13 : zBf BX11_factAt 13 = [(.aload_n 0, 1), (.ldc 129, 2), (.invokevirtual 95, 3), (.ifCond .eq 7, 3), (.iconst 1, 1), (.goto 84, 3)] := rfl
theorem bX11_factAt_26 : zBf BX11_factAt 26 = [(.aload_n 0, 1), (.ldc 131, 2), (.invokevirtual 95, 3), (.ifCond .eq 7, 3), (.iconst 2, 1), (.goto 71, 3)] := rfl
theorem bX11_factAt_39 : zBf BX11_factAt 39 = [(.aload_n 0, 1), (.ldc 133, 2), (.invokevirtual 95, 3), (.ifCond .eq 7, 3), (.iconst 3, 1), (.goto 58, 3)] := rfl
theorem bX11_factAt_52 : zBf BX11_factAt 52 = [(.aload_n 0, 1), (.ldc 135, 2), (.invokevirtual 95, 3), (.ifCond .eq 7, 3), (.iconst 4, 1), (.goto 45, 3)] := rfl
theorem bX11_factAt_65 : zBf BX11_factAt 65 = [(.aload_n 0, 1), (.ldc 137, 2), (.invokevirtual 95, 3), (.ifCond .eq 7, 3), (.iconst 5, 1), (.goto 32, 3)] := rfl
theorem bX11_factAt_78 : zBf BX11_factAt 78 = [(.aload_n 0, 1), (.ldc 139, 2), (.invokevirtual 95, 3), (.ifCond .eq 8, 3), (.bipush 6, 2), (.goto 18, 3)] := rfl
theorem bX11_factAt_92 : zBf BX11_factAt 92 = [(.aload_n 0, 1), (.ldc 141, 2), (.invokevirtual 95, 3), (.ifCond .eq 8, 3), (.bipush 7, 2), (.goto 4, 3)] := rfl
theorem bX11_factAt_106 : zBf BX11_factAt 106 = [(.iconst (-1), 1)] := rfl
theorem bX11_factAt_107 : zBf BX11_factAt 107 = [(.ireturn, 1)] := rfl
theorem hX11_factAt : zMv yX11_factAt cX11_factAt 1 (some .int) := ⟨zG_mem (n := 1675) (by decide +kernel), zG_mem (n := 127) (by decide +kernel), zG_mem (n := 1674) (by decide +kernel), zG_mem (n := 62) (by decide +kernel)⟩
def BX11_readAtom : List (Nat × List (Instr × Nat)) := [(0, [(.aload_n 0, 1), (.bipush 91, 2), (.invokevirtual 119, 3), (.ifCond .eq 32, 3), (.aload_n 0, 1), (.invokevirtual 123, 3), (.ifCond .eq 23, 3), (.aload_n 0, 1), (.invokevirtual 143, 3), (.ifCond .eq 16, 3), (.aload_n 0, 1), (.bipush 93, 2), (.invokevirtual 146, 3), (.ifCond .eq 7, 3), (.iconst 1, 1), (.goto 4, 3)]), (36, [(.iconst 0, 1)]), (37, [(.ireturn, 1)]), (38, [(.aload_n 0, 1), (.ldc 149, 2), (.invokevirtual 151, 3), (.ifCond .eq 37, 3), (.aload_n 0, 1), (.invokevirtual 123, 3), (.ifCond .eq 10, 3), (.aload_n 0, 1), (.invokevirtual 154, 3), (.ifCond .ne 5, 3)]), (61, [(.iconst 0, 1), (.ireturn, 1)]), (63, [(.aload_n 0, 1), (.dup, 1), (.getfield 116, 3), (.iconst 1, 1), (.isub, 1), (.putfield 116, 3), (.aload_n 0, 1), (.bipush 17, 2), (.iconst 0, 1), (.invokevirtual 157, 3), (.ireturn, 1)]), (81, [(.aload_n 0, 1), (.ldc 160, 2), (.invokevirtual 151, 3), (.ifCond .eq 11, 3), (.aload_n 0, 1), (.bipush 16, 2), (.iconst 0, 1), (.invokevirtual 157, 3), (.ireturn, 1)]), (98, [(.aload_n 0, 1), (.invokevirtual 92, 3), (.aload_n 0, 1), (.invokevirtual 162, 3), (.istore_n 1, 1), (.iload_n 1, 1), (.ifCond .ge 5, 3), (.iconst 0, 1), (.ireturn, 1)]), (113, [(.aload_n 0, 1), (.bipush 60, 2), (.invokevirtual 119, 3), (.istore_n 2, 1), (.iload_n 2, 1), (.ifCond .ne 14, 3), (.aload_n 0, 1), (.bipush 62, 2), (.invokevirtual 119, 3), (.ifCond .ne 5, 3), (.iconst 0, 1), (.ireturn, 1)]), (135, [(.aload_n 0, 1), (.iconst 2, 1), (.iload_n 1, 1), (.imul, 1), (.iload_n 2, 1), (.ifCond .eq 7, 3), (.iconst 0, 1), (.goto 4, 3)]), (147, [(.iconst 1, 1)]), (148, [(.iadd, 1), (.aload_n 0, 1), (.iconst 0, 1), (.sipush 9999, 3), (.invokevirtual 165, 3), (.invokevirtual 157, 3), (.ireturn, 1)])]
theorem oX11_readAtom : ∀ pc, zdec cX11_readAtom pc (zBf BX11_readAtom pc) := zBf_ok (by decide +kernel)
theorem bX11_readAtom_0 : zBf BX11_readAtom 0 = [(.aload_n 0, 1), (.bipush 91, 2), (.invokevirtual 119, 3), (.ifCond .eq 32, 3), (.aload_n 0, 1), (.invokevirtual 123, 3), (.ifCond .eq 23, 3), (.aload_n 0, 1), (.invokevirtual 143, 3), (.ifCond .eq 16, 3), (.aload_n 0, 1), (.bipush 93, 2), (.invokevirtual 146, 3), (.ifCond .eq 7, 3), (.iconst 1, 1), (.goto 4, 3)] := rfl
theorem bX11_readAtom_36 : zBf BX11_readAtom 36 = [(.iconst 0, 1)] := rfl
theorem bX11_readAtom_37 : zBf BX11_readAtom 37 = [(.ireturn, 1)] := rfl
theorem bX11_readAtom_38 : zBf BX11_readAtom 38 = [(.aload_n 0, 1), (.ldc 149, 2), (.invokevirtual 151, 3), (.ifCond .eq 37, 3), (.aload_n 0, 1), (.invokevirtual 123, 3), (.ifCond .eq 10, 3), (.aload_n 0, 1), (.invokevirtual 154, 3), (.ifCond .ne 5, 3)] := rfl
theorem bX11_readAtom_61 : zBf BX11_readAtom 61 = [(.iconst 0, 1), (.ireturn, 1)] := rfl
theorem bX11_readAtom_63 : zBf BX11_readAtom 63 = [(.aload_n 0, 1), (.dup, 1), (.getfield 116, 3), (.iconst 1, 1), (.isub, 1), (.putfield 116, 3), (.aload_n 0, 1), (.bipush 17, 2), (.iconst 0, 1), (.invokevirtual 157, 3), (.ireturn, 1)] := rfl
theorem bX11_readAtom_81 : zBf BX11_readAtom 81 = [(.aload_n 0, 1), (.ldc 160, 2), (.invokevirtual 151, 3), (.ifCond .eq 11, 3), (.aload_n 0, 1), (.bipush 16, 2), (.iconst 0, 1), (.invokevirtual 157, 3), (.ireturn, 1)] := rfl
theorem bX11_readAtom_98 : zBf BX11_readAtom 98 = [(.aload_n 0, 1), (.invokevirtual 92, 3), (.aload_n 0, 1), (.invokevirtual 162, 3), (.istore_n 1, 1), (.iload_n 1, 1), (.ifCond .ge 5, 3), (.iconst 0, 1), (.ireturn, 1)] := rfl
theorem bX11_readAtom_113 : zBf BX11_readAtom 113 = [(.aload_n 0, 1), (.bipush 60, 2), (.invokevirtual 119, 3), (.istore_n 2, 1), (.iload_n 2, 1), (.ifCond .ne 14, 3), (.aload_n 0, 1), (.bipush 62, 2), (.invokevirtual 119, 3), (.ifCond .ne 5, 3), (.iconst 0, 1), (.ireturn, 1)] := rfl
theorem bX11_readAtom_135 : zBf BX11_readAtom 135 = [(.aload_n 0, 1), (.iconst 2, 1), (.iload_n 1, 1), (.imul, 1), (.iload_n 2, 1), (.ifCond .eq 7, 3), (.iconst 0, 1), (.goto 4, 3)] := rfl
theorem bX11_readAtom_147 : zBf BX11_readAtom 147 = [(.iconst 1, 1)] := rfl
theorem bX11_readAtom_148 : zBf BX11_readAtom 148 = [(.iadd, 1), (.aload_n 0, 1), (.iconst 0, 1), (.sipush 9999, 3), (.invokevirtual 165, 3), (.invokevirtual 157, 3), (.ireturn, 1)] := rfl
theorem hX11_readAtom : zMv yX11_readAtom cX11_readAtom 3 (some .boolean) := ⟨zG_mem (n := 1658) (by decide +kernel), zG_mem (n := 127) (by decide +kernel), zG_mem (n := 1657) (by decide +kernel), zG_mem (n := 59) (by decide +kernel)⟩
def BX11_readAllOf : List (Nat × List (Instr × Nat)) := [(0, [(.aload_n 0, 1), (.invokevirtual 154, 3), (.ifCond .ne 5, 3), (.iconst 0, 1), (.ireturn, 1)]), (9, [(.aload_n 0, 1), (.ldc 168, 2), (.invokevirtual 151, 3), (.ifCond .eq 22, 3), (.aload_n 0, 1), (.invokevirtual 154, 3), (.ifCond .eq 13, 3), (.aload_n 0, 1), (.bipush 18, 2), (.iconst 0, 1), (.invokevirtual 157, 3), (.ifCond .ne (-23), 3)]), (35, [(.iconst 0, 1), (.ireturn, 1)]), (37, [(.iconst 1, 1), (.ireturn, 1)])]
theorem oX11_readAllOf : ∀ pc, zdec cX11_readAllOf pc (zBf BX11_readAllOf pc) := zBf_ok (by decide +kernel)
theorem bX11_readAllOf_0 : zBf BX11_readAllOf 0 = [(.aload_n 0, 1), (.invokevirtual 154, 3), (.ifCond .ne 5, 3), (.iconst 0, 1), (.ireturn, 1)] := rfl
theorem bX11_readAllOf_9 : zBf BX11_readAllOf 9 = [(.aload_n 0, 1), (.ldc 168, 2), (.invokevirtual 151, 3), (.ifCond .eq 22, 3), (.aload_n 0, 1), (.invokevirtual 154, 3), (.ifCond .eq 13, 3), (.aload_n 0, 1), (.bipush 18, 2), (.iconst 0, 1), (.invokevirtual 157, 3), (.ifCond .ne (-23), 3)] := rfl
theorem bX11_readAllOf_35 : zBf BX11_readAllOf 35 = [(.iconst 0, 1), (.ireturn, 1)] := rfl
theorem bX11_readAllOf_37 : zBf BX11_readAllOf 37 = [(.iconst 1, 1), (.ireturn, 1)] := rfl
theorem hX11_readAllOf : zMv yX11_readAllOf cX11_readAllOf 1 (some .boolean) := ⟨zG_mem (n := 1654) (by decide +kernel), zG_mem (n := 127) (by decide +kernel), zG_mem (n := 1653) (by decide +kernel), zG_mem (n := 58) (by decide +kernel)⟩
def BX11_readCond : List (Nat × List (Instr × Nat)) := [(0, [(.aload_n 0, 1), (.invokevirtual 170, 3), (.ifCond .ne 5, 3), (.iconst 0, 1), (.ireturn, 1)]), (9, [(.aload_n 0, 1), (.ldc 173, 2), (.invokevirtual 151, 3), (.ifCond .eq 22, 3), (.aload_n 0, 1), (.invokevirtual 170, 3), (.ifCond .eq 13, 3), (.aload_n 0, 1), (.bipush 19, 2), (.iconst 0, 1), (.invokevirtual 157, 3), (.ifCond .ne (-23), 3)]), (35, [(.iconst 0, 1), (.ireturn, 1)]), (37, [(.iconst 1, 1), (.ireturn, 1)])]
theorem oX11_readCond : ∀ pc, zdec cX11_readCond pc (zBf BX11_readCond pc) := zBf_ok (by decide +kernel)
theorem bX11_readCond_0 : zBf BX11_readCond 0 = [(.aload_n 0, 1), (.invokevirtual 170, 3), (.ifCond .ne 5, 3), (.iconst 0, 1), (.ireturn, 1)] := rfl
theorem bX11_readCond_9 : zBf BX11_readCond 9 = [(.aload_n 0, 1), (.ldc 173, 2), (.invokevirtual 151, 3), (.ifCond .eq 22, 3), (.aload_n 0, 1), (.invokevirtual 170, 3), (.ifCond .eq 13, 3), (.aload_n 0, 1), (.bipush 19, 2), (.iconst 0, 1), (.invokevirtual 157, 3), (.ifCond .ne (-23), 3)] := rfl
theorem bX11_readCond_35 : zBf BX11_readCond 35 = [(.iconst 0, 1), (.ireturn, 1)] := rfl
theorem bX11_readCond_37 : zBf BX11_readCond 37 = [(.iconst 1, 1), (.ireturn, 1)] := rfl
theorem hX11_readCond : zMv yX11_readCond cX11_readCond 1 (some .boolean) := ⟨zG_mem (n := 1650) (by decide +kernel), zG_mem (n := 127) (by decide +kernel), zG_mem (n := 1649) (by decide +kernel), zG_mem (n := 57) (by decide +kernel)⟩
def BX11_wayAt : List (Nat × List (Instr × Nat)) := [(0, [(.aload_n 0, 1), (.ldc 175, 2), (.invokevirtual 95, 3), (.ifCond .eq 7, 3), (.iconst 0, 1), (.goto 43, 3)]), (13, [(.aload_n 0, 1), (.ldc 177, 2), (.invokevirtual 95, 3), (.ifCond .eq 7, 3), (.iconst 1, 1), (.goto 30, 3)]), (26, [(.aload_n 0, 1), (.ldc 179, 2), (.invokevirtual 95, 3), (.ifCond .eq 7, 3), (.iconst 2, 1), (.goto 17, 3)]), (39, [(.aload_n 0, 1), (.ldc 181, 2), (.invokevirtual 95, 3), (.ifCond .eq 7, 3), (.iconst 3, 1), (.goto 4, 3)]), (52, [(.iconst (-1), 1)]), (53, [(.ireturn, 1)])]
theorem oX11_wayAt : ∀ pc, zdec cX11_wayAt pc (zBf BX11_wayAt pc) := zBf_ok (by decide +kernel)
theorem bX11_wayAt_0 : zBf BX11_wayAt 0 = [(.aload_n 0, 1), (.ldc 175, 2), (.invokevirtual 95, 3), (.ifCond .eq 7, 3), (.iconst 0, 1), (.goto 43, 3)] := rfl
theorem bX11_wayAt_13 : zBf BX11_wayAt 13 = [(.aload_n 0, 1), (.ldc 177, 2), (.invokevirtual 95, 3), (.ifCond .eq 7, 3), (.iconst 1, 1), (.goto 30, 3)] := rfl
theorem bX11_wayAt_26 : zBf BX11_wayAt 26 = [(.aload_n 0, 1), (.ldc 179, 2), (.invokevirtual 95, 3), (.ifCond .eq 7, 3), (.iconst 2, 1), (.goto 17, 3)] := rfl
theorem bX11_wayAt_39 : zBf BX11_wayAt 39 = [(.aload_n 0, 1), (.ldc 181, 2), (.invokevirtual 95, 3), (.ifCond .eq 7, 3), (.iconst 3, 1), (.goto 4, 3)] := rfl
theorem bX11_wayAt_52 : zBf BX11_wayAt 52 = [(.iconst (-1), 1)] := rfl
theorem bX11_wayAt_53 : zBf BX11_wayAt 53 = [(.ireturn, 1)] := rfl
theorem hX11_wayAt : zMv yX11_wayAt cX11_wayAt 1 (some .int) := ⟨zG_mem (n := 1692) (by decide +kernel), zG_mem (n := 127) (by decide +kernel), zG_mem (n := 1691) (by decide +kernel), zG_mem (n := 63) (by decide +kernel)⟩
def BX11_readAgain : List (Nat × List (Instr × Nat)) := [(0, [(.aload_n 0, 1), (.iconst 1, 1), (.bipush 99, 2), (.invokevirtual 165, 3), (.istore_n 1, 1), (.iload_n 1, 1), (.ifCond .ge 5, 3), (.iconst 0, 1), (.ireturn, 1)]), (14, [(.aload_n 0, 1), (.bipush 8, 2), (.iload_n 1, 1), (.iconst 0, 1), (.invokevirtual 183, 3), (.istore_n 2, 1), (.aload_n 0, 1), (.bipush 40, 2), (.invokevirtual 187, 3), (.ifCond .eq 19, 3), (.aload_n 0, 1), (.invokevirtual 190, 3), (.ifCond .eq 12, 3), (.aload_n 0, 1), (.bipush 41, 2), (.invokevirtual 146, 3), (.ifCond .ne 5, 3)]), (48, [(.iconst 0, 1), (.ireturn, 1)]), (50, [(.aload_n 0, 1), (.bipush 11, 2), (.iload_n 2, 1), (.iconst 0, 1), (.invokevirtual 183, 3), (.pop, 1), (.iconst 1, 1), (.ireturn, 1)])]
theorem oX11_readAgain : ∀ pc, zdec cX11_readAgain pc (zBf BX11_readAgain pc) := zBf_ok (by decide +kernel)
theorem bX11_readAgain_0 : zBf BX11_readAgain 0 = [(.aload_n 0, 1), (.iconst 1, 1), (.bipush 99, 2), (.invokevirtual 165, 3), (.istore_n 1, 1), (.iload_n 1, 1), (.ifCond .ge 5, 3), (.iconst 0, 1), (.ireturn, 1)] := rfl
theorem bX11_readAgain_14 : zBf BX11_readAgain 14 = [(.aload_n 0, 1), (.bipush 8, 2), (.iload_n 1, 1), (.iconst 0, 1), (.invokevirtual 183, 3), (.istore_n 2, 1), (.aload_n 0, 1), (.bipush 40, 2), (.invokevirtual 187, 3), (.ifCond .eq 19, 3), (.aload_n 0, 1), (.invokevirtual 190, 3), (.ifCond .eq 12, 3), (.aload_n 0, 1), (.bipush 41, 2), (.invokevirtual 146, 3), (.ifCond .ne 5, 3)] := rfl
theorem bX11_readAgain_48 : zBf BX11_readAgain 48 = [(.iconst 0, 1), (.ireturn, 1)] := rfl
theorem bX11_readAgain_50 : zBf BX11_readAgain 50 = [(.aload_n 0, 1), (.bipush 11, 2), (.iload_n 2, 1), (.iconst 0, 1), (.invokevirtual 183, 3), (.pop, 1), (.iconst 1, 1), (.ireturn, 1)] := rfl
theorem hX11_readAgain : zMv yX11_readAgain cX11_readAgain 3 (some .boolean) := ⟨zG_mem (n := 1621) (by decide +kernel), zG_mem (n := 127) (by decide +kernel), zG_mem (n := 1620) (by decide +kernel), zG_mem (n := 50) (by decide +kernel)⟩
def BX11_readTest : List (Nat × List (Instr × Nat)) := [(0, [(.iload_n 1, 1), (.ifCond .eq 12, 3), (.aload_n 0, 1), (.bipush 7, 2), (.iconst 0, 1), (.iconst 0, 1), (.invokevirtual 183, 3), (.pop, 1)]), (13, [(.aload_n 0, 1), (.getfield 110, 3), (.istore_n 2, 1), (.aload_n 0, 1), (.invokevirtual 143, 3), (.ifCond .ne 5, 3), (.iconst 0, 1), (.ireturn, 1)]), (27, [(.aload_n 0, 1), (.iload_n 1, 1), (.ifCond .eq 8, 3), (.bipush 10, 2), (.goto 5, 3)]), (37, [(.bipush 9, 2)]), (39, [(.iload_n 2, 1), (.sipush 200, 3), (.imul, 1), (.aload_n 0, 1), (.getfield 110, 3), (.iadd, 1), (.iconst 0, 1), (.invokevirtual 183, 3), (.istore_n 3, 1), (.aload_n 0, 1), (.bipush 40, 2), (.invokevirtual 187, 3), (.ifCond .eq 19, 3), (.aload_n 0, 1), (.invokevirtual 190, 3), (.ifCond .eq 12, 3), (.aload_n 0, 1), (.bipush 41, 2), (.invokevirtual 146, 3), (.ifCond .ne 5, 3)]), (79, [(.iconst 0, 1), (.ireturn, 1)]), (81, [(.iload_n 1, 1), (.ifCond .eq 12, 3), (.aload_n 0, 1), (.bipush 11, 2), (.iload_n 3, 1), (.iconst 0, 1), (.invokevirtual 183, 3), (.pop, 1)]), (94, [(.aload_n 0, 1), (.getfield 13, 3), (.iconst 4, 1), (.iload_n 3, 1), (.invokestatic 106, 3), (.iconst 2, 1), (.iadd, 1), (.aload_n 0, 1), (.getfield 103, 3), (.iastore, 1), (.iconst 1, 1), (.ireturn, 1)])]
theorem oX11_readTest : ∀ pc, zdec cX11_readTest pc (zBf BX11_readTest pc) := zBf_ok (by decide +kernel)
theorem bX11_readTest_0 : zBf BX11_readTest 0 = [(.iload_n 1, 1), (.ifCond .eq 12, 3), (.aload_n 0, 1), (.bipush 7, 2), (.iconst 0, 1), (.iconst 0, 1), (.invokevirtual 183, 3), (.pop, 1)] := rfl
theorem bX11_readTest_13 : zBf BX11_readTest 13 = [(.aload_n 0, 1), (.getfield 110, 3), (.istore_n 2, 1), (.aload_n 0, 1), (.invokevirtual 143, 3), (.ifCond .ne 5, 3), (.iconst 0, 1), (.ireturn, 1)] := rfl
theorem bX11_readTest_27 : zBf BX11_readTest 27 = [(.aload_n 0, 1), (.iload_n 1, 1), (.ifCond .eq 8, 3), (.bipush 10, 2), (.goto 5, 3)] := rfl
theorem bX11_readTest_37 : zBf BX11_readTest 37 = [(.bipush 9, 2)] := rfl
theorem bX11_readTest_39 : zBf BX11_readTest 39 = [(.iload_n 2, 1), (.sipush 200, 3), (.imul, 1), (.aload_n 0, 1), (.getfield 110, 3), (.iadd, 1), (.iconst 0, 1), (.invokevirtual 183, 3), (.istore_n 3, 1), (.aload_n 0, 1), (.bipush 40, 2), (.invokevirtual 187, 3), (.ifCond .eq 19, 3), (.aload_n 0, 1), (.invokevirtual 190, 3), (.ifCond .eq 12, 3), (.aload_n 0, 1), (.bipush 41, 2), (.invokevirtual 146, 3), (.ifCond .ne 5, 3)] := rfl
theorem bX11_readTest_79 : zBf BX11_readTest 79 = [(.iconst 0, 1), (.ireturn, 1)] := rfl
theorem bX11_readTest_81 : zBf BX11_readTest 81 = [(.iload_n 1, 1), (.ifCond .eq 12, 3), (.aload_n 0, 1), (.bipush 11, 2), (.iload_n 3, 1), (.iconst 0, 1), (.invokevirtual 183, 3), (.pop, 1)] := rfl
theorem bX11_readTest_94 : zBf BX11_readTest 94 = [(.aload_n 0, 1), (.getfield 13, 3), (.iconst 4, 1), (.iload_n 3, 1), (.invokestatic 106, 3), (.iconst 2, 1), (.iadd, 1), (.aload_n 0, 1), (.getfield 103, 3), (.iastore, 1), (.iconst 1, 1), (.ireturn, 1)] := rfl
theorem hX11_readTest : zMv yX11_readTest cX11_readTest 4 (some .boolean) := ⟨zG_mem (n := 1646) (by decide +kernel), zG_mem (n := 127) (by decide +kernel), zG_mem (n := 1645) (by decide +kernel), zG_mem (n := 56) (by decide +kernel)⟩
def BX11_readOrder : List (Nat × List (Instr × Nat)) := [(0, [(.aload_n 0, 1), (.invokevirtual 92, 3), (.aload_n 0, 1), (.getfield 76, 3), (.istore_n 1, 1), (.aload_n 0, 1), (.ldc 193, 2), (.invokevirtual 95, 3), (.ifCond .eq 19, 3), (.aload_n 0, 1), (.iconst 0, 1), (.iconst 0, 1), (.iload_n 1, 1), (.invokevirtual 183, 3), (.ifCond .lt 7, 3), (.iconst 1, 1), (.goto 4, 3)]), (32, [(.iconst 0, 1)]), (33, [(.ireturn, 1)]), (34, [(.aload_n 0, 1), (.ldc 195, 2), (.invokevirtual 95, 3), (.ifCond .eq 19, 3), (.aload_n 0, 1), (.iconst 2, 1), (.iconst 0, 1), (.iload_n 1, 1), (.invokevirtual 183, 3), (.ifCond .lt 7, 3), (.iconst 1, 1), (.goto 4, 3)]), (57, [(.iconst 0, 1)]), (58, [(.ireturn, 1)]), (59, [(.aload_n 0, 1), (.ldc 197, 2), (.invokevirtual 95, 3), (.ifCond .eq 19, 3), (.aload_n 0, 1), (.iconst 3, 1), (.iconst 0, 1), (.iload_n 1, 1), (.invokevirtual 183, 3), (.ifCond .lt 7, 3), (.iconst 1, 1), (.goto 4, 3)]), (82, [(.iconst 0, 1)]), (83, [(.ireturn, 1)]), (84, [(.aload_n 0, 1), (.ldc 199, 2), (.invokevirtual 95, 3), (.ifCond .eq 19, 3), (.aload_n 0, 1), (.iconst 4, 1), (.iconst 0, 1), (.iload_n 1, 1), (.invokevirtual 183, 3), (.ifCond .lt 7, 3), (.iconst 1, 1), (.goto 4, 3)]), (107, [(.iconst 0, 1)]), (108, [(.ireturn, 1)]), (109, [(.aload_n 0, 1), (.ldc 201, 2), (.invokevirtual 95, 3), (.ifCond .eq 19, 3), (.aload_n 0, 1), (.iconst 5, 1), (.iconst 0, 1), (.iload_n 1, 1), (.invokevirtual 183, 3), (.ifCond .lt 7, 3), (.iconst 1, 1), (.goto 4, 3)]), (132, [(.iconst 0, 1)]), (133, [(.ireturn, 1)]), (134, [(.aload_n 0, 1), (.ldc 203, 2), (.invokevirtual 95, 3), (.ifCond .eq 8, 3), (.aload_n 0, 1), (.invokevirtual 205, 3), (.ireturn, 1)]), (148, [(.aload_n 0, 1), (.ldc 208, 2), (.invokevirtual 95, 3), (.ifCond .eq 9, 3), (.aload_n 0, 1), (.iconst 0, 1), (.invokevirtual 210, 3), (.ireturn, 1)]), (163, [(.aload_n 0, 1), (.ldc 214, 2), (.invokevirtual 95, 3), (.ifCond .eq 9, 3), (.aload_n 0, 1), (.iconst 1, 1), (.invokevirtual 210, 3), (.ireturn, 1)]), (178, [(.aload_n 0, 1), (.ldc 216, 2), (.invokevirtual 95, 3), (.ifCond .eq 31, 3), (.aload_n 0, 1), (.iconst 1, 1), (.sipush 1440, 3), (.invokevirtual 165, 3), (.istore_n 2, 1), (.aload_n 0, 1), (.bipush 6, 2), (.iload_n 2, 1), (.iload_n 1, 1), (.invokevirtual 183, 3), (.pop, 1), (.iload_n 2, 1), (.ifCond .le 7, 3), (.iconst 1, 1), (.goto 4, 3)]), (213, [(.iconst 0, 1)]), (214, [(.ireturn, 1)]), (215, [(.aload_n 0, 1), (.ldc 217, 2), (.invokevirtual 95, 3), (.ifCond .ne 5, 3), (.iconst 0, 1), (.ireturn, 1)]), (226, [(.aload_n 0, 1), (.invokevirtual 92, 3), (.aload_n 0, 1), (.invokevirtual 219, 3), (.istore_n 2, 1), (.aload_n 0, 1), (.iconst 1, 1), (.iload_n 2, 1), (.iload_n 1, 1), (.invokevirtual 183, 3), (.pop, 1), (.iload_n 2, 1), (.ifCond .lt 7, 3), (.iconst 1, 1), (.goto 4, 3)]), (251, [(.iconst 0, 1)]), (252, [(.ireturn, 1)])]
theorem oX11_readOrder : ∀ pc, zdec cX11_readOrder pc (zBf BX11_readOrder pc) := zBf_ok (by decide +kernel)
theorem bX11_readOrder_0 : zBf BX11_readOrder 0 = [(.aload_n 0, 1), (.invokevirtual 92, 3), (.aload_n 0, 1), (.getfield 76, 3), (.istore_n 1, 1), (.aload_n 0, 1), (.ldc 193, 2), (.invokevirtual 95, 3), (.ifCond .eq 19, 3), (.aload_n 0, 1), (.iconst 0, 1), (.iconst 0, 1), (.iload_n 1, 1), (.invokevirtual 183, 3), (.ifCond .lt 7, 3), (.iconst 1, 1), (.goto 4, 3)] := rfl
theorem bX11_readOrder_32 : zBf BX11_readOrder 32 = [(.iconst 0, 1)] := rfl
theorem bX11_readOrder_33 : zBf BX11_readOrder 33 = [(.ireturn, 1)] := rfl
theorem bX11_readOrder_34 : zBf BX11_readOrder 34 = [(.aload_n 0, 1), (.ldc 195, 2), (.invokevirtual 95, 3), (.ifCond .eq 19, 3), (.aload_n 0, 1), (.iconst 2, 1), (.iconst 0, 1), (.iload_n 1, 1), (.invokevirtual 183, 3), (.ifCond .lt 7, 3), (.iconst 1, 1), (.goto 4, 3)] := rfl
theorem bX11_readOrder_57 : zBf BX11_readOrder 57 = [(.iconst 0, 1)] := rfl
theorem bX11_readOrder_58 : zBf BX11_readOrder 58 = [(.ireturn, 1)] := rfl
theorem bX11_readOrder_59 : zBf BX11_readOrder 59 = [(.aload_n 0, 1), (.ldc 197, 2), (.invokevirtual 95, 3), (.ifCond .eq 19, 3), (.aload_n 0, 1), (.iconst 3, 1), (.iconst 0, 1), (.iload_n 1, 1), (.invokevirtual 183, 3), (.ifCond .lt 7, 3), (.iconst 1, 1), (.goto 4, 3)] := rfl
theorem bX11_readOrder_82 : zBf BX11_readOrder 82 = [(.iconst 0, 1)] := rfl
theorem bX11_readOrder_83 : zBf BX11_readOrder 83 = [(.ireturn, 1)] := rfl
theorem bX11_readOrder_84 : zBf BX11_readOrder 84 = [(.aload_n 0, 1), (.ldc 199, 2), (.invokevirtual 95, 3), (.ifCond .eq 19, 3), (.aload_n 0, 1), (.iconst 4, 1), (.iconst 0, 1), (.iload_n 1, 1), (.invokevirtual 183, 3), (.ifCond .lt 7, 3), (.iconst 1, 1), (.goto 4, 3)] := rfl
theorem bX11_readOrder_107 : zBf BX11_readOrder 107 = [(.iconst 0, 1)] := rfl
theorem bX11_readOrder_108 : zBf BX11_readOrder 108 = [(.ireturn, 1)] := rfl
theorem bX11_readOrder_109 : zBf BX11_readOrder 109 = [(.aload_n 0, 1), (.ldc 201, 2), (.invokevirtual 95, 3), (.ifCond .eq 19, 3), (.aload_n 0, 1), (.iconst 5, 1), (.iconst 0, 1), (.iload_n 1, 1), (.invokevirtual 183, 3), (.ifCond .lt 7, 3), (.iconst 1, 1), (.goto 4, 3)] := rfl
theorem bX11_readOrder_132 : zBf BX11_readOrder 132 = [(.iconst 0, 1)] := rfl
theorem bX11_readOrder_133 : zBf BX11_readOrder 133 = [(.ireturn, 1)] := rfl
theorem bX11_readOrder_134 : zBf BX11_readOrder 134 = [(.aload_n 0, 1), (.ldc 203, 2), (.invokevirtual 95, 3), (.ifCond .eq 8, 3), (.aload_n 0, 1), (.invokevirtual 205, 3), (.ireturn, 1)] := rfl
theorem bX11_readOrder_148 : zBf BX11_readOrder 148 = [(.aload_n 0, 1), (.ldc 208, 2), (.invokevirtual 95, 3), (.ifCond .eq 9, 3), (.aload_n 0, 1), (.iconst 0, 1), (.invokevirtual 210, 3), (.ireturn, 1)] := rfl
theorem bX11_readOrder_163 : zBf BX11_readOrder 163 = [(.aload_n 0, 1), (.ldc 214, 2), (.invokevirtual 95, 3), (.ifCond .eq 9, 3), (.aload_n 0, 1), (.iconst 1, 1), (.invokevirtual 210, 3), (.ireturn, 1)] := rfl
theorem bX11_readOrder_178 : zBf BX11_readOrder 178 = [(.aload_n 0, 1), (.ldc 216, 2), (.invokevirtual 95, 3), (.ifCond .eq 31, 3), (.aload_n 0, 1), (.iconst 1, 1), (.sipush 1440, 3), (.invokevirtual 165, 3), (.istore_n 2, 1), (.aload_n 0, 1), (.bipush 6, 2), (.iload_n 2, 1), (.iload_n 1, 1), (.invokevirtual 183, 3), (.pop, 1), (.iload_n 2, 1), (.ifCond .le 7, 3), (.iconst 1, 1), (.goto 4, 3)] := rfl
theorem bX11_readOrder_213 : zBf BX11_readOrder 213 = [(.iconst 0, 1)] := rfl
theorem bX11_readOrder_214 : zBf BX11_readOrder 214 = [(.ireturn, 1)] := rfl
theorem bX11_readOrder_215 : zBf BX11_readOrder 215 = [(.aload_n 0, 1), (.ldc 217, 2), (.invokevirtual 95, 3), (.ifCond .ne 5, 3), (.iconst 0, 1), (.ireturn, 1)] := rfl
theorem bX11_readOrder_226 : zBf BX11_readOrder 226 = [(.aload_n 0, 1), (.invokevirtual 92, 3), (.aload_n 0, 1), (.invokevirtual 219, 3), (.istore_n 2, 1), (.aload_n 0, 1), (.iconst 1, 1), (.iload_n 2, 1), (.iload_n 1, 1), (.invokevirtual 183, 3), (.pop, 1), (.iload_n 2, 1), (.ifCond .lt 7, 3), (.iconst 1, 1), (.goto 4, 3)] := rfl
theorem bX11_readOrder_251 : zBf BX11_readOrder 251 = [(.iconst 0, 1)] := rfl
theorem bX11_readOrder_252 : zBf BX11_readOrder 252 = [(.ireturn, 1)] := rfl
theorem hX11_readOrder : zMv yX11_readOrder cX11_readOrder 3 (some .boolean) := ⟨zG_mem (n := 1591) (by decide +kernel), zG_mem (n := 127) (by decide +kernel), zG_mem (n := 1590) (by decide +kernel), zG_mem (n := 46) (by decide +kernel)⟩
def BX11_readRow : List (Nat × List (Instr × Nat)) := [(0, [(.aload_n 0, 1), (.invokevirtual 222, 3), (.ifCond .ne 5, 3), (.iconst 0, 1), (.ireturn, 1)]), (9, [(.aload_n 0, 1), (.bipush 59, 2), (.invokevirtual 119, 3), (.ifCond .eq 12, 3), (.aload_n 0, 1), (.invokevirtual 222, 3), (.ifCond .ne (-13), 3), (.iconst 0, 1), (.ireturn, 1)]), (27, [(.iconst 1, 1), (.ireturn, 1)])]
theorem oX11_readRow : ∀ pc, zdec cX11_readRow pc (zBf BX11_readRow pc) := zBf_ok (by decide +kernel)
theorem bX11_readRow_0 : zBf BX11_readRow 0 = [(.aload_n 0, 1), (.invokevirtual 222, 3), (.ifCond .ne 5, 3), (.iconst 0, 1), (.ireturn, 1)] := rfl
theorem bX11_readRow_9 : zBf BX11_readRow 9 = [(.aload_n 0, 1), (.bipush 59, 2), (.invokevirtual 119, 3), (.ifCond .eq 12, 3), (.aload_n 0, 1), (.invokevirtual 222, 3), (.ifCond .ne (-13), 3), (.iconst 0, 1), (.ireturn, 1)] := rfl
theorem bX11_readRow_27 : zBf BX11_readRow 27 = [(.iconst 1, 1), (.ireturn, 1)] := rfl
theorem hX11_readRow : zMv yX11_readRow cX11_readRow 1 (some .boolean) := ⟨zG_mem (n := 1587) (by decide +kernel), zG_mem (n := 127) (by decide +kernel), zG_mem (n := 1586) (by decide +kernel), zG_mem (n := 45) (by decide +kernel)⟩
def BX11_readAll : List (Nat × List (Instr × Nat)) := [(0, [(.aload_n 0, 1), (.invokevirtual 79, 3), (.aload_n 0, 1), (.getfield 66, 3), (.aload_n 0, 1), (.getfield 69, 3), (.if_icmp .ne 5, 3), (.iconst 1, 1), (.ireturn, 1)]), (17, [(.aload_n 0, 1), (.invokevirtual 190, 3), (.ifCond .ne 5, 3), (.iconst 0, 1), (.ireturn, 1)]), (26, [(.aload_n 0, 1), (.invokevirtual 79, 3), (.aload_n 0, 1), (.getfield 66, 3), (.aload_n 0, 1), (.getfield 69, 3), (.if_icmp .ne 7, 3), (.iconst 1, 1), (.goto 4, 3)]), (45, [(.iconst 0, 1)]), (46, [(.ireturn, 1)])]
theorem oX11_readAll : ∀ pc, zdec cX11_readAll pc (zBf BX11_readAll pc) := zBf_ok (by decide +kernel)
theorem bX11_readAll_0 : zBf BX11_readAll 0 = [(.aload_n 0, 1), (.invokevirtual 79, 3), (.aload_n 0, 1), (.getfield 66, 3), (.aload_n 0, 1), (.getfield 69, 3), (.if_icmp .ne 5, 3), (.iconst 1, 1), (.ireturn, 1)] := rfl
theorem bX11_readAll_17 : zBf BX11_readAll 17 = [(.aload_n 0, 1), (.invokevirtual 190, 3), (.ifCond .ne 5, 3), (.iconst 0, 1), (.ireturn, 1)] := rfl
theorem bX11_readAll_26 : zBf BX11_readAll 26 = [(.aload_n 0, 1), (.invokevirtual 79, 3), (.aload_n 0, 1), (.getfield 66, 3), (.aload_n 0, 1), (.getfield 69, 3), (.if_icmp .ne 7, 3), (.iconst 1, 1), (.goto 4, 3)] := rfl
theorem bX11_readAll_45 : zBf BX11_readAll 45 = [(.iconst 0, 1)] := rfl
theorem bX11_readAll_46 : zBf BX11_readAll 46 = [(.ireturn, 1)] := rfl
theorem hX11_readAll : zMv yX11_readAll cX11_readAll 1 (some .boolean) := ⟨zG_mem (n := 1575) (by decide +kernel), zG_mem (n := 127) (by decide +kernel), zG_mem (n := 1574) (by decide +kernel), zG_mem (n := 42) (by decide +kernel)⟩
def BX11_orders : List (Nat × List (Instr × Nat)) := [(0, [(.aload_n 0, 1), (.iconst 0, 1), (.putfield 3, 3), (.aload_n 0, 1), (.aload_n 0, 1), (.getfield 63, 3), (.putfield 69, 3), (.aload_n 0, 1), (.iconst 0, 1), (.putfield 63, 3), (.aload_n 0, 1), (.iconst 0, 1), (.putfield 66, 3), (.aload_n 0, 1), (.iconst 0, 1), (.putfield 116, 3), (.aload_n 0, 1), (.iconst 0, 1), (.putfield 103, 3), (.aload_n 0, 1), (.iconst 0, 1), (.putfield 110, 3), (.aload_n 0, 1), (.invokevirtual 225, 3), (.istore_n 1, 1), (.aload_n 0, 1), (.iload_n 1, 1), (.ifCond .eq 7, 3), (.iconst (-1), 1), (.goto 7, 3)]), (52, [(.aload_n 0, 1), (.getfield 76, 3)]), (56, [(.putfield 24, 3), (.aload_n 0, 1), (.iload_n 1, 1), (.ifCond .ne 7, 3), (.iconst 1, 1), (.goto 4, 3)]), (68, [(.iconst 0, 1)]), (69, [(.iconst 1, 1), (.invokevirtual 228, 3), (.ifCond .ne 27, 3), (.aload_n 0, 1), (.aload_n 0, 1), (.getfield 13, 3), (.bipush 17, 2), (.iaload, 1), (.iconst 4, 1), (.if_icmp .ne 7, 3), (.iconst 1, 1), (.goto 4, 3)]), (92, [(.iconst 0, 1)]), (93, [(.iconst 2, 1), (.invokevirtual 228, 3), (.ifCond .eq 5, 3)]), (100, [(.iconst 0, 1), (.ireturn, 1)]), (102, [(.aload_n 0, 1), (.getfield 13, 3), (.bipush 17, 2), (.iaload, 1), (.istore_n 2, 1), (.aload_n 0, 1), (.getfield 13, 3), (.iconst 4, 1), (.invokestatic 99, 3), (.aload_n 0, 1), (.getfield 103, 3), (.iastore, 1), (.iconst 0, 1), (.istore_n 3, 1)]), (125, [(.iload_n 3, 1), (.sipush 1061, 3), (.if_icmp .ge 31, 3), (.aload_n 0, 1), (.getfield 13, 3), (.iload_n 2, 1), (.invokestatic 99, 3), (.iload_n 3, 1), (.iadd, 1), (.aload_n 0, 1), (.getfield 13, 3), (.iconst 4, 1), (.invokestatic 99, 3), (.iload_n 3, 1), (.iadd, 1), (.iaload, 1), (.iastore, 1), (.iinc 3 1, 3), (.goto (-32), 3)]), (160, [(.aload_n 0, 1), (.getfield 13, 3), (.bipush 17, 2), (.dup2, 1), (.iaload, 1), (.iconst 1, 1), (.iadd, 1), (.iastore, 1), (.iload_n 2, 1), (.ireturn, 1)])]
theorem oX11_orders : ∀ pc, zdec cX11_orders pc (zBf BX11_orders pc) := zBf_ok (by decide +kernel)
theorem bX11_orders_0 : zBf BX11_orders 0 = [(.aload_n 0, 1), (.iconst 0, 1), (.putfield 3, 3), (.aload_n 0, 1), (.aload_n 0, 1), (.getfield 63, 3), (.putfield 69, 3), (.aload_n 0, 1), (.iconst 0, 1), (.putfield 63, 3), (.aload_n 0, 1), (.iconst 0, 1), (.putfield 66, 3), (.aload_n 0, 1), (.iconst 0, 1), (.putfield 116, 3), (.aload_n 0, 1), (.iconst 0, 1), (.putfield 103, 3), (.aload_n 0, 1), (.iconst 0, 1), (.putfield 110, 3), (.aload_n 0, 1), (.invokevirtual 225, 3), (.istore_n 1, 1), (.aload_n 0, 1), (.iload_n 1, 1), (.ifCond .eq 7, 3), (.iconst (-1), 1), (.goto 7, 3)] := rfl
theorem bX11_orders_52 : zBf BX11_orders 52 = [(.aload_n 0, 1), (.getfield 76, 3)] := rfl
theorem bX11_orders_56 : zBf BX11_orders 56 = [(.putfield 24, 3), (.aload_n 0, 1), (.iload_n 1, 1), (.ifCond .ne 7, 3), (.iconst 1, 1), (.goto 4, 3)] := rfl
theorem bX11_orders_68 : zBf BX11_orders 68 = [(.iconst 0, 1)] := rfl
theorem bX11_orders_69 : zBf BX11_orders 69 = [(.iconst 1, 1), (.invokevirtual 228, 3), (.ifCond .ne 27, 3), (.aload_n 0, 1), (.aload_n 0, 1), (.getfield 13, 3), (.bipush 17, 2), (.iaload, 1), (.iconst 4, 1), (.if_icmp .ne 7, 3), (.iconst 1, 1), (.goto 4, 3)] := rfl
theorem bX11_orders_92 : zBf BX11_orders 92 = [(.iconst 0, 1)] := rfl
theorem bX11_orders_93 : zBf BX11_orders 93 = [(.iconst 2, 1), (.invokevirtual 228, 3), (.ifCond .eq 5, 3)] := rfl
theorem bX11_orders_100 : zBf BX11_orders 100 = [(.iconst 0, 1), (.ireturn, 1)] := rfl
theorem bX11_orders_102 : zBf BX11_orders 102 = [(.aload_n 0, 1), (.getfield 13, 3), (.bipush 17, 2), (.iaload, 1), (.istore_n 2, 1), (.aload_n 0, 1), (.getfield 13, 3), (.iconst 4, 1), (.invokestatic 99, 3), (.aload_n 0, 1), (.getfield 103, 3), (.iastore, 1), (.iconst 0, 1), (.istore_n 3, 1)] := rfl
theorem bX11_orders_125 : zBf BX11_orders 125 = [(.iload_n 3, 1), (.sipush 1061, 3), (.if_icmp .ge 31, 3), (.aload_n 0, 1), (.getfield 13, 3), (.iload_n 2, 1), (.invokestatic 99, 3), (.iload_n 3, 1), (.iadd, 1), (.aload_n 0, 1), (.getfield 13, 3), (.iconst 4, 1), (.invokestatic 99, 3), (.iload_n 3, 1), (.iadd, 1), (.iaload, 1), (.iastore, 1), (.iinc 3 1, 3), (.goto (-32), 3)] := rfl
theorem bX11_orders_160 : zBf BX11_orders 160 = [(.aload_n 0, 1), (.getfield 13, 3), (.bipush 17, 2), (.dup2, 1), (.iaload, 1), (.iconst 1, 1), (.iadd, 1), (.iastore, 1), (.iload_n 2, 1), (.ireturn, 1)] := rfl
theorem hX11_orders : zMv yX11_orders cX11_orders 4 (some .int) := ⟨zG_mem (n := 1571) (by decide +kernel), zG_mem (n := 127) (by decide +kernel), zG_mem (n := 1569) (by decide +kernel), zG_mem (n := 1570) (by decide +kernel)⟩
def BX11_noCell : List (Nat × List (Instr × Nat)) := [(0, [(.iload_n 0, 1), (.iconst 0, 1), (.bipush 99, 2), (.invokestatic 232, 3), (.ifCond .ne 7, 3), (.iconst 1, 1), (.goto 4, 3)]), (14, [(.iconst 0, 1)]), (15, [(.ireturn, 1)])]
theorem oX11_noCell : ∀ pc, zdec cX11_noCell pc (zBf BX11_noCell pc) := zBf_ok (by decide +kernel)
theorem bX11_noCell_0 : zBf BX11_noCell 0 = [(.iload_n 0, 1), (.iconst 0, 1), (.bipush 99, 2), (.invokestatic 232, 3), (.ifCond .ne 7, 3), (.iconst 1, 1), (.goto 4, 3)] := rfl
theorem bX11_noCell_14 : zBf BX11_noCell 14 = [(.iconst 0, 1)] := rfl
theorem bX11_noCell_15 : zBf BX11_noCell 15 = [(.ireturn, 1)] := rfl
theorem hX11_noCell : zMs yX11_noCell cX11_noCell 1 (some .boolean) := ⟨zG_mem (n := 1707) (by decide +kernel), zG_mem (n := 127) (by decide +kernel), zG_mem (n := 1706) (by decide +kernel)⟩
def BX11_beside : List (Nat × List (Instr × Nat)) := [(0, [(.iload_n 0, 1), (.bipush 10, 2), (.irem, 1), (.iload_n 1, 1), (.iconst 1, 1), (.if_icmp .ne 7, 3), (.iconst 1, 1), (.goto 13, 3)]), (13, [(.iload_n 1, 1), (.iconst 3, 1), (.if_icmp .ne 7, 3), (.iconst (-1), 1), (.goto 4, 3)]), (22, [(.iconst 0, 1)]), (23, [(.iadd, 1), (.istore_n 2, 1), (.iload_n 0, 1), (.bipush 10, 2), (.idiv, 1), (.iload_n 1, 1), (.iconst 2, 1), (.if_icmp .ne 7, 3), (.iconst 1, 1), (.goto 12, 3)]), (38, [(.iload_n 1, 1), (.ifCond .ne 7, 3), (.iconst (-1), 1), (.goto 4, 3)]), (46, [(.iconst 0, 1)]), (47, [(.iadd, 1), (.istore_n 3, 1), (.iload_n 2, 1), (.iconst 0, 1), (.bipush 9, 2), (.invokestatic 232, 3), (.ifCond .eq 22, 3), (.iload_n 3, 1), (.iconst 0, 1), (.bipush 9, 2), (.invokestatic 232, 3), (.ifCond .eq 12, 3), (.bipush 10, 2), (.iload_n 3, 1), (.imul, 1), (.iload_n 2, 1), (.iadd, 1), (.goto 4, 3)]), (78, [(.iconst (-1), 1)]), (79, [(.ireturn, 1)])]
theorem oX11_beside : ∀ pc, zdec cX11_beside pc (zBf BX11_beside pc) := zBf_ok (by decide +kernel)
theorem bX11_beside_0 : zBf BX11_beside 0 = [(.iload_n 0, 1), (.bipush 10, 2), (.irem, 1), (.iload_n 1, 1), (.iconst 1, 1), (.if_icmp .ne 7, 3), (.iconst 1, 1), (.goto 13, 3)] := rfl
theorem bX11_beside_13 : zBf BX11_beside 13 = [(.iload_n 1, 1), (.iconst 3, 1), (.if_icmp .ne 7, 3), (.iconst (-1), 1), (.goto 4, 3)] := rfl
theorem bX11_beside_22 : zBf BX11_beside 22 = [(.iconst 0, 1)] := rfl
theorem bX11_beside_23 : zBf BX11_beside 23 = [(.iadd, 1), (.istore_n 2, 1), (.iload_n 0, 1), (.bipush 10, 2), (.idiv, 1), (.iload_n 1, 1), (.iconst 2, 1), (.if_icmp .ne 7, 3), (.iconst 1, 1), (.goto 12, 3)] := rfl
theorem bX11_beside_38 : zBf BX11_beside 38 = [(.iload_n 1, 1), (.ifCond .ne 7, 3), (.iconst (-1), 1), (.goto 4, 3)] := rfl
theorem bX11_beside_46 : zBf BX11_beside 46 = [(.iconst 0, 1)] := rfl
theorem bX11_beside_47 : zBf BX11_beside 47 = [(.iadd, 1), (.istore_n 3, 1), (.iload_n 2, 1), (.iconst 0, 1), (.bipush 9, 2), (.invokestatic 232, 3), (.ifCond .eq 22, 3), (.iload_n 3, 1), (.iconst 0, 1), (.bipush 9, 2), (.invokestatic 232, 3), (.ifCond .eq 12, 3), (.bipush 10, 2), (.iload_n 3, 1), (.imul, 1), (.iload_n 2, 1), (.iadd, 1), (.goto 4, 3)] := rfl
theorem bX11_beside_78 : zBf BX11_beside 78 = [(.iconst (-1), 1)] := rfl
theorem bX11_beside_79 : zBf BX11_beside 79 = [(.ireturn, 1)] := rfl
theorem hX11_beside : zMs yX11_beside cX11_beside 4 (some .int) := ⟨zG_mem (n := 1783) (by decide +kernel), zG_mem (n := 127) (by decide +kernel), zG_mem (n := 1782) (by decide +kernel)⟩
def BX11_kindAt : List (Nat × List (Instr × Nat)) := [(0, [(.aload_n 0, 1), (.getfield 13, 3), (.bipush 20, 2), (.iload_n 1, 1), (.iadd, 1), (.iaload, 1), (.ireturn, 1)])]
theorem oX11_kindAt : ∀ pc, zdec cX11_kindAt pc (zBf BX11_kindAt pc) := zBf_ok (by decide +kernel)
theorem bX11_kindAt_0 : zBf BX11_kindAt 0 = [(.aload_n 0, 1), (.getfield 13, 3), (.bipush 20, 2), (.iload_n 1, 1), (.iadd, 1), (.iaload, 1), (.ireturn, 1)] := rfl
theorem hX11_kindAt : zMv yX11_kindAt cX11_kindAt 2 (some .int) := ⟨zG_mem (n := 1740) (by decide +kernel), zG_mem (n := 127) (by decide +kernel), zG_mem (n := 1739) (by decide +kernel), zG_mem (n := 70) (by decide +kernel)⟩
def BX11_lineMany : List (Nat × List (Instr × Nat)) := [(0, [(.aload_n 0, 1), (.getfield 13, 3), (.bipush 18, 2), (.iaload, 1), (.ireturn, 1)])]
theorem oX11_lineMany : ∀ pc, zdec cX11_lineMany pc (zBf BX11_lineMany pc) := zBf_ok (by decide +kernel)
theorem bX11_lineMany_0 : zBf BX11_lineMany 0 = [(.aload_n 0, 1), (.getfield 13, 3), (.bipush 18, 2), (.iaload, 1), (.ireturn, 1)] := rfl
theorem hX11_lineMany : zMv yX11_lineMany cX11_lineMany 1 (some .int) := ⟨zG_mem (n := 1720) (by decide +kernel), zG_mem (n := 127) (by decide +kernel), zG_mem (n := 1719) (by decide +kernel), zG_mem (n := 66) (by decide +kernel)⟩
def BX11_railAt : List (Nat × List (Instr × Nat)) := [(0, [(.aload_n 0, 1), (.getfield 13, 3), (.sipush 196, 3), (.iload_n 1, 1), (.iadd, 1), (.iaload, 1), (.ireturn, 1)])]
theorem oX11_railAt : ∀ pc, zdec cX11_railAt pc (zBf BX11_railAt pc) := zBf_ok (by decide +kernel)
theorem bX11_railAt_0 : zBf BX11_railAt 0 = [(.aload_n 0, 1), (.getfield 13, 3), (.sipush 196, 3), (.iload_n 1, 1), (.iadd, 1), (.iaload, 1), (.ireturn, 1)] := rfl
theorem hX11_railAt : zMv yX11_railAt cX11_railAt 2 (some .int) := ⟨zG_mem (n := 1728) (by decide +kernel), zG_mem (n := 127) (by decide +kernel), zG_mem (n := 1727) (by decide +kernel), zG_mem (n := 68) (by decide +kernel)⟩
def BX11_ofRail : List (Nat × List (Instr × Nat)) := [(0, [(.aload_n 0, 1), (.getfield 13, 3), (.bipush 120, 2), (.iconst 4, 1), (.iload_n 1, 1), (.imul, 1), (.iadd, 1), (.iload_n 2, 1), (.iadd, 1), (.iaload, 1), (.ireturn, 1)])]
theorem oX11_ofRail : ∀ pc, zdec cX11_ofRail pc (zBf BX11_ofRail pc) := zBf_ok (by decide +kernel)
theorem bX11_ofRail_0 : zBf BX11_ofRail 0 = [(.aload_n 0, 1), (.getfield 13, 3), (.bipush 120, 2), (.iconst 4, 1), (.iload_n 1, 1), (.imul, 1), (.iadd, 1), (.iload_n 2, 1), (.iadd, 1), (.iaload, 1), (.ireturn, 1)] := rfl
theorem hX11_ofRail : zMv yX11_ofRail cX11_ofRail 3 (some .int) := ⟨zG_mem (n := 1732) (by decide +kernel), zG_mem (n := 127) (by decide +kernel), zG_mem (n := 1731) (by decide +kernel), zG_mem (n := 69) (by decide +kernel)⟩
def BX11_setsRail : List (Nat × List (Instr × Nat)) := [(0, [(.aload_n 0, 1), (.getfield 13, 3), (.bipush 120, 2), (.iconst 4, 1), (.iload_n 1, 1), (.imul, 1), (.iadd, 1), (.iload_n 2, 1), (.iadd, 1), (.iload_n 3, 1), (.iastore, 1), (.return_, 1)])]
theorem oX11_setsRail : ∀ pc, zdec cX11_setsRail pc (zBf BX11_setsRail pc) := zBf_ok (by decide +kernel)
theorem bX11_setsRail_0 : zBf BX11_setsRail 0 = [(.aload_n 0, 1), (.getfield 13, 3), (.bipush 120, 2), (.iconst 4, 1), (.iload_n 1, 1), (.imul, 1), (.iadd, 1), (.iload_n 2, 1), (.iadd, 1), (.iload_n 3, 1), (.iastore, 1), (.return_, 1)] := rfl
theorem hX11_setsRail : zMv yX11_setsRail cX11_setsRail 4 none := ⟨zG_mem (n := 1748) (by decide +kernel), zG_mem (n := 127) (by decide +kernel), zG_mem (n := 1747) (by decide +kernel), zG_mem (n := 71) (by decide +kernel)⟩
def BX11_cellAt : List (Nat × List (Instr × Nat)) := [(0, [(.aload_n 0, 1), (.aload_n 0, 1), (.iload_n 1, 1), (.invokevirtual 236, 3), (.iconst 3, 1), (.invokevirtual 239, 3), (.ireturn, 1)])]
theorem oX11_cellAt : ∀ pc, zdec cX11_cellAt pc (zBf BX11_cellAt pc) := zBf_ok (by decide +kernel)
theorem bX11_cellAt_0 : zBf BX11_cellAt 0 = [(.aload_n 0, 1), (.aload_n 0, 1), (.iload_n 1, 1), (.invokevirtual 236, 3), (.iconst 3, 1), (.invokevirtual 239, 3), (.ireturn, 1)] := rfl
theorem hX11_cellAt : zMv yX11_cellAt cX11_cellAt 2 (some .int) := ⟨zG_mem (n := 1724) (by decide +kernel), zG_mem (n := 127) (by decide +kernel), zG_mem (n := 1723) (by decide +kernel), zG_mem (n := 67) (by decide +kernel)⟩
def BX11_isLine : List (Nat × List (Instr × Nat)) := [(0, [(.iconst 0, 1), (.istore_n 2, 1), (.iconst 0, 1), (.istore_n 3, 1)]), (4, [(.iload_n 3, 1), (.aload_n 0, 1), (.invokevirtual 242, 3), (.if_icmp .ge 28, 3), (.iload_n 2, 1), (.ifCond .ne 24, 3), (.aload_n 0, 1), (.iload_n 3, 1), (.invokevirtual 245, 3), (.iload_n 1, 1), (.if_icmp .ne 7, 3), (.iconst 1, 1), (.goto 4, 3)]), (29, [(.iconst 0, 1)]), (30, [(.istore_n 2, 1), (.iinc 3 1, 3), (.goto (-30), 3)]), (37, [(.iload_n 2, 1), (.ireturn, 1)])]
theorem oX11_isLine : ∀ pc, zdec cX11_isLine pc (zBf BX11_isLine pc) := zBf_ok (by decide +kernel)
theorem bX11_isLine_0 : zBf BX11_isLine 0 = [(.iconst 0, 1), (.istore_n 2, 1), (.iconst 0, 1), (.istore_n 3, 1)] := rfl
theorem bX11_isLine_4 : zBf BX11_isLine 4 = [(.iload_n 3, 1), (.aload_n 0, 1), (.invokevirtual 242, 3), (.if_icmp .ge 28, 3), (.iload_n 2, 1), (.ifCond .ne 24, 3), (.aload_n 0, 1), (.iload_n 3, 1), (.invokevirtual 245, 3), (.iload_n 1, 1), (.if_icmp .ne 7, 3), (.iconst 1, 1), (.goto 4, 3)] := rfl
theorem bX11_isLine_29 : zBf BX11_isLine 29 = [(.iconst 0, 1)] := rfl
theorem bX11_isLine_30 : zBf BX11_isLine 30 = [(.istore_n 2, 1), (.iinc 3 1, 3), (.goto (-30), 3)] := rfl
theorem bX11_isLine_37 : zBf BX11_isLine 37 = [(.iload_n 2, 1), (.ireturn, 1)] := rfl
theorem hX11_isLine : zMv yX11_isLine cX11_isLine 4 (some .boolean) := ⟨zG_mem (n := 1716) (by decide +kernel), zG_mem (n := 127) (by decide +kernel), zG_mem (n := 1715) (by decide +kernel), zG_mem (n := 65) (by decide +kernel)⟩
def BX11_ground : List (Nat × List (Instr × Nat)) := [(0, [(.aload_n 0, 1), (.iconst 0, 1), (.putfield 3, 3), (.aload_n 0, 1), (.iload_n 1, 1), (.invokestatic 248, 3), (.ifCond .ne 10, 3), (.iload_n 2, 1), (.invokestatic 248, 3), (.ifCond .eq 7, 3)]), (20, [(.iconst 1, 1), (.goto 4, 3)]), (24, [(.iconst 0, 1)]), (25, [(.iconst 1, 1), (.invokevirtual 228, 3), (.ifCond .ne 25, 3), (.aload_n 0, 1), (.iload_n 3, 1), (.iconst 0, 1), (.iconst 3, 1), (.invokestatic 232, 3), (.ifCond .ne 7, 3), (.iconst 1, 1), (.goto 4, 3)]), (46, [(.iconst 0, 1)]), (47, [(.iconst 2, 1), (.invokevirtual 228, 3), (.ifCond .eq 5, 3)]), (54, [(.iconst 0, 1), (.ireturn, 1)]), (56, [(.iconst 0, 1), (.istore 4, 2), (.iconst 0, 1), (.istore 5, 2)]), (62, [(.iload 5, 2), (.bipush 100, 2), (.if_icmp .ge 105, 3), (.iload 5, 2), (.bipush 10, 2), (.irem, 1), (.iload_n 1, 1), (.bipush 10, 2), (.irem, 1), (.iload_n 2, 1), (.bipush 10, 2), (.irem, 1), (.invokestatic 251, 3), (.iload_n 1, 1), (.bipush 10, 2), (.irem, 1), (.iload_n 2, 1), (.bipush 10, 2), (.irem, 1), (.invokestatic 256, 3), (.invokestatic 232, 3), (.istore 6, 2), (.iload 6, 2), (.ifCond .eq 62, 3), (.iload 5, 2), (.bipush 10, 2), (.idiv, 1), (.iload_n 1, 1), (.bipush 10, 2), (.idiv, 1), (.iload_n 2, 1), (.bipush 10, 2), (.idiv, 1), (.invokestatic 251, 3), (.iload_n 1, 1), (.bipush 10, 2), (.idiv, 1), (.iload_n 2, 1), (.bipush 10, 2), (.idiv, 1), (.invokestatic 256, 3), (.invokestatic 232, 3), (.ifCond .eq 29, 3), (.aload_n 0, 1), (.iload 5, 2), (.invokevirtual 259, 3), (.ifCond .eq 6, 3), (.goto 17, 3)]), (151, [(.aload_n 0, 1), (.getfield 13, 3), (.bipush 20, 2), (.iload 5, 2), (.iadd, 1), (.iload_n 3, 1), (.iastore, 1), (.iinc 4 1, 3)]), (165, [(.iinc 5 1, 3), (.goto (-106), 3)]), (171, [(.iload 4, 2), (.ireturn, 1)])]
theorem oX11_ground : ∀ pc, zdec cX11_ground pc (zBf BX11_ground pc) := zBf_ok (by decide +kernel)
theorem bX11_ground_0 : zBf BX11_ground 0 = [(.aload_n 0, 1), (.iconst 0, 1), (.putfield 3, 3), (.aload_n 0, 1), (.iload_n 1, 1), (.invokestatic 248, 3), (.ifCond .ne 10, 3), (.iload_n 2, 1), (.invokestatic 248, 3), (.ifCond .eq 7, 3)] := rfl
theorem bX11_ground_20 : zBf BX11_ground 20 = [(.iconst 1, 1), (.goto 4, 3)] := rfl
theorem bX11_ground_24 : zBf BX11_ground 24 = [(.iconst 0, 1)] := rfl
theorem bX11_ground_25 : zBf BX11_ground 25 = [(.iconst 1, 1), (.invokevirtual 228, 3), (.ifCond .ne 25, 3), (.aload_n 0, 1), (.iload_n 3, 1), (.iconst 0, 1), (.iconst 3, 1), (.invokestatic 232, 3), (.ifCond .ne 7, 3), (.iconst 1, 1), (.goto 4, 3)] := rfl
theorem bX11_ground_46 : zBf BX11_ground 46 = [(.iconst 0, 1)] := rfl
theorem bX11_ground_47 : zBf BX11_ground 47 = [(.iconst 2, 1), (.invokevirtual 228, 3), (.ifCond .eq 5, 3)] := rfl
theorem bX11_ground_54 : zBf BX11_ground 54 = [(.iconst 0, 1), (.ireturn, 1)] := rfl
theorem bX11_ground_56 : zBf BX11_ground 56 = [(.iconst 0, 1), (.istore 4, 2), (.iconst 0, 1), (.istore 5, 2)] := rfl
theorem bX11_ground_62 : zBf BX11_ground 62 = [(.iload 5, 2), (.bipush 100, 2), (.if_icmp .ge 105, 3), (.iload 5, 2), (.bipush 10, 2), (.irem, 1), (.iload_n 1, 1), (.bipush 10, 2), (.irem, 1), (.iload_n 2, 1), (.bipush 10, 2), (.irem, 1), (.invokestatic 251, 3), (.iload_n 1, 1), (.bipush 10, 2), (.irem, 1), (.iload_n 2, 1), (.bipush 10, 2), (.irem, 1), (.invokestatic 256, 3), (.invokestatic 232, 3), (.istore 6, 2), (.iload 6, 2), (.ifCond .eq 62, 3), (.iload 5, 2), (.bipush 10, 2), (.idiv, 1), (.iload_n 1, 1), (.bipush 10, 2), (.idiv, 1), (.iload_n 2, 1), (.bipush 10, 2), (.idiv, 1), (.invokestatic 251, 3), (.iload_n 1, 1), (.bipush 10, 2), (.idiv, 1), (.iload_n 2, 1), (.bipush 10, 2), (.idiv, 1), (.invokestatic 256, 3), (.invokestatic 232, 3), (.ifCond .eq 29, 3), (.aload_n 0, 1), (.iload 5, 2), (.invokevirtual 259, 3), (.ifCond .eq 6, 3), (.goto 17, 3)] := rfl
theorem bX11_ground_151 : zBf BX11_ground 151 = [(.aload_n 0, 1), (.getfield 13, 3), (.bipush 20, 2), (.iload 5, 2), (.iadd, 1), (.iload_n 3, 1), (.iastore, 1), (.iinc 4 1, 3)] := rfl
theorem bX11_ground_165 : zBf BX11_ground 165 = [(.iinc 5 1, 3), (.goto (-106), 3)] := rfl
theorem bX11_ground_171 : zBf BX11_ground 171 = [(.iload 4, 2), (.ireturn, 1)] := rfl
theorem hX11_ground : zMv yX11_ground cX11_ground 7 (some .int) := ⟨zG_mem (n := 1704) (by decide +kernel), zG_mem (n := 127) (by decide +kernel), zG_mem (n := 1702) (by decide +kernel), zG_mem (n := 1703) (by decide +kernel)⟩
def BX11_kind : List (Nat × List (Instr × Nat)) := [(0, [(.aload_n 0, 1), (.iconst 0, 1), (.putfield 3, 3), (.aload_n 0, 1), (.iload_n 1, 1), (.invokestatic 248, 3), (.iconst 1, 1), (.invokevirtual 228, 3), (.ifCond .eq 7, 3), (.iconst 0, 1), (.goto 8, 3)]), (21, [(.aload_n 0, 1), (.iload_n 1, 1), (.invokevirtual 262, 3)]), (26, [(.ireturn, 1)])]
theorem oX11_kind : ∀ pc, zdec cX11_kind pc (zBf BX11_kind pc) := zBf_ok (by decide +kernel)
theorem bX11_kind_0 : zBf BX11_kind 0 = [(.aload_n 0, 1), (.iconst 0, 1), (.putfield 3, 3), (.aload_n 0, 1), (.iload_n 1, 1), (.invokestatic 248, 3), (.iconst 1, 1), (.invokevirtual 228, 3), (.ifCond .eq 7, 3), (.iconst 0, 1), (.goto 8, 3)] := rfl
theorem bX11_kind_21 : zBf BX11_kind 21 = [(.aload_n 0, 1), (.iload_n 1, 1), (.invokevirtual 262, 3)] := rfl
theorem bX11_kind_26 : zBf BX11_kind 26 = [(.ireturn, 1)] := rfl
theorem hX11_kind : zMv yX11_kind cX11_kind 2 (some .int) := ⟨zG_mem (n := 1736) (by decide +kernel), zG_mem (n := 127) (by decide +kernel), zG_mem (n := 1734) (by decide +kernel), zG_mem (n := 1735) (by decide +kernel)⟩
def BX11_rail : List (Nat × List (Instr × Nat)) := [(0, [(.aload_n 0, 1), (.iconst 0, 1), (.putfield 3, 3), (.aload_n 0, 1), (.iload_n 1, 1), (.iconst 0, 1), (.bipush 99, 2), (.invokestatic 232, 3), (.ifCond .eq 14, 3), (.iload_n 2, 1), (.bipush (-9), 2), (.bipush 9, 2), (.invokestatic 232, 3), (.ifCond .ne 7, 3)]), (27, [(.iconst 1, 1), (.goto 4, 3)]), (31, [(.iconst 0, 1)]), (32, [(.iconst 1, 1), (.invokevirtual 228, 3), (.ifCond .ne 28, 3), (.aload_n 0, 1), (.aload_n 0, 1), (.getfield 13, 3), (.bipush 15, 2), (.iaload, 1), (.bipush 16, 2), (.if_icmp .ne 7, 3), (.iconst 1, 1), (.goto 4, 3)]), (56, [(.iconst 0, 1)]), (57, [(.iconst 2, 1), (.invokevirtual 228, 3), (.ifCond .eq 5, 3)]), (64, [(.iconst 0, 1), (.ireturn, 1)]), (66, [(.aload_n 0, 1), (.getfield 13, 3), (.bipush 15, 2), (.iaload, 1), (.istore_n 3, 1), (.aload_n 0, 1), (.iload_n 3, 1), (.iconst 0, 1), (.iload_n 1, 1), (.invokevirtual 265, 3), (.aload_n 0, 1), (.iload_n 3, 1), (.iconst 1, 1), (.iload_n 2, 1), (.invokevirtual 265, 3), (.aload_n 0, 1), (.iload_n 3, 1), (.iconst 2, 1), (.iconst 1, 1), (.invokevirtual 265, 3), (.aload_n 0, 1), (.iload_n 3, 1), (.iconst 3, 1), (.iconst (-1), 1), (.invokevirtual 265, 3), (.aload_n 0, 1), (.getfield 13, 3), (.bipush 15, 2), (.dup2, 1), (.iaload, 1), (.iconst 1, 1), (.iadd, 1), (.iastore, 1), (.iload_n 3, 1), (.ireturn, 1)])]
theorem oX11_rail : ∀ pc, zdec cX11_rail pc (zBf BX11_rail pc) := zBf_ok (by decide +kernel)
theorem bX11_rail_0 : zBf BX11_rail 0 = [(.aload_n 0, 1), (.iconst 0, 1), (.putfield 3, 3), (.aload_n 0, 1), (.iload_n 1, 1), (.iconst 0, 1), (.bipush 99, 2), (.invokestatic 232, 3), (.ifCond .eq 14, 3), (.iload_n 2, 1), (.bipush (-9), 2), (.bipush 9, 2), (.invokestatic 232, 3), (.ifCond .ne 7, 3)] := rfl
theorem bX11_rail_27 : zBf BX11_rail 27 = [(.iconst 1, 1), (.goto 4, 3)] := rfl
theorem bX11_rail_31 : zBf BX11_rail 31 = [(.iconst 0, 1)] := rfl
theorem bX11_rail_32 : zBf BX11_rail 32 = [(.iconst 1, 1), (.invokevirtual 228, 3), (.ifCond .ne 28, 3), (.aload_n 0, 1), (.aload_n 0, 1), (.getfield 13, 3), (.bipush 15, 2), (.iaload, 1), (.bipush 16, 2), (.if_icmp .ne 7, 3), (.iconst 1, 1), (.goto 4, 3)] := rfl
theorem bX11_rail_56 : zBf BX11_rail 56 = [(.iconst 0, 1)] := rfl
theorem bX11_rail_57 : zBf BX11_rail 57 = [(.iconst 2, 1), (.invokevirtual 228, 3), (.ifCond .eq 5, 3)] := rfl
theorem bX11_rail_64 : zBf BX11_rail 64 = [(.iconst 0, 1), (.ireturn, 1)] := rfl
theorem bX11_rail_66 : zBf BX11_rail 66 = [(.aload_n 0, 1), (.getfield 13, 3), (.bipush 15, 2), (.iaload, 1), (.istore_n 3, 1), (.aload_n 0, 1), (.iload_n 3, 1), (.iconst 0, 1), (.iload_n 1, 1), (.invokevirtual 265, 3), (.aload_n 0, 1), (.iload_n 3, 1), (.iconst 1, 1), (.iload_n 2, 1), (.invokevirtual 265, 3), (.aload_n 0, 1), (.iload_n 3, 1), (.iconst 2, 1), (.iconst 1, 1), (.invokevirtual 265, 3), (.aload_n 0, 1), (.iload_n 3, 1), (.iconst 3, 1), (.iconst (-1), 1), (.invokevirtual 265, 3), (.aload_n 0, 1), (.getfield 13, 3), (.bipush 15, 2), (.dup2, 1), (.iaload, 1), (.iconst 1, 1), (.iadd, 1), (.iastore, 1), (.iload_n 3, 1), (.ireturn, 1)] := rfl
theorem hX11_rail : zMv yX11_rail cX11_rail 4 (some .int) := ⟨zG_mem (n := 1744) (by decide +kernel), zG_mem (n := 127) (by decide +kernel), zG_mem (n := 1742) (by decide +kernel), zG_mem (n := 1743) (by decide +kernel)⟩
def BX11_gang : List (Nat × List (Instr × Nat)) := [(0, [(.aload_n 0, 1), (.iconst 0, 1), (.putfield 3, 3), (.aload_n 0, 1), (.iload_n 1, 1), (.iconst 1, 1), (.bipush 9, 2), (.invokestatic 232, 3), (.ifCond .eq 13, 3), (.iload_n 2, 1), (.iconst 1, 1), (.bipush 30, 2), (.invokestatic 232, 3), (.ifCond .ne 7, 3)]), (26, [(.iconst 1, 1), (.goto 4, 3)]), (30, [(.iconst 0, 1)]), (31, [(.iconst 1, 1), (.invokevirtual 228, 3), (.ifCond .ne 27, 3), (.aload_n 0, 1), (.aload_n 0, 1), (.getfield 13, 3), (.bipush 16, 2), (.iaload, 1), (.iconst 4, 1), (.if_icmp .ne 7, 3), (.iconst 1, 1), (.goto 4, 3)]), (54, [(.iconst 0, 1)]), (55, [(.iconst 2, 1), (.invokevirtual 228, 3), (.ifCond .eq 5, 3)]), (62, [(.iconst 0, 1), (.ireturn, 1)]), (64, [(.sipush 184, 3), (.iconst 3, 1), (.aload_n 0, 1), (.getfield 13, 3), (.bipush 16, 2), (.iaload, 1), (.imul, 1), (.iadd, 1), (.istore_n 3, 1), (.aload_n 0, 1), (.getfield 13, 3), (.iload_n 3, 1), (.iload_n 1, 1), (.iastore, 1), (.aload_n 0, 1), (.getfield 13, 3), (.iload_n 3, 1), (.iconst 1, 1), (.iadd, 1), (.iload_n 2, 1), (.iastore, 1), (.aload_n 0, 1), (.getfield 13, 3), (.iload_n 3, 1), (.iconst 2, 1), (.iadd, 1), (.iconst 0, 1), (.iastore, 1), (.aload_n 0, 1), (.getfield 13, 3), (.bipush 16, 2), (.dup2, 1), (.iaload, 1), (.iconst 1, 1), (.iadd, 1), (.iastore, 1), (.aload_n 0, 1), (.getfield 13, 3), (.bipush 16, 2), (.iaload, 1), (.iconst 1, 1), (.isub, 1), (.ireturn, 1)])]
theorem oX11_gang : ∀ pc, zdec cX11_gang pc (zBf BX11_gang pc) := zBf_ok (by decide +kernel)
theorem bX11_gang_0 : zBf BX11_gang 0 = [(.aload_n 0, 1), (.iconst 0, 1), (.putfield 3, 3), (.aload_n 0, 1), (.iload_n 1, 1), (.iconst 1, 1), (.bipush 9, 2), (.invokestatic 232, 3), (.ifCond .eq 13, 3), (.iload_n 2, 1), (.iconst 1, 1), (.bipush 30, 2), (.invokestatic 232, 3), (.ifCond .ne 7, 3)] := rfl
theorem bX11_gang_26 : zBf BX11_gang 26 = [(.iconst 1, 1), (.goto 4, 3)] := rfl
theorem bX11_gang_30 : zBf BX11_gang 30 = [(.iconst 0, 1)] := rfl
theorem bX11_gang_31 : zBf BX11_gang 31 = [(.iconst 1, 1), (.invokevirtual 228, 3), (.ifCond .ne 27, 3), (.aload_n 0, 1), (.aload_n 0, 1), (.getfield 13, 3), (.bipush 16, 2), (.iaload, 1), (.iconst 4, 1), (.if_icmp .ne 7, 3), (.iconst 1, 1), (.goto 4, 3)] := rfl
theorem bX11_gang_54 : zBf BX11_gang 54 = [(.iconst 0, 1)] := rfl
theorem bX11_gang_55 : zBf BX11_gang 55 = [(.iconst 2, 1), (.invokevirtual 228, 3), (.ifCond .eq 5, 3)] := rfl
theorem bX11_gang_62 : zBf BX11_gang 62 = [(.iconst 0, 1), (.ireturn, 1)] := rfl
theorem bX11_gang_64 : zBf BX11_gang 64 = [(.sipush 184, 3), (.iconst 3, 1), (.aload_n 0, 1), (.getfield 13, 3), (.bipush 16, 2), (.iaload, 1), (.imul, 1), (.iadd, 1), (.istore_n 3, 1), (.aload_n 0, 1), (.getfield 13, 3), (.iload_n 3, 1), (.iload_n 1, 1), (.iastore, 1), (.aload_n 0, 1), (.getfield 13, 3), (.iload_n 3, 1), (.iconst 1, 1), (.iadd, 1), (.iload_n 2, 1), (.iastore, 1), (.aload_n 0, 1), (.getfield 13, 3), (.iload_n 3, 1), (.iconst 2, 1), (.iadd, 1), (.iconst 0, 1), (.iastore, 1), (.aload_n 0, 1), (.getfield 13, 3), (.bipush 16, 2), (.dup2, 1), (.iaload, 1), (.iconst 1, 1), (.iadd, 1), (.iastore, 1), (.aload_n 0, 1), (.getfield 13, 3), (.bipush 16, 2), (.iaload, 1), (.iconst 1, 1), (.isub, 1), (.ireturn, 1)] := rfl
theorem hX11_gang : zMv yX11_gang cX11_gang 4 (some .int) := ⟨zG_mem (n := 1752) (by decide +kernel), zG_mem (n := 127) (by decide +kernel), zG_mem (n := 1750) (by decide +kernel), zG_mem (n := 1751) (by decide +kernel)⟩
def BX11_task : List (Nat × List (Instr × Nat)) := [(0, [(.aload_n 0, 1), (.iconst 0, 1), (.putfield 3, 3), (.aload_n 0, 1), (.iload_n 1, 1), (.iconst 0, 1), (.aload_n 0, 1), (.getfield 13, 3), (.bipush 16, 2), (.iaload, 1), (.iconst 1, 1), (.isub, 1), (.invokestatic 232, 3), (.ifCond .ne 7, 3), (.iconst 1, 1), (.goto 4, 3)]), (27, [(.iconst 0, 1)]), (28, [(.iconst 1, 1), (.invokevirtual 228, 3), (.ifCond .ne 25, 3), (.aload_n 0, 1), (.iload_n 2, 1), (.iconst 0, 1), (.iconst 3, 1), (.invokestatic 232, 3), (.ifCond .ne 7, 3), (.iconst 1, 1), (.goto 4, 3)]), (49, [(.iconst 0, 1)]), (50, [(.iconst 2, 1), (.invokevirtual 228, 3), (.ifCond .eq 5, 3)]), (57, [(.iconst 0, 1), (.ireturn, 1)]), (59, [(.aload_n 0, 1), (.getfield 13, 3), (.sipush 184, 3), (.iconst 3, 1), (.iload_n 1, 1), (.imul, 1), (.iadd, 1), (.iconst 2, 1), (.iadd, 1), (.iaload, 1), (.istore_n 3, 1), (.aload_n 0, 1), (.getfield 13, 3), (.sipush 184, 3), (.iconst 3, 1), (.iload_n 1, 1), (.imul, 1), (.iadd, 1), (.iconst 2, 1), (.iadd, 1), (.iload_n 2, 1), (.iastore, 1), (.iload_n 3, 1), (.ireturn, 1)])]
theorem oX11_task : ∀ pc, zdec cX11_task pc (zBf BX11_task pc) := zBf_ok (by decide +kernel)
theorem bX11_task_0 : zBf BX11_task 0 = [(.aload_n 0, 1), (.iconst 0, 1), (.putfield 3, 3), (.aload_n 0, 1), (.iload_n 1, 1), (.iconst 0, 1), (.aload_n 0, 1), (.getfield 13, 3), (.bipush 16, 2), (.iaload, 1), (.iconst 1, 1), (.isub, 1), (.invokestatic 232, 3), (.ifCond .ne 7, 3), (.iconst 1, 1), (.goto 4, 3)] := rfl
theorem bX11_task_27 : zBf BX11_task 27 = [(.iconst 0, 1)] := rfl
theorem bX11_task_28 : zBf BX11_task 28 = [(.iconst 1, 1), (.invokevirtual 228, 3), (.ifCond .ne 25, 3), (.aload_n 0, 1), (.iload_n 2, 1), (.iconst 0, 1), (.iconst 3, 1), (.invokestatic 232, 3), (.ifCond .ne 7, 3), (.iconst 1, 1), (.goto 4, 3)] := rfl
theorem bX11_task_49 : zBf BX11_task 49 = [(.iconst 0, 1)] := rfl
theorem bX11_task_50 : zBf BX11_task 50 = [(.iconst 2, 1), (.invokevirtual 228, 3), (.ifCond .eq 5, 3)] := rfl
theorem bX11_task_57 : zBf BX11_task 57 = [(.iconst 0, 1), (.ireturn, 1)] := rfl
theorem bX11_task_59 : zBf BX11_task 59 = [(.aload_n 0, 1), (.getfield 13, 3), (.sipush 184, 3), (.iconst 3, 1), (.iload_n 1, 1), (.imul, 1), (.iadd, 1), (.iconst 2, 1), (.iadd, 1), (.iaload, 1), (.istore_n 3, 1), (.aload_n 0, 1), (.getfield 13, 3), (.sipush 184, 3), (.iconst 3, 1), (.iload_n 1, 1), (.imul, 1), (.iadd, 1), (.iconst 2, 1), (.iadd, 1), (.iload_n 2, 1), (.iastore, 1), (.iload_n 3, 1), (.ireturn, 1)] := rfl
theorem hX11_task : zMv yX11_task cX11_task 4 (some .int) := ⟨zG_mem (n := 1756) (by decide +kernel), zG_mem (n := 127) (by decide +kernel), zG_mem (n := 1754) (by decide +kernel), zG_mem (n := 1755) (by decide +kernel)⟩
def BX11_isStore : List (Nat × List (Instr × Nat)) := [(0, [(.iload_n 1, 1), (.tableswitch 107 0 7 #[47, 47, 56, 68, 76, 84, 92, 100], 47)]), (48, [(.iload_n 2, 1), (.iconst 0, 1), (.sipush 9999, 3), (.invokestatic 232, 3), (.ireturn, 1)]), (57, [(.iload_n 2, 1), (.iconst 0, 1), (.aload_n 0, 1), (.getfield 13, 3), (.iconst 3, 1), (.iaload, 1), (.invokestatic 232, 3), (.ireturn, 1)]), (69, [(.iload_n 2, 1), (.iconst 1, 1), (.bipush 60, 2), (.invokestatic 232, 3), (.ireturn, 1)]), (77, [(.iload_n 2, 1), (.iconst 0, 1), (.bipush 9, 2), (.invokestatic 232, 3), (.ireturn, 1)]), (85, [(.iload_n 2, 1), (.iconst 0, 1), (.bipush 18, 2), (.invokestatic 232, 3), (.ireturn, 1)]), (93, [(.iload_n 2, 1), (.iconst 0, 1), (.bipush 100, 2), (.invokestatic 232, 3), (.ireturn, 1)]), (101, [(.iload_n 2, 1), (.iconst 1, 1), (.iconst 4, 1), (.invokestatic 232, 3), (.ireturn, 1)]), (108, [(.iconst 1, 1), (.ireturn, 1)])]
theorem oX11_isStore : ∀ pc, zdec cX11_isStore pc (zBf BX11_isStore pc) := zBf_ok (by decide +kernel)
theorem bX11_isStore_0 : zBf BX11_isStore 0 = [(.iload_n 1, 1), (.tableswitch 107 0 7 #[47, 47, 56, 68, 76, 84, 92, 100], 47)] := rfl
theorem bX11_isStore_48 : zBf BX11_isStore 48 = [(.iload_n 2, 1), (.iconst 0, 1), (.sipush 9999, 3), (.invokestatic 232, 3), (.ireturn, 1)] := rfl
theorem bX11_isStore_57 : zBf BX11_isStore 57 = [(.iload_n 2, 1), (.iconst 0, 1), (.aload_n 0, 1), (.getfield 13, 3), (.iconst 3, 1), (.iaload, 1), (.invokestatic 232, 3), (.ireturn, 1)] := rfl
theorem bX11_isStore_69 : zBf BX11_isStore 69 = [(.iload_n 2, 1), (.iconst 1, 1), (.bipush 60, 2), (.invokestatic 232, 3), (.ireturn, 1)] := rfl
theorem bX11_isStore_77 : zBf BX11_isStore 77 = [(.iload_n 2, 1), (.iconst 0, 1), (.bipush 9, 2), (.invokestatic 232, 3), (.ireturn, 1)] := rfl
theorem bX11_isStore_85 : zBf BX11_isStore 85 = [(.iload_n 2, 1), (.iconst 0, 1), (.bipush 18, 2), (.invokestatic 232, 3), (.ireturn, 1)] := rfl
theorem bX11_isStore_93 : zBf BX11_isStore 93 = [(.iload_n 2, 1), (.iconst 0, 1), (.bipush 100, 2), (.invokestatic 232, 3), (.ireturn, 1)] := rfl
theorem bX11_isStore_101 : zBf BX11_isStore 101 = [(.iload_n 2, 1), (.iconst 1, 1), (.iconst 4, 1), (.invokestatic 232, 3), (.ireturn, 1)] := rfl
theorem bX11_isStore_108 : zBf BX11_isStore 108 = [(.iconst 1, 1), (.ireturn, 1)] := rfl
theorem hX11_isStore : zMv yX11_isStore cX11_isStore 3 (some .boolean) := ⟨zG_mem (n := 1764) (by decide +kernel), zG_mem (n := 127) (by decide +kernel), zG_mem (n := 1763) (by decide +kernel), zG_mem (n := 72) (by decide +kernel)⟩
def BX11_isSet : List (Nat × List (Instr × Nat)) := [(0, [(.aload_n 0, 1), (.getfield 13, 3), (.bipush 13, 2), (.iaload, 1), (.iconst 1, 1), (.if_icmp .ne 7, 3), (.iconst 1, 1), (.goto 4, 3)]), (15, [(.iconst 0, 1)]), (16, [(.ireturn, 1)])]
theorem oX11_isSet : ∀ pc, zdec cX11_isSet pc (zBf BX11_isSet pc) := zBf_ok (by decide +kernel)
theorem bX11_isSet_0 : zBf BX11_isSet 0 = [(.aload_n 0, 1), (.getfield 13, 3), (.bipush 13, 2), (.iaload, 1), (.iconst 1, 1), (.if_icmp .ne 7, 3), (.iconst 1, 1), (.goto 4, 3)] := rfl
theorem bX11_isSet_15 : zBf BX11_isSet 15 = [(.iconst 0, 1)] := rfl
theorem bX11_isSet_16 : zBf BX11_isSet 16 = [(.ireturn, 1)] := rfl
theorem hX11_isSet : zMv yX11_isSet cX11_isSet 1 (some .boolean) := ⟨zG_mem (n := 1768) (by decide +kernel), zG_mem (n := 127) (by decide +kernel), zG_mem (n := 1767) (by decide +kernel), zG_mem (n := 73) (by decide +kernel)⟩
def BX11_store : List (Nat × List (Instr × Nat)) := [(0, [(.aload_n 0, 1), (.iconst 0, 1), (.putfield 3, 3), (.aload_n 0, 1), (.iload_n 1, 1), (.iconst 0, 1), (.bipush 8, 2), (.invokestatic 232, 3), (.ifCond .ne 7, 3), (.iconst 1, 1), (.goto 4, 3)]), (20, [(.iconst 0, 1)]), (21, [(.iconst 1, 1), (.invokevirtual 228, 3), (.ifCond .ne 51, 3), (.aload_n 0, 1), (.aload_n 0, 1), (.iload_n 1, 1), (.iload_n 2, 1), (.invokevirtual 269, 3), (.ifCond .ne 7, 3), (.iconst 1, 1), (.goto 4, 3)]), (42, [(.iconst 0, 1)]), (43, [(.iconst 2, 1), (.invokevirtual 228, 3), (.ifCond .ne 29, 3), (.aload_n 0, 1), (.iload_n 1, 1), (.bipush 7, 2), (.if_icmp .ne 14, 3), (.aload_n 0, 1), (.invokevirtual 272, 3), (.ifCond .eq 7, 3), (.iconst 1, 1), (.goto 4, 3)]), (68, [(.iconst 0, 1)]), (69, [(.iconst 3, 1), (.invokevirtual 228, 3), (.ifCond .eq 5, 3)]), (76, [(.iconst 0, 1), (.ireturn, 1)]), (78, [(.aload_n 0, 1), (.getfield 13, 3), (.iload_n 1, 1), (.iaload, 1), (.istore_n 3, 1), (.aload_n 0, 1), (.getfield 13, 3), (.iload_n 1, 1), (.iload_n 2, 1), (.iastore, 1), (.aload_n 0, 1), (.getfield 13, 3), (.iconst 2, 1), (.aload_n 0, 1), (.getfield 13, 3), (.iconst 2, 1), (.iaload, 1), (.aload_n 0, 1), (.getfield 13, 3), (.iconst 3, 1), (.iaload, 1), (.invokestatic 251, 3), (.iastore, 1), (.iload_n 3, 1), (.ireturn, 1)])]
theorem oX11_store : ∀ pc, zdec cX11_store pc (zBf BX11_store pc) := zBf_ok (by decide +kernel)
theorem bX11_store_0 : zBf BX11_store 0 = [(.aload_n 0, 1), (.iconst 0, 1), (.putfield 3, 3), (.aload_n 0, 1), (.iload_n 1, 1), (.iconst 0, 1), (.bipush 8, 2), (.invokestatic 232, 3), (.ifCond .ne 7, 3), (.iconst 1, 1), (.goto 4, 3)] := rfl
theorem bX11_store_20 : zBf BX11_store 20 = [(.iconst 0, 1)] := rfl
theorem bX11_store_21 : zBf BX11_store 21 = [(.iconst 1, 1), (.invokevirtual 228, 3), (.ifCond .ne 51, 3), (.aload_n 0, 1), (.aload_n 0, 1), (.iload_n 1, 1), (.iload_n 2, 1), (.invokevirtual 269, 3), (.ifCond .ne 7, 3), (.iconst 1, 1), (.goto 4, 3)] := rfl
theorem bX11_store_42 : zBf BX11_store 42 = [(.iconst 0, 1)] := rfl
theorem bX11_store_43 : zBf BX11_store 43 = [(.iconst 2, 1), (.invokevirtual 228, 3), (.ifCond .ne 29, 3), (.aload_n 0, 1), (.iload_n 1, 1), (.bipush 7, 2), (.if_icmp .ne 14, 3), (.aload_n 0, 1), (.invokevirtual 272, 3), (.ifCond .eq 7, 3), (.iconst 1, 1), (.goto 4, 3)] := rfl
theorem bX11_store_68 : zBf BX11_store 68 = [(.iconst 0, 1)] := rfl
theorem bX11_store_69 : zBf BX11_store 69 = [(.iconst 3, 1), (.invokevirtual 228, 3), (.ifCond .eq 5, 3)] := rfl
theorem bX11_store_76 : zBf BX11_store 76 = [(.iconst 0, 1), (.ireturn, 1)] := rfl
theorem bX11_store_78 : zBf BX11_store 78 = [(.aload_n 0, 1), (.getfield 13, 3), (.iload_n 1, 1), (.iaload, 1), (.istore_n 3, 1), (.aload_n 0, 1), (.getfield 13, 3), (.iload_n 1, 1), (.iload_n 2, 1), (.iastore, 1), (.aload_n 0, 1), (.getfield 13, 3), (.iconst 2, 1), (.aload_n 0, 1), (.getfield 13, 3), (.iconst 2, 1), (.iaload, 1), (.aload_n 0, 1), (.getfield 13, 3), (.iconst 3, 1), (.iaload, 1), (.invokestatic 251, 3), (.iastore, 1), (.iload_n 3, 1), (.ireturn, 1)] := rfl
theorem hX11_store : zMv yX11_store cX11_store 4 (some .int) := ⟨zG_mem (n := 1760) (by decide +kernel), zG_mem (n := 127) (by decide +kernel), zG_mem (n := 1758) (by decide +kernel), zG_mem (n := 1759) (by decide +kernel)⟩
def BX11_carried : List (Nat × List (Instr × Nat)) := [(0, [(.iconst 0, 1), (.istore_n 1, 1), (.iconst 0, 1), (.istore_n 2, 1)]), (4, [(.iload_n 2, 1), (.aload_n 0, 1), (.getfield 13, 3), (.bipush 15, 2), (.iaload, 1), (.if_icmp .ge 27, 3), (.iload_n 1, 1), (.aload_n 0, 1), (.iload_n 2, 1), (.iconst 2, 1), (.invokevirtual 239, 3), (.iconst 1, 1), (.if_icmp .ne 7, 3), (.iconst 1, 1), (.goto 4, 3)]), (30, [(.iconst 0, 1)]), (31, [(.iadd, 1), (.istore_n 1, 1), (.iinc 2 1, 3), (.goto (-32), 3)]), (39, [(.iload_n 1, 1), (.ireturn, 1)])]
theorem oX11_carried : ∀ pc, zdec cX11_carried pc (zBf BX11_carried pc) := zBf_ok (by decide +kernel)
theorem bX11_carried_0 : zBf BX11_carried 0 = [(.iconst 0, 1), (.istore_n 1, 1), (.iconst 0, 1), (.istore_n 2, 1)] := rfl
theorem bX11_carried_4 : zBf BX11_carried 4 = [(.iload_n 2, 1), (.aload_n 0, 1), (.getfield 13, 3), (.bipush 15, 2), (.iaload, 1), (.if_icmp .ge 27, 3), (.iload_n 1, 1), (.aload_n 0, 1), (.iload_n 2, 1), (.iconst 2, 1), (.invokevirtual 239, 3), (.iconst 1, 1), (.if_icmp .ne 7, 3), (.iconst 1, 1), (.goto 4, 3)] := rfl
theorem bX11_carried_30 : zBf BX11_carried 30 = [(.iconst 0, 1)] := rfl
theorem bX11_carried_31 : zBf BX11_carried 31 = [(.iadd, 1), (.istore_n 1, 1), (.iinc 2 1, 3), (.goto (-32), 3)] := rfl
theorem bX11_carried_39 : zBf BX11_carried 39 = [(.iload_n 1, 1), (.ireturn, 1)] := rfl
theorem hX11_carried : zMv yX11_carried cX11_carried 3 (some .int) := ⟨zG_mem (n := 1776) (by decide +kernel), zG_mem (n := 127) (by decide +kernel), zG_mem (n := 1775) (by decide +kernel), zG_mem (n := 74) (by decide +kernel)⟩
def BX11_leastCarried : List (Nat × List (Instr × Nat)) := [(0, [(.iconst 0, 1), (.istore_n 1, 1)]), (2, [(.iload_n 1, 1), (.aload_n 0, 1), (.getfield 13, 3), (.bipush 15, 2), (.iaload, 1), (.if_icmp .ge 19, 3), (.aload_n 0, 1), (.iload_n 1, 1), (.iconst 2, 1), (.invokevirtual 239, 3), (.iconst 1, 1), (.if_icmp .eq 9, 3), (.iinc 1 1, 3), (.goto (-24), 3)]), (29, [(.iload_n 1, 1), (.aload_n 0, 1), (.getfield 13, 3), (.bipush 15, 2), (.iaload, 1), (.if_icmp .ne 7, 3), (.iconst (-1), 1), (.goto 4, 3)]), (44, [(.iload_n 1, 1)]), (45, [(.ireturn, 1)])]
theorem oX11_leastCarried : ∀ pc, zdec cX11_leastCarried pc (zBf BX11_leastCarried pc) := zBf_ok (by decide +kernel)
theorem bX11_leastCarried_0 : zBf BX11_leastCarried 0 = [(.iconst 0, 1), (.istore_n 1, 1)] := rfl
theorem bX11_leastCarried_2 : zBf BX11_leastCarried 2 = [(.iload_n 1, 1), (.aload_n 0, 1), (.getfield 13, 3), (.bipush 15, 2), (.iaload, 1), (.if_icmp .ge 19, 3), (.aload_n 0, 1), (.iload_n 1, 1), (.iconst 2, 1), (.invokevirtual 239, 3), (.iconst 1, 1), (.if_icmp .eq 9, 3), (.iinc 1 1, 3), (.goto (-24), 3)] := rfl
theorem bX11_leastCarried_29 : zBf BX11_leastCarried 29 = [(.iload_n 1, 1), (.aload_n 0, 1), (.getfield 13, 3), (.bipush 15, 2), (.iaload, 1), (.if_icmp .ne 7, 3), (.iconst (-1), 1), (.goto 4, 3)] := rfl
theorem bX11_leastCarried_44 : zBf BX11_leastCarried 44 = [(.iload_n 1, 1)] := rfl
theorem bX11_leastCarried_45 : zBf BX11_leastCarried 45 = [(.ireturn, 1)] := rfl
theorem hX11_leastCarried : zMv yX11_leastCarried cX11_leastCarried 2 (some .int) := ⟨zG_mem (n := 1787) (by decide +kernel), zG_mem (n := 127) (by decide +kernel), zG_mem (n := 1786) (by decide +kernel), zG_mem (n := 76) (by decide +kernel)⟩
def BX11_logs : List (Nat × List (Instr × Nat)) := [(0, [(.aload_n 0, 1), (.getfield 13, 3), (.bipush 19, 2), (.iaload, 1), (.bipush 100, 2), (.if_icmp .ne 41, 3), (.sipush 212, 3), (.istore 4, 2)]), (17, [(.iload 4, 2), (.sipush 608, 3), (.if_icmp .ge 25, 3), (.aload_n 0, 1), (.getfield 13, 3), (.iload 4, 2), (.aload_n 0, 1), (.getfield 13, 3), (.iload 4, 2), (.iconst 4, 1), (.iadd, 1), (.iaload, 1), (.iastore, 1), (.iinc 4 1, 3), (.goto (-27), 3)]), (47, [(.goto 14, 3)]), (50, [(.aload_n 0, 1), (.getfield 13, 3), (.bipush 19, 2), (.dup2, 1), (.iaload, 1), (.iconst 1, 1), (.iadd, 1), (.iastore, 1)]), (61, [(.sipush 212, 3), (.iconst 4, 1), (.aload_n 0, 1), (.getfield 13, 3), (.bipush 19, 2), (.iaload, 1), (.iconst 1, 1), (.isub, 1), (.imul, 1), (.iadd, 1), (.istore 4, 2), (.aload_n 0, 1), (.getfield 13, 3), (.iload 4, 2), (.iload_n 1, 1), (.iastore, 1), (.aload_n 0, 1), (.getfield 13, 3), (.iload 4, 2), (.iconst 1, 1), (.iadd, 1), (.aload_n 0, 1), (.getfield 13, 3), (.bipush 9, 2), (.iaload, 1), (.iastore, 1), (.aload_n 0, 1), (.getfield 13, 3), (.iload 4, 2), (.iconst 2, 1), (.iadd, 1), (.iload_n 2, 1), (.iastore, 1), (.aload_n 0, 1), (.getfield 13, 3), (.iload 4, 2), (.iconst 3, 1), (.iadd, 1), (.iload_n 3, 1), (.ifCond .eq 7, 3), (.iconst 1, 1), (.goto 4, 3)]), (128, [(.iconst 0, 1)]), (129, [(.iastore, 1), (.return_, 1)])]
theorem oX11_logs : ∀ pc, zdec cX11_logs pc (zBf BX11_logs pc) := zBf_ok (by decide +kernel)
theorem bX11_logs_0 : zBf BX11_logs 0 = [(.aload_n 0, 1), (.getfield 13, 3), (.bipush 19, 2), (.iaload, 1), (.bipush 100, 2), (.if_icmp .ne 41, 3), (.sipush 212, 3), (.istore 4, 2)] := rfl
theorem bX11_logs_17 : zBf BX11_logs 17 = [(.iload 4, 2), (.sipush 608, 3), (.if_icmp .ge 25, 3), (.aload_n 0, 1), (.getfield 13, 3), (.iload 4, 2), (.aload_n 0, 1), (.getfield 13, 3), (.iload 4, 2), (.iconst 4, 1), (.iadd, 1), (.iaload, 1), (.iastore, 1), (.iinc 4 1, 3), (.goto (-27), 3)] := rfl
theorem bX11_logs_47 : zBf BX11_logs 47 = [(.goto 14, 3)] := rfl
theorem bX11_logs_50 : zBf BX11_logs 50 = [(.aload_n 0, 1), (.getfield 13, 3), (.bipush 19, 2), (.dup2, 1), (.iaload, 1), (.iconst 1, 1), (.iadd, 1), (.iastore, 1)] := rfl
theorem bX11_logs_61 : zBf BX11_logs 61 = [(.sipush 212, 3), (.iconst 4, 1), (.aload_n 0, 1), (.getfield 13, 3), (.bipush 19, 2), (.iaload, 1), (.iconst 1, 1), (.isub, 1), (.imul, 1), (.iadd, 1), (.istore 4, 2), (.aload_n 0, 1), (.getfield 13, 3), (.iload 4, 2), (.iload_n 1, 1), (.iastore, 1), (.aload_n 0, 1), (.getfield 13, 3), (.iload 4, 2), (.iconst 1, 1), (.iadd, 1), (.aload_n 0, 1), (.getfield 13, 3), (.bipush 9, 2), (.iaload, 1), (.iastore, 1), (.aload_n 0, 1), (.getfield 13, 3), (.iload 4, 2), (.iconst 2, 1), (.iadd, 1), (.iload_n 2, 1), (.iastore, 1), (.aload_n 0, 1), (.getfield 13, 3), (.iload 4, 2), (.iconst 3, 1), (.iadd, 1), (.iload_n 3, 1), (.ifCond .eq 7, 3), (.iconst 1, 1), (.goto 4, 3)] := rfl
theorem bX11_logs_128 : zBf BX11_logs 128 = [(.iconst 0, 1)] := rfl
theorem bX11_logs_129 : zBf BX11_logs 129 = [(.iastore, 1), (.return_, 1)] := rfl
theorem hX11_logs : zMv yX11_logs cX11_logs 5 none := ⟨zG_mem (n := 1795) (by decide +kernel), zG_mem (n := 127) (by decide +kernel), zG_mem (n := 1794) (by decide +kernel), zG_mem (n := 78) (by decide +kernel)⟩
def BX11_comesOn : List (Nat × List (Instr × Nat)) := [(0, [(.aload_n 0, 1), (.iload_n 1, 1), (.iconst 2, 1), (.iconst 0, 1), (.invokevirtual 265, 3), (.aload_n 0, 1), (.iload_n 1, 1), (.iconst 3, 1), (.iload_n 2, 1), (.invokevirtual 265, 3), (.aload_n 0, 1), (.iload_n 2, 1), (.invokevirtual 262, 3), (.iconst 2, 1), (.if_icmp .ne 13, 3), (.aload_n 0, 1), (.getfield 13, 3), (.bipush 20, 2), (.iload_n 2, 1), (.iadd, 1), (.iconst 0, 1), (.iastore, 1)]), (33, [(.aload_n 0, 1), (.getfield 13, 3), (.sipush 196, 3), (.aload_n 0, 1), (.invokevirtual 242, 3), (.iadd, 1), (.iload_n 1, 1), (.iastore, 1), (.aload_n 0, 1), (.getfield 13, 3), (.bipush 18, 2), (.dup2, 1), (.iaload, 1), (.iconst 1, 1), (.iadd, 1), (.iastore, 1), (.return_, 1)])]
theorem oX11_comesOn : ∀ pc, zdec cX11_comesOn pc (zBf BX11_comesOn pc) := zBf_ok (by decide +kernel)
theorem bX11_comesOn_0 : zBf BX11_comesOn 0 = [(.aload_n 0, 1), (.iload_n 1, 1), (.iconst 2, 1), (.iconst 0, 1), (.invokevirtual 265, 3), (.aload_n 0, 1), (.iload_n 1, 1), (.iconst 3, 1), (.iload_n 2, 1), (.invokevirtual 265, 3), (.aload_n 0, 1), (.iload_n 2, 1), (.invokevirtual 262, 3), (.iconst 2, 1), (.if_icmp .ne 13, 3), (.aload_n 0, 1), (.getfield 13, 3), (.bipush 20, 2), (.iload_n 2, 1), (.iadd, 1), (.iconst 0, 1), (.iastore, 1)] := rfl
theorem bX11_comesOn_33 : zBf BX11_comesOn 33 = [(.aload_n 0, 1), (.getfield 13, 3), (.sipush 196, 3), (.aload_n 0, 1), (.invokevirtual 242, 3), (.iadd, 1), (.iload_n 1, 1), (.iastore, 1), (.aload_n 0, 1), (.getfield 13, 3), (.bipush 18, 2), (.dup2, 1), (.iaload, 1), (.iconst 1, 1), (.iadd, 1), (.iastore, 1), (.return_, 1)] := rfl
theorem hX11_comesOn : zMv yX11_comesOn cX11_comesOn 3 none := ⟨zG_mem (n := 1791) (by decide +kernel), zG_mem (n := 127) (by decide +kernel), zG_mem (n := 1790) (by decide +kernel), zG_mem (n := 77) (by decide +kernel)⟩
def BX11_isWay : List (Nat × List (Instr × Nat)) := [(0, [(.iload_n 1, 1), (.istore 4, 2), (.iconst 0, 1), (.istore 5, 2)]), (6, [(.iload 5, 2), (.iload_n 3, 1), (.if_icmp .ge 43, 3), (.iload 4, 2), (.ifCond .lt 13, 3), (.aload_n 0, 1), (.iload 4, 2), (.invokevirtual 262, 3), (.iconst 3, 1), (.if_icmp .ne 5, 3)]), (27, [(.iconst 0, 1), (.ireturn, 1)]), (29, [(.aload_n 0, 1), (.getfield 30, 3), (.iload 5, 2), (.iload 4, 2), (.iastore, 1), (.iload 4, 2), (.iload_n 2, 1), (.invokestatic 275, 3), (.istore 4, 2), (.iinc 5 1, 3), (.goto (-43), 3)]), (52, [(.iconst 1, 1), (.ireturn, 1)])]
theorem oX11_isWay : ∀ pc, zdec cX11_isWay pc (zBf BX11_isWay pc) := zBf_ok (by decide +kernel)
theorem bX11_isWay_0 : zBf BX11_isWay 0 = [(.iload_n 1, 1), (.istore 4, 2), (.iconst 0, 1), (.istore 5, 2)] := rfl
theorem bX11_isWay_6 : zBf BX11_isWay 6 = [(.iload 5, 2), (.iload_n 3, 1), (.if_icmp .ge 43, 3), (.iload 4, 2), (.ifCond .lt 13, 3), (.aload_n 0, 1), (.iload 4, 2), (.invokevirtual 262, 3), (.iconst 3, 1), (.if_icmp .ne 5, 3)] := rfl
theorem bX11_isWay_27 : zBf BX11_isWay 27 = [(.iconst 0, 1), (.ireturn, 1)] := rfl
theorem bX11_isWay_29 : zBf BX11_isWay 29 = [(.aload_n 0, 1), (.getfield 30, 3), (.iload 5, 2), (.iload 4, 2), (.iastore, 1), (.iload 4, 2), (.iload_n 2, 1), (.invokestatic 275, 3), (.istore 4, 2), (.iinc 5 1, 3), (.goto (-43), 3)] := rfl
theorem bX11_isWay_52 : zBf BX11_isWay 52 = [(.iconst 1, 1), (.ireturn, 1)] := rfl
theorem hX11_isWay : zMv yX11_isWay cX11_isWay 6 (some .boolean) := ⟨zG_mem (n := 1780) (by decide +kernel), zG_mem (n := 127) (by decide +kernel), zG_mem (n := 1779) (by decide +kernel), zG_mem (n := 75) (by decide +kernel)⟩
def BX11_set : List (Nat × List (Instr × Nat)) := [(0, [(.aload_n 0, 1), (.iconst 0, 1), (.putfield 3, 3), (.aload_n 0, 1), (.iload_n 1, 1), (.invokestatic 248, 3), (.ifCond .ne 12, 3), (.iload_n 2, 1), (.iconst 0, 1), (.iconst 3, 1), (.invokestatic 232, 3), (.ifCond .ne 7, 3)]), (22, [(.iconst 1, 1), (.goto 4, 3)]), (26, [(.iconst 0, 1)]), (27, [(.iconst 1, 1), (.invokevirtual 228, 3), (.ifCond .ne 57, 3), (.aload_n 0, 1), (.iload_n 3, 1), (.aload_n 0, 1), (.getfield 13, 3), (.bipush 7, 2), (.iaload, 1), (.if_icmp .lt 21, 3), (.iload_n 3, 1), (.aload_n 0, 1), (.invokevirtual 278, 3), (.if_icmp .gt 13, 3), (.aload_n 0, 1), (.iload_n 1, 1), (.iload_n 2, 1), (.iload_n 3, 1), (.invokevirtual 280, 3), (.ifCond .ne 7, 3)]), (64, [(.iconst 1, 1), (.goto 4, 3)]), (68, [(.iconst 0, 1)]), (69, [(.iconst 2, 1), (.invokevirtual 228, 3), (.ifCond .ne 15, 3), (.aload_n 0, 1), (.aload_n 0, 1), (.invokevirtual 272, 3), (.iconst 3, 1), (.invokevirtual 228, 3), (.ifCond .eq 5, 3)]), (88, [(.iconst 0, 1), (.ireturn, 1)]), (90, [(.aload_n 0, 1), (.getfield 13, 3), (.bipush 13, 2), (.iconst 1, 1), (.iastore, 1), (.aload_n 0, 1), (.getfield 13, 3), (.bipush 12, 2), (.iconst 0, 1), (.iastore, 1), (.iconst 0, 1), (.istore 4, 2)]), (109, [(.iload 4, 2), (.iload_n 3, 1), (.if_icmp .ge 42, 3), (.aload_n 0, 1), (.invokevirtual 283, 3), (.istore 5, 2), (.aload_n 0, 1), (.iload 5, 2), (.aload_n 0, 1), (.getfield 30, 3), (.iload 4, 2), (.iaload, 1), (.invokevirtual 286, 3), (.aload_n 0, 1), (.iload 5, 2), (.aload_n 0, 1), (.getfield 30, 3), (.iload 4, 2), (.iaload, 1), (.iconst 1, 1), (.invokevirtual 290, 3), (.iinc 4 1, 3), (.goto (-42), 3)]), (154, [(.aload_n 0, 1), (.aload_n 0, 1), (.invokevirtual 242, 3), (.iconst 1, 1), (.isub, 1), (.invokevirtual 245, 3), (.ireturn, 1)])]
theorem oX11_set : ∀ pc, zdec cX11_set pc (zBf BX11_set pc) := zBf_ok (by decide +kernel)
theorem bX11_set_0 : zBf BX11_set 0 = [(.aload_n 0, 1), (.iconst 0, 1), (.putfield 3, 3), (.aload_n 0, 1), (.iload_n 1, 1), (.invokestatic 248, 3), (.ifCond .ne 12, 3), (.iload_n 2, 1), (.iconst 0, 1), (.iconst 3, 1), (.invokestatic 232, 3), (.ifCond .ne 7, 3)] := rfl
theorem bX11_set_22 : zBf BX11_set 22 = [(.iconst 1, 1), (.goto 4, 3)] := rfl
theorem bX11_set_26 : zBf BX11_set 26 = [(.iconst 0, 1)] := rfl
theorem bX11_set_27 : zBf BX11_set 27 = [(.iconst 1, 1), (.invokevirtual 228, 3), (.ifCond .ne 57, 3), (.aload_n 0, 1), (.iload_n 3, 1), (.aload_n 0, 1), (.getfield 13, 3), (.bipush 7, 2), (.iaload, 1), (.if_icmp .lt 21, 3), (.iload_n 3, 1), (.aload_n 0, 1), (.invokevirtual 278, 3), (.if_icmp .gt 13, 3), (.aload_n 0, 1), (.iload_n 1, 1), (.iload_n 2, 1), (.iload_n 3, 1), (.invokevirtual 280, 3), (.ifCond .ne 7, 3)] := rfl
theorem bX11_set_64 : zBf BX11_set 64 = [(.iconst 1, 1), (.goto 4, 3)] := rfl
theorem bX11_set_68 : zBf BX11_set 68 = [(.iconst 0, 1)] := rfl
theorem bX11_set_69 : zBf BX11_set 69 = [(.iconst 2, 1), (.invokevirtual 228, 3), (.ifCond .ne 15, 3), (.aload_n 0, 1), (.aload_n 0, 1), (.invokevirtual 272, 3), (.iconst 3, 1), (.invokevirtual 228, 3), (.ifCond .eq 5, 3)] := rfl
theorem bX11_set_88 : zBf BX11_set 88 = [(.iconst 0, 1), (.ireturn, 1)] := rfl
theorem bX11_set_90 : zBf BX11_set 90 = [(.aload_n 0, 1), (.getfield 13, 3), (.bipush 13, 2), (.iconst 1, 1), (.iastore, 1), (.aload_n 0, 1), (.getfield 13, 3), (.bipush 12, 2), (.iconst 0, 1), (.iastore, 1), (.iconst 0, 1), (.istore 4, 2)] := rfl
theorem bX11_set_109 : zBf BX11_set 109 = [(.iload 4, 2), (.iload_n 3, 1), (.if_icmp .ge 42, 3), (.aload_n 0, 1), (.invokevirtual 283, 3), (.istore 5, 2), (.aload_n 0, 1), (.iload 5, 2), (.aload_n 0, 1), (.getfield 30, 3), (.iload 4, 2), (.iaload, 1), (.invokevirtual 286, 3), (.aload_n 0, 1), (.iload 5, 2), (.aload_n 0, 1), (.getfield 30, 3), (.iload 4, 2), (.iaload, 1), (.iconst 1, 1), (.invokevirtual 290, 3), (.iinc 4 1, 3), (.goto (-42), 3)] := rfl
theorem bX11_set_154 : zBf BX11_set 154 = [(.aload_n 0, 1), (.aload_n 0, 1), (.invokevirtual 242, 3), (.iconst 1, 1), (.isub, 1), (.invokevirtual 245, 3), (.ireturn, 1)] := rfl
theorem hX11_set : zMv yX11_set cX11_set 6 (some .int) := ⟨zG_mem (n := 1772) (by decide +kernel), zG_mem (n := 127) (by decide +kernel), zG_mem (n := 1770) (by decide +kernel), zG_mem (n := 1771) (by decide +kernel)⟩
def BX11_men : List (Nat × List (Instr × Nat)) := [(0, [(.iconst 0, 1), (.istore_n 1, 1), (.iconst 0, 1), (.istore_n 2, 1)]), (4, [(.iload_n 2, 1), (.aload_n 0, 1), (.getfield 13, 3), (.bipush 16, 2), (.iaload, 1), (.if_icmp .ge 26, 3), (.iload_n 1, 1), (.aload_n 0, 1), (.getfield 13, 3), (.sipush 184, 3), (.iconst 3, 1), (.iload_n 2, 1), (.imul, 1), (.iadd, 1), (.iconst 1, 1), (.iadd, 1), (.iaload, 1), (.iadd, 1), (.istore_n 1, 1), (.iinc 2 1, 3), (.goto (-31), 3)]), (38, [(.iload_n 1, 1), (.ireturn, 1)])]
theorem oX11_men : ∀ pc, zdec cX11_men pc (zBf BX11_men pc) := zBf_ok (by decide +kernel)
theorem bX11_men_0 : zBf BX11_men 0 = [(.iconst 0, 1), (.istore_n 1, 1), (.iconst 0, 1), (.istore_n 2, 1)] := rfl
theorem bX11_men_4 : zBf BX11_men 4 = [(.iload_n 2, 1), (.aload_n 0, 1), (.getfield 13, 3), (.bipush 16, 2), (.iaload, 1), (.if_icmp .ge 26, 3), (.iload_n 1, 1), (.aload_n 0, 1), (.getfield 13, 3), (.sipush 184, 3), (.iconst 3, 1), (.iload_n 2, 1), (.imul, 1), (.iadd, 1), (.iconst 1, 1), (.iadd, 1), (.iaload, 1), (.iadd, 1), (.istore_n 1, 1), (.iinc 2 1, 3), (.goto (-31), 3)] := rfl
theorem bX11_men_38 : zBf BX11_men 38 = [(.iload_n 1, 1), (.ireturn, 1)] := rfl
theorem hX11_men : zMv yX11_men cX11_men 3 (some .int) := ⟨zG_mem (n := 1826) (by decide +kernel), zG_mem (n := 127) (by decide +kernel), zG_mem (n := 1825) (by decide +kernel), zG_mem (n := 84) (by decide +kernel)⟩
def BX11_draw : List (Nat × List (Instr × Nat)) := [(0, [(.aload_n 0, 1), (.getfield 13, 3), (.bipush 8, 2), (.ldc_w 294, 3), (.aload_n 0, 1), (.getfield 13, 3), (.bipush 8, 2), (.iaload, 1), (.imul, 1), (.sipush 12345, 3), (.iadd, 1), (.iastore, 1), (.aload_n 0, 1), (.getfield 13, 3), (.bipush 8, 2), (.iaload, 1), (.bipush 16, 2), (.ishr, 1), (.sipush 32767, 3), (.iand, 1), (.ireturn, 1)])]
theorem oX11_draw : ∀ pc, zdec cX11_draw pc (zBf BX11_draw pc) := zBf_ok (by decide +kernel)
theorem bX11_draw_0 : zBf BX11_draw 0 = [(.aload_n 0, 1), (.getfield 13, 3), (.bipush 8, 2), (.ldc_w 294, 3), (.aload_n 0, 1), (.getfield 13, 3), (.bipush 8, 2), (.iaload, 1), (.imul, 1), (.sipush 12345, 3), (.iadd, 1), (.iastore, 1), (.aload_n 0, 1), (.getfield 13, 3), (.bipush 8, 2), (.iaload, 1), (.bipush 16, 2), (.ishr, 1), (.sipush 32767, 3), (.iand, 1), (.ireturn, 1)] := rfl
theorem hX11_draw : zMv yX11_draw cX11_draw 1 (some .int) := ⟨zG_mem (n := 1834) (by decide +kernel), zG_mem (n := 127) (by decide +kernel), zG_mem (n := 1833) (by decide +kernel), zG_mem (n := 86) (by decide +kernel)⟩
def BX11_night : List (Nat × List (Instr × Nat)) := [(0, [(.aload_n 0, 1), (.invokevirtual 295, 3), (.iconst 4, 1), (.irem, 1), (.istore_n 1, 1), (.iconst 0, 1), (.istore_n 2, 1)]), (9, [(.iload_n 2, 1), (.bipush 100, 2), (.if_icmp .ge 29, 3), (.aload_n 0, 1), (.getfield 33, 3), (.iload_n 2, 1), (.aload_n 0, 1), (.iload_n 2, 1), (.invokevirtual 262, 3), (.iconst 2, 1), (.if_icmp .ne 7, 3), (.iconst 1, 1), (.goto 4, 3)]), (33, [(.iconst 0, 1)]), (34, [(.bastore, 1), (.iinc 2 1, 3), (.goto (-29), 3)]), (41, [(.iconst 0, 1), (.istore_n 2, 1)]), (43, [(.iload_n 2, 1), (.bipush 100, 2), (.if_icmp .ge 83, 3), (.aload_n 0, 1), (.getfield 33, 3), (.iload_n 2, 1), (.baload, 1), (.ifCond .eq 68, 3), (.aload_n 0, 1), (.invokevirtual 295, 3), (.bipush 100, 2), (.irem, 1), (.aload_n 0, 1), (.getfield 13, 3), (.bipush 6, 2), (.iaload, 1), (.if_icmp .lt 6, 3), (.goto 48, 3)]), (78, [(.iload_n 2, 1), (.iload_n 1, 1), (.invokestatic 275, 3), (.istore_n 3, 1), (.iload_n 3, 1), (.ifCond .lt 14, 3), (.aload_n 0, 1), (.iload_n 3, 1), (.invokevirtual 262, 3), (.ifCond .eq 6, 3), (.goto 27, 3)]), (99, [(.aload_n 0, 1), (.getfield 13, 3), (.bipush 20, 2), (.iload_n 2, 1), (.iadd, 1), (.iconst 0, 1), (.iastore, 1), (.iload_n 3, 1), (.ifCond .lt 13, 3), (.aload_n 0, 1), (.getfield 13, 3), (.bipush 20, 2), (.iload_n 3, 1), (.iadd, 1), (.iconst 2, 1), (.iastore, 1)]), (123, [(.iinc 2 1, 3), (.goto (-83), 3)]), (129, [(.return_, 1)])]
theorem oX11_night : ∀ pc, zdec cX11_night pc (zBf BX11_night pc) := zBf_ok (by decide +kernel)
theorem bX11_night_0 : zBf BX11_night 0 = [(.aload_n 0, 1), (.invokevirtual 295, 3), (.iconst 4, 1), (.irem, 1), (.istore_n 1, 1), (.iconst 0, 1), (.istore_n 2, 1)] := rfl
theorem bX11_night_9 : zBf BX11_night 9 = [(.iload_n 2, 1), (.bipush 100, 2), (.if_icmp .ge 29, 3), (.aload_n 0, 1), (.getfield 33, 3), (.iload_n 2, 1), (.aload_n 0, 1), (.iload_n 2, 1), (.invokevirtual 262, 3), (.iconst 2, 1), (.if_icmp .ne 7, 3), (.iconst 1, 1), (.goto 4, 3)] := rfl
theorem bX11_night_33 : zBf BX11_night 33 = [(.iconst 0, 1)] := rfl
theorem bX11_night_34 : zBf BX11_night 34 = [(.bastore, 1), (.iinc 2 1, 3), (.goto (-29), 3)] := rfl
theorem bX11_night_41 : zBf BX11_night 41 = [(.iconst 0, 1), (.istore_n 2, 1)] := rfl
theorem bX11_night_43 : zBf BX11_night 43 = [(.iload_n 2, 1), (.bipush 100, 2), (.if_icmp .ge 83, 3), (.aload_n 0, 1), (.getfield 33, 3), (.iload_n 2, 1), (.baload, 1), (.ifCond .eq 68, 3), (.aload_n 0, 1), (.invokevirtual 295, 3), (.bipush 100, 2), (.irem, 1), (.aload_n 0, 1), (.getfield 13, 3), (.bipush 6, 2), (.iaload, 1), (.if_icmp .lt 6, 3), (.goto 48, 3)] := rfl
theorem bX11_night_78 : zBf BX11_night 78 = [(.iload_n 2, 1), (.iload_n 1, 1), (.invokestatic 275, 3), (.istore_n 3, 1), (.iload_n 3, 1), (.ifCond .lt 14, 3), (.aload_n 0, 1), (.iload_n 3, 1), (.invokevirtual 262, 3), (.ifCond .eq 6, 3), (.goto 27, 3)] := rfl
theorem bX11_night_99 : zBf BX11_night 99 = [(.aload_n 0, 1), (.getfield 13, 3), (.bipush 20, 2), (.iload_n 2, 1), (.iadd, 1), (.iconst 0, 1), (.iastore, 1), (.iload_n 3, 1), (.ifCond .lt 13, 3), (.aload_n 0, 1), (.getfield 13, 3), (.bipush 20, 2), (.iload_n 3, 1), (.iadd, 1), (.iconst 2, 1), (.iastore, 1)] := rfl
theorem bX11_night_123 : zBf BX11_night 123 = [(.iinc 2 1, 3), (.goto (-83), 3)] := rfl
theorem bX11_night_129 : zBf BX11_night 129 = [(.return_, 1)] := rfl
theorem hX11_night : zMv yX11_night cX11_night 4 none := ⟨zG_mem (n := 1830) (by decide +kernel), zG_mem (n := 127) (by decide +kernel), zG_mem (n := 1829) (by decide +kernel), zG_mem (n := 85) (by decide +kernel)⟩
def BX11_elapses : List (Nat × List (Instr × Nat)) := [(0, [(.aload_n 0, 1), (.getfield 13, 3), (.bipush 9, 2), (.iaload, 1), (.iload_n 1, 1), (.isub, 1), (.istore_n 2, 1), (.aload_n 0, 1), (.invokevirtual 298, 3), (.bipush 19, 2), (.iadd, 1), (.bipush 20, 2), (.idiv, 1), (.istore_n 3, 1), (.iload_n 2, 1), (.bipush 60, 2), (.idiv, 1), (.iconst 1, 1), (.iadd, 1), (.istore 4, 2)]), (29, [(.iload 4, 2), (.aload_n 0, 1), (.getfield 13, 3), (.bipush 9, 2), (.iaload, 1), (.bipush 60, 2), (.idiv, 1), (.if_icmp .gt 59, 3), (.aload_n 0, 1), (.getfield 13, 3), (.iconst 2, 1), (.iaload, 1), (.iload_n 3, 1), (.if_icmp .ge 25, 3), (.aload_n 0, 1), (.getfield 13, 3), (.bipush 10, 2), (.iaload, 1), (.ifCond .ge 15, 3), (.aload_n 0, 1), (.getfield 13, 3), (.bipush 10, 2), (.bipush 60, 2), (.iload 4, 2), (.imul, 1), (.iastore, 1)]), (76, [(.aload_n 0, 1), (.getfield 13, 3), (.iconst 2, 1), (.iconst 0, 1), (.aload_n 0, 1), (.getfield 13, 3), (.iconst 2, 1), (.iaload, 1), (.iload_n 3, 1), (.isub, 1), (.invokestatic 256, 3), (.iastore, 1), (.iinc 4 1, 3), (.goto (-68), 3)]), (100, [(.iload_n 2, 1), (.sipush 1440, 3), (.idiv, 1), (.iconst 1, 1), (.iadd, 1), (.istore 4, 2)]), (109, [(.iload 4, 2), (.aload_n 0, 1), (.getfield 13, 3), (.bipush 9, 2), (.iaload, 1), (.sipush 1440, 3), (.idiv, 1), (.if_icmp .gt 13, 3), (.aload_n 0, 1), (.invokevirtual 301, 3), (.iinc 4 1, 3), (.goto (-23), 3)]), (135, [(.return_, 1)])]
theorem oX11_elapses : ∀ pc, zdec cX11_elapses pc (zBf BX11_elapses pc) := zBf_ok (by decide +kernel)
theorem bX11_elapses_0 : zBf BX11_elapses 0 = [(.aload_n 0, 1), (.getfield 13, 3), (.bipush 9, 2), (.iaload, 1), (.iload_n 1, 1), (.isub, 1), (.istore_n 2, 1), (.aload_n 0, 1), (.invokevirtual 298, 3), (.bipush 19, 2), (.iadd, 1), (.bipush 20, 2), (.idiv, 1), (.istore_n 3, 1), (.iload_n 2, 1), (.bipush 60, 2), (.idiv, 1), (.iconst 1, 1), (.iadd, 1), (.istore 4, 2)] := rfl
theorem bX11_elapses_29 : zBf BX11_elapses 29 = [(.iload 4, 2), (.aload_n 0, 1), (.getfield 13, 3), (.bipush 9, 2), (.iaload, 1), (.bipush 60, 2), (.idiv, 1), (.if_icmp .gt 59, 3), (.aload_n 0, 1), (.getfield 13, 3), (.iconst 2, 1), (.iaload, 1), (.iload_n 3, 1), (.if_icmp .ge 25, 3), (.aload_n 0, 1), (.getfield 13, 3), (.bipush 10, 2), (.iaload, 1), (.ifCond .ge 15, 3), (.aload_n 0, 1), (.getfield 13, 3), (.bipush 10, 2), (.bipush 60, 2), (.iload 4, 2), (.imul, 1), (.iastore, 1)] := rfl
theorem bX11_elapses_76 : zBf BX11_elapses 76 = [(.aload_n 0, 1), (.getfield 13, 3), (.iconst 2, 1), (.iconst 0, 1), (.aload_n 0, 1), (.getfield 13, 3), (.iconst 2, 1), (.iaload, 1), (.iload_n 3, 1), (.isub, 1), (.invokestatic 256, 3), (.iastore, 1), (.iinc 4 1, 3), (.goto (-68), 3)] := rfl
theorem bX11_elapses_100 : zBf BX11_elapses 100 = [(.iload_n 2, 1), (.sipush 1440, 3), (.idiv, 1), (.iconst 1, 1), (.iadd, 1), (.istore 4, 2)] := rfl
theorem bX11_elapses_109 : zBf BX11_elapses 109 = [(.iload 4, 2), (.aload_n 0, 1), (.getfield 13, 3), (.bipush 9, 2), (.iaload, 1), (.sipush 1440, 3), (.idiv, 1), (.if_icmp .gt 13, 3), (.aload_n 0, 1), (.invokevirtual 301, 3), (.iinc 4 1, 3), (.goto (-23), 3)] := rfl
theorem bX11_elapses_135 : zBf BX11_elapses 135 = [(.return_, 1)] := rfl
theorem hX11_elapses : zMv yX11_elapses cX11_elapses 5 none := ⟨zG_mem (n := 1822) (by decide +kernel), zG_mem (n := 127) (by decide +kernel), zG_mem (n := 1821) (by decide +kernel), zG_mem (n := 83) (by decide +kernel)⟩
def BX11_takes : List (Nat × List (Instr × Nat)) := [(0, [(.aload_n 0, 1), (.getfield 13, 3), (.bipush 9, 2), (.dup2, 1), (.iaload, 1), (.iload_n 1, 1), (.iadd, 1), (.iastore, 1), (.aload_n 0, 1), (.iload_n 1, 1), (.invokevirtual 304, 3), (.return_, 1)])]
theorem oX11_takes : ∀ pc, zdec cX11_takes pc (zBf BX11_takes pc) := zBf_ok (by decide +kernel)
theorem bX11_takes_0 : zBf BX11_takes 0 = [(.aload_n 0, 1), (.getfield 13, 3), (.bipush 9, 2), (.dup2, 1), (.iaload, 1), (.iload_n 1, 1), (.iadd, 1), (.iastore, 1), (.aload_n 0, 1), (.iload_n 1, 1), (.invokevirtual 304, 3), (.return_, 1)] := rfl
theorem hX11_takes : zMv yX11_takes cX11_takes 2 none := ⟨zG_mem (n := 1858) (by decide +kernel), zG_mem (n := 127) (by decide +kernel), zG_mem (n := 1857) (by decide +kernel), zG_mem (n := 90) (by decide +kernel)⟩
def BX11_strength : List (Nat × List (Instr × Nat)) := [(0, [(.iconst 0, 1), (.istore_n 2, 1), (.iconst 0, 1), (.istore_n 3, 1)]), (4, [(.iload_n 3, 1), (.aload_n 0, 1), (.getfield 13, 3), (.bipush 16, 2), (.iaload, 1), (.if_icmp .ge 46, 3), (.iload_n 2, 1), (.aload_n 0, 1), (.getfield 13, 3), (.sipush 184, 3), (.iconst 3, 1), (.iload_n 3, 1), (.imul, 1), (.iadd, 1), (.iconst 2, 1), (.iadd, 1), (.iaload, 1), (.iload_n 1, 1), (.if_icmp .ne 18, 3), (.aload_n 0, 1), (.getfield 13, 3), (.sipush 184, 3), (.iconst 3, 1), (.iload_n 3, 1), (.imul, 1), (.iadd, 1), (.iaload, 1), (.goto 4, 3)]), (49, [(.iconst 0, 1)]), (50, [(.iadd, 1), (.istore_n 2, 1), (.iinc 3 1, 3), (.goto (-51), 3)]), (58, [(.iload_n 2, 1), (.ireturn, 1)])]
theorem oX11_strength : ∀ pc, zdec cX11_strength pc (zBf BX11_strength pc) := zBf_ok (by decide +kernel)
theorem bX11_strength_0 : zBf BX11_strength 0 = [(.iconst 0, 1), (.istore_n 2, 1), (.iconst 0, 1), (.istore_n 3, 1)] := rfl
theorem bX11_strength_4 : zBf BX11_strength 4 = [(.iload_n 3, 1), (.aload_n 0, 1), (.getfield 13, 3), (.bipush 16, 2), (.iaload, 1), (.if_icmp .ge 46, 3), (.iload_n 2, 1), (.aload_n 0, 1), (.getfield 13, 3), (.sipush 184, 3), (.iconst 3, 1), (.iload_n 3, 1), (.imul, 1), (.iadd, 1), (.iconst 2, 1), (.iadd, 1), (.iaload, 1), (.iload_n 1, 1), (.if_icmp .ne 18, 3), (.aload_n 0, 1), (.getfield 13, 3), (.sipush 184, 3), (.iconst 3, 1), (.iload_n 3, 1), (.imul, 1), (.iadd, 1), (.iaload, 1), (.goto 4, 3)] := rfl
theorem bX11_strength_49 : zBf BX11_strength 49 = [(.iconst 0, 1)] := rfl
theorem bX11_strength_50 : zBf BX11_strength 50 = [(.iadd, 1), (.istore_n 2, 1), (.iinc 3 1, 3), (.goto (-51), 3)] := rfl
theorem bX11_strength_58 : zBf BX11_strength 58 = [(.iload_n 2, 1), (.ireturn, 1)] := rfl
theorem hX11_strength : zMv yX11_strength cX11_strength 4 (some .int) := ⟨zG_mem (n := 1811) (by decide +kernel), zG_mem (n := 127) (by decide +kernel), zG_mem (n := 1810) (by decide +kernel), zG_mem (n := 81) (by decide +kernel)⟩
def BX11_shared : List (Nat × List (Instr × Nat)) := [(0, [(.iconst 4, 1), (.iload_n 0, 1), (.imul, 1), (.iload_n 1, 1), (.iadd, 1), (.iconst 1, 1), (.isub, 1), (.iload_n 1, 1), (.idiv, 1), (.ireturn, 1)])]
theorem oX11_shared : ∀ pc, zdec cX11_shared pc (zBf BX11_shared pc) := zBf_ok (by decide +kernel)
theorem bX11_shared_0 : zBf BX11_shared 0 = [(.iconst 4, 1), (.iload_n 0, 1), (.imul, 1), (.iload_n 1, 1), (.iadd, 1), (.iconst 1, 1), (.isub, 1), (.iload_n 1, 1), (.idiv, 1), (.ireturn, 1)] := rfl
theorem hX11_shared : zMs yX11_shared cX11_shared 2 (some .int) := ⟨zG_mem (n := 1818) (by decide +kernel), zG_mem (n := 127) (by decide +kernel), zG_mem (n := 1817) (by decide +kernel)⟩
def BX11_isBuried : List (Nat × List (Instr × Nat)) := [(0, [(.aload_n 0, 1), (.aload_n 0, 1), (.iload_n 1, 1), (.invokevirtual 245, 3), (.invokevirtual 262, 3), (.iconst 2, 1), (.if_icmp .ne 7, 3), (.iconst 1, 1), (.goto 4, 3)]), (17, [(.iconst 0, 1)]), (18, [(.ireturn, 1)])]
theorem oX11_isBuried : ∀ pc, zdec cX11_isBuried pc (zBf BX11_isBuried pc) := zBf_ok (by decide +kernel)
theorem bX11_isBuried_0 : zBf BX11_isBuried 0 = [(.aload_n 0, 1), (.aload_n 0, 1), (.iload_n 1, 1), (.invokevirtual 245, 3), (.invokevirtual 262, 3), (.iconst 2, 1), (.if_icmp .ne 7, 3), (.iconst 1, 1), (.goto 4, 3)] := rfl
theorem bX11_isBuried_17 : zBf BX11_isBuried 17 = [(.iconst 0, 1)] := rfl
theorem bX11_isBuried_18 : zBf BX11_isBuried 18 = [(.ireturn, 1)] := rfl
theorem hX11_isBuried : zMv yX11_isBuried cX11_isBuried 2 (some .boolean) := ⟨zG_mem (n := 1807) (by decide +kernel), zG_mem (n := 127) (by decide +kernel), zG_mem (n := 1806) (by decide +kernel), zG_mem (n := 80) (by decide +kernel)⟩
def BX11_mayLift : List (Nat × List (Instr × Nat)) := [(0, [(.aload_n 0, 1), (.invokevirtual 272, 3), (.ifCond .eq 33, 3), (.aload_n 0, 1), (.getfield 13, 3), (.bipush 12, 2), (.iaload, 1), (.ifCond .le 23, 3), (.aload_n 0, 1), (.iconst 0, 1), (.invokevirtual 308, 3), (.ifCond .ne 15, 3), (.aload_n 0, 1), (.iconst 1, 1), (.invokevirtual 311, 3), (.ifCond .le 7, 3), (.iconst 1, 1), (.goto 4, 3)]), (37, [(.iconst 0, 1)]), (38, [(.ireturn, 1)])]
theorem oX11_mayLift : ∀ pc, zdec cX11_mayLift pc (zBf BX11_mayLift pc) := zBf_ok (by decide +kernel)
theorem bX11_mayLift_0 : zBf BX11_mayLift 0 = [(.aload_n 0, 1), (.invokevirtual 272, 3), (.ifCond .eq 33, 3), (.aload_n 0, 1), (.getfield 13, 3), (.bipush 12, 2), (.iaload, 1), (.ifCond .le 23, 3), (.aload_n 0, 1), (.iconst 0, 1), (.invokevirtual 308, 3), (.ifCond .ne 15, 3), (.aload_n 0, 1), (.iconst 1, 1), (.invokevirtual 311, 3), (.ifCond .le 7, 3), (.iconst 1, 1), (.goto 4, 3)] := rfl
theorem bX11_mayLift_37 : zBf BX11_mayLift 37 = [(.iconst 0, 1)] := rfl
theorem bX11_mayLift_38 : zBf BX11_mayLift 38 = [(.ireturn, 1)] := rfl
theorem hX11_mayLift : zMv yX11_mayLift cX11_mayLift 1 (some .boolean) := ⟨zG_mem (n := 1803) (by decide +kernel), zG_mem (n := 127) (by decide +kernel), zG_mem (n := 1802) (by decide +kernel), zG_mem (n := 79) (by decide +kernel)⟩
def BX11_lifts : List (Nat × List (Instr × Nat)) := [(0, [(.aload_n 0, 1), (.iconst 0, 1), (.invokevirtual 236, 3), (.istore_n 1, 1), (.aload_n 0, 1), (.iload_n 1, 1), (.iconst 3, 1), (.invokevirtual 239, 3), (.istore_n 2, 1), (.iconst 1, 1), (.istore_n 3, 1)]), (15, [(.iload_n 3, 1), (.aload_n 0, 1), (.invokevirtual 242, 3), (.if_icmp .ge 31, 3), (.aload_n 0, 1), (.getfield 13, 3), (.sipush 196, 3), (.iload_n 3, 1), (.iadd, 1), (.iconst 1, 1), (.isub, 1), (.aload_n 0, 1), (.getfield 13, 3), (.sipush 196, 3), (.iload_n 3, 1), (.iadd, 1), (.iaload, 1), (.iastore, 1), (.iinc 3 1, 3), (.goto (-33), 3)]), (51, [(.aload_n 0, 1), (.getfield 13, 3), (.bipush 18, 2), (.dup2, 1), (.iaload, 1), (.iconst 1, 1), (.isub, 1), (.iastore, 1), (.aload_n 0, 1), (.getfield 13, 3), (.bipush 12, 2), (.dup2, 1), (.iaload, 1), (.iconst 1, 1), (.isub, 1), (.iastore, 1), (.aload_n 0, 1), (.iload_n 1, 1), (.iconst 2, 1), (.iconst 1, 1), (.invokevirtual 265, 3), (.aload_n 0, 1), (.iload_n 1, 1), (.iconst 3, 1), (.iconst (-1), 1), (.invokevirtual 265, 3), (.aload_n 0, 1), (.getfield 13, 3), (.iconst 0, 1), (.sipush 9999, 3), (.aload_n 0, 1), (.getfield 13, 3), (.iconst 0, 1), (.iaload, 1), (.iconst 2, 1), (.iadd, 1), (.invokestatic 251, 3), (.iastore, 1), (.bipush 8, 2), (.aload_n 0, 1), (.iconst 1, 1), (.invokevirtual 311, 3), (.invokestatic 314, 3), (.istore_n 3, 1), (.aload_n 0, 1), (.getfield 13, 3), (.bipush 9, 2), (.dup2, 1), (.iaload, 1), (.iload_n 3, 1), (.iadd, 1), (.iastore, 1), (.aload_n 0, 1), (.iload_n 1, 1), (.iload_n 2, 1), (.iconst 0, 1), (.invokevirtual 290, 3), (.aload_n 0, 1), (.iload_n 3, 1), (.invokevirtual 304, 3), (.iload_n 1, 1), (.ireturn, 1)])]
theorem oX11_lifts : ∀ pc, zdec cX11_lifts pc (zBf BX11_lifts pc) := zBf_ok (by decide +kernel)
theorem bX11_lifts_0 : zBf BX11_lifts 0 = [(.aload_n 0, 1), (.iconst 0, 1), (.invokevirtual 236, 3), (.istore_n 1, 1), (.aload_n 0, 1), (.iload_n 1, 1), (.iconst 3, 1), (.invokevirtual 239, 3), (.istore_n 2, 1), (.iconst 1, 1), (.istore_n 3, 1)] := rfl
theorem bX11_lifts_15 : zBf BX11_lifts 15 = [(.iload_n 3, 1), (.aload_n 0, 1), (.invokevirtual 242, 3), (.if_icmp .ge 31, 3), (.aload_n 0, 1), (.getfield 13, 3), (.sipush 196, 3), (.iload_n 3, 1), (.iadd, 1), (.iconst 1, 1), (.isub, 1), (.aload_n 0, 1), (.getfield 13, 3), (.sipush 196, 3), (.iload_n 3, 1), (.iadd, 1), (.iaload, 1), (.iastore, 1), (.iinc 3 1, 3), (.goto (-33), 3)] := rfl
theorem bX11_lifts_51 : zBf BX11_lifts 51 = [(.aload_n 0, 1), (.getfield 13, 3), (.bipush 18, 2), (.dup2, 1), (.iaload, 1), (.iconst 1, 1), (.isub, 1), (.iastore, 1), (.aload_n 0, 1), (.getfield 13, 3), (.bipush 12, 2), (.dup2, 1), (.iaload, 1), (.iconst 1, 1), (.isub, 1), (.iastore, 1), (.aload_n 0, 1), (.iload_n 1, 1), (.iconst 2, 1), (.iconst 1, 1), (.invokevirtual 265, 3), (.aload_n 0, 1), (.iload_n 1, 1), (.iconst 3, 1), (.iconst (-1), 1), (.invokevirtual 265, 3), (.aload_n 0, 1), (.getfield 13, 3), (.iconst 0, 1), (.sipush 9999, 3), (.aload_n 0, 1), (.getfield 13, 3), (.iconst 0, 1), (.iaload, 1), (.iconst 2, 1), (.iadd, 1), (.invokestatic 251, 3), (.iastore, 1), (.bipush 8, 2), (.aload_n 0, 1), (.iconst 1, 1), (.invokevirtual 311, 3), (.invokestatic 314, 3), (.istore_n 3, 1), (.aload_n 0, 1), (.getfield 13, 3), (.bipush 9, 2), (.dup2, 1), (.iaload, 1), (.iload_n 3, 1), (.iadd, 1), (.iastore, 1), (.aload_n 0, 1), (.iload_n 1, 1), (.iload_n 2, 1), (.iconst 0, 1), (.invokevirtual 290, 3), (.aload_n 0, 1), (.iload_n 3, 1), (.invokevirtual 304, 3), (.iload_n 1, 1), (.ireturn, 1)] := rfl
theorem hX11_lifts : zMv yX11_lifts cX11_lifts 4 (some .int) := ⟨zG_mem (n := 1815) (by decide +kernel), zG_mem (n := 127) (by decide +kernel), zG_mem (n := 1814) (by decide +kernel), zG_mem (n := 82) (by decide +kernel)⟩
def BX11_lift : List (Nat × List (Instr × Nat)) := [(0, [(.aload_n 0, 1), (.iconst 0, 1), (.putfield 3, 3), (.aload_n 0, 1), (.aload_n 0, 1), (.invokevirtual 317, 3), (.ifCond .ne 7, 3), (.iconst 1, 1), (.goto 4, 3)]), (17, [(.iconst 0, 1)]), (18, [(.iconst 1, 1), (.invokevirtual 228, 3), (.ifCond .eq 7, 3), (.iconst 0, 1), (.goto 7, 3)]), (29, [(.aload_n 0, 1), (.invokevirtual 320, 3)]), (33, [(.ireturn, 1)])]
theorem oX11_lift : ∀ pc, zdec cX11_lift pc (zBf BX11_lift pc) := zBf_ok (by decide +kernel)
theorem bX11_lift_0 : zBf BX11_lift 0 = [(.aload_n 0, 1), (.iconst 0, 1), (.putfield 3, 3), (.aload_n 0, 1), (.aload_n 0, 1), (.invokevirtual 317, 3), (.ifCond .ne 7, 3), (.iconst 1, 1), (.goto 4, 3)] := rfl
theorem bX11_lift_17 : zBf BX11_lift 17 = [(.iconst 0, 1)] := rfl
theorem bX11_lift_18 : zBf BX11_lift 18 = [(.iconst 1, 1), (.invokevirtual 228, 3), (.ifCond .eq 7, 3), (.iconst 0, 1), (.goto 7, 3)] := rfl
theorem bX11_lift_29 : zBf BX11_lift 29 = [(.aload_n 0, 1), (.invokevirtual 320, 3)] := rfl
theorem bX11_lift_33 : zBf BX11_lift 33 = [(.ireturn, 1)] := rfl
theorem hX11_lift : zMv yX11_lift cX11_lift 1 (some .int) := ⟨zG_mem (n := 1799) (by decide +kernel), zG_mem (n := 127) (by decide +kernel), zG_mem (n := 1797) (by decide +kernel), zG_mem (n := 1798) (by decide +kernel)⟩
def BX11_next : List (Nat × List (Instr × Nat)) := [(0, [(.aload_n 0, 1), (.aload_n 0, 1), (.invokevirtual 242, 3), (.iconst 1, 1), (.isub, 1), (.invokevirtual 245, 3), (.iload_n 1, 1), (.invokestatic 275, 3), (.ireturn, 1)])]
theorem oX11_next : ∀ pc, zdec cX11_next pc (zBf BX11_next pc) := zBf_ok (by decide +kernel)
theorem bX11_next_0 : zBf BX11_next 0 = [(.aload_n 0, 1), (.aload_n 0, 1), (.invokevirtual 242, 3), (.iconst 1, 1), (.isub, 1), (.invokevirtual 245, 3), (.iload_n 1, 1), (.invokestatic 275, 3), (.ireturn, 1)] := rfl
theorem hX11_next : zMv yX11_next cX11_next 2 (some .int) := ⟨zG_mem (n := 1847) (by decide +kernel), zG_mem (n := 127) (by decide +kernel), zG_mem (n := 1846) (by decide +kernel), zG_mem (n := 88) (by decide +kernel)⟩
def BX11_mayLay : List (Nat × List (Instr × Nat)) := [(0, [(.aload_n 0, 1), (.invokevirtual 272, 3), (.ifCond .eq 11, 3), (.aload_n 0, 1), (.iload_n 1, 1), (.invokevirtual 323, 3), (.ifCond .ge 5, 3)]), (15, [(.iconst 0, 1), (.ireturn, 1)]), (17, [(.aload_n 0, 1), (.iload_n 1, 1), (.invokevirtual 323, 3), (.istore_n 2, 1), (.aload_n 0, 1), (.iload_n 2, 1), (.invokevirtual 262, 3), (.iconst 3, 1), (.if_icmp .eq 40, 3), (.aload_n 0, 1), (.iload_n 2, 1), (.invokevirtual 259, 3), (.ifCond .ne 32, 3), (.aload_n 0, 1), (.invokevirtual 278, 3), (.ifCond .le 25, 3), (.aload_n 0, 1), (.getfield 13, 3), (.iconst 0, 1), (.iaload, 1), (.iconst 2, 1), (.if_icmp .lt 15, 3), (.aload_n 0, 1), (.iconst 2, 1), (.invokevirtual 311, 3), (.ifCond .le 7, 3), (.iconst 1, 1), (.goto 4, 3)]), (69, [(.iconst 0, 1)]), (70, [(.ireturn, 1)])]
theorem oX11_mayLay : ∀ pc, zdec cX11_mayLay pc (zBf BX11_mayLay pc) := zBf_ok (by decide +kernel)
theorem bX11_mayLay_0 : zBf BX11_mayLay 0 = [(.aload_n 0, 1), (.invokevirtual 272, 3), (.ifCond .eq 11, 3), (.aload_n 0, 1), (.iload_n 1, 1), (.invokevirtual 323, 3), (.ifCond .ge 5, 3)] := rfl
theorem bX11_mayLay_15 : zBf BX11_mayLay 15 = [(.iconst 0, 1), (.ireturn, 1)] := rfl
theorem bX11_mayLay_17 : zBf BX11_mayLay 17 = [(.aload_n 0, 1), (.iload_n 1, 1), (.invokevirtual 323, 3), (.istore_n 2, 1), (.aload_n 0, 1), (.iload_n 2, 1), (.invokevirtual 262, 3), (.iconst 3, 1), (.if_icmp .eq 40, 3), (.aload_n 0, 1), (.iload_n 2, 1), (.invokevirtual 259, 3), (.ifCond .ne 32, 3), (.aload_n 0, 1), (.invokevirtual 278, 3), (.ifCond .le 25, 3), (.aload_n 0, 1), (.getfield 13, 3), (.iconst 0, 1), (.iaload, 1), (.iconst 2, 1), (.if_icmp .lt 15, 3), (.aload_n 0, 1), (.iconst 2, 1), (.invokevirtual 311, 3), (.ifCond .le 7, 3), (.iconst 1, 1), (.goto 4, 3)] := rfl
theorem bX11_mayLay_69 : zBf BX11_mayLay 69 = [(.iconst 0, 1)] := rfl
theorem bX11_mayLay_70 : zBf BX11_mayLay 70 = [(.ireturn, 1)] := rfl
theorem hX11_mayLay : zMv yX11_mayLay cX11_mayLay 3 (some .boolean) := ⟨zG_mem (n := 1843) (by decide +kernel), zG_mem (n := 127) (by decide +kernel), zG_mem (n := 1842) (by decide +kernel), zG_mem (n := 87) (by decide +kernel)⟩
def BX11_costOf : List (Nat × List (Instr × Nat)) := [(0, [(.iload_n 0, 1), (.ifCond .ne 8, 3), (.bipush 12, 2), (.goto 15, 3)]), (9, [(.iload_n 0, 1), (.iconst 1, 1), (.if_icmp .ne 8, 3), (.bipush 20, 2), (.goto 5, 3)]), (19, [(.bipush 40, 2)]), (21, [(.ireturn, 1)])]
theorem oX11_costOf : ∀ pc, zdec cX11_costOf pc (zBf BX11_costOf pc) := zBf_ok (by decide +kernel)
theorem bX11_costOf_0 : zBf BX11_costOf 0 = [(.iload_n 0, 1), (.ifCond .ne 8, 3), (.bipush 12, 2), (.goto 15, 3)] := rfl
theorem bX11_costOf_9 : zBf BX11_costOf 9 = [(.iload_n 0, 1), (.iconst 1, 1), (.if_icmp .ne 8, 3), (.bipush 20, 2), (.goto 5, 3)] := rfl
theorem bX11_costOf_19 : zBf BX11_costOf 19 = [(.bipush 40, 2)] := rfl
theorem bX11_costOf_21 : zBf BX11_costOf 21 = [(.ireturn, 1)] := rfl
theorem hX11_costOf : zMs yX11_costOf cX11_costOf 1 (some .int) := ⟨zG_mem (n := 1854) (by decide +kernel), zG_mem (n := 127) (by decide +kernel), zG_mem (n := 1853) (by decide +kernel)⟩
def BX11_lays : List (Nat × List (Instr × Nat)) := [(0, [(.aload_n 0, 1), (.iload_n 1, 1), (.invokevirtual 323, 3), (.istore_n 2, 1), (.aload_n 0, 1), (.iload_n 2, 1), (.invokevirtual 262, 3), (.istore_n 3, 1), (.aload_n 0, 1), (.invokevirtual 283, 3), (.istore 4, 2), (.iload_n 3, 1), (.invokestatic 326, 3), (.aload_n 0, 1), (.invokevirtual 242, 3), (.iadd, 1), (.aload_n 0, 1), (.iconst 2, 1), (.invokevirtual 311, 3), (.invokestatic 314, 3), (.istore 5, 2), (.aload_n 0, 1), (.getfield 13, 3), (.iconst 0, 1), (.dup2, 1), (.iaload, 1), (.iconst 2, 1), (.isub, 1), (.iastore, 1), (.aload_n 0, 1), (.iload 4, 2), (.iconst 0, 1), (.invokevirtual 239, 3), (.iload_n 3, 1), (.ifCond .ne 7, 3), (.iconst 1, 1), (.goto 13, 3)]), (62, [(.iload_n 3, 1), (.iconst 1, 1), (.if_icmp .ne 7, 3), (.iconst 3, 1), (.goto 4, 3)]), (71, [(.iconst 2, 1)]), (72, [(.iadd, 1), (.istore 6, 2), (.iload 6, 2), (.bipush 99, 2), (.if_icmp .le 19, 3), (.aload_n 0, 1), (.iload 4, 2), (.iconst 2, 1), (.iconst 2, 1), (.invokevirtual 265, 3), (.aload_n 0, 1), (.iload 5, 2), (.invokevirtual 329, 3), (.iconst (-1), 1), (.ireturn, 1)]), (98, [(.aload_n 0, 1), (.iload 4, 2), (.iconst 0, 1), (.iload 6, 2), (.invokevirtual 265, 3), (.aload_n 0, 1), (.iload 4, 2), (.iload_n 2, 1), (.invokevirtual 286, 3), (.aload_n 0, 1), (.iload 4, 2), (.iconst 1, 1), (.bipush (-9), 2), (.bipush 9, 2), (.aload_n 0, 1), (.iload 4, 2), (.iconst 1, 1), (.invokevirtual 239, 3), (.aload_n 0, 1), (.invokevirtual 295, 3), (.iconst 3, 1), (.irem, 1), (.iadd, 1), (.iconst 1, 1), (.isub, 1), (.invokestatic 251, 3), (.invokestatic 256, 3), (.invokevirtual 265, 3), (.aload_n 0, 1), (.getfield 13, 3), (.bipush 9, 2), (.dup2, 1), (.iaload, 1), (.iload 5, 2), (.iadd, 1), (.iastore, 1), (.aload_n 0, 1), (.iload 4, 2), (.iload_n 2, 1), (.iconst 1, 1), (.invokevirtual 290, 3), (.aload_n 0, 1), (.iload 5, 2), (.invokevirtual 304, 3), (.iload 4, 2), (.ireturn, 1)])]
theorem oX11_lays : ∀ pc, zdec cX11_lays pc (zBf BX11_lays pc) := zBf_ok (by decide +kernel)
theorem bX11_lays_0 : zBf BX11_lays 0 = [(.aload_n 0, 1), (.iload_n 1, 1), (.invokevirtual 323, 3), (.istore_n 2, 1), (.aload_n 0, 1), (.iload_n 2, 1), (.invokevirtual 262, 3), (.istore_n 3, 1), (.aload_n 0, 1), (.invokevirtual 283, 3), (.istore 4, 2), (.iload_n 3, 1), (.invokestatic 326, 3), (.aload_n 0, 1), (.invokevirtual 242, 3), (.iadd, 1), (.aload_n 0, 1), (.iconst 2, 1), (.invokevirtual 311, 3), (.invokestatic 314, 3), (.istore 5, 2), (.aload_n 0, 1), (.getfield 13, 3), (.iconst 0, 1), (.dup2, 1), (.iaload, 1), (.iconst 2, 1), (.isub, 1), (.iastore, 1), (.aload_n 0, 1), (.iload 4, 2), (.iconst 0, 1), (.invokevirtual 239, 3), (.iload_n 3, 1), (.ifCond .ne 7, 3), (.iconst 1, 1), (.goto 13, 3)] := rfl
theorem bX11_lays_62 : zBf BX11_lays 62 = [(.iload_n 3, 1), (.iconst 1, 1), (.if_icmp .ne 7, 3), (.iconst 3, 1), (.goto 4, 3)] := rfl
theorem bX11_lays_71 : zBf BX11_lays 71 = [(.iconst 2, 1)] := rfl
theorem bX11_lays_72 : zBf BX11_lays 72 = [(.iadd, 1), (.istore 6, 2), (.iload 6, 2), (.bipush 99, 2), (.if_icmp .le 19, 3), (.aload_n 0, 1), (.iload 4, 2), (.iconst 2, 1), (.iconst 2, 1), (.invokevirtual 265, 3), (.aload_n 0, 1), (.iload 5, 2), (.invokevirtual 329, 3), (.iconst (-1), 1), (.ireturn, 1)] := rfl
theorem bX11_lays_98 : zBf BX11_lays 98 = [(.aload_n 0, 1), (.iload 4, 2), (.iconst 0, 1), (.iload 6, 2), (.invokevirtual 265, 3), (.aload_n 0, 1), (.iload 4, 2), (.iload_n 2, 1), (.invokevirtual 286, 3), (.aload_n 0, 1), (.iload 4, 2), (.iconst 1, 1), (.bipush (-9), 2), (.bipush 9, 2), (.aload_n 0, 1), (.iload 4, 2), (.iconst 1, 1), (.invokevirtual 239, 3), (.aload_n 0, 1), (.invokevirtual 295, 3), (.iconst 3, 1), (.irem, 1), (.iadd, 1), (.iconst 1, 1), (.isub, 1), (.invokestatic 251, 3), (.invokestatic 256, 3), (.invokevirtual 265, 3), (.aload_n 0, 1), (.getfield 13, 3), (.bipush 9, 2), (.dup2, 1), (.iaload, 1), (.iload 5, 2), (.iadd, 1), (.iastore, 1), (.aload_n 0, 1), (.iload 4, 2), (.iload_n 2, 1), (.iconst 1, 1), (.invokevirtual 290, 3), (.aload_n 0, 1), (.iload 5, 2), (.invokevirtual 304, 3), (.iload 4, 2), (.ireturn, 1)] := rfl
theorem hX11_lays : zMv yX11_lays cX11_lays 7 (some .int) := ⟨zG_mem (n := 1851) (by decide +kernel), zG_mem (n := 127) (by decide +kernel), zG_mem (n := 1850) (by decide +kernel), zG_mem (n := 89) (by decide +kernel)⟩
def BX11_lay : List (Nat × List (Instr × Nat)) := [(0, [(.aload_n 0, 1), (.iconst 0, 1), (.putfield 3, 3), (.aload_n 0, 1), (.iload_n 1, 1), (.iconst 0, 1), (.iconst 3, 1), (.invokestatic 232, 3), (.ifCond .ne 7, 3), (.iconst 1, 1), (.goto 4, 3)]), (19, [(.iconst 0, 1)]), (20, [(.iconst 1, 1), (.invokevirtual 228, 3), (.ifCond .ne 24, 3), (.aload_n 0, 1), (.aload_n 0, 1), (.iload_n 1, 1), (.invokevirtual 332, 3), (.ifCond .ne 7, 3), (.iconst 1, 1), (.goto 4, 3)]), (40, [(.iconst 0, 1)]), (41, [(.iconst 2, 1), (.invokevirtual 228, 3), (.ifCond .eq 7, 3)]), (48, [(.iconst 0, 1), (.goto 8, 3)]), (52, [(.aload_n 0, 1), (.iload_n 1, 1), (.invokevirtual 335, 3)]), (57, [(.ireturn, 1)])]
theorem oX11_lay : ∀ pc, zdec cX11_lay pc (zBf BX11_lay pc) := zBf_ok (by decide +kernel)
theorem bX11_lay_0 : zBf BX11_lay 0 = [(.aload_n 0, 1), (.iconst 0, 1), (.putfield 3, 3), (.aload_n 0, 1), (.iload_n 1, 1), (.iconst 0, 1), (.iconst 3, 1), (.invokestatic 232, 3), (.ifCond .ne 7, 3), (.iconst 1, 1), (.goto 4, 3)] := rfl
theorem bX11_lay_19 : zBf BX11_lay 19 = [(.iconst 0, 1)] := rfl
theorem bX11_lay_20 : zBf BX11_lay 20 = [(.iconst 1, 1), (.invokevirtual 228, 3), (.ifCond .ne 24, 3), (.aload_n 0, 1), (.aload_n 0, 1), (.iload_n 1, 1), (.invokevirtual 332, 3), (.ifCond .ne 7, 3), (.iconst 1, 1), (.goto 4, 3)] := rfl
theorem bX11_lay_40 : zBf BX11_lay 40 = [(.iconst 0, 1)] := rfl
theorem bX11_lay_41 : zBf BX11_lay 41 = [(.iconst 2, 1), (.invokevirtual 228, 3), (.ifCond .eq 7, 3)] := rfl
theorem bX11_lay_48 : zBf BX11_lay 48 = [(.iconst 0, 1), (.goto 8, 3)] := rfl
theorem bX11_lay_52 : zBf BX11_lay 52 = [(.aload_n 0, 1), (.iload_n 1, 1), (.invokevirtual 335, 3)] := rfl
theorem bX11_lay_57 : zBf BX11_lay 57 = [(.ireturn, 1)] := rfl
theorem hX11_lay : zMv yX11_lay cX11_lay 2 (some .int) := ⟨zG_mem (n := 1839) (by decide +kernel), zG_mem (n := 127) (by decide +kernel), zG_mem (n := 1837) (by decide +kernel), zG_mem (n := 1838) (by decide +kernel)⟩
def BX11_front : List (Nat × List (Instr × Nat)) := [(0, [(.aload_n 0, 1), (.getfield 13, 3), (.bipush 12, 2), (.iaload, 1), (.aload_n 0, 1), (.getfield 13, 3), (.bipush 7, 2), (.iaload, 1), (.iadd, 1), (.iconst 1, 1), (.isub, 1), (.ireturn, 1)])]
theorem oX11_front : ∀ pc, zdec cX11_front pc (zBf BX11_front pc) := zBf_ok (by decide +kernel)
theorem bX11_front_0 : zBf BX11_front 0 = [(.aload_n 0, 1), (.getfield 13, 3), (.bipush 12, 2), (.iaload, 1), (.aload_n 0, 1), (.getfield 13, 3), (.bipush 7, 2), (.iaload, 1), (.iadd, 1), (.iconst 1, 1), (.isub, 1), (.ireturn, 1)] := rfl
theorem hX11_front : zMv yX11_front cX11_front 1 (some .int) := ⟨zG_mem (n := 1870) (by decide +kernel), zG_mem (n := 127) (by decide +kernel), zG_mem (n := 1869) (by decide +kernel), zG_mem (n := 92) (by decide +kernel)⟩
def BX11_mayGo : List (Nat × List (Instr × Nat)) := [(0, [(.iload_n 1, 1), (.ifCond .eq 15, 3), (.aload_n 0, 1), (.getfield 13, 3), (.bipush 12, 2), (.iaload, 1), (.iconst 1, 1), (.isub, 1), (.goto 9, 3)]), (16, [(.aload_n 0, 1), (.invokevirtual 338, 3), (.iconst 1, 1), (.iadd, 1)]), (22, [(.istore_n 2, 1), (.aload_n 0, 1), (.invokevirtual 272, 3), (.ifCond .eq 25, 3), (.iload_n 2, 1), (.iconst 0, 1), (.aload_n 0, 1), (.invokevirtual 242, 3), (.iconst 1, 1), (.isub, 1), (.invokestatic 232, 3), (.ifCond .eq 11, 3), (.aload_n 0, 1), (.iload_n 2, 1), (.invokevirtual 308, 3), (.ifCond .eq 5, 3)]), (52, [(.iconst 0, 1), (.ireturn, 1)]), (54, [(.iconst 1, 1), (.istore_n 3, 1), (.aload_n 0, 1), (.getfield 13, 3), (.bipush 12, 2), (.iaload, 1), (.istore 4, 2)]), (65, [(.iload 4, 2), (.aload_n 0, 1), (.invokevirtual 338, 3), (.if_icmp .gt 28, 3), (.iload_n 3, 1), (.ifCond .eq 16, 3), (.aload_n 0, 1), (.iload 4, 2), (.invokevirtual 308, 3), (.ifCond .ne 7, 3), (.iconst 1, 1), (.goto 4, 3)]), (91, [(.iconst 0, 1)]), (92, [(.istore_n 3, 1), (.iinc 4 1, 3), (.goto (-31), 3)]), (99, [(.iload_n 3, 1), (.ifCond .eq 32, 3), (.aload_n 0, 1), (.getfield 13, 3), (.iconst 2, 1), (.iaload, 1), (.aload_n 0, 1), (.getfield 13, 3), (.iconst 4, 1), (.iaload, 1), (.if_icmp .lt 17, 3), (.aload_n 0, 1), (.getfield 13, 3), (.iconst 1, 1), (.iaload, 1), (.iconst 1, 1), (.if_icmp .lt 7, 3), (.iconst 1, 1), (.goto 4, 3)]), (132, [(.iconst 0, 1)]), (133, [(.ireturn, 1)])]
theorem oX11_mayGo : ∀ pc, zdec cX11_mayGo pc (zBf BX11_mayGo pc) := zBf_ok (by decide +kernel)
theorem bX11_mayGo_0 : zBf BX11_mayGo 0 = [(.iload_n 1, 1), (.ifCond .eq 15, 3), (.aload_n 0, 1), (.getfield 13, 3), (.bipush 12, 2), (.iaload, 1), (.iconst 1, 1), (.isub, 1), (.goto 9, 3)] := rfl
theorem bX11_mayGo_16 : zBf BX11_mayGo 16 = [(.aload_n 0, 1), (.invokevirtual 338, 3), (.iconst 1, 1), (.iadd, 1)] := rfl
theorem bX11_mayGo_22 : zBf BX11_mayGo 22 = [(.istore_n 2, 1), (.aload_n 0, 1), (.invokevirtual 272, 3), (.ifCond .eq 25, 3), (.iload_n 2, 1), (.iconst 0, 1), (.aload_n 0, 1), (.invokevirtual 242, 3), (.iconst 1, 1), (.isub, 1), (.invokestatic 232, 3), (.ifCond .eq 11, 3), (.aload_n 0, 1), (.iload_n 2, 1), (.invokevirtual 308, 3), (.ifCond .eq 5, 3)] := rfl
theorem bX11_mayGo_52 : zBf BX11_mayGo 52 = [(.iconst 0, 1), (.ireturn, 1)] := rfl
theorem bX11_mayGo_54 : zBf BX11_mayGo 54 = [(.iconst 1, 1), (.istore_n 3, 1), (.aload_n 0, 1), (.getfield 13, 3), (.bipush 12, 2), (.iaload, 1), (.istore 4, 2)] := rfl
theorem bX11_mayGo_65 : zBf BX11_mayGo 65 = [(.iload 4, 2), (.aload_n 0, 1), (.invokevirtual 338, 3), (.if_icmp .gt 28, 3), (.iload_n 3, 1), (.ifCond .eq 16, 3), (.aload_n 0, 1), (.iload 4, 2), (.invokevirtual 308, 3), (.ifCond .ne 7, 3), (.iconst 1, 1), (.goto 4, 3)] := rfl
theorem bX11_mayGo_91 : zBf BX11_mayGo 91 = [(.iconst 0, 1)] := rfl
theorem bX11_mayGo_92 : zBf BX11_mayGo 92 = [(.istore_n 3, 1), (.iinc 4 1, 3), (.goto (-31), 3)] := rfl
theorem bX11_mayGo_99 : zBf BX11_mayGo 99 = [(.iload_n 3, 1), (.ifCond .eq 32, 3), (.aload_n 0, 1), (.getfield 13, 3), (.iconst 2, 1), (.iaload, 1), (.aload_n 0, 1), (.getfield 13, 3), (.iconst 4, 1), (.iaload, 1), (.if_icmp .lt 17, 3), (.aload_n 0, 1), (.getfield 13, 3), (.iconst 1, 1), (.iaload, 1), (.iconst 1, 1), (.if_icmp .lt 7, 3), (.iconst 1, 1), (.goto 4, 3)] := rfl
theorem bX11_mayGo_132 : zBf BX11_mayGo 132 = [(.iconst 0, 1)] := rfl
theorem bX11_mayGo_133 : zBf BX11_mayGo 133 = [(.ireturn, 1)] := rfl
theorem hX11_mayGo : zMv yX11_mayGo cX11_mayGo 5 (some .boolean) := ⟨zG_mem (n := 1866) (by decide +kernel), zG_mem (n := 127) (by decide +kernel), zG_mem (n := 1865) (by decide +kernel), zG_mem (n := 91) (by decide +kernel)⟩
def BX11_apart : List (Nat × List (Instr × Nat)) := [(0, [(.iload_n 0, 1), (.iload_n 1, 1), (.isub, 1), (.invokestatic 341, 3), (.ireturn, 1)])]
theorem oX11_apart : ∀ pc, zdec cX11_apart pc (zBf BX11_apart pc) := zBf_ok (by decide +kernel)
theorem bX11_apart_0 : zBf BX11_apart 0 = [(.iload_n 0, 1), (.iload_n 1, 1), (.isub, 1), (.invokestatic 341, 3), (.ireturn, 1)] := rfl
theorem hX11_apart : zMs yX11_apart cX11_apart 2 (some .int) := ⟨zG_mem (n := 1881) (by decide +kernel), zG_mem (n := 127) (by decide +kernel), zG_mem (n := 1880) (by decide +kernel)⟩
def BX11_widthAt : List (Nat × List (Instr × Nat)) := [(0, [(.aload_n 0, 1), (.aload_n 0, 1), (.iload_n 1, 1), (.invokevirtual 236, 3), (.iconst 1, 1), (.invokevirtual 239, 3), (.ireturn, 1)])]
theorem oX11_widthAt : ∀ pc, zdec cX11_widthAt pc (zBf BX11_widthAt pc) := zBf_ok (by decide +kernel)
theorem bX11_widthAt_0 : zBf BX11_widthAt 0 = [(.aload_n 0, 1), (.aload_n 0, 1), (.iload_n 1, 1), (.invokevirtual 236, 3), (.iconst 1, 1), (.invokevirtual 239, 3), (.ireturn, 1)] := rfl
theorem hX11_widthAt : zMv yX11_widthAt cX11_widthAt 2 (some .int) := ⟨zG_mem (n := 1878) (by decide +kernel), zG_mem (n := 127) (by decide +kernel), zG_mem (n := 1877) (by decide +kernel), zG_mem (n := 94) (by decide +kernel)⟩
def BX11_goes : List (Nat × List (Instr × Nat)) := [(0, [(.iload_n 1, 1), (.ifCond .eq 13, 3), (.aload_n 0, 1), (.getfield 13, 3), (.bipush 12, 2), (.iaload, 1), (.goto 7, 3)]), (14, [(.aload_n 0, 1), (.invokevirtual 338, 3)]), (18, [(.istore_n 2, 1), (.aload_n 0, 1), (.iload_n 2, 1), (.invokevirtual 344, 3), (.aload_n 0, 1), (.iload_n 1, 1), (.ifCond .eq 9, 3), (.iload_n 2, 1), (.iconst 1, 1), (.isub, 1), (.goto 6, 3)]), (35, [(.iload_n 2, 1), (.iconst 1, 1), (.iadd, 1)]), (38, [(.invokevirtual 344, 3), (.invokestatic 347, 3), (.aload_n 0, 1), (.getfield 13, 3), (.iconst 5, 1), (.iaload, 1), (.if_icmp .le 7, 3), (.iconst 1, 1), (.goto 4, 3)]), (57, [(.iconst 0, 1)]), (58, [(.istore_n 3, 1), (.aload_n 0, 1), (.getfield 13, 3), (.iconst 2, 1), (.dup2, 1), (.iaload, 1), (.aload_n 0, 1), (.getfield 13, 3), (.iconst 4, 1), (.iaload, 1), (.isub, 1), (.iastore, 1), (.aload_n 0, 1), (.getfield 13, 3), (.iconst 1, 1), (.dup2, 1), (.iaload, 1), (.iconst 1, 1), (.isub, 1), (.iastore, 1), (.iload_n 3, 1), (.ifCond .eq 17, 3), (.aload_n 0, 1), (.getfield 13, 3), (.bipush 11, 2), (.dup2, 1), (.iaload, 1), (.iconst 1, 1), (.iadd, 1), (.iastore, 1), (.goto 22, 3)]), (102, [(.aload_n 0, 1), (.getfield 13, 3), (.bipush 12, 2), (.dup2, 1), (.iaload, 1), (.iload_n 1, 1), (.ifCond .eq 7, 3), (.iconst (-1), 1), (.goto 4, 3)]), (118, [(.iconst 1, 1)]), (119, [(.iadd, 1), (.iastore, 1)]), (121, [(.aload_n 0, 1), (.iload_n 3, 1), (.ifCond .eq 8, 3), (.bipush 60, 2), (.goto 4, 3)]), (131, [(.iconst 2, 1)]), (132, [(.invokevirtual 329, 3), (.iload_n 3, 1), (.ifCond .ne 7, 3), (.iconst 1, 1), (.goto 4, 3)]), (143, [(.iconst 0, 1)]), (144, [(.ireturn, 1)])]
theorem oX11_goes : ∀ pc, zdec cX11_goes pc (zBf BX11_goes pc) := zBf_ok (by decide +kernel)
theorem bX11_goes_0 : zBf BX11_goes 0 = [(.iload_n 1, 1), (.ifCond .eq 13, 3), (.aload_n 0, 1), (.getfield 13, 3), (.bipush 12, 2), (.iaload, 1), (.goto 7, 3)] := rfl
theorem bX11_goes_14 : zBf BX11_goes 14 = [(.aload_n 0, 1), (.invokevirtual 338, 3)] := rfl
theorem bX11_goes_18 : zBf BX11_goes 18 = [(.istore_n 2, 1), (.aload_n 0, 1), (.iload_n 2, 1), (.invokevirtual 344, 3), (.aload_n 0, 1), (.iload_n 1, 1), (.ifCond .eq 9, 3), (.iload_n 2, 1), (.iconst 1, 1), (.isub, 1), (.goto 6, 3)] := rfl
theorem bX11_goes_35 : zBf BX11_goes 35 = [(.iload_n 2, 1), (.iconst 1, 1), (.iadd, 1)] := rfl
theorem bX11_goes_38 : zBf BX11_goes 38 = [(.invokevirtual 344, 3), (.invokestatic 347, 3), (.aload_n 0, 1), (.getfield 13, 3), (.iconst 5, 1), (.iaload, 1), (.if_icmp .le 7, 3), (.iconst 1, 1), (.goto 4, 3)] := rfl
theorem bX11_goes_57 : zBf BX11_goes 57 = [(.iconst 0, 1)] := rfl
theorem bX11_goes_58 : zBf BX11_goes 58 = [(.istore_n 3, 1), (.aload_n 0, 1), (.getfield 13, 3), (.iconst 2, 1), (.dup2, 1), (.iaload, 1), (.aload_n 0, 1), (.getfield 13, 3), (.iconst 4, 1), (.iaload, 1), (.isub, 1), (.iastore, 1), (.aload_n 0, 1), (.getfield 13, 3), (.iconst 1, 1), (.dup2, 1), (.iaload, 1), (.iconst 1, 1), (.isub, 1), (.iastore, 1), (.iload_n 3, 1), (.ifCond .eq 17, 3), (.aload_n 0, 1), (.getfield 13, 3), (.bipush 11, 2), (.dup2, 1), (.iaload, 1), (.iconst 1, 1), (.iadd, 1), (.iastore, 1), (.goto 22, 3)] := rfl
theorem bX11_goes_102 : zBf BX11_goes 102 = [(.aload_n 0, 1), (.getfield 13, 3), (.bipush 12, 2), (.dup2, 1), (.iaload, 1), (.iload_n 1, 1), (.ifCond .eq 7, 3), (.iconst (-1), 1), (.goto 4, 3)] := rfl
theorem bX11_goes_118 : zBf BX11_goes 118 = [(.iconst 1, 1)] := rfl
theorem bX11_goes_119 : zBf BX11_goes 119 = [(.iadd, 1), (.iastore, 1)] := rfl
theorem bX11_goes_121 : zBf BX11_goes 121 = [(.aload_n 0, 1), (.iload_n 3, 1), (.ifCond .eq 8, 3), (.bipush 60, 2), (.goto 4, 3)] := rfl
theorem bX11_goes_131 : zBf BX11_goes 131 = [(.iconst 2, 1)] := rfl
theorem bX11_goes_132 : zBf BX11_goes 132 = [(.invokevirtual 329, 3), (.iload_n 3, 1), (.ifCond .ne 7, 3), (.iconst 1, 1), (.goto 4, 3)] := rfl
theorem bX11_goes_143 : zBf BX11_goes 143 = [(.iconst 0, 1)] := rfl
theorem bX11_goes_144 : zBf BX11_goes 144 = [(.ireturn, 1)] := rfl
theorem hX11_goes : zMv yX11_goes cX11_goes 4 (some .boolean) := ⟨zG_mem (n := 1874) (by decide +kernel), zG_mem (n := 127) (by decide +kernel), zG_mem (n := 1873) (by decide +kernel), zG_mem (n := 93) (by decide +kernel)⟩
def BX11_go : List (Nat × List (Instr × Nat)) := [(0, [(.aload_n 0, 1), (.iconst 0, 1), (.putfield 3, 3), (.aload_n 0, 1), (.aload_n 0, 1), (.iload_n 1, 1), (.invokevirtual 350, 3), (.ifCond .ne 7, 3), (.iconst 1, 1), (.goto 4, 3)]), (18, [(.iconst 0, 1)]), (19, [(.iconst 1, 1), (.invokevirtual 228, 3), (.ifCond .ne 15, 3), (.aload_n 0, 1), (.iload_n 1, 1), (.invokevirtual 353, 3), (.ifCond .eq 7, 3), (.iconst 1, 1), (.goto 4, 3)]), (38, [(.iconst 0, 1)]), (39, [(.ireturn, 1)])]
theorem oX11_go : ∀ pc, zdec cX11_go pc (zBf BX11_go pc) := zBf_ok (by decide +kernel)
theorem bX11_go_0 : zBf BX11_go 0 = [(.aload_n 0, 1), (.iconst 0, 1), (.putfield 3, 3), (.aload_n 0, 1), (.aload_n 0, 1), (.iload_n 1, 1), (.invokevirtual 350, 3), (.ifCond .ne 7, 3), (.iconst 1, 1), (.goto 4, 3)] := rfl
theorem bX11_go_18 : zBf BX11_go 18 = [(.iconst 0, 1)] := rfl
theorem bX11_go_19 : zBf BX11_go 19 = [(.iconst 1, 1), (.invokevirtual 228, 3), (.ifCond .ne 15, 3), (.aload_n 0, 1), (.iload_n 1, 1), (.invokevirtual 353, 3), (.ifCond .eq 7, 3), (.iconst 1, 1), (.goto 4, 3)] := rfl
theorem bX11_go_38 : zBf BX11_go 38 = [(.iconst 0, 1)] := rfl
theorem bX11_go_39 : zBf BX11_go 39 = [(.ireturn, 1)] := rfl
theorem hX11_go : zMv yX11_go cX11_go 2 (some .boolean) := ⟨zG_mem (n := 1862) (by decide +kernel), zG_mem (n := 127) (by decide +kernel), zG_mem (n := 1860) (by decide +kernel), zG_mem (n := 1861) (by decide +kernel)⟩
def BX11_isByWell : List (Nat × List (Instr × Nat)) := [(0, [(.iconst 0, 1), (.istore_n 2, 1), (.iconst 0, 1), (.istore_n 3, 1)]), (4, [(.iload_n 3, 1), (.iconst 4, 1), (.if_icmp .ge 40, 3), (.iload_n 2, 1), (.ifCond .ne 24, 3), (.iload_n 1, 1), (.iload_n 3, 1), (.invokestatic 275, 3), (.ifCond .lt 20, 3), (.aload_n 0, 1), (.iload_n 1, 1), (.iload_n 3, 1), (.invokestatic 275, 3), (.invokevirtual 262, 3), (.iconst 3, 1), (.if_icmp .ne 7, 3)]), (34, [(.iconst 1, 1), (.goto 4, 3)]), (38, [(.iconst 0, 1)]), (39, [(.istore_n 2, 1), (.iinc 3 1, 3), (.goto (-39), 3)]), (46, [(.iload_n 2, 1), (.ireturn, 1)])]
theorem oX11_isByWell : ∀ pc, zdec cX11_isByWell pc (zBf BX11_isByWell pc) := zBf_ok (by decide +kernel)
theorem bX11_isByWell_0 : zBf BX11_isByWell 0 = [(.iconst 0, 1), (.istore_n 2, 1), (.iconst 0, 1), (.istore_n 3, 1)] := rfl
theorem bX11_isByWell_4 : zBf BX11_isByWell 4 = [(.iload_n 3, 1), (.iconst 4, 1), (.if_icmp .ge 40, 3), (.iload_n 2, 1), (.ifCond .ne 24, 3), (.iload_n 1, 1), (.iload_n 3, 1), (.invokestatic 275, 3), (.ifCond .lt 20, 3), (.aload_n 0, 1), (.iload_n 1, 1), (.iload_n 3, 1), (.invokestatic 275, 3), (.invokevirtual 262, 3), (.iconst 3, 1), (.if_icmp .ne 7, 3)] := rfl
theorem bX11_isByWell_34 : zBf BX11_isByWell 34 = [(.iconst 1, 1), (.goto 4, 3)] := rfl
theorem bX11_isByWell_38 : zBf BX11_isByWell 38 = [(.iconst 0, 1)] := rfl
theorem bX11_isByWell_39 : zBf BX11_isByWell 39 = [(.istore_n 2, 1), (.iinc 3 1, 3), (.goto (-39), 3)] := rfl
theorem bX11_isByWell_46 : zBf BX11_isByWell 46 = [(.iload_n 2, 1), (.ireturn, 1)] := rfl
theorem hX11_isByWell : zMv yX11_isByWell cX11_isByWell 4 (some .boolean) := ⟨zG_mem (n := 1894) (by decide +kernel), zG_mem (n := 127) (by decide +kernel), zG_mem (n := 1893) (by decide +kernel), zG_mem (n := 96) (by decide +kernel)⟩
def BX11_mayFill : List (Nat × List (Instr × Nat)) := [(0, [(.iconst 0, 1), (.istore_n 1, 1), (.aload_n 0, 1), (.getfield 13, 3), (.bipush 12, 2), (.iaload, 1), (.istore_n 2, 1)]), (10, [(.aload_n 0, 1), (.invokevirtual 272, 3), (.ifCond .eq 39, 3), (.iload_n 2, 1), (.aload_n 0, 1), (.invokevirtual 338, 3), (.if_icmp .gt 31, 3), (.iload_n 1, 1), (.ifCond .ne 15, 3), (.aload_n 0, 1), (.aload_n 0, 1), (.iload_n 2, 1), (.invokevirtual 245, 3), (.invokevirtual 356, 3), (.ifCond .eq 7, 3)]), (41, [(.iconst 1, 1), (.goto 4, 3)]), (45, [(.iconst 0, 1)]), (46, [(.istore_n 1, 1), (.iinc 2 1, 3), (.goto (-40), 3)]), (53, [(.iload_n 1, 1), (.ireturn, 1)])]
theorem oX11_mayFill : ∀ pc, zdec cX11_mayFill pc (zBf BX11_mayFill pc) := zBf_ok (by decide +kernel)
theorem bX11_mayFill_0 : zBf BX11_mayFill 0 = [(.iconst 0, 1), (.istore_n 1, 1), (.aload_n 0, 1), (.getfield 13, 3), (.bipush 12, 2), (.iaload, 1), (.istore_n 2, 1)] := rfl
theorem bX11_mayFill_10 : zBf BX11_mayFill 10 = [(.aload_n 0, 1), (.invokevirtual 272, 3), (.ifCond .eq 39, 3), (.iload_n 2, 1), (.aload_n 0, 1), (.invokevirtual 338, 3), (.if_icmp .gt 31, 3), (.iload_n 1, 1), (.ifCond .ne 15, 3), (.aload_n 0, 1), (.aload_n 0, 1), (.iload_n 2, 1), (.invokevirtual 245, 3), (.invokevirtual 356, 3), (.ifCond .eq 7, 3)] := rfl
theorem bX11_mayFill_41 : zBf BX11_mayFill 41 = [(.iconst 1, 1), (.goto 4, 3)] := rfl
theorem bX11_mayFill_45 : zBf BX11_mayFill 45 = [(.iconst 0, 1)] := rfl
theorem bX11_mayFill_46 : zBf BX11_mayFill 46 = [(.istore_n 1, 1), (.iinc 2 1, 3), (.goto (-40), 3)] := rfl
theorem bX11_mayFill_53 : zBf BX11_mayFill 53 = [(.iload_n 1, 1), (.ireturn, 1)] := rfl
theorem hX11_mayFill : zMv yX11_mayFill cX11_mayFill 3 (some .boolean) := ⟨zG_mem (n := 1890) (by decide +kernel), zG_mem (n := 127) (by decide +kernel), zG_mem (n := 1889) (by decide +kernel), zG_mem (n := 95) (by decide +kernel)⟩
def BX11_fills : List (Nat × List (Instr × Nat)) := [(0, [(.aload_n 0, 1), (.getfield 13, 3), (.iconst 3, 1), (.iaload, 1), (.aload_n 0, 1), (.getfield 13, 3), (.iconst 2, 1), (.iaload, 1), (.isub, 1), (.istore_n 1, 1), (.aload_n 0, 1), (.getfield 13, 3), (.iconst 2, 1), (.aload_n 0, 1), (.getfield 13, 3), (.iconst 3, 1), (.iaload, 1), (.iastore, 1), (.aload_n 0, 1), (.bipush 15, 2), (.invokevirtual 329, 3), (.iload_n 1, 1), (.ireturn, 1)])]
theorem oX11_fills : ∀ pc, zdec cX11_fills pc (zBf BX11_fills pc) := zBf_ok (by decide +kernel)
theorem bX11_fills_0 : zBf BX11_fills 0 = [(.aload_n 0, 1), (.getfield 13, 3), (.iconst 3, 1), (.iaload, 1), (.aload_n 0, 1), (.getfield 13, 3), (.iconst 2, 1), (.iaload, 1), (.isub, 1), (.istore_n 1, 1), (.aload_n 0, 1), (.getfield 13, 3), (.iconst 2, 1), (.aload_n 0, 1), (.getfield 13, 3), (.iconst 3, 1), (.iaload, 1), (.iastore, 1), (.aload_n 0, 1), (.bipush 15, 2), (.invokevirtual 329, 3), (.iload_n 1, 1), (.ireturn, 1)] := rfl
theorem hX11_fills : zMv yX11_fills cX11_fills 2 (some .int) := ⟨zG_mem (n := 1898) (by decide +kernel), zG_mem (n := 127) (by decide +kernel), zG_mem (n := 1897) (by decide +kernel), zG_mem (n := 97) (by decide +kernel)⟩
def BX11_fill : List (Nat × List (Instr × Nat)) := [(0, [(.aload_n 0, 1), (.iconst 0, 1), (.putfield 3, 3), (.aload_n 0, 1), (.aload_n 0, 1), (.invokevirtual 359, 3), (.ifCond .ne 7, 3), (.iconst 1, 1), (.goto 4, 3)]), (17, [(.iconst 0, 1)]), (18, [(.iconst 1, 1), (.invokevirtual 228, 3), (.ifCond .eq 7, 3), (.iconst 0, 1), (.goto 7, 3)]), (29, [(.aload_n 0, 1), (.invokevirtual 362, 3)]), (33, [(.ireturn, 1)])]
theorem oX11_fill : ∀ pc, zdec cX11_fill pc (zBf BX11_fill pc) := zBf_ok (by decide +kernel)
theorem bX11_fill_0 : zBf BX11_fill 0 = [(.aload_n 0, 1), (.iconst 0, 1), (.putfield 3, 3), (.aload_n 0, 1), (.aload_n 0, 1), (.invokevirtual 359, 3), (.ifCond .ne 7, 3), (.iconst 1, 1), (.goto 4, 3)] := rfl
theorem bX11_fill_17 : zBf BX11_fill 17 = [(.iconst 0, 1)] := rfl
theorem bX11_fill_18 : zBf BX11_fill 18 = [(.iconst 1, 1), (.invokevirtual 228, 3), (.ifCond .eq 7, 3), (.iconst 0, 1), (.goto 7, 3)] := rfl
theorem bX11_fill_29 : zBf BX11_fill 29 = [(.aload_n 0, 1), (.invokevirtual 362, 3)] := rfl
theorem bX11_fill_33 : zBf BX11_fill 33 = [(.ireturn, 1)] := rfl
theorem hX11_fill : zMv yX11_fill cX11_fill 1 (some .int) := ⟨zG_mem (n := 1886) (by decide +kernel), zG_mem (n := 127) (by decide +kernel), zG_mem (n := 1884) (by decide +kernel), zG_mem (n := 1885) (by decide +kernel)⟩
def BX11_firstBuried : List (Nat × List (Instr × Nat)) := [(0, [(.iconst 0, 1), (.istore_n 1, 1)]), (2, [(.iload_n 1, 1), (.aload_n 0, 1), (.invokevirtual 242, 3), (.if_icmp .ge 17, 3), (.aload_n 0, 1), (.iload_n 1, 1), (.invokevirtual 308, 3), (.ifCond .ne 9, 3), (.iinc 1 1, 3), (.goto (-19), 3)]), (24, [(.iload_n 1, 1), (.aload_n 0, 1), (.invokevirtual 242, 3), (.if_icmp .ne 7, 3), (.iconst (-1), 1), (.goto 4, 3)]), (36, [(.iload_n 1, 1)]), (37, [(.ireturn, 1)])]
theorem oX11_firstBuried : ∀ pc, zdec cX11_firstBuried pc (zBf BX11_firstBuried pc) := zBf_ok (by decide +kernel)
theorem bX11_firstBuried_0 : zBf BX11_firstBuried 0 = [(.iconst 0, 1), (.istore_n 1, 1)] := rfl
theorem bX11_firstBuried_2 : zBf BX11_firstBuried 2 = [(.iload_n 1, 1), (.aload_n 0, 1), (.invokevirtual 242, 3), (.if_icmp .ge 17, 3), (.aload_n 0, 1), (.iload_n 1, 1), (.invokevirtual 308, 3), (.ifCond .ne 9, 3), (.iinc 1 1, 3), (.goto (-19), 3)] := rfl
theorem bX11_firstBuried_24 : zBf BX11_firstBuried 24 = [(.iload_n 1, 1), (.aload_n 0, 1), (.invokevirtual 242, 3), (.if_icmp .ne 7, 3), (.iconst (-1), 1), (.goto 4, 3)] := rfl
theorem bX11_firstBuried_36 : zBf BX11_firstBuried 36 = [(.iload_n 1, 1)] := rfl
theorem bX11_firstBuried_37 : zBf BX11_firstBuried 37 = [(.ireturn, 1)] := rfl
theorem hX11_firstBuried : zMv yX11_firstBuried cX11_firstBuried 2 (some .int) := ⟨zG_mem (n := 1910) (by decide +kernel), zG_mem (n := 127) (by decide +kernel), zG_mem (n := 1909) (by decide +kernel), zG_mem (n := 99) (by decide +kernel)⟩
def BX11_mayDig : List (Nat × List (Instr × Nat)) := [(0, [(.aload_n 0, 1), (.invokevirtual 272, 3), (.ifCond .eq 22, 3), (.aload_n 0, 1), (.invokevirtual 365, 3), (.ifCond .lt 15, 3), (.aload_n 0, 1), (.iconst 3, 1), (.invokevirtual 311, 3), (.ifCond .le 7, 3), (.iconst 1, 1), (.goto 4, 3)]), (26, [(.iconst 0, 1)]), (27, [(.ireturn, 1)])]
theorem oX11_mayDig : ∀ pc, zdec cX11_mayDig pc (zBf BX11_mayDig pc) := zBf_ok (by decide +kernel)
theorem bX11_mayDig_0 : zBf BX11_mayDig 0 = [(.aload_n 0, 1), (.invokevirtual 272, 3), (.ifCond .eq 22, 3), (.aload_n 0, 1), (.invokevirtual 365, 3), (.ifCond .lt 15, 3), (.aload_n 0, 1), (.iconst 3, 1), (.invokevirtual 311, 3), (.ifCond .le 7, 3), (.iconst 1, 1), (.goto 4, 3)] := rfl
theorem bX11_mayDig_26 : zBf BX11_mayDig 26 = [(.iconst 0, 1)] := rfl
theorem bX11_mayDig_27 : zBf BX11_mayDig 27 = [(.ireturn, 1)] := rfl
theorem hX11_mayDig : zMv yX11_mayDig cX11_mayDig 1 (some .boolean) := ⟨zG_mem (n := 1906) (by decide +kernel), zG_mem (n := 127) (by decide +kernel), zG_mem (n := 1905) (by decide +kernel), zG_mem (n := 98) (by decide +kernel)⟩
def BX11_digs : List (Nat × List (Instr × Nat)) := [(0, [(.aload_n 0, 1), (.aload_n 0, 1), (.invokevirtual 365, 3), (.invokevirtual 245, 3), (.istore_n 1, 1), (.aload_n 0, 1), (.getfield 13, 3), (.bipush 20, 2), (.iload_n 1, 1), (.iadd, 1), (.iconst 0, 1), (.iastore, 1), (.aload_n 0, 1), (.bipush 25, 2), (.aload_n 0, 1), (.iconst 3, 1), (.invokevirtual 311, 3), (.invokestatic 314, 3), (.invokevirtual 329, 3), (.iload_n 1, 1), (.ireturn, 1)])]
theorem oX11_digs : ∀ pc, zdec cX11_digs pc (zBf BX11_digs pc) := zBf_ok (by decide +kernel)
theorem bX11_digs_0 : zBf BX11_digs 0 = [(.aload_n 0, 1), (.aload_n 0, 1), (.invokevirtual 365, 3), (.invokevirtual 245, 3), (.istore_n 1, 1), (.aload_n 0, 1), (.getfield 13, 3), (.bipush 20, 2), (.iload_n 1, 1), (.iadd, 1), (.iconst 0, 1), (.iastore, 1), (.aload_n 0, 1), (.bipush 25, 2), (.aload_n 0, 1), (.iconst 3, 1), (.invokevirtual 311, 3), (.invokestatic 314, 3), (.invokevirtual 329, 3), (.iload_n 1, 1), (.ireturn, 1)] := rfl
theorem hX11_digs : zMv yX11_digs cX11_digs 2 (some .int) := ⟨zG_mem (n := 1914) (by decide +kernel), zG_mem (n := 127) (by decide +kernel), zG_mem (n := 1913) (by decide +kernel), zG_mem (n := 100) (by decide +kernel)⟩
def BX11_dig : List (Nat × List (Instr × Nat)) := [(0, [(.aload_n 0, 1), (.iconst 0, 1), (.putfield 3, 3), (.aload_n 0, 1), (.aload_n 0, 1), (.invokevirtual 368, 3), (.ifCond .ne 7, 3), (.iconst 1, 1), (.goto 4, 3)]), (17, [(.iconst 0, 1)]), (18, [(.iconst 1, 1), (.invokevirtual 228, 3), (.ifCond .eq 7, 3), (.iconst 0, 1), (.goto 7, 3)]), (29, [(.aload_n 0, 1), (.invokevirtual 371, 3)]), (33, [(.ireturn, 1)])]
theorem oX11_dig : ∀ pc, zdec cX11_dig pc (zBf BX11_dig pc) := zBf_ok (by decide +kernel)
theorem bX11_dig_0 : zBf BX11_dig 0 = [(.aload_n 0, 1), (.iconst 0, 1), (.putfield 3, 3), (.aload_n 0, 1), (.aload_n 0, 1), (.invokevirtual 368, 3), (.ifCond .ne 7, 3), (.iconst 1, 1), (.goto 4, 3)] := rfl
theorem bX11_dig_17 : zBf BX11_dig 17 = [(.iconst 0, 1)] := rfl
theorem bX11_dig_18 : zBf BX11_dig 18 = [(.iconst 1, 1), (.invokevirtual 228, 3), (.ifCond .eq 7, 3), (.iconst 0, 1), (.goto 7, 3)] := rfl
theorem bX11_dig_29 : zBf BX11_dig 29 = [(.aload_n 0, 1), (.invokevirtual 371, 3)] := rfl
theorem bX11_dig_33 : zBf BX11_dig 33 = [(.ireturn, 1)] := rfl
theorem hX11_dig : zMv yX11_dig cX11_dig 1 (some .int) := ⟨zG_mem (n := 1902) (by decide +kernel), zG_mem (n := 127) (by decide +kernel), zG_mem (n := 1900) (by decide +kernel), zG_mem (n := 1901) (by decide +kernel)⟩
def BX11_rest : List (Nat × List (Instr × Nat)) := [(0, [(.aload_n 0, 1), (.iconst 0, 1), (.putfield 3, 3), (.aload_n 0, 1), (.iload_n 1, 1), (.iconst 1, 1), (.sipush 1440, 3), (.invokestatic 232, 3), (.ifCond .ne 7, 3), (.iconst 1, 1), (.goto 4, 3)]), (21, [(.iconst 0, 1)]), (22, [(.iconst 1, 1), (.invokevirtual 228, 3), (.ifCond .eq 5, 3), (.iconst 0, 1), (.ireturn, 1)]), (31, [(.aload_n 0, 1), (.iload_n 1, 1), (.invokevirtual 329, 3), (.aload_n 0, 1), (.getfield 13, 3), (.bipush 9, 2), (.iaload, 1), (.ireturn, 1)])]
theorem oX11_rest : ∀ pc, zdec cX11_rest pc (zBf BX11_rest pc) := zBf_ok (by decide +kernel)
theorem bX11_rest_0 : zBf BX11_rest 0 = [(.aload_n 0, 1), (.iconst 0, 1), (.putfield 3, 3), (.aload_n 0, 1), (.iload_n 1, 1), (.iconst 1, 1), (.sipush 1440, 3), (.invokestatic 232, 3), (.ifCond .ne 7, 3), (.iconst 1, 1), (.goto 4, 3)] := rfl
theorem bX11_rest_21 : zBf BX11_rest 21 = [(.iconst 0, 1)] := rfl
theorem bX11_rest_22 : zBf BX11_rest 22 = [(.iconst 1, 1), (.invokevirtual 228, 3), (.ifCond .eq 5, 3), (.iconst 0, 1), (.ireturn, 1)] := rfl
theorem bX11_rest_31 : zBf BX11_rest 31 = [(.aload_n 0, 1), (.iload_n 1, 1), (.invokevirtual 329, 3), (.aload_n 0, 1), (.getfield 13, 3), (.bipush 9, 2), (.iaload, 1), (.ireturn, 1)] := rfl
theorem hX11_rest : zMv yX11_rest cX11_rest 2 (some .int) := ⟨zG_mem (n := 1918) (by decide +kernel), zG_mem (n := 127) (by decide +kernel), zG_mem (n := 1916) (by decide +kernel), zG_mem (n := 1917) (by decide +kernel)⟩
def BX11_factOf : List (Nat × List (Instr × Nat)) := [(0, [(.iload_n 1, 1), (.tableswitch 125 0 6 #[43, 50, 57, 64, 69, 92, 111], 43)]), (44, [(.aload_n 0, 1), (.getfield 13, 3), (.iconst 2, 1), (.iaload, 1), (.ireturn, 1)]), (51, [(.aload_n 0, 1), (.getfield 13, 3), (.iconst 1, 1), (.iaload, 1), (.ireturn, 1)]), (58, [(.aload_n 0, 1), (.getfield 13, 3), (.iconst 0, 1), (.iaload, 1), (.ireturn, 1)]), (65, [(.aload_n 0, 1), (.invokevirtual 278, 3), (.ireturn, 1)]), (70, [(.aload_n 0, 1), (.invokevirtual 272, 3), (.ifCond .eq 17, 3), (.aload_n 0, 1), (.invokevirtual 242, 3), (.iconst 1, 1), (.isub, 1), (.aload_n 0, 1), (.invokevirtual 338, 3), (.isub, 1), (.goto 4, 3)]), (91, [(.iconst 0, 1)]), (92, [(.ireturn, 1)]), (93, [(.aload_n 0, 1), (.invokevirtual 272, 3), (.ifCond .eq 13, 3), (.aload_n 0, 1), (.getfield 13, 3), (.bipush 12, 2), (.iaload, 1), (.goto 4, 3)]), (110, [(.iconst 0, 1)]), (111, [(.ireturn, 1)]), (112, [(.aload_n 0, 1), (.getfield 13, 3), (.bipush 9, 2), (.iaload, 1), (.bipush 60, 2), (.idiv, 1), (.bipush 24, 2), (.irem, 1), (.ireturn, 1)]), (126, [(.aload_n 0, 1), (.getfield 13, 3), (.bipush 9, 2), (.iaload, 1), (.sipush 1440, 3), (.idiv, 1), (.ireturn, 1)])]
theorem oX11_factOf : ∀ pc, zdec cX11_factOf pc (zBf BX11_factOf pc) := zBf_ok (by decide +kernel)
theorem bX11_factOf_0 : zBf BX11_factOf 0 = [(.iload_n 1, 1), (.tableswitch 125 0 6 #[43, 50, 57, 64, 69, 92, 111], 43)] := rfl
theorem bX11_factOf_44 : zBf BX11_factOf 44 = [(.aload_n 0, 1), (.getfield 13, 3), (.iconst 2, 1), (.iaload, 1), (.ireturn, 1)] := rfl
theorem bX11_factOf_51 : zBf BX11_factOf 51 = [(.aload_n 0, 1), (.getfield 13, 3), (.iconst 1, 1), (.iaload, 1), (.ireturn, 1)] := rfl
theorem bX11_factOf_58 : zBf BX11_factOf 58 = [(.aload_n 0, 1), (.getfield 13, 3), (.iconst 0, 1), (.iaload, 1), (.ireturn, 1)] := rfl
theorem bX11_factOf_65 : zBf BX11_factOf 65 = [(.aload_n 0, 1), (.invokevirtual 278, 3), (.ireturn, 1)] := rfl
theorem bX11_factOf_70 : zBf BX11_factOf 70 = [(.aload_n 0, 1), (.invokevirtual 272, 3), (.ifCond .eq 17, 3), (.aload_n 0, 1), (.invokevirtual 242, 3), (.iconst 1, 1), (.isub, 1), (.aload_n 0, 1), (.invokevirtual 338, 3), (.isub, 1), (.goto 4, 3)] := rfl
theorem bX11_factOf_91 : zBf BX11_factOf 91 = [(.iconst 0, 1)] := rfl
theorem bX11_factOf_92 : zBf BX11_factOf 92 = [(.ireturn, 1)] := rfl
theorem bX11_factOf_93 : zBf BX11_factOf 93 = [(.aload_n 0, 1), (.invokevirtual 272, 3), (.ifCond .eq 13, 3), (.aload_n 0, 1), (.getfield 13, 3), (.bipush 12, 2), (.iaload, 1), (.goto 4, 3)] := rfl
theorem bX11_factOf_110 : zBf BX11_factOf 110 = [(.iconst 0, 1)] := rfl
theorem bX11_factOf_111 : zBf BX11_factOf 111 = [(.ireturn, 1)] := rfl
theorem bX11_factOf_112 : zBf BX11_factOf 112 = [(.aload_n 0, 1), (.getfield 13, 3), (.bipush 9, 2), (.iaload, 1), (.bipush 60, 2), (.idiv, 1), (.bipush 24, 2), (.irem, 1), (.ireturn, 1)] := rfl
theorem bX11_factOf_126 : zBf BX11_factOf 126 = [(.aload_n 0, 1), (.getfield 13, 3), (.bipush 9, 2), (.iaload, 1), (.sipush 1440, 3), (.idiv, 1), (.ireturn, 1)] := rfl
theorem hX11_factOf : zMv yX11_factOf cX11_factOf 2 (some .int) := ⟨zG_mem (n := 1934) (by decide +kernel), zG_mem (n := 127) (by decide +kernel), zG_mem (n := 1933) (by decide +kernel), zG_mem (n := 103) (by decide +kernel)⟩
def BX11_holds : List (Nat × List (Instr × Nat)) := [(0, [(.iconst 0, 1), (.istore 4, 2), (.iload_n 2, 1), (.istore 5, 2)]), (6, [(.iload 5, 2), (.iload_n 3, 1), (.if_icmp .ge 218, 3), (.aload_n 0, 1), (.getfield 13, 3), (.iload_n 1, 1), (.iload 5, 2), (.invokestatic 113, 3), (.iaload, 1), (.istore 6, 2), (.aload_n 0, 1), (.getfield 13, 3), (.iload_n 1, 1), (.iload 5, 2), (.invokestatic 113, 3), (.iconst 1, 1), (.iadd, 1), (.iaload, 1), (.istore 7, 2), (.iload 6, 2), (.bipush 16, 2), (.if_icmp .ge 55, 3), (.aload_n 0, 1), (.iload 6, 2), (.iconst 2, 1), (.idiv, 1), (.invokevirtual 374, 3), (.istore 8, 2), (.aload_n 0, 1), (.getfield 37, 3), (.iload 4, 2), (.iload 6, 2), (.iconst 2, 1), (.irem, 1), (.ifCond .ne 13, 3), (.iload 8, 2), (.iload 7, 2), (.if_icmp .ge 17, 3), (.goto 10, 3)]), (80, [(.iload 8, 2), (.iload 7, 2), (.if_icmp .le 7, 3)]), (87, [(.iconst 1, 1), (.goto 4, 3)]), (91, [(.iconst 0, 1)]), (92, [(.iastore, 1), (.iinc 4 1, 3), (.goto 125, 3)]), (99, [(.iload 6, 2), (.bipush 16, 2), (.if_icmp .ne 28, 3), (.aload_n 0, 1), (.getfield 37, 3), (.iload 4, 2), (.aload_n 0, 1), (.invokevirtual 365, 3), (.ifCond .lt 7, 3), (.iconst 1, 1), (.goto 4, 3)]), (123, [(.iconst 0, 1)]), (124, [(.iastore, 1), (.iinc 4 1, 3), (.goto 93, 3)]), (131, [(.iload 6, 2), (.bipush 17, 2), (.if_icmp .ne 26, 3), (.aload_n 0, 1), (.getfield 37, 3), (.iload 4, 2), (.iconst 1, 1), (.isub, 1), (.iconst 1, 1), (.aload_n 0, 1), (.getfield 37, 3), (.iload 4, 2), (.iconst 1, 1), (.isub, 1), (.iaload, 1), (.isub, 1), (.iastore, 1), (.goto 63, 3)]), (161, [(.iinc 4 (-1), 3), (.aload_n 0, 1), (.getfield 37, 3), (.iload 4, 2), (.iconst 1, 1), (.isub, 1), (.iload 6, 2), (.bipush 18, 2), (.if_icmp .ne 25, 3), (.aload_n 0, 1), (.getfield 37, 3), (.iload 4, 2), (.iconst 1, 1), (.isub, 1), (.iaload, 1), (.aload_n 0, 1), (.getfield 37, 3), (.iload 4, 2), (.iaload, 1), (.invokestatic 251, 3), (.goto 22, 3)]), (201, [(.aload_n 0, 1), (.getfield 37, 3), (.iload 4, 2), (.iconst 1, 1), (.isub, 1), (.iaload, 1), (.aload_n 0, 1), (.getfield 37, 3), (.iload 4, 2), (.iaload, 1), (.invokestatic 256, 3)]), (220, [(.iastore, 1)]), (221, [(.iinc 5 1, 3), (.goto (-218), 3)]), (227, [(.aload_n 0, 1), (.getfield 37, 3), (.iconst 0, 1), (.iaload, 1), (.iconst 1, 1), (.if_icmp .ne 7, 3), (.iconst 1, 1), (.goto 4, 3)]), (241, [(.iconst 0, 1)]), (242, [(.ireturn, 1)])]
theorem oX11_holds : ∀ pc, zdec cX11_holds pc (zBf BX11_holds pc) := zBf_ok (by decide +kernel)
theorem bX11_holds_0 : zBf BX11_holds 0 = [(.iconst 0, 1), (.istore 4, 2), (.iload_n 2, 1), (.istore 5, 2)] := rfl
theorem bX11_holds_6 : zBf BX11_holds 6 = [(.iload 5, 2), (.iload_n 3, 1), (.if_icmp .ge 218, 3), (.aload_n 0, 1), (.getfield 13, 3), (.iload_n 1, 1), (.iload 5, 2), (.invokestatic 113, 3), (.iaload, 1), (.istore 6, 2), (.aload_n 0, 1), (.getfield 13, 3), (.iload_n 1, 1), (.iload 5, 2), (.invokestatic 113, 3), (.iconst 1, 1), (.iadd, 1), (.iaload, 1), (.istore 7, 2), (.iload 6, 2), (.bipush 16, 2), (.if_icmp .ge 55, 3), (.aload_n 0, 1), (.iload 6, 2), (.iconst 2, 1), (.idiv, 1), (.invokevirtual 374, 3), (.istore 8, 2), (.aload_n 0, 1), (.getfield 37, 3), (.iload 4, 2), (.iload 6, 2), (.iconst 2, 1), (.irem, 1), (.ifCond .ne 13, 3), (.iload 8, 2), (.iload 7, 2), (.if_icmp .ge 17, 3), (.goto 10, 3)] := rfl
theorem bX11_holds_80 : zBf BX11_holds 80 = [(.iload 8, 2), (.iload 7, 2), (.if_icmp .le 7, 3)] := rfl
theorem bX11_holds_87 : zBf BX11_holds 87 = [(.iconst 1, 1), (.goto 4, 3)] := rfl
theorem bX11_holds_91 : zBf BX11_holds 91 = [(.iconst 0, 1)] := rfl
theorem bX11_holds_92 : zBf BX11_holds 92 = [(.iastore, 1), (.iinc 4 1, 3), (.goto 125, 3)] := rfl
theorem bX11_holds_99 : zBf BX11_holds 99 = [(.iload 6, 2), (.bipush 16, 2), (.if_icmp .ne 28, 3), (.aload_n 0, 1), (.getfield 37, 3), (.iload 4, 2), (.aload_n 0, 1), (.invokevirtual 365, 3), (.ifCond .lt 7, 3), (.iconst 1, 1), (.goto 4, 3)] := rfl
theorem bX11_holds_123 : zBf BX11_holds 123 = [(.iconst 0, 1)] := rfl
theorem bX11_holds_124 : zBf BX11_holds 124 = [(.iastore, 1), (.iinc 4 1, 3), (.goto 93, 3)] := rfl
theorem bX11_holds_131 : zBf BX11_holds 131 = [(.iload 6, 2), (.bipush 17, 2), (.if_icmp .ne 26, 3), (.aload_n 0, 1), (.getfield 37, 3), (.iload 4, 2), (.iconst 1, 1), (.isub, 1), (.iconst 1, 1), (.aload_n 0, 1), (.getfield 37, 3), (.iload 4, 2), (.iconst 1, 1), (.isub, 1), (.iaload, 1), (.isub, 1), (.iastore, 1), (.goto 63, 3)] := rfl
theorem bX11_holds_161 : zBf BX11_holds 161 = [(.iinc 4 (-1), 3), (.aload_n 0, 1), (.getfield 37, 3), (.iload 4, 2), (.iconst 1, 1), (.isub, 1), (.iload 6, 2), (.bipush 18, 2), (.if_icmp .ne 25, 3), (.aload_n 0, 1), (.getfield 37, 3), (.iload 4, 2), (.iconst 1, 1), (.isub, 1), (.iaload, 1), (.aload_n 0, 1), (.getfield 37, 3), (.iload 4, 2), (.iaload, 1), (.invokestatic 251, 3), (.goto 22, 3)] := rfl
theorem bX11_holds_201 : zBf BX11_holds 201 = [(.aload_n 0, 1), (.getfield 37, 3), (.iload 4, 2), (.iconst 1, 1), (.isub, 1), (.iaload, 1), (.aload_n 0, 1), (.getfield 37, 3), (.iload 4, 2), (.iaload, 1), (.invokestatic 256, 3)] := rfl
theorem bX11_holds_220 : zBf BX11_holds 220 = [(.iastore, 1)] := rfl
theorem bX11_holds_221 : zBf BX11_holds 221 = [(.iinc 5 1, 3), (.goto (-218), 3)] := rfl
theorem bX11_holds_227 : zBf BX11_holds 227 = [(.aload_n 0, 1), (.getfield 37, 3), (.iconst 0, 1), (.iaload, 1), (.iconst 1, 1), (.if_icmp .ne 7, 3), (.iconst 1, 1), (.goto 4, 3)] := rfl
theorem bX11_holds_241 : zBf BX11_holds 241 = [(.iconst 0, 1)] := rfl
theorem bX11_holds_242 : zBf BX11_holds 242 = [(.ireturn, 1)] := rfl
theorem hX11_holds : zMv yX11_holds cX11_holds 9 (some .boolean) := ⟨zG_mem (n := 1930) (by decide +kernel), zG_mem (n := 127) (by decide +kernel), zG_mem (n := 1929) (by decide +kernel), zG_mem (n := 102) (by decide +kernel)⟩
def BX11_acts : List (Nat × List (Instr × Nat)) := [(0, [(.iload_n 1, 1), (.tableswitch 141 0 5 #[39, 55, 73, 73, 109, 125], 39)]), (40, [(.aload_n 0, 1), (.invokevirtual 317, 3), (.ifCond .ne 5, 3), (.iconst 0, 1), (.ireturn, 1)]), (49, [(.aload_n 0, 1), (.invokevirtual 320, 3), (.pop, 1), (.iconst 1, 1), (.ireturn, 1)]), (56, [(.aload_n 0, 1), (.iload_n 2, 1), (.invokevirtual 332, 3), (.ifCond .ne 5, 3), (.iconst 0, 1), (.ireturn, 1)]), (66, [(.aload_n 0, 1), (.iload_n 2, 1), (.invokevirtual 335, 3), (.pop, 1), (.iconst 1, 1), (.ireturn, 1)]), (74, [(.aload_n 0, 1), (.iload_n 1, 1), (.iconst 3, 1), (.if_icmp .ne 7, 3), (.iconst 1, 1), (.goto 4, 3)]), (84, [(.iconst 0, 1)]), (85, [(.invokevirtual 350, 3), (.ifCond .ne 5, 3), (.iconst 0, 1), (.ireturn, 1)]), (93, [(.aload_n 0, 1), (.iload_n 1, 1), (.iconst 3, 1), (.if_icmp .ne 7, 3), (.iconst 1, 1), (.goto 4, 3)]), (103, [(.iconst 0, 1)]), (104, [(.invokevirtual 353, 3), (.pop, 1), (.iconst 1, 1), (.ireturn, 1)]), (110, [(.aload_n 0, 1), (.invokevirtual 359, 3), (.ifCond .ne 5, 3), (.iconst 0, 1), (.ireturn, 1)]), (119, [(.aload_n 0, 1), (.invokevirtual 362, 3), (.pop, 1), (.iconst 1, 1), (.ireturn, 1)]), (126, [(.aload_n 0, 1), (.invokevirtual 368, 3), (.ifCond .ne 5, 3), (.iconst 0, 1), (.ireturn, 1)]), (135, [(.aload_n 0, 1), (.invokevirtual 371, 3), (.pop, 1), (.iconst 1, 1), (.ireturn, 1)]), (142, [(.aload_n 0, 1), (.iload_n 2, 1), (.invokevirtual 329, 3), (.iconst 1, 1), (.ireturn, 1)])]
theorem oX11_acts : ∀ pc, zdec cX11_acts pc (zBf BX11_acts pc) := zBf_ok (by decide +kernel)
theorem bX11_acts_0 : zBf BX11_acts 0 = [(.iload_n 1, 1), (.tableswitch 141 0 5 #[39, 55, 73, 73, 109, 125], 39)] := rfl
theorem bX11_acts_40 : zBf BX11_acts 40 = [(.aload_n 0, 1), (.invokevirtual 317, 3), (.ifCond .ne 5, 3), (.iconst 0, 1), (.ireturn, 1)] := rfl
theorem bX11_acts_49 : zBf BX11_acts 49 = [(.aload_n 0, 1), (.invokevirtual 320, 3), (.pop, 1), (.iconst 1, 1), (.ireturn, 1)] := rfl
theorem bX11_acts_56 : zBf BX11_acts 56 = [(.aload_n 0, 1), (.iload_n 2, 1), (.invokevirtual 332, 3), (.ifCond .ne 5, 3), (.iconst 0, 1), (.ireturn, 1)] := rfl
theorem bX11_acts_66 : zBf BX11_acts 66 = [(.aload_n 0, 1), (.iload_n 2, 1), (.invokevirtual 335, 3), (.pop, 1), (.iconst 1, 1), (.ireturn, 1)] := rfl
theorem bX11_acts_74 : zBf BX11_acts 74 = [(.aload_n 0, 1), (.iload_n 1, 1), (.iconst 3, 1), (.if_icmp .ne 7, 3), (.iconst 1, 1), (.goto 4, 3)] := rfl
theorem bX11_acts_84 : zBf BX11_acts 84 = [(.iconst 0, 1)] := rfl
theorem bX11_acts_85 : zBf BX11_acts 85 = [(.invokevirtual 350, 3), (.ifCond .ne 5, 3), (.iconst 0, 1), (.ireturn, 1)] := rfl
theorem bX11_acts_93 : zBf BX11_acts 93 = [(.aload_n 0, 1), (.iload_n 1, 1), (.iconst 3, 1), (.if_icmp .ne 7, 3), (.iconst 1, 1), (.goto 4, 3)] := rfl
theorem bX11_acts_103 : zBf BX11_acts 103 = [(.iconst 0, 1)] := rfl
theorem bX11_acts_104 : zBf BX11_acts 104 = [(.invokevirtual 353, 3), (.pop, 1), (.iconst 1, 1), (.ireturn, 1)] := rfl
theorem bX11_acts_110 : zBf BX11_acts 110 = [(.aload_n 0, 1), (.invokevirtual 359, 3), (.ifCond .ne 5, 3), (.iconst 0, 1), (.ireturn, 1)] := rfl
theorem bX11_acts_119 : zBf BX11_acts 119 = [(.aload_n 0, 1), (.invokevirtual 362, 3), (.pop, 1), (.iconst 1, 1), (.ireturn, 1)] := rfl
theorem bX11_acts_126 : zBf BX11_acts 126 = [(.aload_n 0, 1), (.invokevirtual 368, 3), (.ifCond .ne 5, 3), (.iconst 0, 1), (.ireturn, 1)] := rfl
theorem bX11_acts_135 : zBf BX11_acts 135 = [(.aload_n 0, 1), (.invokevirtual 371, 3), (.pop, 1), (.iconst 1, 1), (.ireturn, 1)] := rfl
theorem bX11_acts_142 : zBf BX11_acts 142 = [(.aload_n 0, 1), (.iload_n 2, 1), (.invokevirtual 329, 3), (.iconst 1, 1), (.ireturn, 1)] := rfl
theorem hX11_acts : zMv yX11_acts cX11_acts 3 (some .boolean) := ⟨zG_mem (n := 1926) (by decide +kernel), zG_mem (n := 127) (by decide +kernel), zG_mem (n := 1925) (by decide +kernel), zG_mem (n := 101) (by decide +kernel)⟩
def BX11_run : List (Nat × List (Instr × Nat)) := [(0, [(.aload_n 0, 1), (.iconst 0, 1), (.putfield 3, 3), (.aload_n 0, 1), (.iload_n 1, 1), (.iconst 0, 1), (.aload_n 0, 1), (.getfield 13, 3), (.bipush 17, 2), (.iaload, 1), (.iconst 1, 1), (.isub, 1), (.invokestatic 232, 3), (.ifCond .ne 7, 3), (.iconst 1, 1), (.goto 4, 3)]), (27, [(.iconst 0, 1)]), (28, [(.iconst 1, 1), (.invokevirtual 228, 3), (.ifCond .ne 27, 3), (.aload_n 0, 1), (.iload_n 2, 1), (.iconst 1, 1), (.sipush 200, 3), (.invokestatic 232, 3), (.ifCond .ne 7, 3), (.iconst 1, 1), (.goto 4, 3)]), (51, [(.iconst 0, 1)]), (52, [(.iconst 2, 1), (.invokevirtual 228, 3), (.ifCond .eq 5, 3)]), (59, [(.iconst 0, 1), (.ireturn, 1)]), (61, [(.aload_n 0, 1), (.getfield 13, 3), (.bipush 14, 2), (.iconst (-1), 1), (.iastore, 1), (.iconst 0, 1), (.istore_n 3, 1), (.iconst 0, 1), (.istore 4, 2), (.iconst 0, 1), (.istore 5, 2), (.aload_n 0, 1), (.getfield 13, 3), (.iload_n 1, 1), (.invokestatic 99, 3), (.iaload, 1), (.istore 6, 2)]), (88, [(.iload 5, 2), (.iload 6, 2), (.if_icmp .ge 300, 3), (.iload_n 3, 1), (.iload_n 2, 1), (.if_icmp .ge 295, 3), (.iload_n 1, 1), (.iload 5, 2), (.invokestatic 106, 3), (.istore 7, 2), (.aload_n 0, 1), (.getfield 13, 3), (.iload 7, 2), (.iaload, 1), (.istore 8, 2), (.aload_n 0, 1), (.getfield 13, 3), (.iload 7, 2), (.iconst 1, 1), (.iadd, 1), (.iaload, 1), (.istore 9, 2), (.iinc 5 1, 3), (.iload 8, 2), (.bipush 6, 2), (.if_icmp .gt 38, 3), (.aload_n 0, 1), (.iload 8, 2), (.iload 9, 2), (.invokevirtual 377, 3), (.ifCond .ne 21, 3), (.aload_n 0, 1), (.getfield 13, 3), (.bipush 14, 2), (.aload_n 0, 1), (.getfield 13, 3), (.iload 7, 2), (.iconst 2, 1), (.iadd, 1), (.iaload, 1), (.iastore, 1), (.iload_n 3, 1), (.ireturn, 1)]), (167, [(.iinc 3 1, 3), (.goto 219, 3)]), (173, [(.iload 8, 2), (.bipush 8, 2), (.if_icmp .eq 10, 3), (.iload 8, 2), (.bipush 7, 2), (.if_icmp .ne 26, 3)]), (187, [(.aload_n 0, 1), (.getfield 40, 3), (.iload 4, 2), (.iload 9, 2), (.iastore, 1), (.aload_n 0, 1), (.getfield 43, 3), (.iload 4, 2), (.iload_n 3, 1), (.iastore, 1), (.iinc 4 1, 3), (.goto 182, 3)]), (210, [(.iload 8, 2), (.bipush 9, 2), (.if_icmp .eq 10, 3), (.iload 8, 2), (.bipush 10, 2), (.if_icmp .ne 57, 3)]), (224, [(.aload_n 0, 1), (.iload_n 1, 1), (.iload 9, 2), (.sipush 200, 3), (.idiv, 1), (.iload 9, 2), (.sipush 200, 3), (.irem, 1), (.invokevirtual 380, 3), (.ifCond .eq 6, 3), (.goto (-156), 3)]), (247, [(.aload_n 0, 1), (.getfield 13, 3), (.iload 7, 2), (.iconst 2, 1), (.iadd, 1), (.iaload, 1), (.istore 5, 2), (.iload 4, 2), (.iload 8, 2), (.bipush 10, 2), (.if_icmp .ne 7, 3), (.iconst 1, 1), (.goto 4, 3)]), (271, [(.iconst 0, 1)]), (272, [(.isub, 1), (.istore 4, 2), (.goto 114, 3)]), (278, [(.aload_n 0, 1), (.getfield 13, 3), (.iload_n 1, 1), (.iload 9, 2), (.invokestatic 106, 3), (.iaload, 1), (.bipush 10, 2), (.if_icmp .ne 7, 3), (.iconst 1, 1), (.goto 4, 3)]), (298, [(.iconst 0, 1)]), (299, [(.istore 10, 2), (.aload_n 0, 1), (.getfield 43, 3), (.iload 4, 2), (.iconst 1, 1), (.isub, 1), (.iaload, 1), (.iload_n 3, 1), (.if_icmp .eq 21, 3), (.iload 10, 2), (.ifCond .ne 20, 3), (.aload_n 0, 1), (.getfield 40, 3), (.iload 4, 2), (.iconst 1, 1), (.isub, 1), (.iaload, 1), (.iconst 1, 1), (.if_icmp .ne 7, 3)]), (332, [(.iconst 1, 1), (.goto 4, 3)]), (336, [(.iconst 0, 1)]), (337, [(.istore 11, 2), (.aload_n 0, 1), (.getfield 40, 3), (.iload 4, 2), (.iconst 1, 1), (.isub, 1), (.dup2, 1), (.iaload, 1), (.iconst 1, 1), (.isub, 1), (.iastore, 1), (.aload_n 0, 1), (.getfield 43, 3), (.iload 4, 2), (.iconst 1, 1), (.isub, 1), (.iload_n 3, 1), (.iastore, 1), (.iload 11, 2), (.ifCond .eq 9, 3), (.iinc 4 (-1), 3), (.goto 19, 3)]), (373, [(.iload 10, 2), (.ifCond .eq 8, 3), (.iload 9, 2), (.goto 7, 3)]), (383, [(.iload 9, 2), (.iconst 1, 1), (.iadd, 1)]), (387, [(.istore 5, 2)]), (389, [(.goto (-301), 3)]), (392, [(.iload_n 3, 1), (.ireturn, 1)])]
theorem oX11_run : ∀ pc, zdec cX11_run pc (zBf BX11_run pc) := zBf_ok (by decide +kernel)
theorem bX11_run_0 : zBf BX11_run 0 = [(.aload_n 0, 1), (.iconst 0, 1), (.putfield 3, 3), (.aload_n 0, 1), (.iload_n 1, 1), (.iconst 0, 1), (.aload_n 0, 1), (.getfield 13, 3), (.bipush 17, 2), (.iaload, 1), (.iconst 1, 1), (.isub, 1), (.invokestatic 232, 3), (.ifCond .ne 7, 3), (.iconst 1, 1), (.goto 4, 3)] := rfl
theorem bX11_run_27 : zBf BX11_run 27 = [(.iconst 0, 1)] := rfl
theorem bX11_run_28 : zBf BX11_run 28 = [(.iconst 1, 1), (.invokevirtual 228, 3), (.ifCond .ne 27, 3), (.aload_n 0, 1), (.iload_n 2, 1), (.iconst 1, 1), (.sipush 200, 3), (.invokestatic 232, 3), (.ifCond .ne 7, 3), (.iconst 1, 1), (.goto 4, 3)] := rfl
theorem bX11_run_51 : zBf BX11_run 51 = [(.iconst 0, 1)] := rfl
theorem bX11_run_52 : zBf BX11_run 52 = [(.iconst 2, 1), (.invokevirtual 228, 3), (.ifCond .eq 5, 3)] := rfl
theorem bX11_run_59 : zBf BX11_run 59 = [(.iconst 0, 1), (.ireturn, 1)] := rfl
theorem bX11_run_61 : zBf BX11_run 61 = [(.aload_n 0, 1), (.getfield 13, 3), (.bipush 14, 2), (.iconst (-1), 1), (.iastore, 1), (.iconst 0, 1), (.istore_n 3, 1), (.iconst 0, 1), (.istore 4, 2), (.iconst 0, 1), (.istore 5, 2), (.aload_n 0, 1), (.getfield 13, 3), (.iload_n 1, 1), (.invokestatic 99, 3), (.iaload, 1), (.istore 6, 2)] := rfl
theorem bX11_run_88 : zBf BX11_run 88 = [(.iload 5, 2), (.iload 6, 2), (.if_icmp .ge 300, 3), (.iload_n 3, 1), (.iload_n 2, 1), (.if_icmp .ge 295, 3), (.iload_n 1, 1), (.iload 5, 2), (.invokestatic 106, 3), (.istore 7, 2), (.aload_n 0, 1), (.getfield 13, 3), (.iload 7, 2), (.iaload, 1), (.istore 8, 2), (.aload_n 0, 1), (.getfield 13, 3), (.iload 7, 2), (.iconst 1, 1), (.iadd, 1), (.iaload, 1), (.istore 9, 2), (.iinc 5 1, 3), (.iload 8, 2), (.bipush 6, 2), (.if_icmp .gt 38, 3), (.aload_n 0, 1), (.iload 8, 2), (.iload 9, 2), (.invokevirtual 377, 3), (.ifCond .ne 21, 3), (.aload_n 0, 1), (.getfield 13, 3), (.bipush 14, 2), (.aload_n 0, 1), (.getfield 13, 3), (.iload 7, 2), (.iconst 2, 1), (.iadd, 1), (.iaload, 1), (.iastore, 1), (.iload_n 3, 1), (.ireturn, 1)] := rfl
theorem bX11_run_167 : zBf BX11_run 167 = [(.iinc 3 1, 3), (.goto 219, 3)] := rfl
theorem bX11_run_173 : zBf BX11_run 173 = [(.iload 8, 2), (.bipush 8, 2), (.if_icmp .eq 10, 3), (.iload 8, 2), (.bipush 7, 2), (.if_icmp .ne 26, 3)] := rfl
theorem bX11_run_187 : zBf BX11_run 187 = [(.aload_n 0, 1), (.getfield 40, 3), (.iload 4, 2), (.iload 9, 2), (.iastore, 1), (.aload_n 0, 1), (.getfield 43, 3), (.iload 4, 2), (.iload_n 3, 1), (.iastore, 1), (.iinc 4 1, 3), (.goto 182, 3)] := rfl
theorem bX11_run_210 : zBf BX11_run 210 = [(.iload 8, 2), (.bipush 9, 2), (.if_icmp .eq 10, 3), (.iload 8, 2), (.bipush 10, 2), (.if_icmp .ne 57, 3)] := rfl
theorem bX11_run_224 : zBf BX11_run 224 = [(.aload_n 0, 1), (.iload_n 1, 1), (.iload 9, 2), (.sipush 200, 3), (.idiv, 1), (.iload 9, 2), (.sipush 200, 3), (.irem, 1), (.invokevirtual 380, 3), (.ifCond .eq 6, 3), (.goto (-156), 3)] := rfl
theorem bX11_run_247 : zBf BX11_run 247 = [(.aload_n 0, 1), (.getfield 13, 3), (.iload 7, 2), (.iconst 2, 1), (.iadd, 1), (.iaload, 1), (.istore 5, 2), (.iload 4, 2), (.iload 8, 2), (.bipush 10, 2), (.if_icmp .ne 7, 3), (.iconst 1, 1), (.goto 4, 3)] := rfl
theorem bX11_run_271 : zBf BX11_run 271 = [(.iconst 0, 1)] := rfl
theorem bX11_run_272 : zBf BX11_run 272 = [(.isub, 1), (.istore 4, 2), (.goto 114, 3)] := rfl
theorem bX11_run_278 : zBf BX11_run 278 = [(.aload_n 0, 1), (.getfield 13, 3), (.iload_n 1, 1), (.iload 9, 2), (.invokestatic 106, 3), (.iaload, 1), (.bipush 10, 2), (.if_icmp .ne 7, 3), (.iconst 1, 1), (.goto 4, 3)] := rfl
theorem bX11_run_298 : zBf BX11_run 298 = [(.iconst 0, 1)] := rfl
theorem bX11_run_299 : zBf BX11_run 299 = [(.istore 10, 2), (.aload_n 0, 1), (.getfield 43, 3), (.iload 4, 2), (.iconst 1, 1), (.isub, 1), (.iaload, 1), (.iload_n 3, 1), (.if_icmp .eq 21, 3), (.iload 10, 2), (.ifCond .ne 20, 3), (.aload_n 0, 1), (.getfield 40, 3), (.iload 4, 2), (.iconst 1, 1), (.isub, 1), (.iaload, 1), (.iconst 1, 1), (.if_icmp .ne 7, 3)] := rfl
theorem bX11_run_332 : zBf BX11_run 332 = [(.iconst 1, 1), (.goto 4, 3)] := rfl
theorem bX11_run_336 : zBf BX11_run 336 = [(.iconst 0, 1)] := rfl
theorem bX11_run_337 : zBf BX11_run 337 = [(.istore 11, 2), (.aload_n 0, 1), (.getfield 40, 3), (.iload 4, 2), (.iconst 1, 1), (.isub, 1), (.dup2, 1), (.iaload, 1), (.iconst 1, 1), (.isub, 1), (.iastore, 1), (.aload_n 0, 1), (.getfield 43, 3), (.iload 4, 2), (.iconst 1, 1), (.isub, 1), (.iload_n 3, 1), (.iastore, 1), (.iload 11, 2), (.ifCond .eq 9, 3), (.iinc 4 (-1), 3), (.goto 19, 3)] := rfl
theorem bX11_run_373 : zBf BX11_run 373 = [(.iload 10, 2), (.ifCond .eq 8, 3), (.iload 9, 2), (.goto 7, 3)] := rfl
theorem bX11_run_383 : zBf BX11_run 383 = [(.iload 9, 2), (.iconst 1, 1), (.iadd, 1)] := rfl
theorem bX11_run_387 : zBf BX11_run 387 = [(.istore 5, 2)] := rfl
theorem bX11_run_389 : zBf BX11_run 389 = [(.goto (-301), 3)] := rfl
theorem bX11_run_392 : zBf BX11_run 392 = [(.iload_n 3, 1), (.ireturn, 1)] := rfl
theorem hX11_run : zMv yX11_run cX11_run 12 (some .int) := ⟨zG_mem (n := 1922) (by decide +kernel), zG_mem (n := 127) (by decide +kernel), zG_mem (n := 1920) (by decide +kernel), zG_mem (n := 1921) (by decide +kernel)⟩
def BX11_where : List (Nat × List (Instr × Nat)) := [(0, [(.aload_n 0, 1), (.iconst 0, 1), (.putfield 3, 3), (.aload_n 0, 1), (.getfield 13, 3), (.bipush 14, 2), (.iaload, 1), (.ireturn, 1)])]
theorem oX11_where : ∀ pc, zdec cX11_where pc (zBf BX11_where pc) := zBf_ok (by decide +kernel)
theorem bX11_where_0 : zBf BX11_where 0 = [(.aload_n 0, 1), (.iconst 0, 1), (.putfield 3, 3), (.aload_n 0, 1), (.getfield 13, 3), (.bipush 14, 2), (.iaload, 1), (.ireturn, 1)] := rfl
theorem hX11_where : zMv yX11_where cX11_where 1 (some .int) := ⟨zG_mem (n := 1938) (by decide +kernel), zG_mem (n := 127) (by decide +kernel), zG_mem (n := 1936) (by decide +kernel), zG_mem (n := 1937) (by decide +kernel)⟩
def BX11_noRail : List (Nat × List (Instr × Nat)) := [(0, [(.iload_n 1, 1), (.iconst 0, 1), (.aload_n 0, 1), (.getfield 13, 3), (.bipush 15, 2), (.iaload, 1), (.iconst 1, 1), (.isub, 1), (.invokestatic 232, 3), (.ifCond .ne 7, 3), (.iconst 1, 1), (.goto 4, 3)]), (21, [(.iconst 0, 1)]), (22, [(.ireturn, 1)])]
theorem oX11_noRail : ∀ pc, zdec cX11_noRail pc (zBf BX11_noRail pc) := zBf_ok (by decide +kernel)
theorem bX11_noRail_0 : zBf BX11_noRail 0 = [(.iload_n 1, 1), (.iconst 0, 1), (.aload_n 0, 1), (.getfield 13, 3), (.bipush 15, 2), (.iaload, 1), (.iconst 1, 1), (.isub, 1), (.invokestatic 232, 3), (.ifCond .ne 7, 3), (.iconst 1, 1), (.goto 4, 3)] := rfl
theorem bX11_noRail_21 : zBf BX11_noRail 21 = [(.iconst 0, 1)] := rfl
theorem bX11_noRail_22 : zBf BX11_noRail 22 = [(.ireturn, 1)] := rfl
theorem hX11_noRail : zMv yX11_noRail cX11_noRail 2 (some .boolean) := ⟨zG_mem (n := 1946) (by decide +kernel), zG_mem (n := 127) (by decide +kernel), zG_mem (n := 1945) (by decide +kernel), zG_mem (n := 104) (by decide +kernel)⟩
def BX11_look : List (Nat × List (Instr × Nat)) := [(0, [(.aload_n 0, 1), (.iconst 0, 1), (.putfield 3, 3), (.aload_n 0, 1), (.aload_n 0, 1), (.iload_n 1, 1), (.invokevirtual 383, 3), (.iconst 1, 1), (.invokevirtual 228, 3), (.ifCond .ne 25, 3), (.aload_n 0, 1), (.iload_n 2, 1), (.iconst 0, 1), (.iconst 4, 1), (.invokestatic 232, 3), (.ifCond .ne 7, 3), (.iconst 1, 1), (.goto 4, 3)]), (32, [(.iconst 0, 1)]), (33, [(.iconst 2, 1), (.invokevirtual 228, 3), (.ifCond .eq 5, 3)]), (40, [(.iconst 0, 1), (.ireturn, 1)]), (42, [(.iload_n 2, 1), (.iconst 2, 1), (.if_icmp .ne 10, 3), (.aload_n 0, 1), (.iload_n 1, 1), (.iconst 3, 1), (.invokevirtual 239, 3), (.ireturn, 1)]), (54, [(.iload_n 2, 1), (.iconst 3, 1), (.if_icmp .ne 10, 3), (.aload_n 0, 1), (.iload_n 1, 1), (.iconst 2, 1), (.invokevirtual 239, 3), (.ireturn, 1)]), (66, [(.iload_n 2, 1), (.iconst 2, 1), (.if_icmp .ge 10, 3), (.aload_n 0, 1), (.iload_n 1, 1), (.iload_n 2, 1), (.invokevirtual 239, 3), (.ireturn, 1)]), (78, [(.iconst 0, 1), (.istore_n 3, 1), (.iconst 0, 1), (.istore 4, 2)]), (83, [(.iload 4, 2), (.aload_n 0, 1), (.getfield 13, 3), (.bipush 19, 2), (.iaload, 1), (.if_icmp .ge 53, 3), (.iload_n 3, 1), (.aload_n 0, 1), (.getfield 13, 3), (.sipush 212, 3), (.iconst 4, 1), (.iload 4, 2), (.imul, 1), (.iadd, 1), (.iaload, 1), (.iload_n 1, 1), (.if_icmp .ne 26, 3), (.aload_n 0, 1), (.getfield 13, 3), (.sipush 212, 3), (.iconst 4, 1), (.iload 4, 2), (.imul, 1), (.iadd, 1), (.iconst 3, 1), (.iadd, 1), (.iaload, 1), (.iconst 1, 1), (.if_icmp .ne 7, 3), (.iconst 1, 1), (.goto 4, 3)]), (136, [(.iconst 0, 1)]), (137, [(.iadd, 1), (.istore_n 3, 1), (.iinc 4 1, 3), (.goto (-59), 3)]), (145, [(.iload_n 3, 1), (.ireturn, 1)])]
theorem oX11_look : ∀ pc, zdec cX11_look pc (zBf BX11_look pc) := zBf_ok (by decide +kernel)
theorem bX11_look_0 : zBf BX11_look 0 = [(.aload_n 0, 1), (.iconst 0, 1), (.putfield 3, 3), (.aload_n 0, 1), (.aload_n 0, 1), (.iload_n 1, 1), (.invokevirtual 383, 3), (.iconst 1, 1), (.invokevirtual 228, 3), (.ifCond .ne 25, 3), (.aload_n 0, 1), (.iload_n 2, 1), (.iconst 0, 1), (.iconst 4, 1), (.invokestatic 232, 3), (.ifCond .ne 7, 3), (.iconst 1, 1), (.goto 4, 3)] := rfl
theorem bX11_look_32 : zBf BX11_look 32 = [(.iconst 0, 1)] := rfl
theorem bX11_look_33 : zBf BX11_look 33 = [(.iconst 2, 1), (.invokevirtual 228, 3), (.ifCond .eq 5, 3)] := rfl
theorem bX11_look_40 : zBf BX11_look 40 = [(.iconst 0, 1), (.ireturn, 1)] := rfl
theorem bX11_look_42 : zBf BX11_look 42 = [(.iload_n 2, 1), (.iconst 2, 1), (.if_icmp .ne 10, 3), (.aload_n 0, 1), (.iload_n 1, 1), (.iconst 3, 1), (.invokevirtual 239, 3), (.ireturn, 1)] := rfl
theorem bX11_look_54 : zBf BX11_look 54 = [(.iload_n 2, 1), (.iconst 3, 1), (.if_icmp .ne 10, 3), (.aload_n 0, 1), (.iload_n 1, 1), (.iconst 2, 1), (.invokevirtual 239, 3), (.ireturn, 1)] := rfl
theorem bX11_look_66 : zBf BX11_look 66 = [(.iload_n 2, 1), (.iconst 2, 1), (.if_icmp .ge 10, 3), (.aload_n 0, 1), (.iload_n 1, 1), (.iload_n 2, 1), (.invokevirtual 239, 3), (.ireturn, 1)] := rfl
theorem bX11_look_78 : zBf BX11_look 78 = [(.iconst 0, 1), (.istore_n 3, 1), (.iconst 0, 1), (.istore 4, 2)] := rfl
theorem bX11_look_83 : zBf BX11_look 83 = [(.iload 4, 2), (.aload_n 0, 1), (.getfield 13, 3), (.bipush 19, 2), (.iaload, 1), (.if_icmp .ge 53, 3), (.iload_n 3, 1), (.aload_n 0, 1), (.getfield 13, 3), (.sipush 212, 3), (.iconst 4, 1), (.iload 4, 2), (.imul, 1), (.iadd, 1), (.iaload, 1), (.iload_n 1, 1), (.if_icmp .ne 26, 3), (.aload_n 0, 1), (.getfield 13, 3), (.sipush 212, 3), (.iconst 4, 1), (.iload 4, 2), (.imul, 1), (.iadd, 1), (.iconst 3, 1), (.iadd, 1), (.iaload, 1), (.iconst 1, 1), (.if_icmp .ne 7, 3), (.iconst 1, 1), (.goto 4, 3)] := rfl
theorem bX11_look_136 : zBf BX11_look 136 = [(.iconst 0, 1)] := rfl
theorem bX11_look_137 : zBf BX11_look 137 = [(.iadd, 1), (.istore_n 3, 1), (.iinc 4 1, 3), (.goto (-59), 3)] := rfl
theorem bX11_look_145 : zBf BX11_look 145 = [(.iload_n 3, 1), (.ireturn, 1)] := rfl
theorem hX11_look : zMv yX11_look cX11_look 5 (some .int) := ⟨zG_mem (n := 1942) (by decide +kernel), zG_mem (n := 127) (by decide +kernel), zG_mem (n := 1940) (by decide +kernel), zG_mem (n := 1941) (by decide +kernel)⟩
def BX11_line : List (Nat × List (Instr × Nat)) := [(0, [(.aload_n 0, 1), (.iconst 0, 1), (.putfield 3, 3), (.iload_n 1, 1), (.iconst 0, 1), (.aload_n 0, 1), (.invokevirtual 242, 3), (.iconst 1, 1), (.isub, 1), (.invokestatic 232, 3), (.ifCond .ne 7, 3), (.iconst (-1), 1), (.goto 20, 3)]), (23, [(.iload_n 2, 1), (.ifCond .eq 11, 3), (.aload_n 0, 1), (.iload_n 1, 1), (.invokevirtual 236, 3), (.goto 8, 3)]), (35, [(.aload_n 0, 1), (.iload_n 1, 1), (.invokevirtual 245, 3)]), (40, [(.ireturn, 1)])]
theorem oX11_line : ∀ pc, zdec cX11_line pc (zBf BX11_line pc) := zBf_ok (by decide +kernel)
theorem bX11_line_0 : zBf BX11_line 0 = [(.aload_n 0, 1), (.iconst 0, 1), (.putfield 3, 3), (.iload_n 1, 1), (.iconst 0, 1), (.aload_n 0, 1), (.invokevirtual 242, 3), (.iconst 1, 1), (.isub, 1), (.invokestatic 232, 3), (.ifCond .ne 7, 3), (.iconst (-1), 1), (.goto 20, 3)] := rfl
theorem bX11_line_23 : zBf BX11_line 23 = [(.iload_n 2, 1), (.ifCond .eq 11, 3), (.aload_n 0, 1), (.iload_n 1, 1), (.invokevirtual 236, 3), (.goto 8, 3)] := rfl
theorem bX11_line_35 : zBf BX11_line 35 = [(.aload_n 0, 1), (.iload_n 1, 1), (.invokevirtual 245, 3)] := rfl
theorem bX11_line_40 : zBf BX11_line 40 = [(.ireturn, 1)] := rfl
theorem hX11_line : zMv yX11_line cX11_line 3 (some .int) := ⟨zG_mem (n := 1950) (by decide +kernel), zG_mem (n := 127) (by decide +kernel), zG_mem (n := 1948) (by decide +kernel), zG_mem (n := 1949) (by decide +kernel)⟩
def BX11_restAt : List (Nat × List (Instr × Nat)) := [(0, [(.bipush 61, 2), (.iload_n 0, 1), (.imul, 1), (.iload_n 1, 1), (.iadd, 1), (.ireturn, 1)])]
theorem oX11_restAt : ∀ pc, zdec cX11_restAt pc (zBf BX11_restAt pc) := zBf_ok (by decide +kernel)
theorem bX11_restAt_0 : zBf BX11_restAt 0 = [(.bipush 61, 2), (.iload_n 0, 1), (.imul, 1), (.iload_n 1, 1), (.iadd, 1), (.ireturn, 1)] := rfl
theorem hX11_restAt : zMs yX11_restAt cX11_restAt 2 (some .int) := ⟨zG_mem (n := 1973) (by decide +kernel), zG_mem (n := 127) (by decide +kernel), zG_mem (n := 1972) (by decide +kernel)⟩
def BX11_isFree : List (Nat × List (Instr × Nat)) := [(0, [(.iload_n 1, 1), (.ifCond .lt 24, 3), (.aload_n 0, 1), (.iload_n 1, 1), (.invokevirtual 262, 3), (.iconst 3, 1), (.if_icmp .eq 15, 3), (.aload_n 0, 1), (.iload_n 1, 1), (.invokevirtual 259, 3), (.ifCond .ne 7, 3), (.iconst 1, 1), (.goto 4, 3)]), (25, [(.iconst 0, 1)]), (26, [(.ireturn, 1)])]
theorem oX11_isFree : ∀ pc, zdec cX11_isFree pc (zBf BX11_isFree pc) := zBf_ok (by decide +kernel)
theorem bX11_isFree_0 : zBf BX11_isFree 0 = [(.iload_n 1, 1), (.ifCond .lt 24, 3), (.aload_n 0, 1), (.iload_n 1, 1), (.invokevirtual 262, 3), (.iconst 3, 1), (.if_icmp .eq 15, 3), (.aload_n 0, 1), (.iload_n 1, 1), (.invokevirtual 259, 3), (.ifCond .ne 7, 3), (.iconst 1, 1), (.goto 4, 3)] := rfl
theorem bX11_isFree_25 : zBf BX11_isFree 25 = [(.iconst 0, 1)] := rfl
theorem bX11_isFree_26 : zBf BX11_isFree 26 = [(.ireturn, 1)] := rfl
theorem hX11_isFree : zMv yX11_isFree cX11_isFree 2 (some .boolean) := ⟨zG_mem (n := 1970) (by decide +kernel), zG_mem (n := 127) (by decide +kernel), zG_mem (n := 1969) (by decide +kernel), zG_mem (n := 108) (by decide +kernel)⟩
def BX11_stepping : List (Nat × List (Instr × Nat)) := [(0, [(.ldc2_w 386, 3), (.lstore_n 3, 1), (.iconst 0, 1), (.istore 5, 2)]), (7, [(.iload 5, 2), (.iconst 4, 1), (.if_icmp .ge 71, 3), (.iload_n 2, 1), (.ifCond .le 67, 3), (.iload_n 1, 1), (.iload 5, 2), (.invokestatic 275, 3), (.istore 6, 2), (.iload 6, 2), (.ifCond .lt 48, 3), (.aload_n 0, 1), (.getfield 50, 3), (.iload 6, 2), (.baload, 1), (.ifCond .eq 38, 3), (.lload_n 3, 1), (.ldc2_w 388, 3), (.aload_n 0, 1), (.iload 6, 2), (.invokevirtual 262, 3), (.invokestatic 326, 3), (.i2l, 1), (.lmul, 1), (.lconst 1, 1), (.ladd, 1), (.aload_n 0, 1), (.getfield 46, 3), (.iload 6, 2), (.iload_n 2, 1), (.iconst 1, 1), (.isub, 1), (.invokestatic 390, 3), (.laload, 1), (.ladd, 1), (.invokestatic 393, 3), (.lstore_n 3, 1)]), (75, [(.iinc 5 1, 3), (.goto (-71), 3)]), (81, [(.lload_n 3, 1), (.lreturn, 1)])]
theorem oX11_stepping : ∀ pc, zdec cX11_stepping pc (zBf BX11_stepping pc) := zBf_ok (by decide +kernel)
theorem bX11_stepping_0 : zBf BX11_stepping 0 = [(.ldc2_w 386, 3), (.lstore_n 3, 1), (.iconst 0, 1), (.istore 5, 2)] := rfl
theorem bX11_stepping_7 : zBf BX11_stepping 7 = [(.iload 5, 2), (.iconst 4, 1), (.if_icmp .ge 71, 3), (.iload_n 2, 1), (.ifCond .le 67, 3), (.iload_n 1, 1), (.iload 5, 2), (.invokestatic 275, 3), (.istore 6, 2), (.iload 6, 2), (.ifCond .lt 48, 3), (.aload_n 0, 1), (.getfield 50, 3), (.iload 6, 2), (.baload, 1), (.ifCond .eq 38, 3), (.lload_n 3, 1), (.ldc2_w 388, 3), (.aload_n 0, 1), (.iload 6, 2), (.invokevirtual 262, 3), (.invokestatic 326, 3), (.i2l, 1), (.lmul, 1), (.lconst 1, 1), (.ladd, 1), (.aload_n 0, 1), (.getfield 46, 3), (.iload 6, 2), (.iload_n 2, 1), (.iconst 1, 1), (.isub, 1), (.invokestatic 390, 3), (.laload, 1), (.ladd, 1), (.invokestatic 393, 3), (.lstore_n 3, 1)] := rfl
theorem bX11_stepping_75 : zBf BX11_stepping 75 = [(.iinc 5 1, 3), (.goto (-71), 3)] := rfl
theorem bX11_stepping_81 : zBf BX11_stepping 81 = [(.lload_n 3, 1), (.lreturn, 1)] := rfl
theorem hX11_stepping : zMv yX11_stepping cX11_stepping 7 (some .long) := ⟨zG_mem (n := 1978) (by decide +kernel), zG_mem (n := 127) (by decide +kernel), zG_mem (n := 1977) (by decide +kernel), zG_mem (n := 109) (by decide +kernel)⟩
def BX11_finds : List (Nat × List (Instr × Nat)) := [(0, [(.aload_n 0, 1), (.getfield 13, 3), (.iconst 3, 1), (.iaload, 1), (.istore_n 2, 1), (.iconst 0, 1), (.istore_n 3, 1)]), (9, [(.iload_n 3, 1), (.bipush 100, 2), (.if_icmp .ge 69, 3), (.aload_n 0, 1), (.getfield 50, 3), (.iload_n 3, 1), (.aload_n 0, 1), (.iload_n 3, 1), (.invokevirtual 396, 3), (.bastore, 1), (.aload_n 0, 1), (.getfield 53, 3), (.iload_n 3, 1), (.aload_n 0, 1), (.iload_n 3, 1), (.invokevirtual 356, 3), (.bastore, 1), (.iconst 0, 1), (.istore 4, 2)]), (40, [(.iload 4, 2), (.iload_n 2, 1), (.if_icmp .gt 32, 3), (.aload_n 0, 1), (.getfield 46, 3), (.iload_n 3, 1), (.iload 4, 2), (.invokestatic 390, 3), (.iload_n 3, 1), (.iload_n 1, 1), (.if_icmp .ne 7, 3), (.lconst 0, 1), (.goto 6, 3)]), (65, [(.ldc2_w 386, 3)]), (68, [(.lastore, 1), (.iinc 4 1, 3), (.goto (-32), 3)]), (75, [(.iinc 3 1, 3), (.goto (-69), 3)]), (81, [(.iconst 1, 1), (.istore_n 3, 1)]), (83, [(.iload_n 3, 1), (.ifCond .eq 133, 3), (.iconst 0, 1), (.istore_n 3, 1), (.iconst 0, 1), (.istore 4, 2)]), (92, [(.iload 4, 2), (.iload_n 2, 1), (.if_icmp .gt 119, 3), (.iconst 0, 1), (.istore 5, 2)]), (101, [(.iload 5, 2), (.bipush 100, 2), (.if_icmp .ge 103, 3), (.iload 5, 2), (.iload_n 1, 1), (.if_icmp .ne 6, 3), (.goto 88, 3)]), (117, [(.aload_n 0, 1), (.iload 5, 2), (.iload 4, 2), (.invokevirtual 399, 3), (.lstore 6, 2), (.aload_n 0, 1), (.getfield 53, 3), (.iload 5, 2), (.baload, 1), (.ifCond .eq 31, 3), (.iload 4, 2), (.iload_n 2, 1), (.if_icmp .ge 25, 3), (.lload 6, 2), (.ldc2_w 403, 3), (.aload_n 0, 1), (.getfield 46, 3), (.iload 5, 2), (.iload_n 2, 1), (.invokestatic 390, 3), (.laload, 1), (.ladd, 1), (.invokestatic 393, 3), (.lstore 6, 2)]), (165, [(.lload 6, 2), (.aload_n 0, 1), (.getfield 46, 3), (.iload 5, 2), (.iload 4, 2), (.invokestatic 390, 3), (.laload, 1), (.lcmp, 1), (.ifCond .lt 6, 3), (.goto 19, 3)]), (186, [(.aload_n 0, 1), (.getfield 46, 3), (.iload 5, 2), (.iload 4, 2), (.invokestatic 390, 3), (.lload 6, 2), (.lastore, 1), (.iconst 1, 1), (.istore_n 3, 1)]), (202, [(.iinc 5 1, 3), (.goto (-104), 3)]), (208, [(.iinc 4 1, 3), (.goto (-119), 3)]), (214, [(.goto (-131), 3)]), (217, [(.return_, 1)])]
theorem oX11_finds : ∀ pc, zdec cX11_finds pc (zBf BX11_finds pc) := zBf_ok (by decide +kernel)
theorem bX11_finds_0 : zBf BX11_finds 0 = [(.aload_n 0, 1), (.getfield 13, 3), (.iconst 3, 1), (.iaload, 1), (.istore_n 2, 1), (.iconst 0, 1), (.istore_n 3, 1)] := rfl
theorem bX11_finds_9 : zBf BX11_finds 9 = [(.iload_n 3, 1), (.bipush 100, 2), (.if_icmp .ge 69, 3), (.aload_n 0, 1), (.getfield 50, 3), (.iload_n 3, 1), (.aload_n 0, 1), (.iload_n 3, 1), (.invokevirtual 396, 3), (.bastore, 1), (.aload_n 0, 1), (.getfield 53, 3), (.iload_n 3, 1), (.aload_n 0, 1), (.iload_n 3, 1), (.invokevirtual 356, 3), (.bastore, 1), (.iconst 0, 1), (.istore 4, 2)] := rfl
theorem bX11_finds_40 : zBf BX11_finds 40 = [(.iload 4, 2), (.iload_n 2, 1), (.if_icmp .gt 32, 3), (.aload_n 0, 1), (.getfield 46, 3), (.iload_n 3, 1), (.iload 4, 2), (.invokestatic 390, 3), (.iload_n 3, 1), (.iload_n 1, 1), (.if_icmp .ne 7, 3), (.lconst 0, 1), (.goto 6, 3)] := rfl
theorem bX11_finds_65 : zBf BX11_finds 65 = [(.ldc2_w 386, 3)] := rfl
theorem bX11_finds_68 : zBf BX11_finds 68 = [(.lastore, 1), (.iinc 4 1, 3), (.goto (-32), 3)] := rfl
theorem bX11_finds_75 : zBf BX11_finds 75 = [(.iinc 3 1, 3), (.goto (-69), 3)] := rfl
theorem bX11_finds_81 : zBf BX11_finds 81 = [(.iconst 1, 1), (.istore_n 3, 1)] := rfl
theorem bX11_finds_83 : zBf BX11_finds 83 = [(.iload_n 3, 1), (.ifCond .eq 133, 3), (.iconst 0, 1), (.istore_n 3, 1), (.iconst 0, 1), (.istore 4, 2)] := rfl
theorem bX11_finds_92 : zBf BX11_finds 92 = [(.iload 4, 2), (.iload_n 2, 1), (.if_icmp .gt 119, 3), (.iconst 0, 1), (.istore 5, 2)] := rfl
theorem bX11_finds_101 : zBf BX11_finds 101 = [(.iload 5, 2), (.bipush 100, 2), (.if_icmp .ge 103, 3), (.iload 5, 2), (.iload_n 1, 1), (.if_icmp .ne 6, 3), (.goto 88, 3)] := rfl
theorem bX11_finds_117 : zBf BX11_finds 117 = [(.aload_n 0, 1), (.iload 5, 2), (.iload 4, 2), (.invokevirtual 399, 3), (.lstore 6, 2), (.aload_n 0, 1), (.getfield 53, 3), (.iload 5, 2), (.baload, 1), (.ifCond .eq 31, 3), (.iload 4, 2), (.iload_n 2, 1), (.if_icmp .ge 25, 3), (.lload 6, 2), (.ldc2_w 403, 3), (.aload_n 0, 1), (.getfield 46, 3), (.iload 5, 2), (.iload_n 2, 1), (.invokestatic 390, 3), (.laload, 1), (.ladd, 1), (.invokestatic 393, 3), (.lstore 6, 2)] := rfl
theorem bX11_finds_165 : zBf BX11_finds 165 = [(.lload 6, 2), (.aload_n 0, 1), (.getfield 46, 3), (.iload 5, 2), (.iload 4, 2), (.invokestatic 390, 3), (.laload, 1), (.lcmp, 1), (.ifCond .lt 6, 3), (.goto 19, 3)] := rfl
theorem bX11_finds_186 : zBf BX11_finds 186 = [(.aload_n 0, 1), (.getfield 46, 3), (.iload 5, 2), (.iload 4, 2), (.invokestatic 390, 3), (.lload 6, 2), (.lastore, 1), (.iconst 1, 1), (.istore_n 3, 1)] := rfl
theorem bX11_finds_202 : zBf BX11_finds 202 = [(.iinc 5 1, 3), (.goto (-104), 3)] := rfl
theorem bX11_finds_208 : zBf BX11_finds 208 = [(.iinc 4 1, 3), (.goto (-119), 3)] := rfl
theorem bX11_finds_214 : zBf BX11_finds 214 = [(.goto (-131), 3)] := rfl
theorem bX11_finds_217 : zBf BX11_finds 217 = [(.return_, 1)] := rfl
theorem hX11_finds : zMv yX11_finds cX11_finds 8 none := ⟨zG_mem (n := 1966) (by decide +kernel), zG_mem (n := 127) (by decide +kernel), zG_mem (n := 1965) (by decide +kernel), zG_mem (n := 107) (by decide +kernel)⟩
def BX11_stepOf : List (Nat × List (Instr × Nat)) := [(0, [(.iconst (-1), 1), (.istore_n 3, 1), (.iconst 0, 1), (.istore 4, 2)]), (5, [(.iload 4, 2), (.iconst 4, 1), (.if_icmp .ge 100, 3), (.iload_n 2, 1), (.ifCond .le 96, 3), (.iload_n 1, 1), (.iload 4, 2), (.invokestatic 275, 3), (.istore 5, 2), (.iload 5, 2), (.ifCond .lt 77, 3), (.aload_n 0, 1), (.getfield 50, 3), (.iload 5, 2), (.baload, 1), (.ifCond .eq 67, 3), (.ldc2_w 388, 3), (.aload_n 0, 1), (.iload 5, 2), (.invokevirtual 262, 3), (.invokestatic 326, 3), (.i2l, 1), (.lmul, 1), (.lconst 1, 1), (.ladd, 1), (.aload_n 0, 1), (.getfield 46, 3), (.iload 5, 2), (.iload_n 2, 1), (.iconst 1, 1), (.isub, 1), (.invokestatic 390, 3), (.laload, 1), (.ladd, 1), (.aload_n 0, 1), (.getfield 46, 3), (.iload_n 1, 1), (.iload_n 2, 1), (.invokestatic 390, 3), (.laload, 1), (.lcmp, 1), (.ifCond .eq 6, 3), (.goto 20, 3)]), (85, [(.iload_n 3, 1), (.ifCond .lt 9, 3), (.iload 5, 2), (.iload_n 3, 1), (.if_icmp .ge 8, 3)]), (95, [(.iload 5, 2), (.goto 4, 3)]), (100, [(.iload_n 3, 1)]), (101, [(.istore_n 3, 1)]), (102, [(.iinc 4 1, 3), (.goto (-100), 3)]), (108, [(.iload_n 3, 1), (.ireturn, 1)])]
theorem oX11_stepOf : ∀ pc, zdec cX11_stepOf pc (zBf BX11_stepOf pc) := zBf_ok (by decide +kernel)
theorem bX11_stepOf_0 : zBf BX11_stepOf 0 = [(.iconst (-1), 1), (.istore_n 3, 1), (.iconst 0, 1), (.istore 4, 2)] := rfl
theorem bX11_stepOf_5 : zBf BX11_stepOf 5 = [(.iload 4, 2), (.iconst 4, 1), (.if_icmp .ge 100, 3), (.iload_n 2, 1), (.ifCond .le 96, 3), (.iload_n 1, 1), (.iload 4, 2), (.invokestatic 275, 3), (.istore 5, 2), (.iload 5, 2), (.ifCond .lt 77, 3), (.aload_n 0, 1), (.getfield 50, 3), (.iload 5, 2), (.baload, 1), (.ifCond .eq 67, 3), (.ldc2_w 388, 3), (.aload_n 0, 1), (.iload 5, 2), (.invokevirtual 262, 3), (.invokestatic 326, 3), (.i2l, 1), (.lmul, 1), (.lconst 1, 1), (.ladd, 1), (.aload_n 0, 1), (.getfield 46, 3), (.iload 5, 2), (.iload_n 2, 1), (.iconst 1, 1), (.isub, 1), (.invokestatic 390, 3), (.laload, 1), (.ladd, 1), (.aload_n 0, 1), (.getfield 46, 3), (.iload_n 1, 1), (.iload_n 2, 1), (.invokestatic 390, 3), (.laload, 1), (.lcmp, 1), (.ifCond .eq 6, 3), (.goto 20, 3)] := rfl
theorem bX11_stepOf_85 : zBf BX11_stepOf 85 = [(.iload_n 3, 1), (.ifCond .lt 9, 3), (.iload 5, 2), (.iload_n 3, 1), (.if_icmp .ge 8, 3)] := rfl
theorem bX11_stepOf_95 : zBf BX11_stepOf 95 = [(.iload 5, 2), (.goto 4, 3)] := rfl
theorem bX11_stepOf_100 : zBf BX11_stepOf 100 = [(.iload_n 3, 1)] := rfl
theorem bX11_stepOf_101 : zBf BX11_stepOf 101 = [(.istore_n 3, 1)] := rfl
theorem bX11_stepOf_102 : zBf BX11_stepOf 102 = [(.iinc 4 1, 3), (.goto (-100), 3)] := rfl
theorem bX11_stepOf_108 : zBf BX11_stepOf 108 = [(.iload_n 3, 1), (.ireturn, 1)] := rfl
theorem hX11_stepOf : zMv yX11_stepOf cX11_stepOf 6 (some .int) := ⟨zG_mem (n := 1989) (by decide +kernel), zG_mem (n := 127) (by decide +kernel), zG_mem (n := 1988) (by decide +kernel), zG_mem (n := 111) (by decide +kernel)⟩
def BX11_isNoEnd : List (Nat × List (Instr × Nat)) := [(0, [(.aload_n 0, 1), (.iload_n 1, 1), (.invokevirtual 262, 3), (.iconst 3, 1), (.if_icmp .eq 11, 3), (.aload_n 0, 1), (.iload_n 1, 1), (.invokevirtual 259, 3), (.ifCond .eq 7, 3)]), (17, [(.iconst 1, 1), (.goto 4, 3)]), (21, [(.iconst 0, 1)]), (22, [(.ireturn, 1)])]
theorem oX11_isNoEnd : ∀ pc, zdec cX11_isNoEnd pc (zBf BX11_isNoEnd pc) := zBf_ok (by decide +kernel)
theorem bX11_isNoEnd_0 : zBf BX11_isNoEnd 0 = [(.aload_n 0, 1), (.iload_n 1, 1), (.invokevirtual 262, 3), (.iconst 3, 1), (.if_icmp .eq 11, 3), (.aload_n 0, 1), (.iload_n 1, 1), (.invokevirtual 259, 3), (.ifCond .eq 7, 3)] := rfl
theorem bX11_isNoEnd_17 : zBf BX11_isNoEnd 17 = [(.iconst 1, 1), (.goto 4, 3)] := rfl
theorem bX11_isNoEnd_21 : zBf BX11_isNoEnd 21 = [(.iconst 0, 1)] := rfl
theorem bX11_isNoEnd_22 : zBf BX11_isNoEnd 22 = [(.ireturn, 1)] := rfl
theorem hX11_isNoEnd : zMv yX11_isNoEnd cX11_isNoEnd 2 (some .boolean) := ⟨zG_mem (n := 1958) (by decide +kernel), zG_mem (n := 127) (by decide +kernel), zG_mem (n := 1957) (by decide +kernel), zG_mem (n := 105) (by decide +kernel)⟩
def BX11_path : List (Nat × List (Instr × Nat)) := [(0, [(.aload_n 0, 1), (.aload_n 0, 1), (.invokevirtual 242, 3), (.iconst 1, 1), (.isub, 1), (.invokevirtual 245, 3), (.istore 4, 2), (.aload_n 0, 1), (.getfield 13, 3), (.iconst 2, 1), (.iaload, 1), (.istore 5, 2), (.iconst 0, 1), (.istore 6, 2), (.iconst (-1), 1), (.istore 7, 2), (.aload_n 0, 1), (.iconst 0, 1), (.putfield 405, 3), (.aload_n 0, 1), (.iconst 0, 1), (.putfield 408, 3)]), (36, [(.iload 4, 2), (.iload_n 1, 1), (.if_icmp .eq 105, 3), (.aload_n 0, 1), (.iload 4, 2), (.iload 5, 2), (.invokevirtual 411, 3), (.istore 8, 2), (.iload 8, 2), (.ifCond .ge 24, 3), (.iinc 6 15, 3), (.aload_n 0, 1), (.getfield 13, 3), (.iconst 3, 1), (.iaload, 1), (.istore 5, 2), (.aload_n 0, 1), (.iload 4, 2), (.iload 5, 2), (.invokevirtual 411, 3), (.istore 8, 2)]), (78, [(.iload 6, 2), (.aload_n 0, 1), (.iload 8, 2), (.invokevirtual 262, 3), (.invokestatic 326, 3), (.iadd, 1), (.istore 6, 2), (.iinc 5 (-1), 3), (.iload 8, 2), (.istore 4, 2), (.aload_n 0, 1), (.getfield 405, 3), (.iload_n 2, 1), (.if_icmp .ne 7, 3), (.iload 4, 2), (.istore 7, 2)]), (111, [(.aload_n 0, 1), (.dup, 1), (.getfield 405, 3), (.iconst 1, 1), (.iadd, 1), (.putfield 405, 3), (.aload_n 0, 1), (.dup, 1), (.getfield 408, 3), (.iload 6, 2), (.iload_n 3, 1), (.if_icmp .gt 7, 3), (.iconst 1, 1), (.goto 4, 3)]), (136, [(.iconst 0, 1)]), (137, [(.iadd, 1), (.putfield 408, 3), (.goto (-105), 3)]), (144, [(.iload 7, 2), (.ireturn, 1)])]
theorem oX11_path : ∀ pc, zdec cX11_path pc (zBf BX11_path pc) := zBf_ok (by decide +kernel)
theorem bX11_path_0 : zBf BX11_path 0 = [(.aload_n 0, 1), (.aload_n 0, 1), (.invokevirtual 242, 3), (.iconst 1, 1), (.isub, 1), (.invokevirtual 245, 3), (.istore 4, 2), (.aload_n 0, 1), (.getfield 13, 3), (.iconst 2, 1), (.iaload, 1), (.istore 5, 2), (.iconst 0, 1), (.istore 6, 2), (.iconst (-1), 1), (.istore 7, 2), (.aload_n 0, 1), (.iconst 0, 1), (.putfield 405, 3), (.aload_n 0, 1), (.iconst 0, 1), (.putfield 408, 3)] := rfl
theorem bX11_path_36 : zBf BX11_path 36 = [(.iload 4, 2), (.iload_n 1, 1), (.if_icmp .eq 105, 3), (.aload_n 0, 1), (.iload 4, 2), (.iload 5, 2), (.invokevirtual 411, 3), (.istore 8, 2), (.iload 8, 2), (.ifCond .ge 24, 3), (.iinc 6 15, 3), (.aload_n 0, 1), (.getfield 13, 3), (.iconst 3, 1), (.iaload, 1), (.istore 5, 2), (.aload_n 0, 1), (.iload 4, 2), (.iload 5, 2), (.invokevirtual 411, 3), (.istore 8, 2)] := rfl
theorem bX11_path_78 : zBf BX11_path 78 = [(.iload 6, 2), (.aload_n 0, 1), (.iload 8, 2), (.invokevirtual 262, 3), (.invokestatic 326, 3), (.iadd, 1), (.istore 6, 2), (.iinc 5 (-1), 3), (.iload 8, 2), (.istore 4, 2), (.aload_n 0, 1), (.getfield 405, 3), (.iload_n 2, 1), (.if_icmp .ne 7, 3), (.iload 4, 2), (.istore 7, 2)] := rfl
theorem bX11_path_111 : zBf BX11_path 111 = [(.aload_n 0, 1), (.dup, 1), (.getfield 405, 3), (.iconst 1, 1), (.iadd, 1), (.putfield 405, 3), (.aload_n 0, 1), (.dup, 1), (.getfield 408, 3), (.iload 6, 2), (.iload_n 3, 1), (.if_icmp .gt 7, 3), (.iconst 1, 1), (.goto 4, 3)] := rfl
theorem bX11_path_136 : zBf BX11_path 136 = [(.iconst 0, 1)] := rfl
theorem bX11_path_137 : zBf BX11_path 137 = [(.iadd, 1), (.putfield 408, 3), (.goto (-105), 3)] := rfl
theorem bX11_path_144 : zBf BX11_path 144 = [(.iload 7, 2), (.ireturn, 1)] := rfl
theorem hX11_path : zMv yX11_path cX11_path 9 (some .int) := ⟨zG_mem (n := 1985) (by decide +kernel), zG_mem (n := 127) (by decide +kernel), zG_mem (n := 1984) (by decide +kernel), zG_mem (n := 110) (by decide +kernel)⟩
def BX11_hasWay : List (Nat × List (Instr × Nat)) := [(0, [(.aload_n 0, 1), (.iload_n 1, 1), (.invokevirtual 414, 3), (.aload_n 0, 1), (.getfield 46, 3), (.aload_n 0, 1), (.aload_n 0, 1), (.invokevirtual 242, 3), (.iconst 1, 1), (.isub, 1), (.invokevirtual 245, 3), (.aload_n 0, 1), (.getfield 13, 3), (.iconst 2, 1), (.iaload, 1), (.invokestatic 390, 3), (.laload, 1), (.ldc2_w 386, 3), (.lcmp, 1), (.ifCond .ge 7, 3), (.iconst 1, 1), (.goto 4, 3)]), (40, [(.iconst 0, 1)]), (41, [(.ireturn, 1)])]
theorem oX11_hasWay : ∀ pc, zdec cX11_hasWay pc (zBf BX11_hasWay pc) := zBf_ok (by decide +kernel)
theorem bX11_hasWay_0 : zBf BX11_hasWay 0 = [(.aload_n 0, 1), (.iload_n 1, 1), (.invokevirtual 414, 3), (.aload_n 0, 1), (.getfield 46, 3), (.aload_n 0, 1), (.aload_n 0, 1), (.invokevirtual 242, 3), (.iconst 1, 1), (.isub, 1), (.invokevirtual 245, 3), (.aload_n 0, 1), (.getfield 13, 3), (.iconst 2, 1), (.iaload, 1), (.invokestatic 390, 3), (.laload, 1), (.ldc2_w 386, 3), (.lcmp, 1), (.ifCond .ge 7, 3), (.iconst 1, 1), (.goto 4, 3)] := rfl
theorem bX11_hasWay_40 : zBf BX11_hasWay 40 = [(.iconst 0, 1)] := rfl
theorem bX11_hasWay_41 : zBf BX11_hasWay 41 = [(.ireturn, 1)] := rfl
theorem hX11_hasWay : zMv yX11_hasWay cX11_hasWay 2 (some .boolean) := ⟨zG_mem (n := 1962) (by decide +kernel), zG_mem (n := 127) (by decide +kernel), zG_mem (n := 1961) (by decide +kernel), zG_mem (n := 106) (by decide +kernel)⟩
def BX11_route : List (Nat × List (Instr × Nat)) := [(0, [(.aload_n 0, 1), (.iconst 0, 1), (.putfield 3, 3), (.aload_n 0, 1), (.iload_n 1, 1), (.invokestatic 248, 3), (.iconst 1, 1), (.invokevirtual 228, 3), (.ifCond .ne 50, 3), (.aload_n 0, 1), (.aload_n 0, 1), (.iload_n 1, 1), (.invokevirtual 417, 3), (.ifCond .ne 9, 3), (.iload_n 2, 1), (.bipush (-2), 2), (.if_icmp .ge 7, 3)]), (32, [(.iconst 1, 1), (.goto 4, 3)]), (36, [(.iconst 0, 1)]), (37, [(.iconst 2, 1), (.invokevirtual 228, 3), (.ifCond .ne 23, 3), (.aload_n 0, 1), (.aload_n 0, 1), (.invokevirtual 272, 3), (.ifCond .ne 7, 3), (.iconst 1, 1), (.goto 4, 3)]), (56, [(.iconst 0, 1)]), (57, [(.iconst 3, 1), (.invokevirtual 228, 3), (.ifCond .eq 5, 3)]), (64, [(.iconst 0, 1), (.ireturn, 1)]), (66, [(.aload_n 0, 1), (.iload_n 1, 1), (.invokevirtual 420, 3), (.ifCond .ne 5, 3), (.iconst (-1), 1), (.ireturn, 1)]), (76, [(.iload_n 2, 1), (.iconst (-1), 1), (.if_icmp .ne 33, 3), (.aload_n 0, 1), (.getfield 46, 3), (.aload_n 0, 1), (.aload_n 0, 1), (.invokevirtual 242, 3), (.iconst 1, 1), (.isub, 1), (.invokevirtual 245, 3), (.aload_n 0, 1), (.getfield 13, 3), (.iconst 2, 1), (.iaload, 1), (.invokestatic 390, 3), (.laload, 1), (.ldc2_w 388, 3), (.ldiv, 1), (.l2i, 1), (.ireturn, 1)]), (111, [(.aload_n 0, 1), (.iload_n 1, 1), (.iload_n 2, 1), (.iconst 0, 1), (.invokevirtual 423, 3), (.istore_n 3, 1), (.iload_n 2, 1), (.ifCond .ge 10, 3), (.aload_n 0, 1), (.getfield 405, 3), (.goto 4, 3)]), (130, [(.iload_n 3, 1)]), (131, [(.ireturn, 1)])]
theorem oX11_route : ∀ pc, zdec cX11_route pc (zBf BX11_route pc) := zBf_ok (by decide +kernel)
theorem bX11_route_0 : zBf BX11_route 0 = [(.aload_n 0, 1), (.iconst 0, 1), (.putfield 3, 3), (.aload_n 0, 1), (.iload_n 1, 1), (.invokestatic 248, 3), (.iconst 1, 1), (.invokevirtual 228, 3), (.ifCond .ne 50, 3), (.aload_n 0, 1), (.aload_n 0, 1), (.iload_n 1, 1), (.invokevirtual 417, 3), (.ifCond .ne 9, 3), (.iload_n 2, 1), (.bipush (-2), 2), (.if_icmp .ge 7, 3)] := rfl
theorem bX11_route_32 : zBf BX11_route 32 = [(.iconst 1, 1), (.goto 4, 3)] := rfl
theorem bX11_route_36 : zBf BX11_route 36 = [(.iconst 0, 1)] := rfl
theorem bX11_route_37 : zBf BX11_route 37 = [(.iconst 2, 1), (.invokevirtual 228, 3), (.ifCond .ne 23, 3), (.aload_n 0, 1), (.aload_n 0, 1), (.invokevirtual 272, 3), (.ifCond .ne 7, 3), (.iconst 1, 1), (.goto 4, 3)] := rfl
theorem bX11_route_56 : zBf BX11_route 56 = [(.iconst 0, 1)] := rfl
theorem bX11_route_57 : zBf BX11_route 57 = [(.iconst 3, 1), (.invokevirtual 228, 3), (.ifCond .eq 5, 3)] := rfl
theorem bX11_route_64 : zBf BX11_route 64 = [(.iconst 0, 1), (.ireturn, 1)] := rfl
theorem bX11_route_66 : zBf BX11_route 66 = [(.aload_n 0, 1), (.iload_n 1, 1), (.invokevirtual 420, 3), (.ifCond .ne 5, 3), (.iconst (-1), 1), (.ireturn, 1)] := rfl
theorem bX11_route_76 : zBf BX11_route 76 = [(.iload_n 2, 1), (.iconst (-1), 1), (.if_icmp .ne 33, 3), (.aload_n 0, 1), (.getfield 46, 3), (.aload_n 0, 1), (.aload_n 0, 1), (.invokevirtual 242, 3), (.iconst 1, 1), (.isub, 1), (.invokevirtual 245, 3), (.aload_n 0, 1), (.getfield 13, 3), (.iconst 2, 1), (.iaload, 1), (.invokestatic 390, 3), (.laload, 1), (.ldc2_w 388, 3), (.ldiv, 1), (.l2i, 1), (.ireturn, 1)] := rfl
theorem bX11_route_111 : zBf BX11_route 111 = [(.aload_n 0, 1), (.iload_n 1, 1), (.iload_n 2, 1), (.iconst 0, 1), (.invokevirtual 423, 3), (.istore_n 3, 1), (.iload_n 2, 1), (.ifCond .ge 10, 3), (.aload_n 0, 1), (.getfield 405, 3), (.goto 4, 3)] := rfl
theorem bX11_route_130 : zBf BX11_route 130 = [(.iload_n 3, 1)] := rfl
theorem bX11_route_131 : zBf BX11_route 131 = [(.ireturn, 1)] := rfl
theorem hX11_route : zMv yX11_route cX11_route 4 (some .int) := ⟨zG_mem (n := 1954) (by decide +kernel), zG_mem (n := 127) (by decide +kernel), zG_mem (n := 1952) (by decide +kernel), zG_mem (n := 1953) (by decide +kernel)⟩
def BX11_reach : List (Nat × List (Instr × Nat)) := [(0, [(.aload_n 0, 1), (.iconst 0, 1), (.putfield 3, 3), (.aload_n 0, 1), (.iload_n 1, 1), (.invokestatic 248, 3), (.iconst 1, 1), (.invokevirtual 228, 3), (.ifCond .ne 48, 3), (.aload_n 0, 1), (.aload_n 0, 1), (.iload_n 1, 1), (.invokevirtual 417, 3), (.ifCond .ne 7, 3), (.iload_n 2, 1), (.ifCond .ge 7, 3)]), (30, [(.iconst 1, 1), (.goto 4, 3)]), (34, [(.iconst 0, 1)]), (35, [(.iconst 2, 1), (.invokevirtual 228, 3), (.ifCond .ne 23, 3), (.aload_n 0, 1), (.aload_n 0, 1), (.invokevirtual 272, 3), (.ifCond .ne 7, 3), (.iconst 1, 1), (.goto 4, 3)]), (54, [(.iconst 0, 1)]), (55, [(.iconst 3, 1), (.invokevirtual 228, 3), (.ifCond .eq 5, 3)]), (62, [(.iconst 0, 1), (.ireturn, 1)]), (64, [(.aload_n 0, 1), (.iload_n 1, 1), (.invokevirtual 420, 3), (.ifCond .ne 5, 3), (.iconst (-1), 1), (.ireturn, 1)]), (74, [(.aload_n 0, 1), (.iload_n 1, 1), (.iconst (-1), 1), (.iload_n 2, 1), (.invokevirtual 423, 3), (.pop, 1), (.aload_n 0, 1), (.getfield 408, 3), (.ireturn, 1)])]
theorem oX11_reach : ∀ pc, zdec cX11_reach pc (zBf BX11_reach pc) := zBf_ok (by decide +kernel)
theorem bX11_reach_0 : zBf BX11_reach 0 = [(.aload_n 0, 1), (.iconst 0, 1), (.putfield 3, 3), (.aload_n 0, 1), (.iload_n 1, 1), (.invokestatic 248, 3), (.iconst 1, 1), (.invokevirtual 228, 3), (.ifCond .ne 48, 3), (.aload_n 0, 1), (.aload_n 0, 1), (.iload_n 1, 1), (.invokevirtual 417, 3), (.ifCond .ne 7, 3), (.iload_n 2, 1), (.ifCond .ge 7, 3)] := rfl
theorem bX11_reach_30 : zBf BX11_reach 30 = [(.iconst 1, 1), (.goto 4, 3)] := rfl
theorem bX11_reach_34 : zBf BX11_reach 34 = [(.iconst 0, 1)] := rfl
theorem bX11_reach_35 : zBf BX11_reach 35 = [(.iconst 2, 1), (.invokevirtual 228, 3), (.ifCond .ne 23, 3), (.aload_n 0, 1), (.aload_n 0, 1), (.invokevirtual 272, 3), (.ifCond .ne 7, 3), (.iconst 1, 1), (.goto 4, 3)] := rfl
theorem bX11_reach_54 : zBf BX11_reach 54 = [(.iconst 0, 1)] := rfl
theorem bX11_reach_55 : zBf BX11_reach 55 = [(.iconst 3, 1), (.invokevirtual 228, 3), (.ifCond .eq 5, 3)] := rfl
theorem bX11_reach_62 : zBf BX11_reach 62 = [(.iconst 0, 1), (.ireturn, 1)] := rfl
theorem bX11_reach_64 : zBf BX11_reach 64 = [(.aload_n 0, 1), (.iload_n 1, 1), (.invokevirtual 420, 3), (.ifCond .ne 5, 3), (.iconst (-1), 1), (.ireturn, 1)] := rfl
theorem bX11_reach_74 : zBf BX11_reach 74 = [(.aload_n 0, 1), (.iload_n 1, 1), (.iconst (-1), 1), (.iload_n 2, 1), (.invokevirtual 423, 3), (.pop, 1), (.aload_n 0, 1), (.getfield 408, 3), (.ireturn, 1)] := rfl
theorem hX11_reach : zMv yX11_reach cX11_reach 3 (some .int) := ⟨zG_mem (n := 1993) (by decide +kernel), zG_mem (n := 127) (by decide +kernel), zG_mem (n := 1991) (by decide +kernel), zG_mem (n := 1992) (by decide +kernel)⟩
def BX11_joints : List (Nat × List (Instr × Nat)) := [(0, [(.aload_n 0, 1), (.iconst 0, 1), (.putfield 3, 3), (.iconst 0, 1), (.istore_n 2, 1), (.iconst 0, 1), (.istore_n 3, 1)]), (9, [(.iload_n 3, 1), (.iconst 1, 1), (.iadd, 1), (.aload_n 0, 1), (.invokevirtual 242, 3), (.if_icmp .ge 50, 3), (.aload_n 0, 1), (.iload_n 3, 1), (.invokevirtual 344, 3), (.aload_n 0, 1), (.iload_n 3, 1), (.iconst 1, 1), (.iadd, 1), (.invokevirtual 344, 3), (.invokestatic 347, 3), (.istore 4, 2), (.iload_n 1, 1), (.ifCond .eq 16, 3), (.iload 4, 2), (.aload_n 0, 1), (.getfield 13, 3), (.iconst 5, 1), (.iaload, 1), (.if_icmp .le 5, 3), (.iload_n 3, 1), (.ireturn, 1)]), (53, [(.iload_n 2, 1), (.iload 4, 2), (.invokestatic 256, 3), (.istore_n 2, 1), (.iinc 3 1, 3), (.goto (-54), 3)]), (66, [(.iload_n 1, 1), (.ifCond .eq 7, 3), (.iconst (-1), 1), (.goto 4, 3)]), (74, [(.iload_n 2, 1)]), (75, [(.ireturn, 1)])]
theorem oX11_joints : ∀ pc, zdec cX11_joints pc (zBf BX11_joints pc) := zBf_ok (by decide +kernel)
theorem bX11_joints_0 : zBf BX11_joints 0 = [(.aload_n 0, 1), (.iconst 0, 1), (.putfield 3, 3), (.iconst 0, 1), (.istore_n 2, 1), (.iconst 0, 1), (.istore_n 3, 1)] := rfl
theorem bX11_joints_9 : zBf BX11_joints 9 = [(.iload_n 3, 1), (.iconst 1, 1), (.iadd, 1), (.aload_n 0, 1), (.invokevirtual 242, 3), (.if_icmp .ge 50, 3), (.aload_n 0, 1), (.iload_n 3, 1), (.invokevirtual 344, 3), (.aload_n 0, 1), (.iload_n 3, 1), (.iconst 1, 1), (.iadd, 1), (.invokevirtual 344, 3), (.invokestatic 347, 3), (.istore 4, 2), (.iload_n 1, 1), (.ifCond .eq 16, 3), (.iload 4, 2), (.aload_n 0, 1), (.getfield 13, 3), (.iconst 5, 1), (.iaload, 1), (.if_icmp .le 5, 3), (.iload_n 3, 1), (.ireturn, 1)] := rfl
theorem bX11_joints_53 : zBf BX11_joints 53 = [(.iload_n 2, 1), (.iload 4, 2), (.invokestatic 256, 3), (.istore_n 2, 1), (.iinc 3 1, 3), (.goto (-54), 3)] := rfl
theorem bX11_joints_66 : zBf BX11_joints 66 = [(.iload_n 1, 1), (.ifCond .eq 7, 3), (.iconst (-1), 1), (.goto 4, 3)] := rfl
theorem bX11_joints_74 : zBf BX11_joints 74 = [(.iload_n 2, 1)] := rfl
theorem bX11_joints_75 : zBf BX11_joints 75 = [(.ireturn, 1)] := rfl
theorem hX11_joints : zMv yX11_joints cX11_joints 5 (some .int) := ⟨zG_mem (n := 1997) (by decide +kernel), zG_mem (n := 127) (by decide +kernel), zG_mem (n := 1995) (by decide +kernel), zG_mem (n := 1996) (by decide +kernel)⟩
def BX11_isThere : List (Nat × List (Instr × Nat)) := [(0, [(.aload_n 0, 1), (.iload_n 1, 1), (.iconst 2, 1), (.invokevirtual 239, 3), (.iconst 1, 1), (.if_icmp .gt 7, 3), (.iconst 1, 1), (.goto 4, 3)]), (14, [(.iconst 0, 1)]), (15, [(.ireturn, 1)])]
theorem oX11_isThere : ∀ pc, zdec cX11_isThere pc (zBf BX11_isThere pc) := zBf_ok (by decide +kernel)
theorem bX11_isThere_0 : zBf BX11_isThere 0 = [(.aload_n 0, 1), (.iload_n 1, 1), (.iconst 2, 1), (.invokevirtual 239, 3), (.iconst 1, 1), (.if_icmp .gt 7, 3), (.iconst 1, 1), (.goto 4, 3)] := rfl
theorem bX11_isThere_14 : zBf BX11_isThere 14 = [(.iconst 0, 1)] := rfl
theorem bX11_isThere_15 : zBf BX11_isThere 15 = [(.ireturn, 1)] := rfl
theorem hX11_isThere : zMv yX11_isThere cX11_isThere 2 (some .boolean) := ⟨zG_mem (n := 2005) (by decide +kernel), zG_mem (n := 127) (by decide +kernel), zG_mem (n := 2004) (by decide +kernel), zG_mem (n := 112) (by decide +kernel)⟩
def BX11_worn : List (Nat × List (Instr × Nat)) := [(0, [(.aload_n 0, 1), (.iconst 0, 1), (.putfield 3, 3), (.iconst (-1), 1), (.istore_n 1, 1), (.iconst 0, 1), (.istore_n 2, 1)]), (9, [(.iload_n 2, 1), (.aload_n 0, 1), (.getfield 13, 3), (.bipush 15, 2), (.iaload, 1), (.if_icmp .ge 38, 3), (.aload_n 0, 1), (.iload_n 2, 1), (.invokevirtual 426, 3), (.ifCond .eq 24, 3), (.iload_n 1, 1), (.ifCond .lt 18, 3), (.aload_n 0, 1), (.iload_n 2, 1), (.iconst 0, 1), (.invokevirtual 239, 3), (.aload_n 0, 1), (.iload_n 1, 1), (.iconst 0, 1), (.invokevirtual 239, 3), (.if_icmp .le 5, 3)]), (47, [(.iload_n 2, 1), (.istore_n 1, 1)]), (49, [(.iinc 2 1, 3), (.goto (-43), 3)]), (55, [(.iload_n 1, 1), (.ireturn, 1)])]
theorem oX11_worn : ∀ pc, zdec cX11_worn pc (zBf BX11_worn pc) := zBf_ok (by decide +kernel)
theorem bX11_worn_0 : zBf BX11_worn 0 = [(.aload_n 0, 1), (.iconst 0, 1), (.putfield 3, 3), (.iconst (-1), 1), (.istore_n 1, 1), (.iconst 0, 1), (.istore_n 2, 1)] := rfl
theorem bX11_worn_9 : zBf BX11_worn 9 = [(.iload_n 2, 1), (.aload_n 0, 1), (.getfield 13, 3), (.bipush 15, 2), (.iaload, 1), (.if_icmp .ge 38, 3), (.aload_n 0, 1), (.iload_n 2, 1), (.invokevirtual 426, 3), (.ifCond .eq 24, 3), (.iload_n 1, 1), (.ifCond .lt 18, 3), (.aload_n 0, 1), (.iload_n 2, 1), (.iconst 0, 1), (.invokevirtual 239, 3), (.aload_n 0, 1), (.iload_n 1, 1), (.iconst 0, 1), (.invokevirtual 239, 3), (.if_icmp .le 5, 3)] := rfl
theorem bX11_worn_47 : zBf BX11_worn 47 = [(.iload_n 2, 1), (.istore_n 1, 1)] := rfl
theorem bX11_worn_49 : zBf BX11_worn 49 = [(.iinc 2 1, 3), (.goto (-43), 3)] := rfl
theorem bX11_worn_55 : zBf BX11_worn 55 = [(.iload_n 1, 1), (.ireturn, 1)] := rfl
theorem hX11_worn : zMv yX11_worn cX11_worn 3 (some .int) := ⟨zG_mem (n := 2001) (by decide +kernel), zG_mem (n := 127) (by decide +kernel), zG_mem (n := 1999) (by decide +kernel), zG_mem (n := 2000) (by decide +kernel)⟩
def BX11_few : List (Nat × List (Instr × Nat)) := [(0, [(.aload_n 0, 1), (.iconst 0, 1), (.putfield 3, 3), (.iconst 0, 1), (.istore_n 1, 1), (.iconst 0, 1), (.istore_n 2, 1)]), (9, [(.iload_n 2, 1), (.aload_n 0, 1), (.getfield 13, 3), (.bipush 15, 2), (.iaload, 1), (.if_icmp .ge 25, 3), (.iload_n 1, 1), (.aload_n 0, 1), (.iload_n 2, 1), (.invokevirtual 426, 3), (.ifCond .eq 7, 3), (.iconst 1, 1), (.goto 4, 3)]), (33, [(.iconst 0, 1)]), (34, [(.iadd, 1), (.istore_n 1, 1), (.iinc 2 1, 3), (.goto (-30), 3)]), (42, [(.iload_n 1, 1), (.aload_n 0, 1), (.getfield 13, 3), (.bipush 7, 2), (.iaload, 1), (.if_icmp .le 7, 3), (.iconst 1, 1), (.goto 4, 3)]), (57, [(.iconst 0, 1)]), (58, [(.ireturn, 1)])]
theorem oX11_few : ∀ pc, zdec cX11_few pc (zBf BX11_few pc) := zBf_ok (by decide +kernel)
theorem bX11_few_0 : zBf BX11_few 0 = [(.aload_n 0, 1), (.iconst 0, 1), (.putfield 3, 3), (.iconst 0, 1), (.istore_n 1, 1), (.iconst 0, 1), (.istore_n 2, 1)] := rfl
theorem bX11_few_9 : zBf BX11_few 9 = [(.iload_n 2, 1), (.aload_n 0, 1), (.getfield 13, 3), (.bipush 15, 2), (.iaload, 1), (.if_icmp .ge 25, 3), (.iload_n 1, 1), (.aload_n 0, 1), (.iload_n 2, 1), (.invokevirtual 426, 3), (.ifCond .eq 7, 3), (.iconst 1, 1), (.goto 4, 3)] := rfl
theorem bX11_few_33 : zBf BX11_few 33 = [(.iconst 0, 1)] := rfl
theorem bX11_few_34 : zBf BX11_few 34 = [(.iadd, 1), (.istore_n 1, 1), (.iinc 2 1, 3), (.goto (-30), 3)] := rfl
theorem bX11_few_42 : zBf BX11_few 42 = [(.iload_n 1, 1), (.aload_n 0, 1), (.getfield 13, 3), (.bipush 7, 2), (.iaload, 1), (.if_icmp .le 7, 3), (.iconst 1, 1), (.goto 4, 3)] := rfl
theorem bX11_few_57 : zBf BX11_few 57 = [(.iconst 0, 1)] := rfl
theorem bX11_few_58 : zBf BX11_few 58 = [(.ireturn, 1)] := rfl
theorem hX11_few : zMv yX11_few cX11_few 3 (some .boolean) := ⟨zG_mem (n := 2009) (by decide +kernel), zG_mem (n := 127) (by decide +kernel), zG_mem (n := 2007) (by decide +kernel), zG_mem (n := 2008) (by decide +kernel)⟩
def BX11_steal : List (Nat × List (Instr × Nat)) := [(0, [(.aload_n 0, 1), (.iconst 0, 1), (.putfield 3, 3), (.aload_n 0, 1), (.iload_n 1, 1), (.ifCond .ge 7, 3), (.iconst 1, 1), (.goto 4, 3)]), (14, [(.iconst 0, 1)]), (15, [(.iconst 1, 1), (.invokevirtual 228, 3), (.ifCond .eq 5, 3), (.iconst 0, 1), (.ireturn, 1)]), (24, [(.iload_n 1, 1), (.aload_n 0, 1), (.getfield 13, 3), (.iconst 0, 1), (.iaload, 1), (.invokestatic 251, 3), (.istore_n 2, 1), (.aload_n 0, 1), (.getfield 13, 3), (.iconst 0, 1), (.dup2, 1), (.iaload, 1), (.iload_n 2, 1), (.isub, 1), (.iastore, 1), (.iload_n 2, 1), (.ireturn, 1)])]
theorem oX11_steal : ∀ pc, zdec cX11_steal pc (zBf BX11_steal pc) := zBf_ok (by decide +kernel)
theorem bX11_steal_0 : zBf BX11_steal 0 = [(.aload_n 0, 1), (.iconst 0, 1), (.putfield 3, 3), (.aload_n 0, 1), (.iload_n 1, 1), (.ifCond .ge 7, 3), (.iconst 1, 1), (.goto 4, 3)] := rfl
theorem bX11_steal_14 : zBf BX11_steal 14 = [(.iconst 0, 1)] := rfl
theorem bX11_steal_15 : zBf BX11_steal 15 = [(.iconst 1, 1), (.invokevirtual 228, 3), (.ifCond .eq 5, 3), (.iconst 0, 1), (.ireturn, 1)] := rfl
theorem bX11_steal_24 : zBf BX11_steal 24 = [(.iload_n 1, 1), (.aload_n 0, 1), (.getfield 13, 3), (.iconst 0, 1), (.iaload, 1), (.invokestatic 251, 3), (.istore_n 2, 1), (.aload_n 0, 1), (.getfield 13, 3), (.iconst 0, 1), (.dup2, 1), (.iaload, 1), (.iload_n 2, 1), (.isub, 1), (.iastore, 1), (.iload_n 2, 1), (.ireturn, 1)] := rfl
theorem hX11_steal : zMv yX11_steal cX11_steal 3 (some .int) := ⟨zG_mem (n := 2013) (by decide +kernel), zG_mem (n := 127) (by decide +kernel), zG_mem (n := 2011) (by decide +kernel), zG_mem (n := 2012) (by decide +kernel)⟩
def BX11_lose : List (Nat × List (Instr × Nat)) := [(0, [(.aload_n 0, 1), (.iconst 0, 1), (.putfield 3, 3), (.aload_n 0, 1), (.aload_n 0, 1), (.iload_n 1, 1), (.invokevirtual 383, 3), (.iconst 1, 1), (.invokevirtual 228, 3), (.ifCond .ne 26, 3), (.aload_n 0, 1), (.aload_n 0, 1), (.iload_n 1, 1), (.iconst 2, 1), (.invokevirtual 239, 3), (.iconst 1, 1), (.if_icmp .eq 7, 3), (.iconst 1, 1), (.goto 4, 3)]), (33, [(.iconst 0, 1)]), (34, [(.iconst 2, 1), (.invokevirtual 228, 3), (.ifCond .eq 4, 3)]), (41, [(.return_, 1)]), (42, [(.aload_n 0, 1), (.iload_n 1, 1), (.iconst 2, 1), (.iconst 3, 1), (.invokevirtual 265, 3), (.return_, 1)])]
theorem oX11_lose : ∀ pc, zdec cX11_lose pc (zBf BX11_lose pc) := zBf_ok (by decide +kernel)
theorem bX11_lose_0 : zBf BX11_lose 0 = [(.aload_n 0, 1), (.iconst 0, 1), (.putfield 3, 3), (.aload_n 0, 1), (.aload_n 0, 1), (.iload_n 1, 1), (.invokevirtual 383, 3), (.iconst 1, 1), (.invokevirtual 228, 3), (.ifCond .ne 26, 3), (.aload_n 0, 1), (.aload_n 0, 1), (.iload_n 1, 1), (.iconst 2, 1), (.invokevirtual 239, 3), (.iconst 1, 1), (.if_icmp .eq 7, 3), (.iconst 1, 1), (.goto 4, 3)] := rfl
theorem bX11_lose_33 : zBf BX11_lose 33 = [(.iconst 0, 1)] := rfl
theorem bX11_lose_34 : zBf BX11_lose 34 = [(.iconst 2, 1), (.invokevirtual 228, 3), (.ifCond .eq 4, 3)] := rfl
theorem bX11_lose_41 : zBf BX11_lose 41 = [(.return_, 1)] := rfl
theorem bX11_lose_42 : zBf BX11_lose 42 = [(.aload_n 0, 1), (.iload_n 1, 1), (.iconst 2, 1), (.iconst 3, 1), (.invokevirtual 265, 3), (.return_, 1)] := rfl
theorem hX11_lose : zMv yX11_lose cX11_lose 2 none := ⟨zG_mem (n := 2017) (by decide +kernel), zG_mem (n := 127) (by decide +kernel), zG_mem (n := 2015) (by decide +kernel), zG_mem (n := 2016) (by decide +kernel)⟩
def BX11_which : List (Nat × List (Instr × Nat)) := [(0, [(.aload_n 0, 1), (.iconst 0, 1), (.putfield 3, 3), (.aload_n 0, 1), (.iload_n 1, 1), (.invokestatic 248, 3), (.iconst 1, 1), (.invokevirtual 228, 3), (.ifCond .eq 5, 3), (.iconst 0, 1), (.ireturn, 1)]), (19, [(.iconst (-1), 1), (.istore_n 3, 1), (.iconst 0, 1), (.istore 4, 2)]), (24, [(.iload 4, 2), (.aload_n 0, 1), (.getfield 13, 3), (.bipush 19, 2), (.iaload, 1), (.if_icmp .ge 70, 3), (.sipush 212, 3), (.iconst 4, 1), (.iload 4, 2), (.imul, 1), (.iadd, 1), (.istore 5, 2), (.aload_n 0, 1), (.getfield 13, 3), (.iload 5, 2), (.iconst 2, 1), (.iadd, 1), (.iaload, 1), (.iload_n 1, 1), (.if_icmp .ne 41, 3), (.aload_n 0, 1), (.getfield 13, 3), (.iload 5, 2), (.iconst 1, 1), (.iadd, 1), (.iaload, 1), (.iload_n 2, 1), (.if_icmp .gt 28, 3), (.aload_n 0, 1), (.getfield 13, 3), (.iload 5, 2), (.iconst 3, 1), (.iadd, 1), (.iaload, 1), (.iconst 1, 1), (.if_icmp .ne 13, 3), (.aload_n 0, 1), (.getfield 13, 3), (.iload 5, 2), (.iaload, 1), (.goto 4, 3)]), (95, [(.iconst (-1), 1)]), (96, [(.istore_n 3, 1)]), (97, [(.iinc 4 1, 3), (.goto (-76), 3)]), (103, [(.iload_n 3, 1), (.ireturn, 1)])]
theorem oX11_which : ∀ pc, zdec cX11_which pc (zBf BX11_which pc) := zBf_ok (by decide +kernel)
theorem bX11_which_0 : zBf BX11_which 0 = [(.aload_n 0, 1), (.iconst 0, 1), (.putfield 3, 3), (.aload_n 0, 1), (.iload_n 1, 1), (.invokestatic 248, 3), (.iconst 1, 1), (.invokevirtual 228, 3), (.ifCond .eq 5, 3), (.iconst 0, 1), (.ireturn, 1)] := rfl
theorem bX11_which_19 : zBf BX11_which 19 = [(.iconst (-1), 1), (.istore_n 3, 1), (.iconst 0, 1), (.istore 4, 2)] := rfl
theorem bX11_which_24 : zBf BX11_which 24 = [(.iload 4, 2), (.aload_n 0, 1), (.getfield 13, 3), (.bipush 19, 2), (.iaload, 1), (.if_icmp .ge 70, 3), (.sipush 212, 3), (.iconst 4, 1), (.iload 4, 2), (.imul, 1), (.iadd, 1), (.istore 5, 2), (.aload_n 0, 1), (.getfield 13, 3), (.iload 5, 2), (.iconst 2, 1), (.iadd, 1), (.iaload, 1), (.iload_n 1, 1), (.if_icmp .ne 41, 3), (.aload_n 0, 1), (.getfield 13, 3), (.iload 5, 2), (.iconst 1, 1), (.iadd, 1), (.iaload, 1), (.iload_n 2, 1), (.if_icmp .gt 28, 3), (.aload_n 0, 1), (.getfield 13, 3), (.iload 5, 2), (.iconst 3, 1), (.iadd, 1), (.iaload, 1), (.iconst 1, 1), (.if_icmp .ne 13, 3), (.aload_n 0, 1), (.getfield 13, 3), (.iload 5, 2), (.iaload, 1), (.goto 4, 3)] := rfl
theorem bX11_which_95 : zBf BX11_which 95 = [(.iconst (-1), 1)] := rfl
theorem bX11_which_96 : zBf BX11_which 96 = [(.istore_n 3, 1)] := rfl
theorem bX11_which_97 : zBf BX11_which 97 = [(.iinc 4 1, 3), (.goto (-76), 3)] := rfl
theorem bX11_which_103 : zBf BX11_which 103 = [(.iload_n 3, 1), (.ireturn, 1)] := rfl
theorem hX11_which : zMv yX11_which cX11_which 6 (some .int) := ⟨zG_mem (n := 2021) (by decide +kernel), zG_mem (n := 127) (by decide +kernel), zG_mem (n := 2019) (by decide +kernel), zG_mem (n := 2020) (by decide +kernel)⟩
def BX11_buried : List (Nat × List (Instr × Nat)) := [(0, [(.iconst 0, 1), (.istore_n 1, 1), (.iconst 0, 1), (.istore_n 2, 1)]), (4, [(.iload_n 2, 1), (.aload_n 0, 1), (.invokevirtual 242, 3), (.if_icmp .ge 25, 3), (.iload_n 1, 1), (.aload_n 0, 1), (.iload_n 2, 1), (.invokevirtual 308, 3), (.ifCond .eq 7, 3), (.iconst 1, 1), (.goto 4, 3)]), (25, [(.iconst 0, 1)]), (26, [(.iadd, 1), (.istore_n 1, 1), (.iinc 2 1, 3), (.goto (-27), 3)]), (34, [(.iload_n 1, 1), (.ireturn, 1)])]
theorem oX11_buried : ∀ pc, zdec cX11_buried pc (zBf BX11_buried pc) := zBf_ok (by decide +kernel)
theorem bX11_buried_0 : zBf BX11_buried 0 = [(.iconst 0, 1), (.istore_n 1, 1), (.iconst 0, 1), (.istore_n 2, 1)] := rfl
theorem bX11_buried_4 : zBf BX11_buried 4 = [(.iload_n 2, 1), (.aload_n 0, 1), (.invokevirtual 242, 3), (.if_icmp .ge 25, 3), (.iload_n 1, 1), (.aload_n 0, 1), (.iload_n 2, 1), (.invokevirtual 308, 3), (.ifCond .eq 7, 3), (.iconst 1, 1), (.goto 4, 3)] := rfl
theorem bX11_buried_25 : zBf BX11_buried 25 = [(.iconst 0, 1)] := rfl
theorem bX11_buried_26 : zBf BX11_buried 26 = [(.iadd, 1), (.istore_n 1, 1), (.iinc 2 1, 3), (.goto (-27), 3)] := rfl
theorem bX11_buried_34 : zBf BX11_buried 34 = [(.iload_n 1, 1), (.ireturn, 1)] := rfl
theorem hX11_buried : zMv yX11_buried cX11_buried 3 (some .int) := ⟨zG_mem (n := 2033) (by decide +kernel), zG_mem (n := 127) (by decide +kernel), zG_mem (n := 2032) (by decide +kernel), zG_mem (n := 114) (by decide +kernel)⟩
def BX11_dunes : List (Nat × List (Instr × Nat)) := [(0, [(.iconst 0, 1), (.istore_n 1, 1), (.iconst 0, 1), (.istore_n 2, 1)]), (4, [(.iload_n 2, 1), (.bipush 100, 2), (.if_icmp .ge 26, 3), (.iload_n 1, 1), (.aload_n 0, 1), (.iload_n 2, 1), (.invokevirtual 262, 3), (.iconst 2, 1), (.if_icmp .ne 7, 3), (.iconst 1, 1), (.goto 4, 3)]), (24, [(.iconst 0, 1)]), (25, [(.iadd, 1), (.istore_n 1, 1), (.iinc 2 1, 3), (.goto (-26), 3)]), (33, [(.iload_n 1, 1), (.ireturn, 1)])]
theorem oX11_dunes : ∀ pc, zdec cX11_dunes pc (zBf BX11_dunes pc) := zBf_ok (by decide +kernel)
theorem bX11_dunes_0 : zBf BX11_dunes 0 = [(.iconst 0, 1), (.istore_n 1, 1), (.iconst 0, 1), (.istore_n 2, 1)] := rfl
theorem bX11_dunes_4 : zBf BX11_dunes 4 = [(.iload_n 2, 1), (.bipush 100, 2), (.if_icmp .ge 26, 3), (.iload_n 1, 1), (.aload_n 0, 1), (.iload_n 2, 1), (.invokevirtual 262, 3), (.iconst 2, 1), (.if_icmp .ne 7, 3), (.iconst 1, 1), (.goto 4, 3)] := rfl
theorem bX11_dunes_24 : zBf BX11_dunes 24 = [(.iconst 0, 1)] := rfl
theorem bX11_dunes_25 : zBf BX11_dunes 25 = [(.iadd, 1), (.istore_n 1, 1), (.iinc 2 1, 3), (.goto (-26), 3)] := rfl
theorem bX11_dunes_33 : zBf BX11_dunes 33 = [(.iload_n 1, 1), (.ireturn, 1)] := rfl
theorem hX11_dunes : zMv yX11_dunes cX11_dunes 3 (some .int) := ⟨zG_mem (n := 2029) (by decide +kernel), zG_mem (n := 127) (by decide +kernel), zG_mem (n := 2028) (by decide +kernel), zG_mem (n := 113) (by decide +kernel)⟩
def BX11_ahead : List (Nat × List (Instr × Nat)) := [(0, [(.aload_n 0, 1), (.iconst 0, 1), (.putfield 3, 3), (.aload_n 0, 1), (.iload_n 1, 1), (.iconst 0, 1), (.bipush 30, 2), (.invokestatic 232, 3), (.ifCond .ne 7, 3), (.iconst 1, 1), (.goto 4, 3)]), (20, [(.iconst 0, 1)]), (21, [(.iconst 1, 1), (.invokevirtual 228, 3), (.ifCond .eq 5, 3), (.iconst 0, 1), (.ireturn, 1)]), (30, [(.aload_n 0, 1), (.getfield 13, 3), (.bipush 8, 2), (.iaload, 1), (.istore_n 3, 1), (.iconst 0, 1), (.istore 4, 2)]), (41, [(.iload 4, 2), (.bipush 100, 2), (.if_icmp .ge 22, 3), (.aload_n 0, 1), (.getfield 56, 3), (.iload 4, 2), (.aload_n 0, 1), (.iload 4, 2), (.invokevirtual 262, 3), (.iastore, 1), (.iinc 4 1, 3), (.goto (-23), 3)]), (67, [(.iconst 0, 1), (.istore 4, 2)]), (70, [(.iload 4, 2), (.iload_n 1, 1), (.if_icmp .ge 13, 3), (.aload_n 0, 1), (.invokevirtual 301, 3), (.iinc 4 1, 3), (.goto (-13), 3)]), (86, [(.iload_n 2, 1), (.ifCond .eq 10, 3), (.aload_n 0, 1), (.invokevirtual 429, 3), (.goto 7, 3)]), (97, [(.aload_n 0, 1), (.invokevirtual 432, 3)]), (101, [(.istore 4, 2), (.iconst 0, 1), (.istore 5, 2)]), (106, [(.iload 5, 2), (.bipush 100, 2), (.if_icmp .ge 26, 3), (.aload_n 0, 1), (.getfield 13, 3), (.bipush 20, 2), (.iload 5, 2), (.iadd, 1), (.aload_n 0, 1), (.getfield 56, 3), (.iload 5, 2), (.iaload, 1), (.iastore, 1), (.iinc 5 1, 3), (.goto (-27), 3)]), (136, [(.aload_n 0, 1), (.getfield 13, 3), (.bipush 8, 2), (.iload_n 3, 1), (.iastore, 1), (.iload 4, 2), (.ireturn, 1)])]
theorem oX11_ahead : ∀ pc, zdec cX11_ahead pc (zBf BX11_ahead pc) := zBf_ok (by decide +kernel)
theorem bX11_ahead_0 : zBf BX11_ahead 0 = [(.aload_n 0, 1), (.iconst 0, 1), (.putfield 3, 3), (.aload_n 0, 1), (.iload_n 1, 1), (.iconst 0, 1), (.bipush 30, 2), (.invokestatic 232, 3), (.ifCond .ne 7, 3), (.iconst 1, 1), (.goto 4, 3)] := rfl
theorem bX11_ahead_20 : zBf BX11_ahead 20 = [(.iconst 0, 1)] := rfl
theorem bX11_ahead_21 : zBf BX11_ahead 21 = [(.iconst 1, 1), (.invokevirtual 228, 3), (.ifCond .eq 5, 3), (.iconst 0, 1), (.ireturn, 1)] := rfl
theorem bX11_ahead_30 : zBf BX11_ahead 30 = [(.aload_n 0, 1), (.getfield 13, 3), (.bipush 8, 2), (.iaload, 1), (.istore_n 3, 1), (.iconst 0, 1), (.istore 4, 2)] := rfl
theorem bX11_ahead_41 : zBf BX11_ahead 41 = [(.iload 4, 2), (.bipush 100, 2), (.if_icmp .ge 22, 3), (.aload_n 0, 1), (.getfield 56, 3), (.iload 4, 2), (.aload_n 0, 1), (.iload 4, 2), (.invokevirtual 262, 3), (.iastore, 1), (.iinc 4 1, 3), (.goto (-23), 3)] := rfl
theorem bX11_ahead_67 : zBf BX11_ahead 67 = [(.iconst 0, 1), (.istore 4, 2)] := rfl
theorem bX11_ahead_70 : zBf BX11_ahead 70 = [(.iload 4, 2), (.iload_n 1, 1), (.if_icmp .ge 13, 3), (.aload_n 0, 1), (.invokevirtual 301, 3), (.iinc 4 1, 3), (.goto (-13), 3)] := rfl
theorem bX11_ahead_86 : zBf BX11_ahead 86 = [(.iload_n 2, 1), (.ifCond .eq 10, 3), (.aload_n 0, 1), (.invokevirtual 429, 3), (.goto 7, 3)] := rfl
theorem bX11_ahead_97 : zBf BX11_ahead 97 = [(.aload_n 0, 1), (.invokevirtual 432, 3)] := rfl
theorem bX11_ahead_101 : zBf BX11_ahead 101 = [(.istore 4, 2), (.iconst 0, 1), (.istore 5, 2)] := rfl
theorem bX11_ahead_106 : zBf BX11_ahead 106 = [(.iload 5, 2), (.bipush 100, 2), (.if_icmp .ge 26, 3), (.aload_n 0, 1), (.getfield 13, 3), (.bipush 20, 2), (.iload 5, 2), (.iadd, 1), (.aload_n 0, 1), (.getfield 56, 3), (.iload 5, 2), (.iaload, 1), (.iastore, 1), (.iinc 5 1, 3), (.goto (-27), 3)] := rfl
theorem bX11_ahead_136 : zBf BX11_ahead 136 = [(.aload_n 0, 1), (.getfield 13, 3), (.bipush 8, 2), (.iload_n 3, 1), (.iastore, 1), (.iload 4, 2), (.ireturn, 1)] := rfl
theorem hX11_ahead : zMv yX11_ahead cX11_ahead 6 (some .int) := ⟨zG_mem (n := 2025) (by decide +kernel), zG_mem (n := 127) (by decide +kernel), zG_mem (n := 2023) (by decide +kernel), zG_mem (n := 2024) (by decide +kernel)⟩
def BX11_count : List (Nat × List (Instr × Nat)) := [(0, [(.aload_n 0, 1), (.iconst 0, 1), (.putfield 3, 3), (.iload_n 1, 1), (.tableswitch 160 0 12 #[66, 74, 79, 84, 100, 107, 114, 121, 129, 134, 139, 144, 152], 66)]), (72, [(.aload_n 0, 1), (.getfield 13, 3), (.bipush 9, 2), (.iaload, 1), (.ireturn, 1)]), (80, [(.aload_n 0, 1), (.invokevirtual 242, 3), (.ireturn, 1)]), (85, [(.aload_n 0, 1), (.invokevirtual 278, 3), (.ireturn, 1)]), (90, [(.aload_n 0, 1), (.invokevirtual 272, 3), (.ifCond .eq 10, 3), (.aload_n 0, 1), (.invokevirtual 338, 3), (.goto 4, 3)]), (104, [(.iconst (-1), 1)]), (105, [(.ireturn, 1)]), (106, [(.aload_n 0, 1), (.getfield 13, 3), (.iconst 0, 1), (.iaload, 1), (.ireturn, 1)]), (113, [(.aload_n 0, 1), (.getfield 13, 3), (.iconst 1, 1), (.iaload, 1), (.ireturn, 1)]), (120, [(.aload_n 0, 1), (.getfield 13, 3), (.iconst 2, 1), (.iaload, 1), (.ireturn, 1)]), (127, [(.aload_n 0, 1), (.getfield 13, 3), (.bipush 10, 2), (.iaload, 1), (.ireturn, 1)]), (135, [(.aload_n 0, 1), (.invokevirtual 432, 3), (.ireturn, 1)]), (140, [(.aload_n 0, 1), (.invokevirtual 429, 3), (.ireturn, 1)]), (145, [(.aload_n 0, 1), (.invokevirtual 298, 3), (.ireturn, 1)]), (150, [(.aload_n 0, 1), (.getfield 13, 3), (.bipush 19, 2), (.iaload, 1), (.ireturn, 1)]), (158, [(.aload_n 0, 1), (.getfield 13, 3), (.bipush 11, 2), (.iaload, 1), (.ireturn, 1)]), (166, [(.iconst (-1), 1), (.ireturn, 1)])]
theorem oX11_count : ∀ pc, zdec cX11_count pc (zBf BX11_count pc) := zBf_ok (by decide +kernel)
theorem bX11_count_0 : zBf BX11_count 0 = [(.aload_n 0, 1), (.iconst 0, 1), (.putfield 3, 3), (.iload_n 1, 1), (.tableswitch 160 0 12 #[66, 74, 79, 84, 100, 107, 114, 121, 129, 134, 139, 144, 152], 66)] := rfl
theorem bX11_count_72 : zBf BX11_count 72 = [(.aload_n 0, 1), (.getfield 13, 3), (.bipush 9, 2), (.iaload, 1), (.ireturn, 1)] := rfl
theorem bX11_count_80 : zBf BX11_count 80 = [(.aload_n 0, 1), (.invokevirtual 242, 3), (.ireturn, 1)] := rfl
theorem bX11_count_85 : zBf BX11_count 85 = [(.aload_n 0, 1), (.invokevirtual 278, 3), (.ireturn, 1)] := rfl
theorem bX11_count_90 : zBf BX11_count 90 = [(.aload_n 0, 1), (.invokevirtual 272, 3), (.ifCond .eq 10, 3), (.aload_n 0, 1), (.invokevirtual 338, 3), (.goto 4, 3)] := rfl
theorem bX11_count_104 : zBf BX11_count 104 = [(.iconst (-1), 1)] := rfl
theorem bX11_count_105 : zBf BX11_count 105 = [(.ireturn, 1)] := rfl
theorem bX11_count_106 : zBf BX11_count 106 = [(.aload_n 0, 1), (.getfield 13, 3), (.iconst 0, 1), (.iaload, 1), (.ireturn, 1)] := rfl
theorem bX11_count_113 : zBf BX11_count 113 = [(.aload_n 0, 1), (.getfield 13, 3), (.iconst 1, 1), (.iaload, 1), (.ireturn, 1)] := rfl
theorem bX11_count_120 : zBf BX11_count 120 = [(.aload_n 0, 1), (.getfield 13, 3), (.iconst 2, 1), (.iaload, 1), (.ireturn, 1)] := rfl
theorem bX11_count_127 : zBf BX11_count 127 = [(.aload_n 0, 1), (.getfield 13, 3), (.bipush 10, 2), (.iaload, 1), (.ireturn, 1)] := rfl
theorem bX11_count_135 : zBf BX11_count 135 = [(.aload_n 0, 1), (.invokevirtual 432, 3), (.ireturn, 1)] := rfl
theorem bX11_count_140 : zBf BX11_count 140 = [(.aload_n 0, 1), (.invokevirtual 429, 3), (.ireturn, 1)] := rfl
theorem bX11_count_145 : zBf BX11_count 145 = [(.aload_n 0, 1), (.invokevirtual 298, 3), (.ireturn, 1)] := rfl
theorem bX11_count_150 : zBf BX11_count 150 = [(.aload_n 0, 1), (.getfield 13, 3), (.bipush 19, 2), (.iaload, 1), (.ireturn, 1)] := rfl
theorem bX11_count_158 : zBf BX11_count 158 = [(.aload_n 0, 1), (.getfield 13, 3), (.bipush 11, 2), (.iaload, 1), (.ireturn, 1)] := rfl
theorem bX11_count_166 : zBf BX11_count 166 = [(.iconst (-1), 1), (.ireturn, 1)] := rfl
theorem hX11_count : zMv yX11_count cX11_count 2 (some .int) := ⟨zG_mem (n := 2037) (by decide +kernel), zG_mem (n := 127) (by decide +kernel), zG_mem (n := 2035) (by decide +kernel), zG_mem (n := 2036) (by decide +kernel)⟩
theorem kX11_225 : Cond.methodLink RX11 225 yX11_readAll ∈ zTbl ∨ ∃ host, Cond.methodLinkNest RX11 225 yX11_readAll host ∈ lw_tbl := Or.inl (zG_mem (n := 1572) (by decide +kernel))
theorem kX11_79 : Cond.methodLink RX11 79 yX11_blanks ∈ zTbl ∨ ∃ host, Cond.methodLinkNest RX11 79 yX11_blanks host ∈ lw_tbl := Or.inl (zG_mem (n := 1576) (by decide +kernel))
theorem kX11_72 : Cond.methodLink RX11 72 yX11_isAt ∈ zTbl ∨ ∃ host, Cond.methodLinkNest RX11 72 yX11_isAt host ∈ lw_tbl := Or.inl (zG_mem (n := 1580) (by decide +kernel))
theorem kX11_190 : Cond.methodLink RX11 190 yX11_readRow ∈ zTbl ∨ ∃ host, Cond.methodLinkNest RX11 190 yX11_readRow host ∈ lw_tbl := Or.inl (zG_mem (n := 1584) (by decide +kernel))
theorem kX11_222 : Cond.methodLink RX11 222 yX11_readOrder ∈ zTbl ∨ ∃ host, Cond.methodLinkNest RX11 222 yX11_readOrder host ∈ lw_tbl := Or.inl (zG_mem (n := 1588) (by decide +kernel))
theorem kX11_92 : Cond.methodLink RX11 92 yX11_letters ∈ zTbl ∨ ∃ host, Cond.methodLinkNest RX11 92 yX11_letters host ∈ lw_tbl := Or.inl (zG_mem (n := 1592) (by decide +kernel))
theorem kX11_95 : Cond.methodLink RX11 95 yX11_isWord ∈ zTbl ∨ ∃ host, Cond.methodLinkNest RX11 95 yX11_isWord host ∈ lw_tbl := Or.inl (zG_mem (n := 1597) (by decide +kernel))
theorem kX11_82 : Cond.methodLink RX11 82 yJ0_length_8abf5 ∈ zTbl ∨ ∃ host, Cond.methodLinkNest RX11 82 yJ0_length_8abf5 host ∈ lw_tbl := Or.inl (zG_mem (n := 1601) (by decide +kernel))
theorem kX11_88 : Cond.methodLink RX11 88 yJ0_charAt_5068e ∈ zTbl ∨ ∃ host, Cond.methodLinkNest RX11 88 yJ0_charAt_5068e host ∈ lw_tbl := Or.inl (zG_mem (n := 1602) (by decide +kernel))
theorem kX11_183 : Cond.methodLink RX11 183 yX11_puts ∈ zTbl ∨ ∃ host, Cond.methodLinkNest RX11 183 yX11_puts host ∈ lw_tbl := Or.inl (zG_mem (n := 1603) (by decide +kernel))
theorem kX11_106 : Cond.methodLink RX11 106 yX11_opAt ∈ zTbl ∨ ∃ host, Cond.methodLinkNest RX11 106 yX11_opAt host ∈ lw_tbl := Or.inl (zG_mem (n := 1607) (by decide +kernel))
theorem kX11_99 : Cond.methodLink RX11 99 yX11_textAt ∈ zTbl ∨ ∃ host, Cond.methodLinkNest RX11 99 yX11_textAt host ∈ lw_tbl := Or.inl (zG_mem (n := 1610) (by decide +kernel))
theorem kX11_205 : Cond.methodLink RX11 205 yX11_readAgain ∈ zTbl ∨ ∃ host, Cond.methodLinkNest RX11 205 yX11_readAgain host ∈ lw_tbl := Or.inl (zG_mem (n := 1618) (by decide +kernel))
theorem kX11_165 : Cond.methodLink RX11 165 yX11_number ∈ zTbl ∨ ∃ host, Cond.methodLinkNest RX11 165 yX11_number host ∈ lw_tbl := Or.inl (zG_mem (n := 1622) (by decide +kernel))
theorem kX11_187 : Cond.methodLink RX11 187 yX11_opens ∈ zTbl ∨ ∃ host, Cond.methodLinkNest RX11 187 yX11_opens host ∈ lw_tbl := Or.inl (zG_mem (n := 1626) (by decide +kernel))
theorem kX11_119 : Cond.methodLink RX11 119 yX11_sign ∈ zTbl ∨ ∃ host, Cond.methodLinkNest RX11 119 yX11_sign host ∈ lw_tbl := Or.inl (zG_mem (n := 1630) (by decide +kernel))
theorem kX11_123 : Cond.methodLink RX11 123 yX11_deeper ∈ zTbl ∨ ∃ host, Cond.methodLinkNest RX11 123 yX11_deeper host ∈ lw_tbl := Or.inl (zG_mem (n := 1634) (by decide +kernel))
theorem kX11_146 : Cond.methodLink RX11 146 yX11_closes ∈ zTbl ∨ ∃ host, Cond.methodLinkNest RX11 146 yX11_closes host ∈ lw_tbl := Or.inl (zG_mem (n := 1638) (by decide +kernel))
theorem kX11_210 : Cond.methodLink RX11 210 yX11_readTest ∈ zTbl ∨ ∃ host, Cond.methodLinkNest RX11 210 yX11_readTest host ∈ lw_tbl := Or.inl (zG_mem (n := 1643) (by decide +kernel))
theorem kX11_143 : Cond.methodLink RX11 143 yX11_readCond ∈ zTbl ∨ ∃ host, Cond.methodLinkNest RX11 143 yX11_readCond host ∈ lw_tbl := Or.inl (zG_mem (n := 1647) (by decide +kernel))
theorem kX11_170 : Cond.methodLink RX11 170 yX11_readAllOf ∈ zTbl ∨ ∃ host, Cond.methodLinkNest RX11 170 yX11_readAllOf host ∈ lw_tbl := Or.inl (zG_mem (n := 1651) (by decide +kernel))
theorem kX11_154 : Cond.methodLink RX11 154 yX11_readAtom ∈ zTbl ∨ ∃ host, Cond.methodLinkNest RX11 154 yX11_readAtom host ∈ lw_tbl := Or.inl (zG_mem (n := 1655) (by decide +kernel))
theorem kX11_151 : Cond.methodLink RX11 151 yX11_passes ∈ zTbl ∨ ∃ host, Cond.methodLinkNest RX11 151 yX11_passes host ∈ lw_tbl := Or.inl (zG_mem (n := 1660) (by decide +kernel))
theorem kX11_157 : Cond.methodLink RX11 157 yX11_emits ∈ zTbl ∨ ∃ host, Cond.methodLinkNest RX11 157 yX11_emits host ∈ lw_tbl := Or.inl (zG_mem (n := 1664) (by decide +kernel))
theorem kX11_113 : Cond.methodLink RX11 113 yX11_stepAt ∈ zTbl ∨ ∃ host, Cond.methodLinkNest RX11 113 yX11_stepAt host ∈ lw_tbl := Or.inl (zG_mem (n := 1668) (by decide +kernel))
theorem kX11_162 : Cond.methodLink RX11 162 yX11_factAt ∈ zTbl ∨ ∃ host, Cond.methodLinkNest RX11 162 yX11_factAt host ∈ lw_tbl := Or.inl (zG_mem (n := 1672) (by decide +kernel))
theorem kX11_219 : Cond.methodLink RX11 219 yX11_wayAt ∈ zTbl ∨ ∃ host, Cond.methodLinkNest RX11 219 yX11_wayAt host ∈ lw_tbl := Or.inl (zG_mem (n := 1689) (by decide +kernel))
theorem kX11_228 : Cond.methodLink RX11 228 yX11_throwsIf ∈ zTbl ∨ ∃ host, Cond.methodLinkNest RX11 228 yX11_throwsIf host ∈ lw_tbl := Or.inl (zG_mem (n := 1697) (by decide +kernel))
theorem kX11_248 : Cond.methodLink RX11 248 yX11_noCell ∈ zTbl ∨ ∃ host, Cond.methodLinkNest RX11 248 yX11_noCell host ∈ lw_tbl := Or.inl (zG_mem (n := 1705) (by decide +kernel))
theorem kX11_232 : Cond.methodLink RX11 232 yX11_in ∈ zTbl ∨ ∃ host, Cond.methodLinkNest RX11 232 yX11_in host ∈ lw_tbl := Or.inl (zG_mem (n := 1708) (by decide +kernel))
theorem kX11_251 : Cond.methodLink RX11 251 yJ9_min_7cf53 ∈ zTbl ∨ ∃ host, Cond.methodLinkNest RX11 251 yJ9_min_7cf53 host ∈ lw_tbl := Or.inl (zG_mem (n := 1711) (by decide +kernel))
theorem kX11_256 : Cond.methodLink RX11 256 yJ9_max_7cf53 ∈ zTbl ∨ ∃ host, Cond.methodLinkNest RX11 256 yJ9_max_7cf53 host ∈ lw_tbl := Or.inl (zG_mem (n := 1712) (by decide +kernel))
theorem kX11_259 : Cond.methodLink RX11 259 yX11_isLine ∈ zTbl ∨ ∃ host, Cond.methodLinkNest RX11 259 yX11_isLine host ∈ lw_tbl := Or.inl (zG_mem (n := 1713) (by decide +kernel))
theorem kX11_242 : Cond.methodLink RX11 242 yX11_lineMany ∈ zTbl ∨ ∃ host, Cond.methodLinkNest RX11 242 yX11_lineMany host ∈ lw_tbl := Or.inl (zG_mem (n := 1717) (by decide +kernel))
theorem kX11_245 : Cond.methodLink RX11 245 yX11_cellAt ∈ zTbl ∨ ∃ host, Cond.methodLinkNest RX11 245 yX11_cellAt host ∈ lw_tbl := Or.inl (zG_mem (n := 1721) (by decide +kernel))
theorem kX11_236 : Cond.methodLink RX11 236 yX11_railAt ∈ zTbl ∨ ∃ host, Cond.methodLinkNest RX11 236 yX11_railAt host ∈ lw_tbl := Or.inl (zG_mem (n := 1725) (by decide +kernel))
theorem kX11_239 : Cond.methodLink RX11 239 yX11_ofRail ∈ zTbl ∨ ∃ host, Cond.methodLinkNest RX11 239 yX11_ofRail host ∈ lw_tbl := Or.inl (zG_mem (n := 1729) (by decide +kernel))
theorem kX11_262 : Cond.methodLink RX11 262 yX11_kindAt ∈ zTbl ∨ ∃ host, Cond.methodLinkNest RX11 262 yX11_kindAt host ∈ lw_tbl := Or.inl (zG_mem (n := 1737) (by decide +kernel))
theorem kX11_265 : Cond.methodLink RX11 265 yX11_setsRail ∈ zTbl ∨ ∃ host, Cond.methodLinkNest RX11 265 yX11_setsRail host ∈ lw_tbl := Or.inl (zG_mem (n := 1745) (by decide +kernel))
theorem kX11_269 : Cond.methodLink RX11 269 yX11_isStore ∈ zTbl ∨ ∃ host, Cond.methodLinkNest RX11 269 yX11_isStore host ∈ lw_tbl := Or.inl (zG_mem (n := 1761) (by decide +kernel))
theorem kX11_272 : Cond.methodLink RX11 272 yX11_isSet ∈ zTbl ∨ ∃ host, Cond.methodLinkNest RX11 272 yX11_isSet host ∈ lw_tbl := Or.inl (zG_mem (n := 1765) (by decide +kernel))
theorem kX11_278 : Cond.methodLink RX11 278 yX11_carried ∈ zTbl ∨ ∃ host, Cond.methodLinkNest RX11 278 yX11_carried host ∈ lw_tbl := Or.inl (zG_mem (n := 1773) (by decide +kernel))
theorem kX11_280 : Cond.methodLink RX11 280 yX11_isWay ∈ zTbl ∨ ∃ host, Cond.methodLinkNest RX11 280 yX11_isWay host ∈ lw_tbl := Or.inl (zG_mem (n := 1777) (by decide +kernel))
theorem kX11_275 : Cond.methodLink RX11 275 yX11_beside ∈ zTbl ∨ ∃ host, Cond.methodLinkNest RX11 275 yX11_beside host ∈ lw_tbl := Or.inl (zG_mem (n := 1781) (by decide +kernel))
theorem kX11_283 : Cond.methodLink RX11 283 yX11_leastCarried ∈ zTbl ∨ ∃ host, Cond.methodLinkNest RX11 283 yX11_leastCarried host ∈ lw_tbl := Or.inl (zG_mem (n := 1784) (by decide +kernel))
theorem kX11_286 : Cond.methodLink RX11 286 yX11_comesOn ∈ zTbl ∨ ∃ host, Cond.methodLinkNest RX11 286 yX11_comesOn host ∈ lw_tbl := Or.inl (zG_mem (n := 1788) (by decide +kernel))
theorem kX11_290 : Cond.methodLink RX11 290 yX11_logs ∈ zTbl ∨ ∃ host, Cond.methodLinkNest RX11 290 yX11_logs host ∈ lw_tbl := Or.inl (zG_mem (n := 1792) (by decide +kernel))
theorem kX11_317 : Cond.methodLink RX11 317 yX11_mayLift ∈ zTbl ∨ ∃ host, Cond.methodLinkNest RX11 317 yX11_mayLift host ∈ lw_tbl := Or.inl (zG_mem (n := 1800) (by decide +kernel))
theorem kX11_308 : Cond.methodLink RX11 308 yX11_isBuried ∈ zTbl ∨ ∃ host, Cond.methodLinkNest RX11 308 yX11_isBuried host ∈ lw_tbl := Or.inl (zG_mem (n := 1804) (by decide +kernel))
theorem kX11_311 : Cond.methodLink RX11 311 yX11_strength ∈ zTbl ∨ ∃ host, Cond.methodLinkNest RX11 311 yX11_strength host ∈ lw_tbl := Or.inl (zG_mem (n := 1808) (by decide +kernel))
theorem kX11_320 : Cond.methodLink RX11 320 yX11_lifts ∈ zTbl ∨ ∃ host, Cond.methodLinkNest RX11 320 yX11_lifts host ∈ lw_tbl := Or.inl (zG_mem (n := 1812) (by decide +kernel))
theorem kX11_314 : Cond.methodLink RX11 314 yX11_shared ∈ zTbl ∨ ∃ host, Cond.methodLinkNest RX11 314 yX11_shared host ∈ lw_tbl := Or.inl (zG_mem (n := 1816) (by decide +kernel))
theorem kX11_304 : Cond.methodLink RX11 304 yX11_elapses ∈ zTbl ∨ ∃ host, Cond.methodLinkNest RX11 304 yX11_elapses host ∈ lw_tbl := Or.inl (zG_mem (n := 1819) (by decide +kernel))
theorem kX11_298 : Cond.methodLink RX11 298 yX11_men ∈ zTbl ∨ ∃ host, Cond.methodLinkNest RX11 298 yX11_men host ∈ lw_tbl := Or.inl (zG_mem (n := 1823) (by decide +kernel))
theorem kX11_301 : Cond.methodLink RX11 301 yX11_night ∈ zTbl ∨ ∃ host, Cond.methodLinkNest RX11 301 yX11_night host ∈ lw_tbl := Or.inl (zG_mem (n := 1827) (by decide +kernel))
theorem kX11_295 : Cond.methodLink RX11 295 yX11_draw ∈ zTbl ∨ ∃ host, Cond.methodLinkNest RX11 295 yX11_draw host ∈ lw_tbl := Or.inl (zG_mem (n := 1831) (by decide +kernel))
theorem kX11_332 : Cond.methodLink RX11 332 yX11_mayLay ∈ zTbl ∨ ∃ host, Cond.methodLinkNest RX11 332 yX11_mayLay host ∈ lw_tbl := Or.inl (zG_mem (n := 1840) (by decide +kernel))
theorem kX11_323 : Cond.methodLink RX11 323 yX11_next ∈ zTbl ∨ ∃ host, Cond.methodLinkNest RX11 323 yX11_next host ∈ lw_tbl := Or.inl (zG_mem (n := 1844) (by decide +kernel))
theorem kX11_335 : Cond.methodLink RX11 335 yX11_lays ∈ zTbl ∨ ∃ host, Cond.methodLinkNest RX11 335 yX11_lays host ∈ lw_tbl := Or.inl (zG_mem (n := 1848) (by decide +kernel))
theorem kX11_326 : Cond.methodLink RX11 326 yX11_costOf ∈ zTbl ∨ ∃ host, Cond.methodLinkNest RX11 326 yX11_costOf host ∈ lw_tbl := Or.inl (zG_mem (n := 1852) (by decide +kernel))
theorem kX11_329 : Cond.methodLink RX11 329 yX11_takes ∈ zTbl ∨ ∃ host, Cond.methodLinkNest RX11 329 yX11_takes host ∈ lw_tbl := Or.inl (zG_mem (n := 1855) (by decide +kernel))
theorem kX11_350 : Cond.methodLink RX11 350 yX11_mayGo ∈ zTbl ∨ ∃ host, Cond.methodLinkNest RX11 350 yX11_mayGo host ∈ lw_tbl := Or.inl (zG_mem (n := 1863) (by decide +kernel))
theorem kX11_338 : Cond.methodLink RX11 338 yX11_front ∈ zTbl ∨ ∃ host, Cond.methodLinkNest RX11 338 yX11_front host ∈ lw_tbl := Or.inl (zG_mem (n := 1867) (by decide +kernel))
theorem kX11_353 : Cond.methodLink RX11 353 yX11_goes ∈ zTbl ∨ ∃ host, Cond.methodLinkNest RX11 353 yX11_goes host ∈ lw_tbl := Or.inl (zG_mem (n := 1871) (by decide +kernel))
theorem kX11_344 : Cond.methodLink RX11 344 yX11_widthAt ∈ zTbl ∨ ∃ host, Cond.methodLinkNest RX11 344 yX11_widthAt host ∈ lw_tbl := Or.inl (zG_mem (n := 1875) (by decide +kernel))
theorem kX11_347 : Cond.methodLink RX11 347 yX11_apart ∈ zTbl ∨ ∃ host, Cond.methodLinkNest RX11 347 yX11_apart host ∈ lw_tbl := Or.inl (zG_mem (n := 1879) (by decide +kernel))
theorem kX11_341 : Cond.methodLink RX11 341 yJ9_abs_0f7a4 ∈ zTbl ∨ ∃ host, Cond.methodLinkNest RX11 341 yJ9_abs_0f7a4 host ∈ lw_tbl := Or.inl (zG_mem (n := 1882) (by decide +kernel))
theorem kX11_359 : Cond.methodLink RX11 359 yX11_mayFill ∈ zTbl ∨ ∃ host, Cond.methodLinkNest RX11 359 yX11_mayFill host ∈ lw_tbl := Or.inl (zG_mem (n := 1887) (by decide +kernel))
theorem kX11_356 : Cond.methodLink RX11 356 yX11_isByWell ∈ zTbl ∨ ∃ host, Cond.methodLinkNest RX11 356 yX11_isByWell host ∈ lw_tbl := Or.inl (zG_mem (n := 1891) (by decide +kernel))
theorem kX11_362 : Cond.methodLink RX11 362 yX11_fills ∈ zTbl ∨ ∃ host, Cond.methodLinkNest RX11 362 yX11_fills host ∈ lw_tbl := Or.inl (zG_mem (n := 1895) (by decide +kernel))
theorem kX11_368 : Cond.methodLink RX11 368 yX11_mayDig ∈ zTbl ∨ ∃ host, Cond.methodLinkNest RX11 368 yX11_mayDig host ∈ lw_tbl := Or.inl (zG_mem (n := 1903) (by decide +kernel))
theorem kX11_365 : Cond.methodLink RX11 365 yX11_firstBuried ∈ zTbl ∨ ∃ host, Cond.methodLinkNest RX11 365 yX11_firstBuried host ∈ lw_tbl := Or.inl (zG_mem (n := 1907) (by decide +kernel))
theorem kX11_371 : Cond.methodLink RX11 371 yX11_digs ∈ zTbl ∨ ∃ host, Cond.methodLinkNest RX11 371 yX11_digs host ∈ lw_tbl := Or.inl (zG_mem (n := 1911) (by decide +kernel))
theorem kX11_377 : Cond.methodLink RX11 377 yX11_acts ∈ zTbl ∨ ∃ host, Cond.methodLinkNest RX11 377 yX11_acts host ∈ lw_tbl := Or.inl (zG_mem (n := 1923) (by decide +kernel))
theorem kX11_380 : Cond.methodLink RX11 380 yX11_holds ∈ zTbl ∨ ∃ host, Cond.methodLinkNest RX11 380 yX11_holds host ∈ lw_tbl := Or.inl (zG_mem (n := 1927) (by decide +kernel))
theorem kX11_374 : Cond.methodLink RX11 374 yX11_factOf ∈ zTbl ∨ ∃ host, Cond.methodLinkNest RX11 374 yX11_factOf host ∈ lw_tbl := Or.inl (zG_mem (n := 1931) (by decide +kernel))
theorem kX11_383 : Cond.methodLink RX11 383 yX11_noRail ∈ zTbl ∨ ∃ host, Cond.methodLinkNest RX11 383 yX11_noRail host ∈ lw_tbl := Or.inl (zG_mem (n := 1943) (by decide +kernel))
theorem kX11_417 : Cond.methodLink RX11 417 yX11_isNoEnd ∈ zTbl ∨ ∃ host, Cond.methodLinkNest RX11 417 yX11_isNoEnd host ∈ lw_tbl := Or.inl (zG_mem (n := 1955) (by decide +kernel))
theorem kX11_420 : Cond.methodLink RX11 420 yX11_hasWay ∈ zTbl ∨ ∃ host, Cond.methodLinkNest RX11 420 yX11_hasWay host ∈ lw_tbl := Or.inl (zG_mem (n := 1959) (by decide +kernel))
theorem kX11_414 : Cond.methodLink RX11 414 yX11_finds ∈ zTbl ∨ ∃ host, Cond.methodLinkNest RX11 414 yX11_finds host ∈ lw_tbl := Or.inl (zG_mem (n := 1963) (by decide +kernel))
theorem kX11_396 : Cond.methodLink RX11 396 yX11_isFree ∈ zTbl ∨ ∃ host, Cond.methodLinkNest RX11 396 yX11_isFree host ∈ lw_tbl := Or.inl (zG_mem (n := 1967) (by decide +kernel))
theorem kX11_390 : Cond.methodLink RX11 390 yX11_restAt ∈ zTbl ∨ ∃ host, Cond.methodLinkNest RX11 390 yX11_restAt host ∈ lw_tbl := Or.inl (zG_mem (n := 1971) (by decide +kernel))
theorem kX11_399 : Cond.methodLink RX11 399 yX11_stepping ∈ zTbl ∨ ∃ host, Cond.methodLinkNest RX11 399 yX11_stepping host ∈ lw_tbl := Or.inl (zG_mem (n := 1975) (by decide +kernel))
theorem kX11_393 : Cond.methodLink RX11 393 yJ9_min_f86c9 ∈ zTbl ∨ ∃ host, Cond.methodLinkNest RX11 393 yJ9_min_f86c9 host ∈ lw_tbl := Or.inl (zG_mem (n := 1980) (by decide +kernel))
theorem kX11_423 : Cond.methodLink RX11 423 yX11_path ∈ zTbl ∨ ∃ host, Cond.methodLinkNest RX11 423 yX11_path host ∈ lw_tbl := Or.inl (zG_mem (n := 1982) (by decide +kernel))
theorem kX11_411 : Cond.methodLink RX11 411 yX11_stepOf ∈ zTbl ∨ ∃ host, Cond.methodLinkNest RX11 411 yX11_stepOf host ∈ lw_tbl := Or.inl (zG_mem (n := 1986) (by decide +kernel))
theorem kX11_426 : Cond.methodLink RX11 426 yX11_isThere ∈ zTbl ∨ ∃ host, Cond.methodLinkNest RX11 426 yX11_isThere host ∈ lw_tbl := Or.inl (zG_mem (n := 2002) (by decide +kernel))
theorem kX11_429 : Cond.methodLink RX11 429 yX11_dunes ∈ zTbl ∨ ∃ host, Cond.methodLinkNest RX11 429 yX11_dunes host ∈ lw_tbl := Or.inl (zG_mem (n := 2026) (by decide +kernel))
theorem kX11_432 : Cond.methodLink RX11 432 yX11_buried ∈ zTbl ∨ ∃ host, Cond.methodLinkNest RX11 432 yX11_buried host ∈ lw_tbl := Or.inl (zG_mem (n := 2030) (by decide +kernel))
end
section
/-! ===== unfolding, a stretch at a time ===== -/
theorem zi_iconst (Λ : List zC) (pl : zPo) (cv cS : Nat → Option zCt) (rt : Nat) (RP : Int → zM → Prop) (thr : Nat → Option Nat) (XP : Nat → zM → Prop) (nL : Nat) (x : Int) (n pc : Nat) (ls : zL) (st : List zV) (mem : zM) (J : zJ) (K : zL → List zV → zM → Prop) : zwI Λ pl cv cS rt RP thr XP nL (.iconst x) n pc ls st mem J K = (n = 1 ∧ (-1 ≤ x ∧ x ≤ 5) ∧ K ls ((0, x) :: st) mem) := rfl
theorem zi_bipush (Λ : List zC) (pl : zPo) (cv cS : Nat → Option zCt) (rt : Nat) (RP : Int → zM → Prop) (thr : Nat → Option Nat) (XP : Nat → zM → Prop) (nL : Nat) (x : Int) (n pc : Nat) (ls : zL) (st : List zV) (mem : zM) (J : zJ) (K : zL → List zV → zM → Prop) : zwI Λ pl cv cS rt RP thr XP nL (.bipush x) n pc ls st mem J K = (n = 2 ∧ (-128 ≤ x ∧ x ≤ 127) ∧ K ls ((0, x) :: st) mem) := rfl
theorem zi_sipush (Λ : List zC) (pl : zPo) (cv cS : Nat → Option zCt) (rt : Nat) (RP : Int → zM → Prop) (thr : Nat → Option Nat) (XP : Nat → zM → Prop) (nL : Nat) (x : Int) (n pc : Nat) (ls : zL) (st : List zV) (mem : zM) (J : zJ) (K : zL → List zV → zM → Prop) : zwI Λ pl cv cS rt RP thr XP nL (.sipush x) n pc ls st mem J K = (n = 3 ∧ (-32768 ≤ x ∧ x ≤ 32767) ∧ K ls ((0, x) :: st) mem) := rfl
theorem zi_lconst (Λ : List zC) (pl : zPo) (cv cS : Nat → Option zCt) (rt : Nat) (RP : Int → zM → Prop) (thr : Nat → Option Nat) (XP : Nat → zM → Prop) (nL : Nat) (x : Fin 2) (n pc : Nat) (ls : zL) (st : List zV) (mem : zM) (J : zJ) (K : zL → List zV → zM → Prop) : zwI Λ pl cv cS rt RP thr XP nL (.lconst x) n pc ls st mem J K = (n = 1 ∧ K ls ((1, ((x : Nat) : Int)) :: st) mem) := rfl
theorem zi_ldc (Λ : List zC) (pl : zPo) (cv cS : Nat → Option zCt) (rt : Nat) (RP : Int → zM → Prop) (thr : Nat → Option Nat) (XP : Nat → zM → Prop) (nL : Nat) (k : Nat) (n pc : Nat) (ls : zL) (st : List zV) (mem : zM) (J : zJ) (K : zL → List zV → zM → Prop) : zwI Λ pl cv cS rt RP thr XP nL (.ldc k) n pc ls st mem J K = (n = 2 ∧ (zpl pl k 1 (fun _ _ z => K ls ((0, z) :: st) mem) ∨ zpl pl k 3 (fun x _ _ => K ls ((3, ((3 + x : Nat) : Int)) :: st) mem))) := rfl
theorem zi_ldc_w (Λ : List zC) (pl : zPo) (cv cS : Nat → Option zCt) (rt : Nat) (RP : Int → zM → Prop) (thr : Nat → Option Nat) (XP : Nat → zM → Prop) (nL : Nat) (k : Nat) (n pc : Nat) (ls : zL) (st : List zV) (mem : zM) (J : zJ) (K : zL → List zV → zM → Prop) : zwI Λ pl cv cS rt RP thr XP nL (.ldc_w k) n pc ls st mem J K = (n = 3 ∧ zpl pl k 1 (fun _ _ z => K ls ((0, z) :: st) mem)) := rfl
theorem zi_ldc2_w (Λ : List zC) (pl : zPo) (cv cS : Nat → Option zCt) (rt : Nat) (RP : Int → zM → Prop) (thr : Nat → Option Nat) (XP : Nat → zM → Prop) (nL : Nat) (k : Nat) (n pc : Nat) (ls : zL) (st : List zV) (mem : zM) (J : zJ) (K : zL → List zV → zM → Prop) : zwI Λ pl cv cS rt RP thr XP nL (.ldc2_w k) n pc ls st mem J K = (n = 3 ∧ zpl pl k 2 (fun _ _ z => K ls ((1, z) :: st) mem)) := rfl
theorem zi_getstatic (Λ : List zC) (pl : zPo) (cv cS : Nat → Option zCt) (rt : Nat) (RP : Int → zM → Prop) (thr : Nat → Option Nat) (XP : Nat → zM → Prop) (nL : Nat) (k : Nat) (n pc : Nat) (ls : zL) (st : List zV) (mem : zM) (J : zJ) (K : zL → List zV → zM → Prop) : zwI Λ pl cv cS rt RP thr XP nL (.getstatic k) n pc ls st mem J K = (n = 3 ∧ zpl pl k 4 (fun x _ _ => K ls ((3, (x : Int)) :: st) mem)) := rfl
theorem zi_iload_n (Λ : List zC) (pl : zPo) (cv cS : Nat → Option zCt) (rt : Nat) (RP : Int → zM → Prop) (thr : Nat → Option Nat) (XP : Nat → zM → Prop) (nL : Nat) (k : Fin 4) (n pc : Nat) (ls : zL) (st : List zV) (mem : zM) (J : zJ) (K : zL → List zV → zM → Prop) : zwI Λ pl cv cS rt RP thr XP nL (.iload_n k) n pc ls st mem J K = (n = 1 ∧ (ls k.val).1 = 0 ∧ K ls (ls k.val :: st) mem) := rfl
theorem zi_iload (Λ : List zC) (pl : zPo) (cv cS : Nat → Option zCt) (rt : Nat) (RP : Int → zM → Prop) (thr : Nat → Option Nat) (XP : Nat → zM → Prop) (nL : Nat) (k : Nat) (n pc : Nat) (ls : zL) (st : List zV) (mem : zM) (J : zJ) (K : zL → List zV → zM → Prop) : zwI Λ pl cv cS rt RP thr XP nL (.iload k) n pc ls st mem J K = (n = 2 ∧ (ls k).1 = 0 ∧ K ls (ls k :: st) mem) := rfl
theorem zi_lload_n (Λ : List zC) (pl : zPo) (cv cS : Nat → Option zCt) (rt : Nat) (RP : Int → zM → Prop) (thr : Nat → Option Nat) (XP : Nat → zM → Prop) (nL : Nat) (k : Fin 4) (n pc : Nat) (ls : zL) (st : List zV) (mem : zM) (J : zJ) (K : zL → List zV → zM → Prop) : zwI Λ pl cv cS rt RP thr XP nL (.lload_n k) n pc ls st mem J K = (n = 1 ∧ (ls k.val).1 = 1 ∧ K ls (ls k.val :: st) mem) := rfl
theorem zi_lload (Λ : List zC) (pl : zPo) (cv cS : Nat → Option zCt) (rt : Nat) (RP : Int → zM → Prop) (thr : Nat → Option Nat) (XP : Nat → zM → Prop) (nL : Nat) (k : Nat) (n pc : Nat) (ls : zL) (st : List zV) (mem : zM) (J : zJ) (K : zL → List zV → zM → Prop) : zwI Λ pl cv cS rt RP thr XP nL (.lload k) n pc ls st mem J K = (n = 2 ∧ (ls k).1 = 1 ∧ K ls (ls k :: st) mem) := rfl
theorem zi_aload_n (Λ : List zC) (pl : zPo) (cv cS : Nat → Option zCt) (rt : Nat) (RP : Int → zM → Prop) (thr : Nat → Option Nat) (XP : Nat → zM → Prop) (nL : Nat) (k : Fin 4) (n pc : Nat) (ls : zL) (st : List zV) (mem : zM) (J : zJ) (K : zL → List zV → zM → Prop) : zwI Λ pl cv cS rt RP thr XP nL (.aload_n k) n pc ls st mem J K = (n = 1 ∧ ((ls k.val).1 = 2 ∨ (ls k.val).1 = 3) ∧ K ls (ls k.val :: st) mem) := rfl
theorem zi_aload (Λ : List zC) (pl : zPo) (cv cS : Nat → Option zCt) (rt : Nat) (RP : Int → zM → Prop) (thr : Nat → Option Nat) (XP : Nat → zM → Prop) (nL : Nat) (k : Nat) (n pc : Nat) (ls : zL) (st : List zV) (mem : zM) (J : zJ) (K : zL → List zV → zM → Prop) : zwI Λ pl cv cS rt RP thr XP nL (.aload k) n pc ls st mem J K = (n = 2 ∧ ((ls k).1 = 2 ∨ (ls k).1 = 3) ∧ K ls (ls k :: st) mem) := rfl
theorem zi_istore_n (Λ : List zC) (pl : zPo) (cv cS : Nat → Option zCt) (rt : Nat) (RP : Int → zM → Prop) (thr : Nat → Option Nat) (XP : Nat → zM → Prop) (nL : Nat) (k : Fin 4) (n pc : Nat) (ls : zL) (st : List zV) (mem : zM) (J : zJ) (K : zL → List zV → zM → Prop) : zwI Λ pl cv cS rt RP thr XP nL (.istore_n k) n pc ls st mem J K = (n = 1 ∧ k.val < nL ∧ zp1 0 st fun x r => K (zst ls k.val (0, x)) r mem) := rfl
theorem zi_istore (Λ : List zC) (pl : zPo) (cv cS : Nat → Option zCt) (rt : Nat) (RP : Int → zM → Prop) (thr : Nat → Option Nat) (XP : Nat → zM → Prop) (nL : Nat) (k : Nat) (n pc : Nat) (ls : zL) (st : List zV) (mem : zM) (J : zJ) (K : zL → List zV → zM → Prop) : zwI Λ pl cv cS rt RP thr XP nL (.istore k) n pc ls st mem J K = (n = 2 ∧ k < nL ∧ zp1 0 st fun x r => K (zst ls k (0, x)) r mem) := rfl
theorem zi_lstore_n (Λ : List zC) (pl : zPo) (cv cS : Nat → Option zCt) (rt : Nat) (RP : Int → zM → Prop) (thr : Nat → Option Nat) (XP : Nat → zM → Prop) (nL : Nat) (k : Fin 4) (n pc : Nat) (ls : zL) (st : List zV) (mem : zM) (J : zJ) (K : zL → List zV → zM → Prop) : zwI Λ pl cv cS rt RP thr XP nL (.lstore_n k) n pc ls st mem J K = (n = 1 ∧ k.val + 1 < nL ∧ zp1 1 st fun x r => K (zst2 ls k.val (1, x)) r mem) := rfl
theorem zi_lstore (Λ : List zC) (pl : zPo) (cv cS : Nat → Option zCt) (rt : Nat) (RP : Int → zM → Prop) (thr : Nat → Option Nat) (XP : Nat → zM → Prop) (nL : Nat) (k : Nat) (n pc : Nat) (ls : zL) (st : List zV) (mem : zM) (J : zJ) (K : zL → List zV → zM → Prop) : zwI Λ pl cv cS rt RP thr XP nL (.lstore k) n pc ls st mem J K = (n = 2 ∧ k + 1 < nL ∧ zp1 1 st fun x r => K (zst2 ls k (1, x)) r mem) := rfl
theorem zi_astore_n (Λ : List zC) (pl : zPo) (cv cS : Nat → Option zCt) (rt : Nat) (RP : Int → zM → Prop) (thr : Nat → Option Nat) (XP : Nat → zM → Prop) (nL : Nat) (k : Fin 4) (n pc : Nat) (ls : zL) (st : List zV) (mem : zM) (J : zJ) (K : zL → List zV → zM → Prop) : zwI Λ pl cv cS rt RP thr XP nL (.astore_n k) n pc ls st mem J K = (n = 1 ∧ k.val < nL ∧ zpv st fun v r => (v.1 = 2 ∨ v.1 = 3) ∧ K (zst ls k.val v) r mem) := rfl
theorem zi_astore (Λ : List zC) (pl : zPo) (cv cS : Nat → Option zCt) (rt : Nat) (RP : Int → zM → Prop) (thr : Nat → Option Nat) (XP : Nat → zM → Prop) (nL : Nat) (k : Nat) (n pc : Nat) (ls : zL) (st : List zV) (mem : zM) (J : zJ) (K : zL → List zV → zM → Prop) : zwI Λ pl cv cS rt RP thr XP nL (.astore k) n pc ls st mem J K = (n = 2 ∧ k < nL ∧ zpv st fun v r => (v.1 = 2 ∨ v.1 = 3) ∧ K (zst ls k v) r mem) := rfl
theorem zi_iinc (Λ : List zC) (pl : zPo) (cv cS : Nat → Option zCt) (rt : Nat) (RP : Int → zM → Prop) (thr : Nat → Option Nat) (XP : Nat → zM → Prop) (nL : Nat) (k : Nat) (x : Int) (n pc : Nat) (ls : zL) (st : List zV) (mem : zM) (J : zJ) (K : zL → List zV → zM → Prop) : zwI Λ pl cv cS rt RP thr XP nL (.iinc k x) n pc ls st mem J K = (n = 3 ∧ k < nL ∧ (ls k).1 = 0 ∧ K (zst ls k (0, zAdd (ls k).2 x)) st mem) := rfl
theorem zi_iadd (Λ : List zC) (pl : zPo) (cv cS : Nat → Option zCt) (rt : Nat) (RP : Int → zM → Prop) (thr : Nat → Option Nat) (XP : Nat → zM → Prop) (nL : Nat) (n pc : Nat) (ls : zL) (st : List zV) (mem : zM) (J : zJ) (K : zL → List zV → zM → Prop) : zwI Λ pl cv cS rt RP thr XP nL (.iadd) n pc ls st mem J K = (n = 1 ∧ zp1 0 st fun y r => zp1 0 r fun x r => K ls ((0, zAdd x y) :: r) mem) := rfl
theorem zi_isub (Λ : List zC) (pl : zPo) (cv cS : Nat → Option zCt) (rt : Nat) (RP : Int → zM → Prop) (thr : Nat → Option Nat) (XP : Nat → zM → Prop) (nL : Nat) (n pc : Nat) (ls : zL) (st : List zV) (mem : zM) (J : zJ) (K : zL → List zV → zM → Prop) : zwI Λ pl cv cS rt RP thr XP nL (.isub) n pc ls st mem J K = (n = 1 ∧ zp1 0 st fun y r => zp1 0 r fun x r => K ls ((0, zSub x y) :: r) mem) := rfl
theorem zi_imul (Λ : List zC) (pl : zPo) (cv cS : Nat → Option zCt) (rt : Nat) (RP : Int → zM → Prop) (thr : Nat → Option Nat) (XP : Nat → zM → Prop) (nL : Nat) (n pc : Nat) (ls : zL) (st : List zV) (mem : zM) (J : zJ) (K : zL → List zV → zM → Prop) : zwI Λ pl cv cS rt RP thr XP nL (.imul) n pc ls st mem J K = (n = 1 ∧ zp1 0 st fun y r => zp1 0 r fun x r => K ls ((0, zMul x y) :: r) mem) := rfl
theorem zi_idiv (Λ : List zC) (pl : zPo) (cv cS : Nat → Option zCt) (rt : Nat) (RP : Int → zM → Prop) (thr : Nat → Option Nat) (XP : Nat → zM → Prop) (nL : Nat) (n pc : Nat) (ls : zL) (st : List zV) (mem : zM) (J : zJ) (K : zL → List zV → zM → Prop) : zwI Λ pl cv cS rt RP thr XP nL (.idiv) n pc ls st mem J K = (n = 1 ∧ zp1 0 st fun y r => zp1 0 r fun x r => ¬ y = 0 ∧ K ls ((0, zDiv x y) :: r) mem) := rfl
theorem zi_irem (Λ : List zC) (pl : zPo) (cv cS : Nat → Option zCt) (rt : Nat) (RP : Int → zM → Prop) (thr : Nat → Option Nat) (XP : Nat → zM → Prop) (nL : Nat) (n pc : Nat) (ls : zL) (st : List zV) (mem : zM) (J : zJ) (K : zL → List zV → zM → Prop) : zwI Λ pl cv cS rt RP thr XP nL (.irem) n pc ls st mem J K = (n = 1 ∧ zp1 0 st fun y r => zp1 0 r fun x r => ¬ y = 0 ∧ K ls ((0, zRem x y) :: r) mem) := rfl
theorem zi_iand (Λ : List zC) (pl : zPo) (cv cS : Nat → Option zCt) (rt : Nat) (RP : Int → zM → Prop) (thr : Nat → Option Nat) (XP : Nat → zM → Prop) (nL : Nat) (n pc : Nat) (ls : zL) (st : List zV) (mem : zM) (J : zJ) (K : zL → List zV → zM → Prop) : zwI Λ pl cv cS rt RP thr XP nL (.iand) n pc ls st mem J K = (n = 1 ∧ zp1 0 st fun y r => zp1 0 r fun x r => K ls ((0, zAnd x y) :: r) mem) := rfl
theorem zi_ior (Λ : List zC) (pl : zPo) (cv cS : Nat → Option zCt) (rt : Nat) (RP : Int → zM → Prop) (thr : Nat → Option Nat) (XP : Nat → zM → Prop) (nL : Nat) (n pc : Nat) (ls : zL) (st : List zV) (mem : zM) (J : zJ) (K : zL → List zV → zM → Prop) : zwI Λ pl cv cS rt RP thr XP nL (.ior) n pc ls st mem J K = (n = 1 ∧ zp1 0 st fun y r => zp1 0 r fun x r => K ls ((0, zOr x y) :: r) mem) := rfl
theorem zi_ixor (Λ : List zC) (pl : zPo) (cv cS : Nat → Option zCt) (rt : Nat) (RP : Int → zM → Prop) (thr : Nat → Option Nat) (XP : Nat → zM → Prop) (nL : Nat) (n pc : Nat) (ls : zL) (st : List zV) (mem : zM) (J : zJ) (K : zL → List zV → zM → Prop) : zwI Λ pl cv cS rt RP thr XP nL (.ixor) n pc ls st mem J K = (n = 1 ∧ zp1 0 st fun y r => zp1 0 r fun x r => K ls ((0, zXor x y) :: r) mem) := rfl
theorem zi_ishl (Λ : List zC) (pl : zPo) (cv cS : Nat → Option zCt) (rt : Nat) (RP : Int → zM → Prop) (thr : Nat → Option Nat) (XP : Nat → zM → Prop) (nL : Nat) (n pc : Nat) (ls : zL) (st : List zV) (mem : zM) (J : zJ) (K : zL → List zV → zM → Prop) : zwI Λ pl cv cS rt RP thr XP nL (.ishl) n pc ls st mem J K = (n = 1 ∧ zp1 0 st fun y r => zp1 0 r fun x r => K ls ((0, zShl x y) :: r) mem) := rfl
theorem zi_ishr (Λ : List zC) (pl : zPo) (cv cS : Nat → Option zCt) (rt : Nat) (RP : Int → zM → Prop) (thr : Nat → Option Nat) (XP : Nat → zM → Prop) (nL : Nat) (n pc : Nat) (ls : zL) (st : List zV) (mem : zM) (J : zJ) (K : zL → List zV → zM → Prop) : zwI Λ pl cv cS rt RP thr XP nL (.ishr) n pc ls st mem J K = (n = 1 ∧ zp1 0 st fun y r => zp1 0 r fun x r => K ls ((0, zShr x y) :: r) mem) := rfl
theorem zi_iushr (Λ : List zC) (pl : zPo) (cv cS : Nat → Option zCt) (rt : Nat) (RP : Int → zM → Prop) (thr : Nat → Option Nat) (XP : Nat → zM → Prop) (nL : Nat) (n pc : Nat) (ls : zL) (st : List zV) (mem : zM) (J : zJ) (K : zL → List zV → zM → Prop) : zwI Λ pl cv cS rt RP thr XP nL (.iushr) n pc ls st mem J K = (n = 1 ∧ zp1 0 st fun y r => zp1 0 r fun x r => K ls ((0, zUsh x y) :: r) mem) := rfl
theorem zi_ineg (Λ : List zC) (pl : zPo) (cv cS : Nat → Option zCt) (rt : Nat) (RP : Int → zM → Prop) (thr : Nat → Option Nat) (XP : Nat → zM → Prop) (nL : Nat) (n pc : Nat) (ls : zL) (st : List zV) (mem : zM) (J : zJ) (K : zL → List zV → zM → Prop) : zwI Λ pl cv cS rt RP thr XP nL (.ineg) n pc ls st mem J K = (n = 1 ∧ zp1 0 st fun x r => K ls ((0, zNeg x) :: r) mem) := rfl
theorem zi_i2b (Λ : List zC) (pl : zPo) (cv cS : Nat → Option zCt) (rt : Nat) (RP : Int → zM → Prop) (thr : Nat → Option Nat) (XP : Nat → zM → Prop) (nL : Nat) (n pc : Nat) (ls : zL) (st : List zV) (mem : zM) (J : zJ) (K : zL → List zV → zM → Prop) : zwI Λ pl cv cS rt RP thr XP nL (.i2b) n pc ls st mem J K = (n = 1 ∧ zp1 0 st fun x r => K ls ((0, zI2b x) :: r) mem) := rfl
theorem zi_i2l (Λ : List zC) (pl : zPo) (cv cS : Nat → Option zCt) (rt : Nat) (RP : Int → zM → Prop) (thr : Nat → Option Nat) (XP : Nat → zM → Prop) (nL : Nat) (n pc : Nat) (ls : zL) (st : List zV) (mem : zM) (J : zJ) (K : zL → List zV → zM → Prop) : zwI Λ pl cv cS rt RP thr XP nL (.i2l) n pc ls st mem J K = (n = 1 ∧ zp1 0 st fun x r => K ls ((1, x) :: r) mem) := rfl
theorem zi_l2i (Λ : List zC) (pl : zPo) (cv cS : Nat → Option zCt) (rt : Nat) (RP : Int → zM → Prop) (thr : Nat → Option Nat) (XP : Nat → zM → Prop) (nL : Nat) (n pc : Nat) (ls : zL) (st : List zV) (mem : zM) (J : zJ) (K : zL → List zV → zM → Prop) : zwI Λ pl cv cS rt RP thr XP nL (.l2i) n pc ls st mem J K = (n = 1 ∧ zp1 1 st fun x r => K ls ((0, zL2i x) :: r) mem) := rfl
theorem zi_ladd (Λ : List zC) (pl : zPo) (cv cS : Nat → Option zCt) (rt : Nat) (RP : Int → zM → Prop) (thr : Nat → Option Nat) (XP : Nat → zM → Prop) (nL : Nat) (n pc : Nat) (ls : zL) (st : List zV) (mem : zM) (J : zJ) (K : zL → List zV → zM → Prop) : zwI Λ pl cv cS rt RP thr XP nL (.ladd) n pc ls st mem J K = (n = 1 ∧ zp1 1 st fun y r => zp1 1 r fun x r => K ls ((1, zLAdd x y) :: r) mem) := rfl
theorem zi_lmul (Λ : List zC) (pl : zPo) (cv cS : Nat → Option zCt) (rt : Nat) (RP : Int → zM → Prop) (thr : Nat → Option Nat) (XP : Nat → zM → Prop) (nL : Nat) (n pc : Nat) (ls : zL) (st : List zV) (mem : zM) (J : zJ) (K : zL → List zV → zM → Prop) : zwI Λ pl cv cS rt RP thr XP nL (.lmul) n pc ls st mem J K = (n = 1 ∧ zp1 1 st fun y r => zp1 1 r fun x r => K ls ((1, zLMul x y) :: r) mem) := rfl
theorem zi_ldiv (Λ : List zC) (pl : zPo) (cv cS : Nat → Option zCt) (rt : Nat) (RP : Int → zM → Prop) (thr : Nat → Option Nat) (XP : Nat → zM → Prop) (nL : Nat) (n pc : Nat) (ls : zL) (st : List zV) (mem : zM) (J : zJ) (K : zL → List zV → zM → Prop) : zwI Λ pl cv cS rt RP thr XP nL (.ldiv) n pc ls st mem J K = (n = 1 ∧ zp1 1 st fun y r => zp1 1 r fun x r => ¬ y = 0 ∧ K ls ((1, zLDiv x y) :: r) mem) := rfl
theorem zi_lrem (Λ : List zC) (pl : zPo) (cv cS : Nat → Option zCt) (rt : Nat) (RP : Int → zM → Prop) (thr : Nat → Option Nat) (XP : Nat → zM → Prop) (nL : Nat) (n pc : Nat) (ls : zL) (st : List zV) (mem : zM) (J : zJ) (K : zL → List zV → zM → Prop) : zwI Λ pl cv cS rt RP thr XP nL (.lrem) n pc ls st mem J K = (n = 1 ∧ zp1 1 st fun y r => zp1 1 r fun x r => ¬ y = 0 ∧ K ls ((1, zLRem x y) :: r) mem) := rfl
theorem zi_lcmp (Λ : List zC) (pl : zPo) (cv cS : Nat → Option zCt) (rt : Nat) (RP : Int → zM → Prop) (thr : Nat → Option Nat) (XP : Nat → zM → Prop) (nL : Nat) (n pc : Nat) (ls : zL) (st : List zV) (mem : zM) (J : zJ) (K : zL → List zV → zM → Prop) : zwI Λ pl cv cS rt RP thr XP nL (.lcmp) n pc ls st mem J K = (n = 1 ∧ zp1 1 st fun y r => zp1 1 r fun x r => K ls ((0, zLcmp x y) :: r) mem) := rfl
theorem zi_dup (Λ : List zC) (pl : zPo) (cv cS : Nat → Option zCt) (rt : Nat) (RP : Int → zM → Prop) (thr : Nat → Option Nat) (XP : Nat → zM → Prop) (nL : Nat) (n pc : Nat) (ls : zL) (st : List zV) (mem : zM) (J : zJ) (K : zL → List zV → zM → Prop) : zwI Λ pl cv cS rt RP thr XP nL (.dup) n pc ls st mem J K = (n = 1 ∧ zpv st fun v r => v.1 ≠ 1 ∧ K ls (v :: v :: r) mem) := rfl
theorem zi_pop (Λ : List zC) (pl : zPo) (cv cS : Nat → Option zCt) (rt : Nat) (RP : Int → zM → Prop) (thr : Nat → Option Nat) (XP : Nat → zM → Prop) (nL : Nat) (n pc : Nat) (ls : zL) (st : List zV) (mem : zM) (J : zJ) (K : zL → List zV → zM → Prop) : zwI Λ pl cv cS rt RP thr XP nL (.pop) n pc ls st mem J K = (n = 1 ∧ zpv st fun v r => v.1 ≠ 1 ∧ K ls r mem) := rfl
theorem zi_dup2 (Λ : List zC) (pl : zPo) (cv cS : Nat → Option zCt) (rt : Nat) (RP : Int → zM → Prop) (thr : Nat → Option Nat) (XP : Nat → zM → Prop) (nL : Nat) (n pc : Nat) (ls : zL) (st : List zV) (mem : zM) (J : zJ) (K : zL → List zV → zM → Prop) : zwI Λ pl cv cS rt RP thr XP nL (.dup2) n pc ls st mem J K = (n = 1 ∧ zpv st fun v r => v.1 ≠ 1 ∧ zpv r fun w r => w.1 ≠ 1 ∧ K ls (v :: w :: v :: w :: r) mem) := rfl
theorem zi_ifCond (Λ : List zC) (pl : zPo) (cv cS : Nat → Option zCt) (rt : Nat) (RP : Int → zM → Prop) (thr : Nat → Option Nat) (XP : Nat → zM → Prop) (nL : Nat) (c : ClassFile.Cond) (o : Int) (n pc : Nat) (ls : zL) (st : List zV) (mem : zM) (J : zJ) (K : zL → List zV → zM → Prop) : zwI Λ pl cv cS rt RP thr XP nL (.ifCond c o) n pc ls st mem J K = (n = 3 ∧ 0 ≤ (pc : Int) + o ∧ zp1 0 st fun x r => (zCmp c x 0 → J ((pc : Int) + o).toNat ls r mem) ∧ (¬ zCmp c x 0 → K ls r mem)) := rfl
theorem zi_if_icmp (Λ : List zC) (pl : zPo) (cv cS : Nat → Option zCt) (rt : Nat) (RP : Int → zM → Prop) (thr : Nat → Option Nat) (XP : Nat → zM → Prop) (nL : Nat) (c : ClassFile.Cond) (o : Int) (n pc : Nat) (ls : zL) (st : List zV) (mem : zM) (J : zJ) (K : zL → List zV → zM → Prop) : zwI Λ pl cv cS rt RP thr XP nL (.if_icmp c o) n pc ls st mem J K = (n = 3 ∧ 0 ≤ (pc : Int) + o ∧ zp1 0 st fun y r => zp1 0 r fun x r => (zCmp c x y → J ((pc : Int) + o).toNat ls r mem) ∧ (¬ zCmp c x y → K ls r mem)) := rfl
theorem zi_goto (Λ : List zC) (pl : zPo) (cv cS : Nat → Option zCt) (rt : Nat) (RP : Int → zM → Prop) (thr : Nat → Option Nat) (XP : Nat → zM → Prop) (nL : Nat) (o : Int) (n pc : Nat) (ls : zL) (st : List zV) (mem : zM) (J : zJ) (K : zL → List zV → zM → Prop) : zwI Λ pl cv cS rt RP thr XP nL (.goto o) n pc ls st mem J K = (n = 3 ∧ ztg pc o fun t => J t ls st mem) := rfl
theorem zi_ifnonnull (Λ : List zC) (pl : zPo) (cv cS : Nat → Option zCt) (rt : Nat) (RP : Int → zM → Prop) (thr : Nat → Option Nat) (XP : Nat → zM → Prop) (nL : Nat) (o : Int) (n pc : Nat) (ls : zL) (st : List zV) (mem : zM) (J : zJ) (K : zL → List zV → zM → Prop) : zwI Λ pl cv cS rt RP thr XP nL (.ifnonnull o) n pc ls st mem J K = (n = 3 ∧ zpv st fun v r => (v.1 = 2 ∨ v.1 = 3) ∧ ztg pc o fun t => J t ls r mem) := rfl
theorem zi_ifnull (Λ : List zC) (pl : zPo) (cv cS : Nat → Option zCt) (rt : Nat) (RP : Int → zM → Prop) (thr : Nat → Option Nat) (XP : Nat → zM → Prop) (nL : Nat) (o : Int) (n pc : Nat) (ls : zL) (st : List zV) (mem : zM) (J : zJ) (K : zL → List zV → zM → Prop) : zwI Λ pl cv cS rt RP thr XP nL (.ifnull o) n pc ls st mem J K = (n = 3 ∧ zpv st fun v r => (v.1 = 2 ∨ v.1 = 3) ∧ K ls r mem) := rfl
theorem zi_tableswitch (Λ : List zC) (pl : zPo) (cv cS : Nat → Option zCt) (rt : Nat) (RP : Int → zM → Prop) (thr : Nat → Option Nat) (XP : Nat → zM → Prop) (nL : Nat) (d : Int) (lo : Int) (hi : Int) (offs : Array Int) (n pc : Nat) (ls : zL) (st : List zV) (mem : zM) (J : zJ) (K : zL → List zV → zM → Prop) : zwI Λ pl cv cS rt RP thr XP nL (.tableswitch d lo hi offs) n pc ls st mem J K = (zp1 0 st fun x r => (offs.size : Int) = hi - lo + 1 ∧ ((x < lo ∨ hi < x) → ztg pc d fun t => J t ls r mem) ∧ zswT pc (fun t => J t ls r mem) x lo offs.toList) := rfl
theorem zi_lookupswitch (Λ : List zC) (pl : zPo) (cv cS : Nat → Option zCt) (rt : Nat) (RP : Int → zM → Prop) (thr : Nat → Option Nat) (XP : Nat → zM → Prop) (nL : Nat) (d : Int) (ps : Array (Int × Int)) (n pc : Nat) (ls : zL) (st : List zV) (mem : zM) (J : zJ) (K : zL → List zV → zM → Prop) : zwI Λ pl cv cS rt RP thr XP nL (.lookupswitch d ps) n pc ls st mem J K = (zp1 0 st fun x r => (ps.toList.zip (ps.toList.drop 1)).all (fun (a, next) => a.1 < next.1) = true ∧ zswL pc (fun t => J t ls r mem) x d ps.toList) := rfl
theorem zi_getfield (Λ : List zC) (pl : zPo) (cv cS : Nat → Option zCt) (rt : Nat) (RP : Int → zM → Prop) (thr : Nat → Option Nat) (XP : Nat → zM → Prop) (nL : Nat) (k : Nat) (n pc : Nat) (ls : zL) (st : List zV) (mem : zM) (J : zJ) (K : zL → List zV → zM → Prop) : zwI Λ pl cv cS rt RP thr XP nL (.getfield k) n pc ls st mem J K = (n = 3 ∧ zp1 2 st fun a r => zpl pl k 0 fun ci f _ => zob Λ a ci f fun t => (t.1 = 0 ∨ t.1 = 2 ∨ t.1 = 4) ∧ K ls (zFv t (mem a.toNat f) :: r) mem) := rfl
theorem zi_putfield (Λ : List zC) (pl : zPo) (cv cS : Nat → Option zCt) (rt : Nat) (RP : Int → zM → Prop) (thr : Nat → Option Nat) (XP : Nat → zM → Prop) (nL : Nat) (k : Nat) (n pc : Nat) (ls : zL) (st : List zV) (mem : zM) (J : zJ) (K : zL → List zV → zM → Prop) : zwI Λ pl cv cS rt RP thr XP nL (.putfield k) n pc ls st mem J K = (n = 3 ∧ zp1 0 st fun v r => zp1 2 r fun a r => zpl pl k 0 fun ci f w => zob Λ a ci f fun t => (t.1 = 0 ∧ w = 1 ∨ t.1 = 4 ∧ w = 2 ∧ (v = 0 ∨ v = 1)) ∧ K ls r (zset mem a.toNat f v)) := rfl
theorem zi_iaload (Λ : List zC) (pl : zPo) (cv cS : Nat → Option zCt) (rt : Nat) (RP : Int → zM → Prop) (thr : Nat → Option Nat) (XP : Nat → zM → Prop) (nL : Nat) (n pc : Nat) (ls : zL) (st : List zV) (mem : zM) (J : zJ) (K : zL → List zV → zM → Prop) : zwI Λ pl cv cS rt RP thr XP nL (.iaload) n pc ls st mem J K = (n = 1 ∧ zp1 0 st fun i r => zpv r fun a r => (a.1 = 2 ∧ zarr Λ 1 a.2 fun N _ => (0 ≤ i ∧ i < N) ∧ K ls ((0, mem a.2.toNat i.toNat) :: r) mem) ∨ (a.1 = 3 ∧ match zStV[a.2.toNat]? with
      | none => False
      | some vs => (0 ≤ i ∧ i < vs.length) ∧ K ls ((0, vs.getD i.toNat 0) :: r) mem)) := rfl
theorem zi_laload (Λ : List zC) (pl : zPo) (cv cS : Nat → Option zCt) (rt : Nat) (RP : Int → zM → Prop) (thr : Nat → Option Nat) (XP : Nat → zM → Prop) (nL : Nat) (n pc : Nat) (ls : zL) (st : List zV) (mem : zM) (J : zJ) (K : zL → List zV → zM → Prop) : zwI Λ pl cv cS rt RP thr XP nL (.laload) n pc ls st mem J K = (n = 1 ∧ zp1 0 st fun i r => zp1 2 r fun a r => zarr Λ 2 a fun N _ => (0 ≤ i ∧ i < N) ∧ K ls ((1, mem a.toNat i.toNat) :: r) mem) := rfl
theorem zi_baload (Λ : List zC) (pl : zPo) (cv cS : Nat → Option zCt) (rt : Nat) (RP : Int → zM → Prop) (thr : Nat → Option Nat) (XP : Nat → zM → Prop) (nL : Nat) (n pc : Nat) (ls : zL) (st : List zV) (mem : zM) (J : zJ) (K : zL → List zV → zM → Prop) : zwI Λ pl cv cS rt RP thr XP nL (.baload) n pc ls st mem J K = (n = 1 ∧ zp1 0 st fun i r => zp1 2 r fun a r => (zarr Λ 3 a fun N _ => (0 ≤ i ∧ i < N) ∧ K ls ((0, mem a.toNat i.toNat) :: r) mem) ∨ (zarr Λ 4 a fun N _ => (0 ≤ i ∧ i < N) ∧ K ls ((0, mem a.toNat i.toNat) :: r) mem)) := rfl
theorem zi_aaload (Λ : List zC) (pl : zPo) (cv cS : Nat → Option zCt) (rt : Nat) (RP : Int → zM → Prop) (thr : Nat → Option Nat) (XP : Nat → zM → Prop) (nL : Nat) (n pc : Nat) (ls : zL) (st : List zV) (mem : zM) (J : zJ) (K : zL → List zV → zM → Prop) : zwI Λ pl cv cS rt RP thr XP nL (.aaload) n pc ls st mem J K = (n = 1 ∧ zp1 0 st fun i r => zp1 2 r fun a r => zarr Λ 5 a fun N ts => (0 ≤ i ∧ i < N ∧ ts.length = N) ∧ zaa (fun t => K ls ((2, (t : Int)) :: r) mem) i 0 ts) := rfl
theorem zi_iastore (Λ : List zC) (pl : zPo) (cv cS : Nat → Option zCt) (rt : Nat) (RP : Int → zM → Prop) (thr : Nat → Option Nat) (XP : Nat → zM → Prop) (nL : Nat) (n pc : Nat) (ls : zL) (st : List zV) (mem : zM) (J : zJ) (K : zL → List zV → zM → Prop) : zwI Λ pl cv cS rt RP thr XP nL (.iastore) n pc ls st mem J K = (n = 1 ∧ zp1 0 st fun v r => zp1 0 r fun i r => zp1 2 r fun a r => zarr Λ 1 a fun N _ => (0 ≤ i ∧ i < N) ∧ K ls r (zset mem a.toNat i.toNat v)) := rfl
theorem zi_lastore (Λ : List zC) (pl : zPo) (cv cS : Nat → Option zCt) (rt : Nat) (RP : Int → zM → Prop) (thr : Nat → Option Nat) (XP : Nat → zM → Prop) (nL : Nat) (n pc : Nat) (ls : zL) (st : List zV) (mem : zM) (J : zJ) (K : zL → List zV → zM → Prop) : zwI Λ pl cv cS rt RP thr XP nL (.lastore) n pc ls st mem J K = (n = 1 ∧ zp1 1 st fun v r => zp1 0 r fun i r => zp1 2 r fun a r => zarr Λ 2 a fun N _ => (0 ≤ i ∧ i < N) ∧ K ls r (zset mem a.toNat i.toNat v)) := rfl
theorem zi_bastore (Λ : List zC) (pl : zPo) (cv cS : Nat → Option zCt) (rt : Nat) (RP : Int → zM → Prop) (thr : Nat → Option Nat) (XP : Nat → zM → Prop) (nL : Nat) (n pc : Nat) (ls : zL) (st : List zV) (mem : zM) (J : zJ) (K : zL → List zV → zM → Prop) : zwI Λ pl cv cS rt RP thr XP nL (.bastore) n pc ls st mem J K = (n = 1 ∧ zp1 0 st fun v r => zp1 0 r fun i r => zp1 2 r fun a r => (zarr Λ 3 a fun N _ => (0 ≤ i ∧ i < N) ∧ (v = 0 ∨ v = 1) ∧ K ls r (zset mem a.toNat i.toNat v)) ∨ (zarr Λ 4 a fun N _ => (0 ≤ i ∧ i < N) ∧ (-128 ≤ v ∧ v ≤ 127) ∧ K ls r (zset mem a.toNat i.toNat v))) := rfl
theorem zi_arraylength (Λ : List zC) (pl : zPo) (cv cS : Nat → Option zCt) (rt : Nat) (RP : Int → zM → Prop) (thr : Nat → Option Nat) (XP : Nat → zM → Prop) (nL : Nat) (n pc : Nat) (ls : zL) (st : List zV) (mem : zM) (J : zJ) (K : zL → List zV → zM → Prop) : zwI Λ pl cv cS rt RP thr XP nL (.arraylength) n pc ls st mem J K = (n = 1 ∧ zp1 2 st fun a r => (zarr Λ 1 a fun N _ => N ≤ 2147483647 ∧ K ls ((0, (N : Int)) :: r) mem) ∨ (zarr Λ 2 a fun N _ => N ≤ 2147483647 ∧ K ls ((0, (N : Int)) :: r) mem)) := rfl
theorem zi_invokevirtual (Λ : List zC) (pl : zPo) (cv cS : Nat → Option zCt) (rt : Nat) (RP : Int → zM → Prop) (thr : Nat → Option Nat) (XP : Nat → zM → Prop) (nL : Nat) (k : Nat) (n pc : Nat) (ls : zL) (st : List zV) (mem : zM) (J : zJ) (K : zL → List zV → zM → Prop) : zwI Λ pl cv cS rt RP thr XP nL (.invokevirtual k) n pc ls st mem J K = (n = 3 ∧ zinv Λ (cv k) st mem (K ls)) := rfl
theorem zi_invokestatic (Λ : List zC) (pl : zPo) (cv cS : Nat → Option zCt) (rt : Nat) (RP : Int → zM → Prop) (thr : Nat → Option Nat) (XP : Nat → zM → Prop) (nL : Nat) (k : Nat) (n pc : Nat) (ls : zL) (st : List zV) (mem : zM) (J : zJ) (K : zL → List zV → zM → Prop) : zwI Λ pl cv cS rt RP thr XP nL (.invokestatic k) n pc ls st mem J K = (n = 3 ∧ (zinv Λ (cS k) st mem (K ls) ∨ zpl pl k 6 fun _ _ _ => zp1 0 st fun N r => zp1 0 r fun dp r => zp1 2 r fun b r => zp1 0 r fun sp r => zp1 2 r fun a r => r = [] ∧ zarr Λ 1 a fun na _ => zarr Λ 1 b fun nb _ => (0 ≤ sp ∧ 0 ≤ dp ∧ 0 ≤ N ∧ sp + N ≤ na ∧ dp + N ≤ nb) ∧ K ls [] (zcopy mem a.toNat sp.toNat b.toNat dp.toNat N.toNat))) := rfl
theorem zi_ireturn (Λ : List zC) (pl : zPo) (cv cS : Nat → Option zCt) (rt : Nat) (RP : Int → zM → Prop) (thr : Nat → Option Nat) (XP : Nat → zM → Prop) (nL : Nat) (n pc : Nat) (ls : zL) (st : List zV) (mem : zM) (J : zJ) (K : zL → List zV → zM → Prop) : zwI Λ pl cv cS rt RP thr XP nL (.ireturn) n pc ls st mem J K = (n = 1 ∧ zp1 0 st fun v r => r = [] ∧ (rt = 0 ∨ rt = 4 ∧ (v = 0 ∨ v = 1)) ∧ RP v mem) := rfl
theorem zi_lreturn (Λ : List zC) (pl : zPo) (cv cS : Nat → Option zCt) (rt : Nat) (RP : Int → zM → Prop) (thr : Nat → Option Nat) (XP : Nat → zM → Prop) (nL : Nat) (n pc : Nat) (ls : zL) (st : List zV) (mem : zM) (J : zJ) (K : zL → List zV → zM → Prop) : zwI Λ pl cv cS rt RP thr XP nL (.lreturn) n pc ls st mem J K = (n = 1 ∧ zp1 1 st fun v r => r = [] ∧ rt = 1 ∧ RP v mem) := rfl
theorem zi_return_ (Λ : List zC) (pl : zPo) (cv cS : Nat → Option zCt) (rt : Nat) (RP : Int → zM → Prop) (thr : Nat → Option Nat) (XP : Nat → zM → Prop) (nL : Nat) (n pc : Nat) (ls : zL) (st : List zV) (mem : zM) (J : zJ) (K : zL → List zV → zM → Prop) : zwI Λ pl cv cS rt RP thr XP nL (.return_) n pc ls st mem J K = (n = 1 ∧ st = [] ∧ rt = 9 ∧ RP 0 mem) := rfl
theorem zi_new (Λ : List zC) (pl : zPo) (cv cS : Nat → Option zCt) (rt : Nat) (RP : Int → zM → Prop) (thr : Nat → Option Nat) (XP : Nat → zM → Prop) (nL : Nat) (k : Nat) (n pc : Nat) (ls : zL) (st : List zV) (mem : zM) (J : zJ) (K : zL → List zV → zM → Prop) : zwI Λ pl cv cS rt RP thr XP nL (.new k) n pc ls st mem J K = (st = [] ∧ match thr pc with
    | none => False
    | some E => XP E mem) := rfl
def zgo (Λ : List zC) (pl : zPo) (cv cS : Nat → Option zCt) (rt : Nat) (RP : Int → zM → Prop) (thr : Nat → Option Nat) (XP : Nat → zM → Prop) (nL : Nat) (B : Nat → List (Instr × Nat)) (X : Nat → Option (zL → List zV → zM → Prop)) (f : Nat) : zJ := fun pc ls st mem => match X pc with
  | some Jn => Jn ls st mem
  | none => zwp Λ pl cv cS rt RP thr XP nL B X f pc ls st mem
section ZW
variable (Λ : List zC) (pl : zPo) (cv cS : Nat → Option zCt) (rt : Nat) (RP : Int → zM → Prop) (thr : Nat → Option Nat) (XP : Nat → zM → Prop) (nL : Nat) (B : Nat → List (Instr × Nat))
theorem zwp_s (X : Nat → Option (zL → List zV → zM → Prop)) (f pc : Nat) (ls : zL) (st : List zV) (mem : zM) : zwp Λ pl cv cS rt RP thr XP nL B X (f + 1) pc ls st mem = zrun Λ pl cv cS rt RP thr XP nL (zgo Λ pl cv cS rt RP thr XP nL B X f) (B pc) pc ls st mem := rfl
theorem zrun_n (J : zJ) (pc : Nat) (ls : zL) (st : List zV) (mem : zM) : zrun Λ pl cv cS rt RP thr XP nL J [] pc ls st mem = J pc ls st mem := rfl
theorem zrun_c (J : zJ) (i : Instr) (n : Nat) (r : List (Instr × Nat)) (pc : Nat) (ls : zL) (st : List zV) (mem : zM) : zrun Λ pl cv cS rt RP thr XP nL J ((i, n) :: r) pc ls st mem = zwI Λ pl cv cS rt RP thr XP nL i n pc ls st mem J (fun ls' st' mem' => zrun Λ pl cv cS rt RP thr XP nL J r (pc + n) ls' st' mem') := rfl
def zgA (X : Nat → Option (zL → List zV → zM → Prop)) (f : Nat) : List (Nat × (Nat → zL → List zV → zM → Prop)) → zJ
  | [], pc, ls, st, mem => zwp Λ pl cv cS rt RP thr XP nL B X f pc ls st mem
  | q :: r, pc, ls, st, mem => if q.1 = pc then ∃ n', q.2 n' ls st mem else zgA X f r pc ls st mem
def zgB (n : Nat) (X : Nat → Option (zL → List zV → zM → Prop)) (f : Nat) : List (Nat × (Nat → zL → List zV → zM → Prop)) → zJ
  | [], pc, ls, st, mem => zwp Λ pl cv cS rt RP thr XP nL B X f pc ls st mem
  | q :: r, pc, ls, st, mem => if q.1 = pc then ∃ n', n' < n ∧ q.2 n' ls st mem else zgB n X f r pc ls st mem
theorem zgo_any (L : List (Nat × (Nat → zL → List zV → zM → Prop))) (f pc : Nat) (ls : zL) (st : List zV) (mem : zM) : zgo Λ pl cv cS rt RP thr XP nL B (zAny (zIf L)) f pc ls st mem = zgA Λ pl cv cS rt RP thr XP nL B (zAny (zIf L)) f L pc ls st mem := by
  unfold zgo
  generalize hX : zAny (zIf L) = X
  have hX' : X pc = zAny (zIf L) pc := by rw [hX]
  rw [hX']
  clear hX hX'
  induction L with
  | nil => rfl
  | cons q r ih =>
    by_cases h : q.1 = pc
    · have e : zAny (zIf (q :: r)) pc = some fun ls st mem => ∃ n', q.2 n' ls st mem := by simp [zAny, zIf, h]
      rw [e]
      simp [zgA, h]
    · have e : zAny (zIf (q :: r)) pc = zAny (zIf r) pc := by simp [zAny, zIf, h]
      rw [e, ih]
      simp [zgA, h]
theorem zgo_bel (n : Nat) (L : List (Nat × (Nat → zL → List zV → zM → Prop))) (f pc : Nat) (ls : zL) (st : List zV) (mem : zM) : zgo Λ pl cv cS rt RP thr XP nL B (zBelow (zIf L) n) f pc ls st mem = zgB Λ pl cv cS rt RP thr XP nL B n (zBelow (zIf L) n) f L pc ls st mem := by
  unfold zgo
  generalize hX : zBelow (zIf L) n = X
  have hX' : X pc = zBelow (zIf L) n pc := by rw [hX]
  rw [hX']
  clear hX hX'
  induction L with
  | nil => rfl
  | cons q r ih =>
    by_cases h : q.1 = pc
    · have e : zBelow (zIf (q :: r)) n pc = some fun ls st mem => ∃ n', n' < n ∧ q.2 n' ls st mem := by simp [zBelow, zIf, h]
      rw [e]
      simp [zgB, h]
    · have e : zBelow (zIf (q :: r)) n pc = zBelow (zIf r) n pc := by simp [zBelow, zIf, h]
      rw [e, ih]
      simp [zgB, h]
theorem zgA_n (X : Nat → Option (zL → List zV → zM → Prop)) (f pc : Nat) (ls : zL) (st : List zV) (mem : zM) : zgA Λ pl cv cS rt RP thr XP nL B X f [] pc ls st mem = zwp Λ pl cv cS rt RP thr XP nL B X f pc ls st mem := rfl
theorem zgA_c (X : Nat → Option (zL → List zV → zM → Prop)) (f k : Nat) (J : Nat → zL → List zV → zM → Prop) (r : List (Nat × (Nat → zL → List zV → zM → Prop))) (pc : Nat) (ls : zL) (st : List zV) (mem : zM) : zgA Λ pl cv cS rt RP thr XP nL B X f ((k, J) :: r) pc ls st mem = if k = pc then ∃ n', J n' ls st mem else zgA Λ pl cv cS rt RP thr XP nL B X f r pc ls st mem := rfl
theorem zgB_n (n : Nat) (X : Nat → Option (zL → List zV → zM → Prop)) (f pc : Nat) (ls : zL) (st : List zV) (mem : zM) : zgB Λ pl cv cS rt RP thr XP nL B n X f [] pc ls st mem = zwp Λ pl cv cS rt RP thr XP nL B X f pc ls st mem := rfl
theorem zgB_c (n : Nat) (X : Nat → Option (zL → List zV → zM → Prop)) (f k : Nat) (J : Nat → zL → List zV → zM → Prop) (r : List (Nat × (Nat → zL → List zV → zM → Prop))) (pc : Nat) (ls : zL) (st : List zV) (mem : zM) : zgB Λ pl cv cS rt RP thr XP nL B n X f ((k, J) :: r) pc ls st mem = if k = pc then ∃ n', n' < n ∧ J n' ls st mem else zgB Λ pl cv cS rt RP thr XP nL B n X f r pc ls st mem := rfl
end ZW
theorem zp1_c (t u : Nat) (x : Int) (r : List zV) (f : Int → List zV → Prop) : zp1 t ((u, x) :: r) f = (u = t ∧ f x r) := rfl
theorem zpv_c (v : zV) (r : List zV) (f : zV → List zV → Prop) : zpv (v :: r) f = f v r := rfl
theorem zpl_e {pl : zPo} {k : Nat} {q : Nat × Nat × Nat × Int} (h : pl k = some q) (kd : Nat) (F : Nat → Nat → Int → Prop) : zpl pl k kd F = (q.1 = kd ∧ F q.2.1 q.2.2.1 q.2.2.2) := by unfold zpl; rw [h]
theorem ztg_e (pc : Nat) (off : Int) (J : Nat → Prop) : ztg pc off J = (0 ≤ (pc : Int) + off ∧ J ((pc : Int) + off).toNat) := rfl
theorem zswT_n (pc : Nat) (J : Nat → Prop) (x k : Int) : zswT pc J x k [] = True := rfl
theorem zswT_c (pc : Nat) (J : Nat → Prop) (x k o : Int) (r : List Int) : zswT pc J x k (o :: r) = ((x = k → ztg pc o J) ∧ zswT pc J x (k + 1) r) := rfl
theorem zswL_n (pc : Nat) (J : Nat → Prop) (x d : Int) : zswL pc J x d [] = ztg pc d J := rfl
theorem zswL_c (pc : Nat) (J : Nat → Prop) (x d a o : Int) (r : List (Int × Int)) : zswL pc J x d ((a, o) :: r) = ((x = a → ztg pc o J) ∧ (¬ x = a → zswL pc J x d r)) := rfl
theorem zaa_n (K : Nat → Prop) (i k : Int) : zaa K i k [] = True := rfl
theorem zaa_c (K : Nat → Prop) (i k : Int) (a b : Nat) (r : List (Nat × Nat)) : zaa K i k ((a, b) :: r) = ((i = k → K b) ∧ zaa K i (k + 1) r) := rfl
theorem zFv_r (t : Nat) (x : Int) : zFv (2, t) x = (2, (t : Int)) := rfl
theorem zFv_i (t : Nat) (x : Int) : zFv (0, t) x = (0, x) := rfl
theorem zFv_z (t : Nat) (x : Int) : zFv (4, t) x = (0, x) := rfl
theorem zent_n (k j : Nat) : zent k [] j = (9, 0) := rfl
theorem zent_c (k : Nat) (t : Nat) (x : Int) (r : List zV) (j : Nat) : zent k ((t, x) :: r) j = if j = k then (t, x) else zent (if t = 1 then k + 2 else k + 1) r j := rfl
theorem zst_e (ls : zL) (i : Nat) (v : zV) (j : Nat) : zst ls i v j = if j = i then v else if j + 1 = i ∧ (ls j).1 = 1 then (9, 0) else ls j := rfl
theorem zst2_e (ls : zL) (i : Nat) (v : zV) (j : Nat) : zst2 ls i v j = if j = i then v else if j = i + 1 then (9, 0) else if j + 1 = i ∧ (ls j).1 = 1 then (9, 0) else ls j := rfl
theorem zset_e (mem : zM) (a k : Nat) (v : Int) (b j : Nat) : zset mem a k v b j = if b = a then (if j = k then v else mem b j) else mem b j := rfl
theorem zcopy_e (mem : zM) (a sp b dp n c j : Nat) : zcopy mem a sp b dp n c j = if c = b then (if dp ≤ j ∧ j < dp + n then mem a (sp + (j - dp)) else mem c j) else mem c j := rfl
/-- contracts: pure ones leave the cells as they are -/
def zpu (P : List Int → zM → Int → Prop) : List Int → zM → Int → zM → Prop := fun vs mem r mem' => mem' = mem ∧ P vs mem r
def zfu (f : List Int → zM → Int) : List Int → zM → Int → zM → Prop := fun vs mem r mem' => mem' = mem ∧ r = f vs mem
def zIV (Λ : List zC) (tags : List Nat) (rt : Nat) (pre : List Int → zM → Prop) (st : List zV) (mem : zM) (R : List Int → Prop) : Prop := (st.take tags.length).map (·.1) = tags.reverse ∧ zcats (st.drop tags.length) ≤ 8 ∧ pre ((st.take tags.length).map (·.2)).reverse mem ∧ R ((st.take tags.length).map (·.2)).reverse
theorem zinv_g (Λ : List zC) (tags : List Nat) (rt : Nat) (pre : List Int → zM → Prop) (post : List Int → zM → Int → zM → Prop) (st : List zV) (mem : zM) (K : List zV → zM → Prop) : zinv Λ (some (tags, rt, pre, post)) st mem K = zIV Λ tags rt pre st mem (fun vs => ∀ (r : Int) (mem' : zM), zrt rt r → zokM Λ mem' → post vs mem r mem' → K (zres rt r (st.drop tags.length)) mem') := rfl
theorem zinv_p (Λ : List zC) (tags : List Nat) (rt : Nat) (pre : List Int → zM → Prop) (P : List Int → zM → Int → Prop) (st : List zV) (mem : zM) (K : List zV → zM → Prop) : zinv Λ (some (tags, rt, pre, zpu P)) st mem K = zIV Λ tags rt pre st mem (fun vs => ∀ (r : Int), zrt rt r → zokM Λ mem → P vs mem r → K (zres rt r (st.drop tags.length)) mem) := by
  rw [zinv_g]
  congr 1
  funext vs
  apply propext
  constructor
  · intro h r h1 h2 h3; exact h r mem h1 h2 ⟨rfl, h3⟩
  · intro h r mem' h1 h2 h3; obtain ⟨rfl, h3⟩ := h3; exact h r h1 h2 h3
theorem zinv_f (Λ : List zC) (tags : List Nat) (rt : Nat) (pre : List Int → zM → Prop) (f : List Int → zM → Int) (st : List zV) (mem : zM) (K : List zV → zM → Prop) : zinv Λ (some (tags, rt, pre, zfu f)) st mem K = zIV Λ tags rt pre st mem (fun vs => zrt rt (f vs mem) → zokM Λ mem → K (zres rt (f vs mem) (st.drop tags.length)) mem) := by
  rw [zinv_g]
  congr 1
  funext vs
  apply propext
  constructor
  · intro h h1 h2; exact h _ mem h1 h2 ⟨rfl, rfl⟩
  · intro h r mem' h1 h2 h3; obtain ⟨rfl, rfl⟩ := h3; exact h h1 h2
theorem zIV_e (Λ : List zC) (tags : List Nat) (rt : Nat) (pre : List Int → zM → Prop) (st : List zV) (mem : zM) (R : List Int → Prop) : zIV Λ tags rt pre st mem R = ((st.take tags.length).map (·.1) = tags.reverse ∧ zcats (st.drop tags.length) ≤ 8 ∧ pre ((st.take tags.length).map (·.2)).reverse mem ∧ R ((st.take tags.length).map (·.2)).reverse) := rfl
theorem zres_0 (r : Int) (rest : List zV) : zres 0 r rest = (0, r) :: rest := rfl
theorem zres_4 (r : Int) (rest : List zV) : zres 4 r rest = (0, r) :: rest := rfl
theorem zres_1 (r : Int) (rest : List zV) : zres 1 r rest = (1, r) :: rest := rfl
theorem zres_9 (r : Int) (rest : List zV) : zres 9 r rest = rest := rfl
theorem zrt_0 (r : Int) : zrt 0 r = (-2147483648 ≤ r ∧ r ≤ 2147483647) := rfl
theorem zrt_4 (r : Int) : zrt 4 r = (-2147483648 ≤ r ∧ r ≤ 2147483647) := rfl
theorem zrt_1 (r : Int) : zrt 1 r = (-9223372036854775808 ≤ r ∧ r ≤ 9223372036854775807) := rfl
theorem zrt_9 (r : Int) : zrt 9 r = (r = 0) := rfl
theorem zcmp_eq (x y : Int) : zCmp .eq x y = (x = y) := rfl
theorem zcmp_ne (x y : Int) : zCmp .ne x y = (¬ x = y) := rfl
theorem zcmp_lt (x y : Int) : zCmp .lt x y = (x < y) := rfl
theorem zcmp_ge (x y : Int) : zCmp .ge x y = (y ≤ x) := rfl
theorem zcmp_gt (x y : Int) : zCmp .gt x y = (y < x) := rfl
theorem zcmp_le (x y : Int) : zCmp .le x y = (x ≤ y) := rfl
theorem zAdd_e (x y : Int) : zAdd x y = zw (x + y) := by rw [zAdd, Int32.toInt_add, Int32.toInt_ofInt, Int32.toInt_ofInt, show Int32.size = 4294967296 from rfl, show (2 : Nat) ^ 32 = 4294967296 from rfl, ← zw_bmod]; simp only [Int.bmod]; omega
theorem zSub_e (x y : Int) : zSub x y = zw (x - y) := by rw [zSub, Int32.toInt_sub, Int32.toInt_ofInt, Int32.toInt_ofInt, show Int32.size = 4294967296 from rfl, show (2 : Nat) ^ 32 = 4294967296 from rfl, ← zw_bmod]; simp only [Int.bmod]; omega
theorem zMul_e (x y : Int) : zMul x y = zw (x * y) := by rw [zMul, ← zw_bmod, Int32.toInt_mul, Int32.toInt_ofInt, Int32.toInt_ofInt, show Int32.size = 4294967296 from rfl, show (2 : Nat) ^ 32 = 4294967296 from rfl, Int.bmod_mul_bmod, Int.mul_bmod_bmod]
theorem zlen1 {vs : List Int} (h : vs.length = 1) : ∃ a, vs = [a] := by
  match vs, h with
  | [a], _ => exact ⟨a, rfl⟩
theorem zlen2 {vs : List Int} (h : vs.length = 2) : ∃ a b, vs = [a, b] := by
  match vs, h with
  | [a, b], _ => exact ⟨a, b, rfl⟩
theorem zlen3 {vs : List Int} (h : vs.length = 3) : ∃ a b c, vs = [a, b, c] := by
  match vs, h with
  | [a, b, c], _ => exact ⟨a, b, c, rfl⟩
theorem zlen4 {vs : List Int} (h : vs.length = 4) : ∃ a b c d, vs = [a, b, c, d] := by
  match vs, h with
  | [a, b, c, d], _ => exact ⟨a, b, c, d, rfl⟩
theorem zlen5 {vs : List Int} (h : vs.length = 5) : ∃ a b c d e, vs = [a, b, c, d, e] := by
  match vs, h with
  | [a, b, c, d, e], _ => exact ⟨a, b, c, d, e, rfl⟩
theorem zlen6 {vs : List Int} (h : vs.length = 6) : ∃ a b c d e f, vs = [a, b, c, d, e, f] := by
  match vs, h with
  | [a, b, c, d, e, f], _ => exact ⟨a, b, c, d, e, f, rfl⟩

theorem zo_0_0 (ci : Nat) (F : Nat × Nat → Prop) : zob zLay 0 ci 0 F = (10 = ci ∧ F (2, 1)) := propext ⟨fun h => ⟨h.2.1, h.2.2⟩, fun h => ⟨rfl, h.1, h.2⟩⟩
theorem zo_0_1 (ci : Nat) (F : Nat × Nat → Prop) : zob zLay 0 ci 1 F = (10 = ci ∧ F (2, 23)) := propext ⟨fun h => ⟨h.2.1, h.2.2⟩, fun h => ⟨rfl, h.1, h.2⟩⟩
theorem zo_0_2 (ci : Nat) (F : Nat × Nat → Prop) : zob zLay 0 ci 2 F = (10 = ci ∧ F (4, 0)) := propext ⟨fun h => ⟨h.2.1, h.2.2⟩, fun h => ⟨rfl, h.1, h.2⟩⟩
theorem zo_0_3 (ci : Nat) (F : Nat × Nat → Prop) : zob zLay 0 ci 3 F = (10 = ci ∧ F (2, 45)) := propext ⟨fun h => ⟨h.2.1, h.2.2⟩, fun h => ⟨rfl, h.1, h.2⟩⟩
theorem zo_0_4 (ci : Nat) (F : Nat × Nat → Prop) : zob zLay 0 ci 4 F = (10 = ci ∧ F (2, 48)) := propext ⟨fun h => ⟨h.2.1, h.2.2⟩, fun h => ⟨rfl, h.1, h.2⟩⟩
theorem zo_0_5 (ci : Nat) (F : Nat × Nat → Prop) : zob zLay 0 ci 5 F = (10 = ci ∧ F (2, 55)) := propext ⟨fun h => ⟨h.2.1, h.2.2⟩, fun h => ⟨rfl, h.1, h.2⟩⟩
theorem zo_0_6 (ci : Nat) (F : Nat × Nat → Prop) : zob zLay 0 ci 6 F = (10 = ci ∧ F (0, 0)) := propext ⟨fun h => ⟨h.2.1, h.2.2⟩, fun h => ⟨rfl, h.1, h.2⟩⟩
theorem zo_0_7 (ci : Nat) (F : Nat × Nat → Prop) : zob zLay 0 ci 7 F = (10 = ci ∧ F (2, 56)) := propext ⟨fun h => ⟨h.2.1, h.2.2⟩, fun h => ⟨rfl, h.1, h.2⟩⟩
theorem zo_0_8 (ci : Nat) (F : Nat × Nat → Prop) : zob zLay 0 ci 8 F = (10 = ci ∧ F (2, 59)) := propext ⟨fun h => ⟨h.2.1, h.2.2⟩, fun h => ⟨rfl, h.1, h.2⟩⟩
theorem zo_1_0 (ci : Nat) (F : Nat × Nat → Prop) : zob zLay 1 ci 0 F = (9 = ci ∧ F (2, 2)) := propext ⟨fun h => ⟨h.2.1, h.2.2⟩, fun h => ⟨rfl, h.1, h.2⟩⟩
theorem zo_1_1 (ci : Nat) (F : Nat × Nat → Prop) : zob zLay 1 ci 1 F = (9 = ci ∧ F (2, 5)) := propext ⟨fun h => ⟨h.2.1, h.2.2⟩, fun h => ⟨rfl, h.1, h.2⟩⟩
theorem zo_1_2 (ci : Nat) (F : Nat × Nat → Prop) : zob zLay 1 ci 2 F = (9 = ci ∧ F (2, 12)) := propext ⟨fun h => ⟨h.2.1, h.2.2⟩, fun h => ⟨rfl, h.1, h.2⟩⟩
theorem zo_1_3 (ci : Nat) (F : Nat × Nat → Prop) : zob zLay 1 ci 3 F = (9 = ci ∧ F (2, 16)) := propext ⟨fun h => ⟨h.2.1, h.2.2⟩, fun h => ⟨rfl, h.1, h.2⟩⟩
theorem zo_1_4 (ci : Nat) (F : Nat × Nat → Prop) : zob zLay 1 ci 4 F = (9 = ci ∧ F (2, 22)) := propext ⟨fun h => ⟨h.2.1, h.2.2⟩, fun h => ⟨rfl, h.1, h.2⟩⟩
theorem zo_1_5 (ci : Nat) (F : Nat × Nat → Prop) : zob zLay 1 ci 5 F = (9 = ci ∧ F (0, 0)) := propext ⟨fun h => ⟨h.2.1, h.2.2⟩, fun h => ⟨rfl, h.1, h.2⟩⟩
theorem zo_1_6 (ci : Nat) (F : Nat × Nat → Prop) : zob zLay 1 ci 6 F = (9 = ci ∧ F (0, 0)) := propext ⟨fun h => ⟨h.2.1, h.2.2⟩, fun h => ⟨rfl, h.1, h.2⟩⟩
theorem zo_1_7 (ci : Nat) (F : Nat × Nat → Prop) : zob zLay 1 ci 7 F = (9 = ci ∧ F (0, 0)) := propext ⟨fun h => ⟨h.2.1, h.2.2⟩, fun h => ⟨rfl, h.1, h.2⟩⟩
theorem zo_1_8 (ci : Nat) (F : Nat × Nat → Prop) : zob zLay 1 ci 8 F = (9 = ci ∧ F (0, 0)) := propext ⟨fun h => ⟨h.2.1, h.2.2⟩, fun h => ⟨rfl, h.1, h.2⟩⟩
theorem zo_1_9 (ci : Nat) (F : Nat × Nat → Prop) : zob zLay 1 ci 9 F = (9 = ci ∧ F (0, 0)) := propext ⟨fun h => ⟨h.2.1, h.2.2⟩, fun h => ⟨rfl, h.1, h.2⟩⟩
theorem zo_2_0 (ci : Nat) (F : Nat × Nat → Prop) : zob zLay 2 ci 0 F = (0 = ci ∧ F (2, 3)) := propext ⟨fun h => ⟨h.2.1, h.2.2⟩, fun h => ⟨rfl, h.1, h.2⟩⟩
theorem zo_2_1 (ci : Nat) (F : Nat × Nat → Prop) : zob zLay 2 ci 1 F = (0 = ci ∧ F (2, 4)) := propext ⟨fun h => ⟨h.2.1, h.2.2⟩, fun h => ⟨rfl, h.1, h.2⟩⟩
theorem zo_2_2 (ci : Nat) (F : Nat × Nat → Prop) : zob zLay 2 ci 2 F = (0 = ci ∧ F (0, 0)) := propext ⟨fun h => ⟨h.2.1, h.2.2⟩, fun h => ⟨rfl, h.1, h.2⟩⟩
theorem za_3 (kd : Nat) (F : Nat → List (Nat × Nat) → Prop) : zarr zLay kd 3 F = (1 = kd ∧ F 100 []) := rfl
theorem za_4 (kd : Nat) (F : Nat → List (Nat × Nat) → Prop) : zarr zLay kd 4 F = (1 = kd ∧ F 100 []) := rfl
theorem zo_5_0 (ci : Nat) (F : Nat × Nat → Prop) : zob zLay 5 ci 0 F = (8 = ci ∧ F (2, 6)) := propext ⟨fun h => ⟨h.2.1, h.2.2⟩, fun h => ⟨rfl, h.1, h.2⟩⟩
theorem zo_5_1 (ci : Nat) (F : Nat × Nat → Prop) : zob zLay 5 ci 1 F = (8 = ci ∧ F (2, 7)) := propext ⟨fun h => ⟨h.2.1, h.2.2⟩, fun h => ⟨rfl, h.1, h.2⟩⟩
theorem zo_5_2 (ci : Nat) (F : Nat × Nat → Prop) : zob zLay 5 ci 2 F = (8 = ci ∧ F (2, 8)) := propext ⟨fun h => ⟨h.2.1, h.2.2⟩, fun h => ⟨rfl, h.1, h.2⟩⟩
theorem zo_5_3 (ci : Nat) (F : Nat × Nat → Prop) : zob zLay 5 ci 3 F = (8 = ci ∧ F (2, 9)) := propext ⟨fun h => ⟨h.2.1, h.2.2⟩, fun h => ⟨rfl, h.1, h.2⟩⟩
theorem zo_5_4 (ci : Nat) (F : Nat × Nat → Prop) : zob zLay 5 ci 4 F = (8 = ci ∧ F (0, 0)) := propext ⟨fun h => ⟨h.2.1, h.2.2⟩, fun h => ⟨rfl, h.1, h.2⟩⟩
theorem zo_5_5 (ci : Nat) (F : Nat × Nat → Prop) : zob zLay 5 ci 5 F = (8 = ci ∧ F (2, 10)) := propext ⟨fun h => ⟨h.2.1, h.2.2⟩, fun h => ⟨rfl, h.1, h.2⟩⟩
theorem zo_5_6 (ci : Nat) (F : Nat × Nat → Prop) : zob zLay 5 ci 6 F = (8 = ci ∧ F (2, 11)) := propext ⟨fun h => ⟨h.2.1, h.2.2⟩, fun h => ⟨rfl, h.1, h.2⟩⟩
theorem zo_5_7 (ci : Nat) (F : Nat × Nat → Prop) : zob zLay 5 ci 7 F = (8 = ci ∧ F (0, 0)) := propext ⟨fun h => ⟨h.2.1, h.2.2⟩, fun h => ⟨rfl, h.1, h.2⟩⟩
theorem zo_5_8 (ci : Nat) (F : Nat × Nat → Prop) : zob zLay 5 ci 8 F = (8 = ci ∧ F (0, 0)) := propext ⟨fun h => ⟨h.2.1, h.2.2⟩, fun h => ⟨rfl, h.1, h.2⟩⟩
theorem za_6 (kd : Nat) (F : Nat → List (Nat × Nat) → Prop) : zarr zLay kd 6 F = (1 = kd ∧ F 16 []) := rfl
theorem za_7 (kd : Nat) (F : Nat → List (Nat × Nat) → Prop) : zarr zLay kd 7 F = (1 = kd ∧ F 16 []) := rfl
theorem za_8 (kd : Nat) (F : Nat → List (Nat × Nat) → Prop) : zarr zLay kd 8 F = (1 = kd ∧ F 16 []) := rfl
theorem za_9 (kd : Nat) (F : Nat → List (Nat × Nat) → Prop) : zarr zLay kd 9 F = (1 = kd ∧ F 16 []) := rfl
theorem za_10 (kd : Nat) (F : Nat → List (Nat × Nat) → Prop) : zarr zLay kd 10 F = (1 = kd ∧ F 16 []) := rfl
theorem za_11 (kd : Nat) (F : Nat → List (Nat × Nat) → Prop) : zarr zLay kd 11 F = (1 = kd ∧ F 16 []) := rfl
theorem zo_12_0 (ci : Nat) (F : Nat × Nat → Prop) : zob zLay 12 ci 0 F = (1 = ci ∧ F (2, 13)) := propext ⟨fun h => ⟨h.2.1, h.2.2⟩, fun h => ⟨rfl, h.1, h.2⟩⟩
theorem zo_12_1 (ci : Nat) (F : Nat × Nat → Prop) : zob zLay 12 ci 1 F = (1 = ci ∧ F (2, 14)) := propext ⟨fun h => ⟨h.2.1, h.2.2⟩, fun h => ⟨rfl, h.1, h.2⟩⟩
theorem zo_12_2 (ci : Nat) (F : Nat × Nat → Prop) : zob zLay 12 ci 2 F = (1 = ci ∧ F (2, 15)) := propext ⟨fun h => ⟨h.2.1, h.2.2⟩, fun h => ⟨rfl, h.1, h.2⟩⟩
theorem zo_12_3 (ci : Nat) (F : Nat × Nat → Prop) : zob zLay 12 ci 3 F = (1 = ci ∧ F (0, 0)) := propext ⟨fun h => ⟨h.2.1, h.2.2⟩, fun h => ⟨rfl, h.1, h.2⟩⟩
theorem za_13 (kd : Nat) (F : Nat → List (Nat × Nat) → Prop) : zarr zLay kd 13 F = (1 = kd ∧ F 4 []) := rfl
theorem za_14 (kd : Nat) (F : Nat → List (Nat × Nat) → Prop) : zarr zLay kd 14 F = (1 = kd ∧ F 4 []) := rfl
theorem za_15 (kd : Nat) (F : Nat → List (Nat × Nat) → Prop) : zarr zLay kd 15 F = (1 = kd ∧ F 4 []) := rfl
theorem zo_16_0 (ci : Nat) (F : Nat × Nat → Prop) : zob zLay 16 ci 0 F = (2 = ci ∧ F (2, 17)) := propext ⟨fun h => ⟨h.2.1, h.2.2⟩, fun h => ⟨rfl, h.1, h.2⟩⟩
theorem zo_16_1 (ci : Nat) (F : Nat × Nat → Prop) : zob zLay 16 ci 1 F = (2 = ci ∧ F (2, 18)) := propext ⟨fun h => ⟨h.2.1, h.2.2⟩, fun h => ⟨rfl, h.1, h.2⟩⟩
theorem zo_16_2 (ci : Nat) (F : Nat × Nat → Prop) : zob zLay 16 ci 2 F = (2 = ci ∧ F (2, 19)) := propext ⟨fun h => ⟨h.2.1, h.2.2⟩, fun h => ⟨rfl, h.1, h.2⟩⟩
theorem zo_16_3 (ci : Nat) (F : Nat × Nat → Prop) : zob zLay 16 ci 3 F = (2 = ci ∧ F (2, 20)) := propext ⟨fun h => ⟨h.2.1, h.2.2⟩, fun h => ⟨rfl, h.1, h.2⟩⟩
theorem zo_16_4 (ci : Nat) (F : Nat × Nat → Prop) : zob zLay 16 ci 4 F = (2 = ci ∧ F (0, 0)) := propext ⟨fun h => ⟨h.2.1, h.2.2⟩, fun h => ⟨rfl, h.1, h.2⟩⟩
theorem zo_16_5 (ci : Nat) (F : Nat × Nat → Prop) : zob zLay 16 ci 5 F = (2 = ci ∧ F (0, 0)) := propext ⟨fun h => ⟨h.2.1, h.2.2⟩, fun h => ⟨rfl, h.1, h.2⟩⟩
theorem zo_16_6 (ci : Nat) (F : Nat × Nat → Prop) : zob zLay 16 ci 6 F = (2 = ci ∧ F (2, 21)) := propext ⟨fun h => ⟨h.2.1, h.2.2⟩, fun h => ⟨rfl, h.1, h.2⟩⟩
theorem za_17 (kd : Nat) (F : Nat → List (Nat × Nat) → Prop) : zarr zLay kd 17 F = (1 = kd ∧ F 100 []) := rfl
theorem za_18 (kd : Nat) (F : Nat → List (Nat × Nat) → Prop) : zarr zLay kd 18 F = (1 = kd ∧ F 100 []) := rfl
theorem za_19 (kd : Nat) (F : Nat → List (Nat × Nat) → Prop) : zarr zLay kd 19 F = (1 = kd ∧ F 100 []) := rfl
theorem za_20 (kd : Nat) (F : Nat → List (Nat × Nat) → Prop) : zarr zLay kd 20 F = (1 = kd ∧ F 100 []) := rfl
theorem za_21 (kd : Nat) (F : Nat → List (Nat × Nat) → Prop) : zarr zLay kd 21 F = (3 = kd ∧ F 100 []) := rfl
theorem za_22 (kd : Nat) (F : Nat → List (Nat × Nat) → Prop) : zarr zLay kd 22 F = (1 = kd ∧ F 8 []) := rfl
theorem zo_23_0 (ci : Nat) (F : Nat × Nat → Prop) : zob zLay 23 ci 0 F = (9 = ci ∧ F (2, 24)) := propext ⟨fun h => ⟨h.2.1, h.2.2⟩, fun h => ⟨rfl, h.1, h.2⟩⟩
theorem zo_23_1 (ci : Nat) (F : Nat × Nat → Prop) : zob zLay 23 ci 1 F = (9 = ci ∧ F (2, 27)) := propext ⟨fun h => ⟨h.2.1, h.2.2⟩, fun h => ⟨rfl, h.1, h.2⟩⟩
theorem zo_23_2 (ci : Nat) (F : Nat × Nat → Prop) : zob zLay 23 ci 2 F = (9 = ci ∧ F (2, 34)) := propext ⟨fun h => ⟨h.2.1, h.2.2⟩, fun h => ⟨rfl, h.1, h.2⟩⟩
theorem zo_23_3 (ci : Nat) (F : Nat × Nat → Prop) : zob zLay 23 ci 3 F = (9 = ci ∧ F (2, 38)) := propext ⟨fun h => ⟨h.2.1, h.2.2⟩, fun h => ⟨rfl, h.1, h.2⟩⟩
theorem zo_23_4 (ci : Nat) (F : Nat × Nat → Prop) : zob zLay 23 ci 4 F = (9 = ci ∧ F (2, 44)) := propext ⟨fun h => ⟨h.2.1, h.2.2⟩, fun h => ⟨rfl, h.1, h.2⟩⟩
theorem zo_23_5 (ci : Nat) (F : Nat × Nat → Prop) : zob zLay 23 ci 5 F = (9 = ci ∧ F (0, 0)) := propext ⟨fun h => ⟨h.2.1, h.2.2⟩, fun h => ⟨rfl, h.1, h.2⟩⟩
theorem zo_23_6 (ci : Nat) (F : Nat × Nat → Prop) : zob zLay 23 ci 6 F = (9 = ci ∧ F (0, 0)) := propext ⟨fun h => ⟨h.2.1, h.2.2⟩, fun h => ⟨rfl, h.1, h.2⟩⟩
theorem zo_23_7 (ci : Nat) (F : Nat × Nat → Prop) : zob zLay 23 ci 7 F = (9 = ci ∧ F (0, 0)) := propext ⟨fun h => ⟨h.2.1, h.2.2⟩, fun h => ⟨rfl, h.1, h.2⟩⟩
theorem zo_23_8 (ci : Nat) (F : Nat × Nat → Prop) : zob zLay 23 ci 8 F = (9 = ci ∧ F (0, 0)) := propext ⟨fun h => ⟨h.2.1, h.2.2⟩, fun h => ⟨rfl, h.1, h.2⟩⟩
theorem zo_23_9 (ci : Nat) (F : Nat × Nat → Prop) : zob zLay 23 ci 9 F = (9 = ci ∧ F (0, 0)) := propext ⟨fun h => ⟨h.2.1, h.2.2⟩, fun h => ⟨rfl, h.1, h.2⟩⟩
theorem zo_24_0 (ci : Nat) (F : Nat × Nat → Prop) : zob zLay 24 ci 0 F = (0 = ci ∧ F (2, 25)) := propext ⟨fun h => ⟨h.2.1, h.2.2⟩, fun h => ⟨rfl, h.1, h.2⟩⟩
theorem zo_24_1 (ci : Nat) (F : Nat × Nat → Prop) : zob zLay 24 ci 1 F = (0 = ci ∧ F (2, 26)) := propext ⟨fun h => ⟨h.2.1, h.2.2⟩, fun h => ⟨rfl, h.1, h.2⟩⟩
theorem zo_24_2 (ci : Nat) (F : Nat × Nat → Prop) : zob zLay 24 ci 2 F = (0 = ci ∧ F (0, 0)) := propext ⟨fun h => ⟨h.2.1, h.2.2⟩, fun h => ⟨rfl, h.1, h.2⟩⟩
theorem za_25 (kd : Nat) (F : Nat → List (Nat × Nat) → Prop) : zarr zLay kd 25 F = (1 = kd ∧ F 100 []) := rfl
theorem za_26 (kd : Nat) (F : Nat → List (Nat × Nat) → Prop) : zarr zLay kd 26 F = (1 = kd ∧ F 100 []) := rfl
theorem zo_27_0 (ci : Nat) (F : Nat × Nat → Prop) : zob zLay 27 ci 0 F = (8 = ci ∧ F (2, 28)) := propext ⟨fun h => ⟨h.2.1, h.2.2⟩, fun h => ⟨rfl, h.1, h.2⟩⟩
theorem zo_27_1 (ci : Nat) (F : Nat × Nat → Prop) : zob zLay 27 ci 1 F = (8 = ci ∧ F (2, 29)) := propext ⟨fun h => ⟨h.2.1, h.2.2⟩, fun h => ⟨rfl, h.1, h.2⟩⟩
theorem zo_27_2 (ci : Nat) (F : Nat × Nat → Prop) : zob zLay 27 ci 2 F = (8 = ci ∧ F (2, 30)) := propext ⟨fun h => ⟨h.2.1, h.2.2⟩, fun h => ⟨rfl, h.1, h.2⟩⟩
theorem zo_27_3 (ci : Nat) (F : Nat × Nat → Prop) : zob zLay 27 ci 3 F = (8 = ci ∧ F (2, 31)) := propext ⟨fun h => ⟨h.2.1, h.2.2⟩, fun h => ⟨rfl, h.1, h.2⟩⟩
theorem zo_27_4 (ci : Nat) (F : Nat × Nat → Prop) : zob zLay 27 ci 4 F = (8 = ci ∧ F (0, 0)) := propext ⟨fun h => ⟨h.2.1, h.2.2⟩, fun h => ⟨rfl, h.1, h.2⟩⟩
theorem zo_27_5 (ci : Nat) (F : Nat × Nat → Prop) : zob zLay 27 ci 5 F = (8 = ci ∧ F (2, 32)) := propext ⟨fun h => ⟨h.2.1, h.2.2⟩, fun h => ⟨rfl, h.1, h.2⟩⟩
theorem zo_27_6 (ci : Nat) (F : Nat × Nat → Prop) : zob zLay 27 ci 6 F = (8 = ci ∧ F (2, 33)) := propext ⟨fun h => ⟨h.2.1, h.2.2⟩, fun h => ⟨rfl, h.1, h.2⟩⟩
theorem zo_27_7 (ci : Nat) (F : Nat × Nat → Prop) : zob zLay 27 ci 7 F = (8 = ci ∧ F (0, 0)) := propext ⟨fun h => ⟨h.2.1, h.2.2⟩, fun h => ⟨rfl, h.1, h.2⟩⟩
theorem zo_27_8 (ci : Nat) (F : Nat × Nat → Prop) : zob zLay 27 ci 8 F = (8 = ci ∧ F (0, 0)) := propext ⟨fun h => ⟨h.2.1, h.2.2⟩, fun h => ⟨rfl, h.1, h.2⟩⟩
theorem za_28 (kd : Nat) (F : Nat → List (Nat × Nat) → Prop) : zarr zLay kd 28 F = (1 = kd ∧ F 16 []) := rfl
theorem za_29 (kd : Nat) (F : Nat → List (Nat × Nat) → Prop) : zarr zLay kd 29 F = (1 = kd ∧ F 16 []) := rfl
theorem za_30 (kd : Nat) (F : Nat → List (Nat × Nat) → Prop) : zarr zLay kd 30 F = (1 = kd ∧ F 16 []) := rfl
theorem za_31 (kd : Nat) (F : Nat → List (Nat × Nat) → Prop) : zarr zLay kd 31 F = (1 = kd ∧ F 16 []) := rfl
theorem za_32 (kd : Nat) (F : Nat → List (Nat × Nat) → Prop) : zarr zLay kd 32 F = (1 = kd ∧ F 16 []) := rfl
theorem za_33 (kd : Nat) (F : Nat → List (Nat × Nat) → Prop) : zarr zLay kd 33 F = (1 = kd ∧ F 16 []) := rfl
theorem zo_34_0 (ci : Nat) (F : Nat × Nat → Prop) : zob zLay 34 ci 0 F = (1 = ci ∧ F (2, 35)) := propext ⟨fun h => ⟨h.2.1, h.2.2⟩, fun h => ⟨rfl, h.1, h.2⟩⟩
theorem zo_34_1 (ci : Nat) (F : Nat × Nat → Prop) : zob zLay 34 ci 1 F = (1 = ci ∧ F (2, 36)) := propext ⟨fun h => ⟨h.2.1, h.2.2⟩, fun h => ⟨rfl, h.1, h.2⟩⟩
theorem zo_34_2 (ci : Nat) (F : Nat × Nat → Prop) : zob zLay 34 ci 2 F = (1 = ci ∧ F (2, 37)) := propext ⟨fun h => ⟨h.2.1, h.2.2⟩, fun h => ⟨rfl, h.1, h.2⟩⟩
theorem zo_34_3 (ci : Nat) (F : Nat × Nat → Prop) : zob zLay 34 ci 3 F = (1 = ci ∧ F (0, 0)) := propext ⟨fun h => ⟨h.2.1, h.2.2⟩, fun h => ⟨rfl, h.1, h.2⟩⟩
theorem za_35 (kd : Nat) (F : Nat → List (Nat × Nat) → Prop) : zarr zLay kd 35 F = (1 = kd ∧ F 4 []) := rfl
theorem za_36 (kd : Nat) (F : Nat → List (Nat × Nat) → Prop) : zarr zLay kd 36 F = (1 = kd ∧ F 4 []) := rfl
theorem za_37 (kd : Nat) (F : Nat → List (Nat × Nat) → Prop) : zarr zLay kd 37 F = (1 = kd ∧ F 4 []) := rfl
theorem zo_38_0 (ci : Nat) (F : Nat × Nat → Prop) : zob zLay 38 ci 0 F = (2 = ci ∧ F (2, 39)) := propext ⟨fun h => ⟨h.2.1, h.2.2⟩, fun h => ⟨rfl, h.1, h.2⟩⟩
theorem zo_38_1 (ci : Nat) (F : Nat × Nat → Prop) : zob zLay 38 ci 1 F = (2 = ci ∧ F (2, 40)) := propext ⟨fun h => ⟨h.2.1, h.2.2⟩, fun h => ⟨rfl, h.1, h.2⟩⟩
theorem zo_38_2 (ci : Nat) (F : Nat × Nat → Prop) : zob zLay 38 ci 2 F = (2 = ci ∧ F (2, 41)) := propext ⟨fun h => ⟨h.2.1, h.2.2⟩, fun h => ⟨rfl, h.1, h.2⟩⟩
theorem zo_38_3 (ci : Nat) (F : Nat × Nat → Prop) : zob zLay 38 ci 3 F = (2 = ci ∧ F (2, 42)) := propext ⟨fun h => ⟨h.2.1, h.2.2⟩, fun h => ⟨rfl, h.1, h.2⟩⟩
theorem zo_38_4 (ci : Nat) (F : Nat × Nat → Prop) : zob zLay 38 ci 4 F = (2 = ci ∧ F (0, 0)) := propext ⟨fun h => ⟨h.2.1, h.2.2⟩, fun h => ⟨rfl, h.1, h.2⟩⟩
theorem zo_38_5 (ci : Nat) (F : Nat × Nat → Prop) : zob zLay 38 ci 5 F = (2 = ci ∧ F (0, 0)) := propext ⟨fun h => ⟨h.2.1, h.2.2⟩, fun h => ⟨rfl, h.1, h.2⟩⟩
theorem zo_38_6 (ci : Nat) (F : Nat × Nat → Prop) : zob zLay 38 ci 6 F = (2 = ci ∧ F (2, 43)) := propext ⟨fun h => ⟨h.2.1, h.2.2⟩, fun h => ⟨rfl, h.1, h.2⟩⟩
theorem za_39 (kd : Nat) (F : Nat → List (Nat × Nat) → Prop) : zarr zLay kd 39 F = (1 = kd ∧ F 100 []) := rfl
theorem za_40 (kd : Nat) (F : Nat → List (Nat × Nat) → Prop) : zarr zLay kd 40 F = (1 = kd ∧ F 100 []) := rfl
theorem za_41 (kd : Nat) (F : Nat → List (Nat × Nat) → Prop) : zarr zLay kd 41 F = (1 = kd ∧ F 100 []) := rfl
theorem za_42 (kd : Nat) (F : Nat → List (Nat × Nat) → Prop) : zarr zLay kd 42 F = (1 = kd ∧ F 100 []) := rfl
theorem za_43 (kd : Nat) (F : Nat → List (Nat × Nat) → Prop) : zarr zLay kd 43 F = (3 = kd ∧ F 100 []) := rfl
theorem za_44 (kd : Nat) (F : Nat → List (Nat × Nat) → Prop) : zarr zLay kd 44 F = (1 = kd ∧ F 8 []) := rfl
theorem zo_45_0 (ci : Nat) (F : Nat × Nat → Prop) : zob zLay 45 ci 0 F = (0 = ci ∧ F (2, 46)) := propext ⟨fun h => ⟨h.2.1, h.2.2⟩, fun h => ⟨rfl, h.1, h.2⟩⟩
theorem zo_45_1 (ci : Nat) (F : Nat × Nat → Prop) : zob zLay 45 ci 1 F = (0 = ci ∧ F (2, 47)) := propext ⟨fun h => ⟨h.2.1, h.2.2⟩, fun h => ⟨rfl, h.1, h.2⟩⟩
theorem zo_45_2 (ci : Nat) (F : Nat × Nat → Prop) : zob zLay 45 ci 2 F = (0 = ci ∧ F (0, 0)) := propext ⟨fun h => ⟨h.2.1, h.2.2⟩, fun h => ⟨rfl, h.1, h.2⟩⟩
theorem za_46 (kd : Nat) (F : Nat → List (Nat × Nat) → Prop) : zarr zLay kd 46 F = (1 = kd ∧ F 100 []) := rfl
theorem za_47 (kd : Nat) (F : Nat → List (Nat × Nat) → Prop) : zarr zLay kd 47 F = (1 = kd ∧ F 100 []) := rfl
theorem zo_48_0 (ci : Nat) (F : Nat × Nat → Prop) : zob zLay 48 ci 0 F = (4 = ci ∧ F (2, 49)) := propext ⟨fun h => ⟨h.2.1, h.2.2⟩, fun h => ⟨rfl, h.1, h.2⟩⟩
theorem zo_48_1 (ci : Nat) (F : Nat × Nat → Prop) : zob zLay 48 ci 1 F = (4 = ci ∧ F (2, 53)) := propext ⟨fun h => ⟨h.2.1, h.2.2⟩, fun h => ⟨rfl, h.1, h.2⟩⟩
theorem zo_48_2 (ci : Nat) (F : Nat × Nat → Prop) : zob zLay 48 ci 2 F = (4 = ci ∧ F (0, 0)) := propext ⟨fun h => ⟨h.2.1, h.2.2⟩, fun h => ⟨rfl, h.1, h.2⟩⟩
theorem zo_48_3 (ci : Nat) (F : Nat × Nat → Prop) : zob zLay 48 ci 3 F = (4 = ci ∧ F (0, 0)) := propext ⟨fun h => ⟨h.2.1, h.2.2⟩, fun h => ⟨rfl, h.1, h.2⟩⟩
theorem zo_48_4 (ci : Nat) (F : Nat × Nat → Prop) : zob zLay 48 ci 4 F = (4 = ci ∧ F (0, 0)) := propext ⟨fun h => ⟨h.2.1, h.2.2⟩, fun h => ⟨rfl, h.1, h.2⟩⟩
theorem zo_48_5 (ci : Nat) (F : Nat × Nat → Prop) : zob zLay 48 ci 5 F = (4 = ci ∧ F (0, 0)) := propext ⟨fun h => ⟨h.2.1, h.2.2⟩, fun h => ⟨rfl, h.1, h.2⟩⟩
theorem zo_49_0 (ci : Nat) (F : Nat × Nat → Prop) : zob zLay 49 ci 0 F = (3 = ci ∧ F (2, 50)) := propext ⟨fun h => ⟨h.2.1, h.2.2⟩, fun h => ⟨rfl, h.1, h.2⟩⟩
theorem zo_49_1 (ci : Nat) (F : Nat × Nat → Prop) : zob zLay 49 ci 1 F = (3 = ci ∧ F (2, 51)) := propext ⟨fun h => ⟨h.2.1, h.2.2⟩, fun h => ⟨rfl, h.1, h.2⟩⟩
theorem zo_49_2 (ci : Nat) (F : Nat × Nat → Prop) : zob zLay 49 ci 2 F = (3 = ci ∧ F (2, 52)) := propext ⟨fun h => ⟨h.2.1, h.2.2⟩, fun h => ⟨rfl, h.1, h.2⟩⟩
theorem zo_49_3 (ci : Nat) (F : Nat × Nat → Prop) : zob zLay 49 ci 3 F = (3 = ci ∧ F (0, 0)) := propext ⟨fun h => ⟨h.2.1, h.2.2⟩, fun h => ⟨rfl, h.1, h.2⟩⟩
theorem za_50 (kd : Nat) (F : Nat → List (Nat × Nat) → Prop) : zarr zLay kd 50 F = (1 = kd ∧ F 200 []) := rfl
theorem za_51 (kd : Nat) (F : Nat → List (Nat × Nat) → Prop) : zarr zLay kd 51 F = (1 = kd ∧ F 200 []) := rfl
theorem za_52 (kd : Nat) (F : Nat → List (Nat × Nat) → Prop) : zarr zLay kd 52 F = (1 = kd ∧ F 200 []) := rfl
theorem zo_53_0 (ci : Nat) (F : Nat × Nat → Prop) : zob zLay 53 ci 0 F = (7 = ci ∧ F (2, 54)) := propext ⟨fun h => ⟨h.2.1, h.2.2⟩, fun h => ⟨rfl, h.1, h.2⟩⟩
theorem zo_53_1 (ci : Nat) (F : Nat × Nat → Prop) : zob zLay 53 ci 1 F = (7 = ci ∧ F (0, 0)) := propext ⟨fun h => ⟨h.2.1, h.2.2⟩, fun h => ⟨rfl, h.1, h.2⟩⟩
theorem za_54 (kd : Nat) (F : Nat → List (Nat × Nat) → Prop) : zarr zLay kd 54 F = (1 = kd ∧ F 400 []) := rfl
theorem za_55 (kd : Nat) (F : Nat → List (Nat × Nat) → Prop) : zarr zLay kd 55 F = (5 = kd ∧ F 4 [(2, 64), (2, 68), (2, 72), (2, 76)]) := rfl
theorem zo_56_0 (ci : Nat) (F : Nat × Nat → Prop) : zob zLay 56 ci 0 F = (6 = ci ∧ F (2, 57)) := propext ⟨fun h => ⟨h.2.1, h.2.2⟩, fun h => ⟨rfl, h.1, h.2⟩⟩
theorem zo_56_1 (ci : Nat) (F : Nat × Nat → Prop) : zob zLay 56 ci 1 F = (6 = ci ∧ F (2, 58)) := propext ⟨fun h => ⟨h.2.1, h.2.2⟩, fun h => ⟨rfl, h.1, h.2⟩⟩
theorem zo_56_2 (ci : Nat) (F : Nat × Nat → Prop) : zob zLay 56 ci 2 F = (6 = ci ∧ F (0, 0)) := propext ⟨fun h => ⟨h.2.1, h.2.2⟩, fun h => ⟨rfl, h.1, h.2⟩⟩
theorem zo_56_3 (ci : Nat) (F : Nat × Nat → Prop) : zob zLay 56 ci 3 F = (6 = ci ∧ F (0, 0)) := propext ⟨fun h => ⟨h.2.1, h.2.2⟩, fun h => ⟨rfl, h.1, h.2⟩⟩
theorem zo_56_4 (ci : Nat) (F : Nat × Nat → Prop) : zob zLay 56 ci 4 F = (6 = ci ∧ F (0, 0)) := propext ⟨fun h => ⟨h.2.1, h.2.2⟩, fun h => ⟨rfl, h.1, h.2⟩⟩
theorem za_57 (kd : Nat) (F : Nat → List (Nat × Nat) → Prop) : zarr zLay kd 57 F = (1 = kd ∧ F 6 []) := rfl
theorem za_58 (kd : Nat) (F : Nat → List (Nat × Nat) → Prop) : zarr zLay kd 58 F = (1 = kd ∧ F 6 []) := rfl
theorem zo_59_0 (ci : Nat) (F : Nat × Nat → Prop) : zob zLay 59 ci 0 F = (5 = ci ∧ F (2, 60)) := propext ⟨fun h => ⟨h.2.1, h.2.2⟩, fun h => ⟨rfl, h.1, h.2⟩⟩
theorem zo_59_1 (ci : Nat) (F : Nat × Nat → Prop) : zob zLay 59 ci 1 F = (5 = ci ∧ F (2, 61)) := propext ⟨fun h => ⟨h.2.1, h.2.2⟩, fun h => ⟨rfl, h.1, h.2⟩⟩
theorem zo_59_2 (ci : Nat) (F : Nat × Nat → Prop) : zob zLay 59 ci 2 F = (5 = ci ∧ F (2, 62)) := propext ⟨fun h => ⟨h.2.1, h.2.2⟩, fun h => ⟨rfl, h.1, h.2⟩⟩
theorem zo_59_3 (ci : Nat) (F : Nat × Nat → Prop) : zob zLay 59 ci 3 F = (5 = ci ∧ F (2, 63)) := propext ⟨fun h => ⟨h.2.1, h.2.2⟩, fun h => ⟨rfl, h.1, h.2⟩⟩
theorem zo_59_4 (ci : Nat) (F : Nat × Nat → Prop) : zob zLay 59 ci 4 F = (5 = ci ∧ F (0, 0)) := propext ⟨fun h => ⟨h.2.1, h.2.2⟩, fun h => ⟨rfl, h.1, h.2⟩⟩
theorem zo_59_5 (ci : Nat) (F : Nat × Nat → Prop) : zob zLay 59 ci 5 F = (5 = ci ∧ F (0, 0)) := propext ⟨fun h => ⟨h.2.1, h.2.2⟩, fun h => ⟨rfl, h.1, h.2⟩⟩
theorem zo_59_6 (ci : Nat) (F : Nat × Nat → Prop) : zob zLay 59 ci 6 F = (5 = ci ∧ F (0, 0)) := propext ⟨fun h => ⟨h.2.1, h.2.2⟩, fun h => ⟨rfl, h.1, h.2⟩⟩
theorem zo_59_7 (ci : Nat) (F : Nat × Nat → Prop) : zob zLay 59 ci 7 F = (5 = ci ∧ F (0, 0)) := propext ⟨fun h => ⟨h.2.1, h.2.2⟩, fun h => ⟨rfl, h.1, h.2⟩⟩
theorem zo_59_8 (ci : Nat) (F : Nat × Nat → Prop) : zob zLay 59 ci 8 F = (5 = ci ∧ F (0, 0)) := propext ⟨fun h => ⟨h.2.1, h.2.2⟩, fun h => ⟨rfl, h.1, h.2⟩⟩
theorem za_60 (kd : Nat) (F : Nat → List (Nat × Nat) → Prop) : zarr zLay kd 60 F = (2 = kd ∧ F 6000 []) := rfl
theorem za_61 (kd : Nat) (F : Nat → List (Nat × Nat) → Prop) : zarr zLay kd 61 F = (1 = kd ∧ F 100 []) := rfl
theorem za_62 (kd : Nat) (F : Nat → List (Nat × Nat) → Prop) : zarr zLay kd 62 F = (3 = kd ∧ F 100 []) := rfl
theorem za_63 (kd : Nat) (F : Nat → List (Nat × Nat) → Prop) : zarr zLay kd 63 F = (2 = kd ∧ F 100 []) := rfl
theorem zo_64_0 (ci : Nat) (F : Nat × Nat → Prop) : zob zLay 64 ci 0 F = (3 = ci ∧ F (2, 65)) := propext ⟨fun h => ⟨h.2.1, h.2.2⟩, fun h => ⟨rfl, h.1, h.2⟩⟩
theorem zo_64_1 (ci : Nat) (F : Nat × Nat → Prop) : zob zLay 64 ci 1 F = (3 = ci ∧ F (2, 66)) := propext ⟨fun h => ⟨h.2.1, h.2.2⟩, fun h => ⟨rfl, h.1, h.2⟩⟩
theorem zo_64_2 (ci : Nat) (F : Nat × Nat → Prop) : zob zLay 64 ci 2 F = (3 = ci ∧ F (2, 67)) := propext ⟨fun h => ⟨h.2.1, h.2.2⟩, fun h => ⟨rfl, h.1, h.2⟩⟩
theorem zo_64_3 (ci : Nat) (F : Nat × Nat → Prop) : zob zLay 64 ci 3 F = (3 = ci ∧ F (0, 0)) := propext ⟨fun h => ⟨h.2.1, h.2.2⟩, fun h => ⟨rfl, h.1, h.2⟩⟩
theorem za_65 (kd : Nat) (F : Nat → List (Nat × Nat) → Prop) : zarr zLay kd 65 F = (1 = kd ∧ F 200 []) := rfl
theorem za_66 (kd : Nat) (F : Nat → List (Nat × Nat) → Prop) : zarr zLay kd 66 F = (1 = kd ∧ F 200 []) := rfl
theorem za_67 (kd : Nat) (F : Nat → List (Nat × Nat) → Prop) : zarr zLay kd 67 F = (1 = kd ∧ F 200 []) := rfl
theorem zo_68_0 (ci : Nat) (F : Nat × Nat → Prop) : zob zLay 68 ci 0 F = (3 = ci ∧ F (2, 69)) := propext ⟨fun h => ⟨h.2.1, h.2.2⟩, fun h => ⟨rfl, h.1, h.2⟩⟩
theorem zo_68_1 (ci : Nat) (F : Nat × Nat → Prop) : zob zLay 68 ci 1 F = (3 = ci ∧ F (2, 70)) := propext ⟨fun h => ⟨h.2.1, h.2.2⟩, fun h => ⟨rfl, h.1, h.2⟩⟩
theorem zo_68_2 (ci : Nat) (F : Nat × Nat → Prop) : zob zLay 68 ci 2 F = (3 = ci ∧ F (2, 71)) := propext ⟨fun h => ⟨h.2.1, h.2.2⟩, fun h => ⟨rfl, h.1, h.2⟩⟩
theorem zo_68_3 (ci : Nat) (F : Nat × Nat → Prop) : zob zLay 68 ci 3 F = (3 = ci ∧ F (0, 0)) := propext ⟨fun h => ⟨h.2.1, h.2.2⟩, fun h => ⟨rfl, h.1, h.2⟩⟩
theorem za_69 (kd : Nat) (F : Nat → List (Nat × Nat) → Prop) : zarr zLay kd 69 F = (1 = kd ∧ F 200 []) := rfl
theorem za_70 (kd : Nat) (F : Nat → List (Nat × Nat) → Prop) : zarr zLay kd 70 F = (1 = kd ∧ F 200 []) := rfl
theorem za_71 (kd : Nat) (F : Nat → List (Nat × Nat) → Prop) : zarr zLay kd 71 F = (1 = kd ∧ F 200 []) := rfl
theorem zo_72_0 (ci : Nat) (F : Nat × Nat → Prop) : zob zLay 72 ci 0 F = (3 = ci ∧ F (2, 73)) := propext ⟨fun h => ⟨h.2.1, h.2.2⟩, fun h => ⟨rfl, h.1, h.2⟩⟩
theorem zo_72_1 (ci : Nat) (F : Nat × Nat → Prop) : zob zLay 72 ci 1 F = (3 = ci ∧ F (2, 74)) := propext ⟨fun h => ⟨h.2.1, h.2.2⟩, fun h => ⟨rfl, h.1, h.2⟩⟩
theorem zo_72_2 (ci : Nat) (F : Nat × Nat → Prop) : zob zLay 72 ci 2 F = (3 = ci ∧ F (2, 75)) := propext ⟨fun h => ⟨h.2.1, h.2.2⟩, fun h => ⟨rfl, h.1, h.2⟩⟩
theorem zo_72_3 (ci : Nat) (F : Nat × Nat → Prop) : zob zLay 72 ci 3 F = (3 = ci ∧ F (0, 0)) := propext ⟨fun h => ⟨h.2.1, h.2.2⟩, fun h => ⟨rfl, h.1, h.2⟩⟩
theorem za_73 (kd : Nat) (F : Nat → List (Nat × Nat) → Prop) : zarr zLay kd 73 F = (1 = kd ∧ F 200 []) := rfl
theorem za_74 (kd : Nat) (F : Nat → List (Nat × Nat) → Prop) : zarr zLay kd 74 F = (1 = kd ∧ F 200 []) := rfl
theorem za_75 (kd : Nat) (F : Nat → List (Nat × Nat) → Prop) : zarr zLay kd 75 F = (1 = kd ∧ F 200 []) := rfl
theorem zo_76_0 (ci : Nat) (F : Nat × Nat → Prop) : zob zLay 76 ci 0 F = (3 = ci ∧ F (2, 77)) := propext ⟨fun h => ⟨h.2.1, h.2.2⟩, fun h => ⟨rfl, h.1, h.2⟩⟩
theorem zo_76_1 (ci : Nat) (F : Nat × Nat → Prop) : zob zLay 76 ci 1 F = (3 = ci ∧ F (2, 78)) := propext ⟨fun h => ⟨h.2.1, h.2.2⟩, fun h => ⟨rfl, h.1, h.2⟩⟩
theorem zo_76_2 (ci : Nat) (F : Nat × Nat → Prop) : zob zLay 76 ci 2 F = (3 = ci ∧ F (2, 79)) := propext ⟨fun h => ⟨h.2.1, h.2.2⟩, fun h => ⟨rfl, h.1, h.2⟩⟩
theorem zo_76_3 (ci : Nat) (F : Nat × Nat → Prop) : zob zLay 76 ci 3 F = (3 = ci ∧ F (0, 0)) := propext ⟨fun h => ⟨h.2.1, h.2.2⟩, fun h => ⟨rfl, h.1, h.2⟩⟩
theorem za_77 (kd : Nat) (F : Nat → List (Nat × Nat) → Prop) : zarr zLay kd 77 F = (1 = kd ∧ F 200 []) := rfl
theorem za_78 (kd : Nat) (F : Nat → List (Nat × Nat) → Prop) : zarr zLay kd 78 F = (1 = kd ∧ F 200 []) := rfl
theorem za_79 (kd : Nat) (F : Nat → List (Nat × Nat) → Prop) : zarr zLay kd 79 F = (1 = kd ∧ F 200 []) := rfl
theorem zo_80_0 (ci : Nat) (F : Nat × Nat → Prop) : zob zLay 80 ci 0 F = (11 = ci ∧ F (0, 0)) := propext ⟨fun h => ⟨h.2.1, h.2.2⟩, fun h => ⟨rfl, h.1, h.2⟩⟩
theorem zo_80_1 (ci : Nat) (F : Nat × Nat → Prop) : zob zLay 80 ci 1 F = (11 = ci ∧ F (2, 81)) := propext ⟨fun h => ⟨h.2.1, h.2.2⟩, fun h => ⟨rfl, h.1, h.2⟩⟩
theorem zo_80_2 (ci : Nat) (F : Nat × Nat → Prop) : zob zLay 80 ci 2 F = (11 = ci ∧ F (2, 82)) := propext ⟨fun h => ⟨h.2.1, h.2.2⟩, fun h => ⟨rfl, h.1, h.2⟩⟩
theorem zo_80_3 (ci : Nat) (F : Nat × Nat → Prop) : zob zLay 80 ci 3 F = (11 = ci ∧ F (4, 0)) := propext ⟨fun h => ⟨h.2.1, h.2.2⟩, fun h => ⟨rfl, h.1, h.2⟩⟩
theorem zo_80_4 (ci : Nat) (F : Nat × Nat → Prop) : zob zLay 80 ci 4 F = (11 = ci ∧ F (2, 83)) := propext ⟨fun h => ⟨h.2.1, h.2.2⟩, fun h => ⟨rfl, h.1, h.2⟩⟩
theorem zo_80_5 (ci : Nat) (F : Nat × Nat → Prop) : zob zLay 80 ci 5 F = (11 = ci ∧ F (0, 0)) := propext ⟨fun h => ⟨h.2.1, h.2.2⟩, fun h => ⟨rfl, h.1, h.2⟩⟩
theorem zo_80_6 (ci : Nat) (F : Nat × Nat → Prop) : zob zLay 80 ci 6 F = (11 = ci ∧ F (0, 0)) := propext ⟨fun h => ⟨h.2.1, h.2.2⟩, fun h => ⟨rfl, h.1, h.2⟩⟩
theorem zo_80_7 (ci : Nat) (F : Nat × Nat → Prop) : zob zLay 80 ci 7 F = (11 = ci ∧ F (0, 0)) := propext ⟨fun h => ⟨h.2.1, h.2.2⟩, fun h => ⟨rfl, h.1, h.2⟩⟩
theorem zo_80_8 (ci : Nat) (F : Nat × Nat → Prop) : zob zLay 80 ci 8 F = (11 = ci ∧ F (0, 0)) := propext ⟨fun h => ⟨h.2.1, h.2.2⟩, fun h => ⟨rfl, h.1, h.2⟩⟩
theorem zo_80_9 (ci : Nat) (F : Nat × Nat → Prop) : zob zLay 80 ci 9 F = (11 = ci ∧ F (0, 0)) := propext ⟨fun h => ⟨h.2.1, h.2.2⟩, fun h => ⟨rfl, h.1, h.2⟩⟩
theorem zo_80_10 (ci : Nat) (F : Nat × Nat → Prop) : zob zLay 80 ci 10 F = (11 = ci ∧ F (0, 0)) := propext ⟨fun h => ⟨h.2.1, h.2.2⟩, fun h => ⟨rfl, h.1, h.2⟩⟩
theorem zo_80_11 (ci : Nat) (F : Nat × Nat → Prop) : zob zLay 80 ci 11 F = (11 = ci ∧ F (2, 84)) := propext ⟨fun h => ⟨h.2.1, h.2.2⟩, fun h => ⟨rfl, h.1, h.2⟩⟩
theorem zo_80_12 (ci : Nat) (F : Nat × Nat → Prop) : zob zLay 80 ci 12 F = (11 = ci ∧ F (0, 0)) := propext ⟨fun h => ⟨h.2.1, h.2.2⟩, fun h => ⟨rfl, h.1, h.2⟩⟩
theorem zo_80_13 (ci : Nat) (F : Nat × Nat → Prop) : zob zLay 80 ci 13 F = (11 = ci ∧ F (0, 0)) := propext ⟨fun h => ⟨h.2.1, h.2.2⟩, fun h => ⟨rfl, h.1, h.2⟩⟩
theorem zo_80_14 (ci : Nat) (F : Nat × Nat → Prop) : zob zLay 80 ci 14 F = (11 = ci ∧ F (2, 85)) := propext ⟨fun h => ⟨h.2.1, h.2.2⟩, fun h => ⟨rfl, h.1, h.2⟩⟩
theorem zo_80_15 (ci : Nat) (F : Nat × Nat → Prop) : zob zLay 80 ci 15 F = (11 = ci ∧ F (2, 86)) := propext ⟨fun h => ⟨h.2.1, h.2.2⟩, fun h => ⟨rfl, h.1, h.2⟩⟩
theorem zo_80_16 (ci : Nat) (F : Nat × Nat → Prop) : zob zLay 80 ci 16 F = (11 = ci ∧ F (2, 87)) := propext ⟨fun h => ⟨h.2.1, h.2.2⟩, fun h => ⟨rfl, h.1, h.2⟩⟩
theorem zo_80_17 (ci : Nat) (F : Nat × Nat → Prop) : zob zLay 80 ci 17 F = (11 = ci ∧ F (2, 88)) := propext ⟨fun h => ⟨h.2.1, h.2.2⟩, fun h => ⟨rfl, h.1, h.2⟩⟩
theorem zo_80_18 (ci : Nat) (F : Nat × Nat → Prop) : zob zLay 80 ci 18 F = (11 = ci ∧ F (2, 89)) := propext ⟨fun h => ⟨h.2.1, h.2.2⟩, fun h => ⟨rfl, h.1, h.2⟩⟩
theorem zo_80_19 (ci : Nat) (F : Nat × Nat → Prop) : zob zLay 80 ci 19 F = (11 = ci ∧ F (2, 90)) := propext ⟨fun h => ⟨h.2.1, h.2.2⟩, fun h => ⟨rfl, h.1, h.2⟩⟩
theorem zo_80_20 (ci : Nat) (F : Nat × Nat → Prop) : zob zLay 80 ci 20 F = (11 = ci ∧ F (2, 91)) := propext ⟨fun h => ⟨h.2.1, h.2.2⟩, fun h => ⟨rfl, h.1, h.2⟩⟩
theorem zo_80_21 (ci : Nat) (F : Nat × Nat → Prop) : zob zLay 80 ci 21 F = (11 = ci ∧ F (2, 92)) := propext ⟨fun h => ⟨h.2.1, h.2.2⟩, fun h => ⟨rfl, h.1, h.2⟩⟩
theorem zo_80_22 (ci : Nat) (F : Nat × Nat → Prop) : zob zLay 80 ci 22 F = (11 = ci ∧ F (0, 0)) := propext ⟨fun h => ⟨h.2.1, h.2.2⟩, fun h => ⟨rfl, h.1, h.2⟩⟩
theorem zo_80_23 (ci : Nat) (F : Nat × Nat → Prop) : zob zLay 80 ci 23 F = (11 = ci ∧ F (0, 0)) := propext ⟨fun h => ⟨h.2.1, h.2.2⟩, fun h => ⟨rfl, h.1, h.2⟩⟩
theorem zo_80_24 (ci : Nat) (F : Nat × Nat → Prop) : zob zLay 80 ci 24 F = (11 = ci ∧ F (2, 93)) := propext ⟨fun h => ⟨h.2.1, h.2.2⟩, fun h => ⟨rfl, h.1, h.2⟩⟩
theorem za_81 (kd : Nat) (F : Nat → List (Nat × Nat) → Prop) : zarr zLay kd 81 F = (1 = kd ∧ F 5917 []) := rfl
theorem za_82 (kd : Nat) (F : Nat → List (Nat × Nat) → Prop) : zarr zLay kd 82 F = (1 = kd ∧ F 4856 []) := rfl
theorem za_83 (kd : Nat) (F : Nat → List (Nat × Nat) → Prop) : zarr zLay kd 83 F = (4 = kd ∧ F 400 []) := rfl
theorem za_84 (kd : Nat) (F : Nat → List (Nat × Nat) → Prop) : zarr zLay kd 84 F = (1 = kd ∧ F 5 []) := rfl
theorem za_85 (kd : Nat) (F : Nat → List (Nat × Nat) → Prop) : zarr zLay kd 85 F = (1 = kd ∧ F 16 []) := rfl
theorem za_86 (kd : Nat) (F : Nat → List (Nat × Nat) → Prop) : zarr zLay kd 86 F = (3 = kd ∧ F 100 []) := rfl
theorem za_87 (kd : Nat) (F : Nat → List (Nat × Nat) → Prop) : zarr zLay kd 87 F = (1 = kd ∧ F 200 []) := rfl
theorem za_88 (kd : Nat) (F : Nat → List (Nat × Nat) → Prop) : zarr zLay kd 88 F = (1 = kd ∧ F 7 []) := rfl
theorem za_89 (kd : Nat) (F : Nat → List (Nat × Nat) → Prop) : zarr zLay kd 89 F = (1 = kd ∧ F 7 []) := rfl
theorem za_90 (kd : Nat) (F : Nat → List (Nat × Nat) → Prop) : zarr zLay kd 90 F = (2 = kd ∧ F 6100 []) := rfl
theorem za_91 (kd : Nat) (F : Nat → List (Nat × Nat) → Prop) : zarr zLay kd 91 F = (3 = kd ∧ F 100 []) := rfl
theorem za_92 (kd : Nat) (F : Nat → List (Nat × Nat) → Prop) : zarr zLay kd 92 F = (3 = kd ∧ F 100 []) := rfl
theorem za_93 (kd : Nat) (F : Nat → List (Nat × Nat) → Prop) : zarr zLay kd 93 F = (1 = kd ∧ F 100 []) := rfl
theorem za_94 (kd : Nat) (F : Nat → List (Nat × Nat) → Prop) : zarr zLay kd 94 F = (2 = kd ∧ F 1 []) := rfl
end
section
theorem zfi0 : ((0 : Fin 4).val) = 0 := rfl
theorem zfi1 : ((1 : Fin 4).val) = 1 := rfl
theorem zfi2 : ((2 : Fin 4).val) = 2 := rfl
theorem zfi3 : ((3 : Fin 4).val) = 3 := rfl
theorem zcast (n : Nat) : ((no_index (OfNat.ofNat n) : Nat) : Int) = OfNat.ofNat n := rfl
/-- a contract's start: the receiver is one of these cells -/
def zPr (ids : List Int) (P : List Int → zM → Prop) : List Int → zM → Prop := fun vs mem => match vs with
  | [] => False
  | a :: tv => a ∈ ids ∧ P (a :: tv) mem
theorem zPr_c (ids : List Int) (P : List Int → zM → Prop) (a : Int) (tv : List Int) (mem : zM) : zPr ids P (a :: tv) mem = (a ∈ ids ∧ P (a :: tv) mem) := rfl
def zIs (ids : List Int) (ci : Nat) : Bool := ids.all fun a => match zLay[a.toNat]? with
  | some κ => decide (κ.1 = 0) && decide (κ.2.1 = ci)
  | none => false
theorem zPr_recv {ids : List Int} {ci : Nat} {P : List Int → zM → Prop} (h : zIs ids ci = true) : ∀ vs mem, zPr ids P vs mem → ∃ (a : Int) (tv : List Int) (fs : List (Nat × Nat)), vs = a :: tv ∧ zLay[a.toNat]? = some (0, ci, fs) := by
  intro vs mem hp
  cases vs with
  | nil => exact hp.elim
  | cons a tv =>
    have h1 := List.all_eq_true.mp h a hp.1
    cases hq : zLay[a.toNat]? with
    | none => rw [hq] at h1; cases h1
    | some κ =>
      rw [hq] at h1
      obtain ⟨x0, x1, x2⟩ := κ
      simp only [Bool.and_eq_true, decide_eq_true_eq] at h1
      obtain ⟨e1, e2⟩ := h1
      subst e1; subst e2
      exact ⟨a, tv, x2, rfl, hq⟩
theorem zcal_v {l : Launch} {own : String} {idx LV : Nat} {y : MethodName} {code : ByteArray} {maxL lv ci rt : Nat} {ret : Option FieldType} {r : vw_C} {tl : List Nat} {ids : List Int} {P : List Int → zM → Prop} {post : List Int → zM → Int → zM → Prop} (hM : zMet l zLay y code maxL ret lv (2 :: tl) rt (zPr ids P) post) (hlt : lv < LV) (hmx : maxL ≤ 20) (hw : zMv y code maxL ret) (hk : Cond.methodLink own idx y ∈ zTbl ∨ ∃ host, Cond.methodLinkNest own idx y host ∈ lw_tbl) (hnm : zNm y tl.length) (hq : zCl[ci]? = some r) (hr : r.1 = y.cls) (hi : zIs ids ci = true) : zCallee l zLay own idx true LV (2 :: tl, rt, zPr ids P, post) :=
  ⟨y, code, maxL, lv, ret, hM, hlt, hmx, hw.1, hw.2.1, hk, fun _ => ⟨tl, ci, r, rfl, hnm, hw.2.2.1, hw.2.2.2, hq, hr, zPr_recv hi⟩, fun h => by cases h⟩
theorem zcal_s {l : Launch} {own : String} {idx LV : Nat} {y : MethodName} {code : ByteArray} {maxL lv rt : Nat} {ret : Option FieldType} {tags : List Nat} {pre : List Int → zM → Prop} {post : List Int → zM → Int → zM → Prop} (hM : zMet l zLay y code maxL ret lv tags rt pre post) (hlt : lv < LV) (hmx : maxL ≤ 20) (hw : zMs y code maxL ret) (hk : Cond.methodLink own idx y ∈ zTbl ∨ ∃ host, Cond.methodLinkNest own idx y host ∈ lw_tbl) (hnm : zNm y tags.length) : zCallee l zLay own idx false LV (tags, rt, pre, post) :=
  ⟨y, code, maxL, lv, ret, hM, hlt, hmx, hw.1, hw.2.1, hk, fun h => (by cases h), fun _ => ⟨hnm, hw.2.2⟩⟩
theorem zv_cg {Λ : List zC} {pl : zPo} {cv cS : Nat → Option zCt} {rt : Nat} {RP : Int → zM → Prop} {thr : Nat → Option Nat} {XP : Nat → zM → Prop} {nL : Nat} {k : Nat} {tags : List Nat} {rt' : Nat} {pre : List Int → zM → Prop} {post : List Int → zM → Int → zM → Prop} (h : cv k = some (tags, rt', pre, post)) (n pc : Nat) (ls : zL) (st : List zV) (mem : zM) (J : zJ) (K : zL → List zV → zM → Prop) : zwI Λ pl cv cS rt RP thr XP nL (.invokevirtual k) n pc ls st mem J K = (n = 3 ∧ zIV Λ tags rt' pre st mem (fun vs => ∀ (r : Int) (mem' : zM), zrt rt' r → zokM Λ mem' → post vs mem r mem' → K ls (zres rt' r (st.drop tags.length)) mem')) := by
  rw [zi_invokevirtual, h, zinv_g]
theorem zs_cg {Λ : List zC} {pl : zPo} {cv cS : Nat → Option zCt} {rt : Nat} {RP : Int → zM → Prop} {thr : Nat → Option Nat} {XP : Nat → zM → Prop} {nL : Nat} {k : Nat} {tags : List Nat} {rt' : Nat} {pre : List Int → zM → Prop} {post : List Int → zM → Int → zM → Prop} (h : cS k = some (tags, rt', pre, post)) (h2 : pl k = none) (n pc : Nat) (ls : zL) (st : List zV) (mem : zM) (J : zJ) (K : zL → List zV → zM → Prop) : zwI Λ pl cv cS rt RP thr XP nL (.invokestatic k) n pc ls st mem J K = (n = 3 ∧ zIV Λ tags rt' pre st mem (fun vs => ∀ (r : Int) (mem' : zM), zrt rt' r → zokM Λ mem' → post vs mem r mem' → K ls (zres rt' r (st.drop tags.length)) mem')) := by
  rw [zi_invokestatic, h, zinv_g]
  have e : ∀ F, zpl pl k 6 F = False := fun F => by unfold zpl; rw [h2]
  rw [e, or_false]
theorem zv_cp {Λ : List zC} {pl : zPo} {cv cS : Nat → Option zCt} {rt : Nat} {RP : Int → zM → Prop} {thr : Nat → Option Nat} {XP : Nat → zM → Prop} {nL : Nat} {k : Nat} {tags : List Nat} {rt' : Nat} {pre : List Int → zM → Prop} {P : List Int → zM → Int → Prop} (h : cv k = some (tags, rt', pre, zpu P)) (n pc : Nat) (ls : zL) (st : List zV) (mem : zM) (J : zJ) (K : zL → List zV → zM → Prop) : zwI Λ pl cv cS rt RP thr XP nL (.invokevirtual k) n pc ls st mem J K = (n = 3 ∧ zIV Λ tags rt' pre st mem (fun vs => ∀ (r : Int), zrt rt' r → zokM Λ mem → P vs mem r → K ls (zres rt' r (st.drop tags.length)) mem)) := by
  rw [zi_invokevirtual, h, zinv_p]
theorem zs_cp {Λ : List zC} {pl : zPo} {cv cS : Nat → Option zCt} {rt : Nat} {RP : Int → zM → Prop} {thr : Nat → Option Nat} {XP : Nat → zM → Prop} {nL : Nat} {k : Nat} {tags : List Nat} {rt' : Nat} {pre : List Int → zM → Prop} {P : List Int → zM → Int → Prop} (h : cS k = some (tags, rt', pre, zpu P)) (h2 : pl k = none) (n pc : Nat) (ls : zL) (st : List zV) (mem : zM) (J : zJ) (K : zL → List zV → zM → Prop) : zwI Λ pl cv cS rt RP thr XP nL (.invokestatic k) n pc ls st mem J K = (n = 3 ∧ zIV Λ tags rt' pre st mem (fun vs => ∀ (r : Int), zrt rt' r → zokM Λ mem → P vs mem r → K ls (zres rt' r (st.drop tags.length)) mem)) := by
  rw [zi_invokestatic, h, zinv_p]
  have e : ∀ F, zpl pl k 6 F = False := fun F => by unfold zpl; rw [h2]
  rw [e, or_false]
theorem zv_cf {Λ : List zC} {pl : zPo} {cv cS : Nat → Option zCt} {rt : Nat} {RP : Int → zM → Prop} {thr : Nat → Option Nat} {XP : Nat → zM → Prop} {nL : Nat} {k : Nat} {tags : List Nat} {rt' : Nat} {pre : List Int → zM → Prop} {f : List Int → zM → Int} (h : cv k = some (tags, rt', pre, zfu f)) (n pc : Nat) (ls : zL) (st : List zV) (mem : zM) (J : zJ) (K : zL → List zV → zM → Prop) : zwI Λ pl cv cS rt RP thr XP nL (.invokevirtual k) n pc ls st mem J K = (n = 3 ∧ zIV Λ tags rt' pre st mem (fun vs => zrt rt' (f vs mem) → zokM Λ mem → K ls (zres rt' (f vs mem) (st.drop tags.length)) mem)) := by
  rw [zi_invokevirtual, h, zinv_f]
theorem zs_cf {Λ : List zC} {pl : zPo} {cv cS : Nat → Option zCt} {rt : Nat} {RP : Int → zM → Prop} {thr : Nat → Option Nat} {XP : Nat → zM → Prop} {nL : Nat} {k : Nat} {tags : List Nat} {rt' : Nat} {pre : List Int → zM → Prop} {f : List Int → zM → Int} (h : cS k = some (tags, rt', pre, zfu f)) (h2 : pl k = none) (n pc : Nat) (ls : zL) (st : List zV) (mem : zM) (J : zJ) (K : zL → List zV → zM → Prop) : zwI Λ pl cv cS rt RP thr XP nL (.invokestatic k) n pc ls st mem J K = (n = 3 ∧ zIV Λ tags rt' pre st mem (fun vs => zrt rt' (f vs mem) → zokM Λ mem → K ls (zres rt' (f vs mem) (st.drop tags.length)) mem)) := by
  rw [zi_invokestatic, h, zinv_f]
  have e : ∀ F, zpl pl k 6 F = False := fun F => by unfold zpl; rw [h2]
  rw [e, or_false]
theorem zs_ac {Λ : List zC} {pl : zPo} {cv cS : Nat → Option zCt} {rt : Nat} {RP : Int → zM → Prop} {thr : Nat → Option Nat} {XP : Nat → zM → Prop} {nL : Nat} {k x y : Nat} {z : Int} (h : cS k = none) (h2 : pl k = some (6, x, y, z)) (n pc : Nat) (ls : zL) (st : List zV) (mem : zM) (J : zJ) (K : zL → List zV → zM → Prop) : zwI Λ pl cv cS rt RP thr XP nL (.invokestatic k) n pc ls st mem J K = (n = 3 ∧ zp1 0 st fun N r => zp1 0 r fun dp r => zp1 2 r fun b r => zp1 0 r fun sp r => zp1 2 r fun a r => r = [] ∧ zarr Λ 1 a fun na _ => zarr Λ 1 b fun nb _ => (0 ≤ sp ∧ 0 ≤ dp ∧ 0 ≤ N ∧ sp + N ≤ na ∧ dp + N ≤ nb) ∧ K ls [] (zcopy mem a.toNat sp.toNat b.toNat dp.toNat N.toNat)) := by
  rw [zi_invokestatic, h, zpl_e h2]
  simp only [zinv, false_or, true_and]
def zAllC (P : Nat → zCt → Prop) : List (Nat × zCt) → Prop
  | [] => True
  | q :: r => P q.1 q.2 ∧ zAllC P r
theorem zAllC_n {P : Nat → zCt → Prop} : zAllC P [] := trivial
theorem zAllC_c {P : Nat → zCt → Prop} {k : Nat} {q : zCt} {r : List (Nat × zCt)} (h : P k q) (t : zAllC P r) : zAllC P ((k, q) :: r) := ⟨h, t⟩
theorem zAllC_e {P : Nat → zCt → Prop} {L : List (Nat × zCt)} (h : zAllC P L) : ∀ k q, zCf L k = some q → P k q := by
  refine zCf_all ?_
  induction L with
  | nil => intro x hx; cases hx
  | cons a r ih =>
    intro x hx
    rcases List.mem_cons.mp hx with e | e
    · rw [e]; exact h.1
    · exact ih h.2 x e
def zAllI (P : Nat → (Nat → zL → List zV → zM → Prop) → Prop) : List (Nat × (Nat → zL → List zV → zM → Prop)) → Prop
  | [] => True
  | q :: r => P q.1 q.2 ∧ zAllI P r
theorem zAllI_n {P : Nat → (Nat → zL → List zV → zM → Prop) → Prop} : zAllI P [] := trivial
theorem zAllI_c {P : Nat → (Nat → zL → List zV → zM → Prop) → Prop} {k : Nat} {q : Nat → zL → List zV → zM → Prop} {r : List (Nat × (Nat → zL → List zV → zM → Prop))} (h : P k q) (t : zAllI P r) : zAllI P ((k, q) :: r) := ⟨h, t⟩
theorem zAllI_e {P : Nat → (Nat → zL → List zV → zM → Prop) → Prop} {L : List (Nat × (Nat → zL → List zV → zM → Prop))} (h : zAllI P L) : ∀ k q, zIf L k = some q → P k q := by
  refine zIf_all ?_
  induction L with
  | nil => intro x hx; cases hx
  | cons a r ih =>
    intro x hx
    rcases List.mem_cons.mp hx with e | e
    · rw [e]; exact h.1
    · exact ih h.2 x e
end
section
/-! ===== the JDK's own numbers; frames ===== -/
def PJ9 : List (Nat × Nat × Nat × Nat × Int × Nat) := []
theorem PJ9_ok : zPlok RJ9 (zPlf PJ9) := zPlok_of rfl
def BJ9_abs_0f7a4 : List (Nat × List (Instr × Nat)) := [(0, [(.iload_n 0, 1), (.ifCond .ge 8, 3), (.iload_n 0, 1), (.ineg, 1), (.goto 4, 3)]), (9, [(.iload_n 0, 1)]), (10, [(.ireturn, 1)])]
theorem oJ9_abs_0f7a4 : ∀ pc, zdec cJ9_abs_0f7a4 pc (zBf BJ9_abs_0f7a4 pc) := zBf_ok (by decide +kernel)
theorem bJ9_abs_0f7a4_0 : zBf BJ9_abs_0f7a4 0 = [(.iload_n 0, 1), (.ifCond .ge 8, 3), (.iload_n 0, 1), (.ineg, 1), (.goto 4, 3)] := rfl
theorem bJ9_abs_0f7a4_9 : zBf BJ9_abs_0f7a4 9 = [(.iload_n 0, 1)] := rfl
theorem bJ9_abs_0f7a4_10 : zBf BJ9_abs_0f7a4 10 = [(.ireturn, 1)] := rfl
theorem hJ9_abs_0f7a4 : zMs yJ9_abs_0f7a4 cJ9_abs_0f7a4 1 (some .int) := ⟨zG_mem (n := 526) (by decide +kernel), zG_mem (n := 139) (by decide +kernel), zG_mem (n := 525) (by decide +kernel)⟩
def BJ9_floorMod_7cf53 : List (Nat × List (Instr × Nat)) := [(0, [(.iload_n 0, 1), (.iload_n 1, 1), (.irem, 1), (.istore_n 2, 1), (.iload_n 0, 1), (.iload_n 1, 1), (.ixor, 1), (.ifCond .ge 11, 3), (.iload_n 2, 1), (.ifCond .eq 7, 3), (.iload_n 2, 1), (.iload_n 1, 1), (.iadd, 1), (.ireturn, 1)]), (18, [(.iload_n 2, 1), (.ireturn, 1)])]
theorem oJ9_floorMod_7cf53 : ∀ pc, zdec cJ9_floorMod_7cf53 pc (zBf BJ9_floorMod_7cf53 pc) := zBf_ok (by decide +kernel)
theorem bJ9_floorMod_7cf53_0 : zBf BJ9_floorMod_7cf53 0 = [(.iload_n 0, 1), (.iload_n 1, 1), (.irem, 1), (.istore_n 2, 1), (.iload_n 0, 1), (.iload_n 1, 1), (.ixor, 1), (.ifCond .ge 11, 3), (.iload_n 2, 1), (.ifCond .eq 7, 3), (.iload_n 2, 1), (.iload_n 1, 1), (.iadd, 1), (.ireturn, 1)] := rfl
theorem bJ9_floorMod_7cf53_18 : zBf BJ9_floorMod_7cf53 18 = [(.iload_n 2, 1), (.ireturn, 1)] := rfl
theorem hJ9_floorMod_7cf53 : zMs yJ9_floorMod_7cf53 cJ9_floorMod_7cf53 3 (some .int) := ⟨zG_mem (n := 1106) (by decide +kernel), zG_mem (n := 139) (by decide +kernel), zG_mem (n := 1105) (by decide +kernel)⟩
def BJ9_max_7cf53 : List (Nat × List (Instr × Nat)) := [(0, [(.iload_n 0, 1), (.iload_n 1, 1), (.if_icmp .lt 7, 3), (.iload_n 0, 1), (.goto 4, 3)]), (9, [(.iload_n 1, 1)]), (10, [(.ireturn, 1)])]
theorem oJ9_max_7cf53 : ∀ pc, zdec cJ9_max_7cf53 pc (zBf BJ9_max_7cf53 pc) := zBf_ok (by decide +kernel)
theorem bJ9_max_7cf53_0 : zBf BJ9_max_7cf53 0 = [(.iload_n 0, 1), (.iload_n 1, 1), (.if_icmp .lt 7, 3), (.iload_n 0, 1), (.goto 4, 3)] := rfl
theorem bJ9_max_7cf53_9 : zBf BJ9_max_7cf53 9 = [(.iload_n 1, 1)] := rfl
theorem bJ9_max_7cf53_10 : zBf BJ9_max_7cf53 10 = [(.ireturn, 1)] := rfl
theorem hJ9_max_7cf53 : zMs yJ9_max_7cf53 cJ9_max_7cf53 2 (some .int) := ⟨zG_mem (n := 533) (by decide +kernel), zG_mem (n := 139) (by decide +kernel), zG_mem (n := 532) (by decide +kernel)⟩
def BJ9_min_7cf53 : List (Nat × List (Instr × Nat)) := [(0, [(.iload_n 0, 1), (.iload_n 1, 1), (.if_icmp .gt 7, 3), (.iload_n 0, 1), (.goto 4, 3)]), (9, [(.iload_n 1, 1)]), (10, [(.ireturn, 1)])]
theorem oJ9_min_7cf53 : ∀ pc, zdec cJ9_min_7cf53 pc (zBf BJ9_min_7cf53 pc) := zBf_ok (by decide +kernel)
theorem bJ9_min_7cf53_0 : zBf BJ9_min_7cf53 0 = [(.iload_n 0, 1), (.iload_n 1, 1), (.if_icmp .gt 7, 3), (.iload_n 0, 1), (.goto 4, 3)] := rfl
theorem bJ9_min_7cf53_9 : zBf BJ9_min_7cf53 9 = [(.iload_n 1, 1)] := rfl
theorem bJ9_min_7cf53_10 : zBf BJ9_min_7cf53 10 = [(.ireturn, 1)] := rfl
theorem hJ9_min_7cf53 : zMs yJ9_min_7cf53 cJ9_min_7cf53 2 (some .int) := ⟨zG_mem (n := 939) (by decide +kernel), zG_mem (n := 139) (by decide +kernel), zG_mem (n := 938) (by decide +kernel)⟩
def BJ9_min_f86c9 : List (Nat × List (Instr × Nat)) := [(0, [(.lload_n 0, 1), (.lload_n 2, 1), (.lcmp, 1), (.ifCond .gt 7, 3), (.lload_n 0, 1), (.goto 4, 3)]), (10, [(.lload_n 2, 1)]), (11, [(.lreturn, 1)])]
theorem oJ9_min_f86c9 : ∀ pc, zdec cJ9_min_f86c9 pc (zBf BJ9_min_f86c9 pc) := zBf_ok (by decide +kernel)
theorem bJ9_min_f86c9_0 : zBf BJ9_min_f86c9 0 = [(.lload_n 0, 1), (.lload_n 2, 1), (.lcmp, 1), (.ifCond .gt 7, 3), (.lload_n 0, 1), (.goto 4, 3)] := rfl
theorem bJ9_min_f86c9_10 : zBf BJ9_min_f86c9 10 = [(.lload_n 2, 1)] := rfl
theorem bJ9_min_f86c9_11 : zBf BJ9_min_f86c9 11 = [(.lreturn, 1)] := rfl
theorem hJ9_min_f86c9 : zMs yJ9_min_f86c9 cJ9_min_f86c9 4 (some .long) := ⟨zG_mem (n := 1389) (by decide +kernel), zG_mem (n := 139) (by decide +kernel), zG_mem (n := 1388) (by decide +kernel)⟩
/-- nothing but cells lo to hi has changed -/
def zfr (lo hi : Int) (mem mem' : zM) : Prop := ∀ c k : Nat, ¬ (lo ≤ c ∧ (c : Int) ≤ hi) → mem' c k = mem c k
theorem zfr_rf (lo hi : Int) (mem : zM) : zfr lo hi mem mem := fun _ _ _ => rfl
theorem zfr_tr {lo hi : Int} {m1 m2 m3 : zM} (h1 : zfr lo hi m1 m2) (h2 : zfr lo hi m2 m3) : zfr lo hi m1 m3 := fun c k h => (h2 c k h).trans (h1 c k h)
theorem zfr_mono {lo hi lo' hi' : Int} {m1 m2 : zM} (h : zfr lo' hi' m1 m2) (h1 : lo ≤ lo') (h2 : hi' ≤ hi) : zfr lo hi m1 m2 := fun c k hc => h c k (by omega)
theorem zfr_st {lo hi : Int} {m1 m2 : zM} {a k : Nat} {v : Int} (h : zfr lo hi m1 m2) (h1 : lo ≤ a) (h2 : (a : Int) ≤ hi) : zfr lo hi m1 (zset m2 a k v) := fun c j hc => by
  rw [zset_e, if_neg (by omega)]; exact h c j hc
theorem zfr_cp {lo hi : Int} {m1 m2 : zM} {a sp b dp n : Nat} (h : zfr lo hi m1 m2) (h1 : lo ≤ b) (h2 : (b : Int) ≤ hi) : zfr lo hi m1 (zcopy m2 a sp b dp n) := fun c j hc => by
  rw [zcopy_e, if_neg (by omega)]; exact h c j hc
theorem zDiv_nn {x y : Int} (hx : zR32 x) (hy : zR32 y) (h0 : 0 ≤ x) (h1 : 0 < y) : zDiv x y = x / y := by
  rw [zDiv, lg_idiv_nonneg (by rw [zi_toInt hx]; exact h0) (by rw [zi_toInt hy]; exact h1), zi_toInt hx, zi_toInt hy]
theorem zRem_c (x y : Int) (hx : zR32 x) (hy : zR32 y) (h1 : 0 < y) : zRem x y = x - x.tdiv y * y := by
  have hd : (Int32.ofInt x / Int32.ofInt y).toInt = x.tdiv y := by
    rw [Int32.toInt_div, zi_toInt hx, zi_toInt hy]
    have h2 : (x.tdiv y).natAbs ≤ x.natAbs := by rw [Int.natAbs_tdiv]; exact Nat.div_le_self _ _
    have := hx.1; have := hx.2; have := hy.2
    by_cases hm : x = -2147483648
    · subst hm
      by_cases hy1 : y = 1
      · subst hy1; rfl
      · have h3 : ((-2147483648 : Int).tdiv y).natAbs ≤ 2147483648 / 2 := by
          rw [Int.natAbs_tdiv]; exact Nat.div_le_div_left (by omega) (by omega)
        show Int.bmod _ 4294967296 = _
        simp only [Int.bmod]; omega
    · show Int.bmod _ 4294967296 = _
      simp only [Int.bmod]; omega
  have h4 : x.tdiv y * y = x - x.tmod y := by have := Int.tmod_add_mul_tdiv x y; rw [Int.mul_comm] at this; omega
  have h5 : (x.tmod y).natAbs < y.natAbs := by rw [Int.natAbs_tmod]; exact Nat.mod_lt _ (by omega)
  have := hx.1; have := hx.2; have := hy.2
  have h6 : (Int32.ofInt x / Int32.ofInt y * Int32.ofInt y).toInt = zw (x.tdiv y * y) := by
    rw [Int32.toInt_mul, hd, zi_toInt hy, show (2 : Nat) ^ 32 = 4294967296 from rfl, zw_bmod]
  rw [zRem, Int32.toInt_sub, zi_toInt hx, h6, show (2 : Nat) ^ 32 = 4294967296 from rfl, zw_bmod, h4]
  simp only [zw]; omega
theorem zRem_b (x y : Int) (hx : zR32 x) (hy : zR32 y) (h1 : 0 < y) : -y < zRem x y ∧ zRem x y < y ∧ (0 ≤ x → 0 ≤ zRem x y) ∧ (x ≤ 0 → zRem x y ≤ 0) := by
  rw [zRem_c x y hx hy h1]
  have h4 := Int.tmod_add_mul_tdiv x y
  rw [Int.mul_comm] at h4
  have h5 : (x.tmod y).natAbs < y.natAbs := by rw [Int.natAbs_tmod]; exact Nat.mod_lt _ (by omega)
  refine ⟨by omega, by omega, fun h => ?_, fun h => ?_⟩
  · have := Int.tmod_nonneg y h; omega
  · have : (-x).tmod y = - x.tmod y := Int.neg_tmod x y
    have := Int.tmod_nonneg (a := -x) y (by omega)
    omega
theorem zNeg_e (x : Int) : zNeg x = zw (- x) := by rw [zNeg, Int32.toInt_neg, Int32.toInt_ofInt, show Int32.size = 4294967296 from rfl, show (2 : Nat) ^ 32 = 4294967296 from rfl, ← zw_bmod]; simp only [Int.bmod]; omega
theorem zneg_msb (z : Int32) : z.toInt < 0 ↔ z.toBitVec.msb = true := by
  rw [BitVec.msb_eq_toInt, decide_eq_true_eq]; rfl
theorem zXor_s {q : Int} (hq : zR32 q) : zXor q 100 < 0 ↔ q < 0 := by
  unfold zXor
  rw [zneg_msb, Int32.toBitVec_xor, BitVec.msb_xor]
  have h1 : (Int32.ofInt 100).toBitVec.msb = false := by decide
  rw [h1, Bool.xor_false, ← zneg_msb, zi_toInt hq]
theorem zAnd_b (x : Int) : 0 ≤ zAnd x 32767 ∧ zAnd x 32767 ≤ 32767 := by
  unfold zAnd
  obtain ⟨j, h1, h2⟩ := pk_andE (Int32.ofInt x) (m := Int32.ofInt 32767) 15 (by decide)
  rw [h2, nI_toInt (by omega)]
  omega
theorem zAnd_1 (x : Int) : 0 ≤ zAnd x 1 ∧ zAnd x 1 ≤ 1 := by
  unfold zAnd
  obtain ⟨j, h1, h2⟩ := pk_andE (Int32.ofInt x) (m := Int32.ofInt 1) 1 (by decide)
  rw [h2, nI_toInt (by omega)]
  omega
theorem zAnd_255 (x : Int) : 0 ≤ zAnd x 255 ∧ zAnd x 255 ≤ 255 := by
  unfold zAnd
  obtain ⟨j, h1, h2⟩ := pk_andE (Int32.ofInt x) (m := Int32.ofInt 255) 8 (by decide)
  rw [h2, nI_toInt (by omega)]
  omega
set_option maxHeartbeats 2000000 in
theorem zMet_ofF {l : Launch} {Λ : List zC} {y : MethodName} {code : ByteArray} {maxL lv rt : Nat} {ret : Option FieldType} {tags : List Nat} {pre : List Int → zM → Prop} {post : List Int → zM → Int → zM → Prop} {own : String} {pl : zPo} {cv cS : Nat → Option zCt} {B : Nat → List (Instr × Nat)} {F : Nat}
    (hy : plainFor y = true) (how : y.cls = own) (hrk : zRk ret rt) (hlen : ∀ vs : List Int, vs.length = tags.length → (lg_sl ((tags.zip vs).map (zE (fun x => x) (fun x => x)))).length ≤ maxL) (hpl : zPlok own pl) (hcl : zClok) (hsy : zSyok) (hB : ∀ pc, zdec code pc (B pc))
    (hcv : ∀ k q, cv k = some q → zCallee l Λ own k true lv q ∨ (zTxC l Λ own k q ∧ 10 ≤ lv)) (hcS : ∀ k q, cS k = some q → zCallee l Λ own k false lv q)
    (body : ∀ (vs : List Int) (mem : zM), vs.length = tags.length → (∀ v ∈ tags.zip vs, zok v) → zokM Λ mem → pre vs mem → ∃ I : zI,
      (∀ pc J, I pc = some J → ∀ n ls st mem', zokM Λ mem' → (∀ k, zok (ls k)) → J n ls st mem' → zwp Λ pl cv cS rt (post vs mem) (fun _ => none) (fun _ _ => False) maxL B (zBelow I n) F pc ls st mem') ∧
      zwp Λ pl cv cS rt (post vs mem) (fun _ => none) (fun _ _ => False) maxL B (zAny I) F 0 (zent 0 (tags.zip vs)) [] mem) : zMet l Λ y code maxL ret lv tags rt pre post := by
  intro D ad sa sv cs sz vs mem hvl hok hm hpre
  obtain ⟨I, hI, hE⟩ := body vs mem hvl hok hm hpre
  refine va_MetF (cc := code) (maxL := maxL) (ret := ret) hy rfl ?_
  intro p e s m args below meth c s₁ Bd hml hv
  obtain ⟨rfl, hsz, hG, hP, hD⟩ := hv
  subst hsz
  have hx := Bd.exec
  have hb := Bd.bytes
  have hr := Bd.returns
  have hts0 := atoms_spec (ws := Cond.code y code maxL ret :: zTbl) Bd.pre
  have hts : ∀ w ∈ zTbl, w.before ((tags.zip vs).map (zE ad sa)).toArray s = true := fun w hw => hts0 w (List.mem_cons_of_mem _ hw)
  have hown : s.vm.findClass own = some m.cls := how ▸ findClass_of_methodNamed Bd.named
  have hlocks := Bd.notSynchronized
  have hA : ∀ q : Nat, s.heap.size ≤ q → zA Λ ad s.heap.size q := fun q h => Or.inr h
  have S : CallFix p m c code maxL s ((tags.zip vs).map (zE ad sa)).toArray zTbl own := ⟨hx, hb, hml, hown, hts⟩
  have hcatlen : (lg_sl ((tags.zip vs).map (zE ad sa))).length ≤ maxL := by
    have h1 := hlen vs hvl
    have h2 : ∀ (ad' sa' : Nat → Nat) (us : List zV), (lg_sl (us.map (zE ad' sa'))).length = (us.map fun v => if v.1 = 1 then 2 else 1).sum := by
      intro ad' sa' us
      induction us with
      | nil => rfl
      | cons v r ih =>
        have e : lg_sl ((v :: r).map (zE ad' sa')) = (if (zE ad' sa' v).category = 2 then [.val (zE ad' sa' v), .second] else [.val (zE ad' sa' v)]) ++ lg_sl (r.map (zE ad' sa')) := rfl
        rw [e, List.length_append, ih, zE_cat, List.map_cons, List.sum_cons]
        by_cases h1 : v.1 = 1
        · rw [if_pos h1, if_pos rfl]; rfl
        · rw [if_neg h1, if_neg (by decide)]; rfl
    rw [h2] at h1 ⊢
    exact h1
  have hl0 := lv_entry ((tags.zip vs).map (zE ad sa)) (n := maxL) hcatlen
  rw [lg_entry_eq]
  generalize (lg_sl ((tags.zip vs).map (zE ad sa)) ++ List.replicate (maxL - (lg_sl ((tags.zip vs).map (zE ad sa))).length) Slot.unset).toArray = L at hl0 ⊢
  have hL : zLs ad sa maxL (zent 0 (tags.zip vs)) L := ⟨hl0.1, hl0.2.1, fun k h9 => hl0.2.2 _ (zent_in (tags.zip vs) 0 k h9)⟩
  have hS : va_S (zA Λ ad s.heap.size) s.heap s.heap [] := va_S.rf
  have hret : zRet p l e (zRm lv) s m ((tags.zip vs).map (zE ad sa)).toArray below meth c 0 0 (MQ below (zQ rt Λ D ad cs s.heap.size (post vs mem)) ((tags.zip vs).map (zE ad sa)).toArray s 0 0 (zA Λ ad s.heap.size)) maxL Λ D ad sa cs (zA Λ ad s.heap.size) code rt (post vs mem) := by
    refine ⟨fun pc ls v mem' hd hrt hp hm' hs' _ H locs L' hP' hD' hL' hS' => ?_, fun pc ls v mem' hd hrt hp hm' hs' _ H locs L' hP' hD' hL' hS' => ?_, fun pc ls mem' hd hrt hp hm' hs' _ H locs L' hP' hD' hL' hS' => ?_⟩
    · have hvr := zhi hs'
      have hq : ∀ t : State, t.heap = H → s.WarmedH t.vm → zQ rt Λ D ad cs s.heap.size (post vs mem) ((tags.zip vs).map (zE ad sa)).toArray s (.returned (some (.int (Int32.ofInt v)))) t := by
        intro t ht _
        have h1 : ¬ rt = 1 := by omega
        have h9 : ¬ rt = 9 := by omega
        unfold zQ
        rw [if_neg h1, if_neg h9]
        exact ⟨⟨Int32.ofInt v, mem', rfl, ⟨by rw [zi_toInt hvr]; exact hp, hm'⟩, by show va_P D zCl (zWd Λ ad cs mem') t.heap; rw [ht]; exact hP'⟩, hS'.F ht⟩
      rcases hrk with ⟨k1, k2⟩ | ⟨k1, k2⟩ | ⟨k1, k2⟩ | ⟨k1, k2⟩
      · exact W.iret hx hb (hr.trans k2) hq hS'.2.2 hd
      · rcases hrt with h | ⟨_, h⟩
        · omega
        · exact W.zret (ty := .boolean) hx hb (hr.trans k2) (by rcases h with h | h <;> subst h <;> rfl) hq hS'.2.2 hd
      · omega
      · omega
    · have hvr := zhl hs'
      have hq : ∀ t : State, t.heap = H → s.WarmedH t.vm → zQ rt Λ D ad cs s.heap.size (post vs mem) ((tags.zip vs).map (zE ad sa)).toArray s (.returned (some (.long (Int64.ofInt v)))) t := by
        intro t ht _
        unfold zQ
        rw [if_pos hrt]
        exact ⟨⟨Int64.ofInt v, mem', rfl, ⟨by rw [zl_toInt hvr]; exact hp, hm'⟩, by show va_P D zCl (zWd Λ ad cs mem') t.heap; rw [ht]; exact hP'⟩, hS'.F ht⟩
      rcases hrk with ⟨k1, k2⟩ | ⟨k1, k2⟩ | ⟨k1, k2⟩ | ⟨k1, k2⟩
      · omega
      · omega
      · exact W.lret hx hb (hr.trans k2) hq hS'.2.2 hd
      · omega
    · have hq : ∀ t : State, t.heap = H → s.WarmedH t.vm → zQ rt Λ D ad cs s.heap.size (post vs mem) ((tags.zip vs).map (zE ad sa)).toArray s (.returned none) t := by
        intro t ht _
        have h1 : ¬ rt = 1 := by omega
        unfold zQ
        rw [if_neg h1, if_pos hrt]
        exact ⟨⟨mem', rfl, ⟨hp, hm'⟩, by show va_P D zCl (zWd Λ ad cs mem') t.heap; rw [ht]; exact hP'⟩, hS'.F ht⟩
      rcases hrk with ⟨k1, k2⟩ | ⟨k1, k2⟩ | ⟨k1, k2⟩ | ⟨k1, k2⟩
      · omega
      · omega
      · omega
      · exact W.vret hx hb (hr.trans k2) hq hS'.2.2 hd
  have hthr : ∀ (pc E : Nat) (ls : zL) (mem' : zM), (fun _ : Nat => (none : Option Nat)) pc = some E → (fun (_ : Nat) (_ : zM) => False) E mem' → zAW p l e (zRm lv) s m ((tags.zip vs).map (zE ad sa)).toArray below meth c 0 0 (MQ below (zQ rt Λ D ad cs s.heap.size (post vs mem)) ((tags.zip vs).map (zE ad sa)).toArray s 0 0 (zA Λ ad s.heap.size)) maxL Λ D ad sa cs (zA Λ ad s.heap.size) pc ls [] mem' := fun _ _ _ _ h => by cases h
  have hR : 1 ≤ (zRm lv).frames ∧ 30 ≤ (zRm lv).locals := ⟨by show 1 ≤ lv + 2; omega, by show 30 ≤ 40 * lv + 100; omega⟩
  have hcv' : ∀ k q, cv k = some q → zCOK p l e (zRm lv) s m ((tags.zip vs).map (zE ad sa)).toArray below meth c 0 0 maxL Λ D ad sa cs (zA Λ ad s.heap.size) code (.invokevirtual k) q.1 q.2.1 q.2.2.1 q.2.2.2 := by
    intro k q hq
    rcases hcv k q hq with hc | ⟨hc, h10⟩
    · obtain ⟨y', code', maxL', lv', ret', hM, hlt, hmx, w1, w2, w3, w4, -⟩ := hc
      obtain ⟨tl, ci, r, t1, t2, t3, t4, t5, t6, t7⟩ := w4 rfl
      obtain ⟨qt, qr, qpre, qpost⟩ := q
      dsimp only at t1 hM t7
      subst t1
      exact zcall_V S hG hA hM t2 w1 w2 t3 t4 w3 t5 t6 t7 ⟨by show lv' + 2 + 1 ≤ lv + 2; omega, by show 8 + (maxL' + 11) + (40 * lv' + 100) ≤ 40 * lv + 100; omega⟩ ⟨Nat.le_refl _, Nat.le_refl _⟩
    · exact hc p e (zRm lv) s m _ below meth c maxL D ad sa sv cs _ code S hG hA (by show 12 ≤ lv + 2; omega) (by show 500 ≤ 40 * lv + 100; omega)
  have hcS' : ∀ k q, cS k = some q → zCOK p l e (zRm lv) s m ((tags.zip vs).map (zE ad sa)).toArray below meth c 0 0 maxL Λ D ad sa cs (zA Λ ad s.heap.size) code (.invokestatic k) q.1 q.2.1 q.2.2.1 q.2.2.2 := by
    intro k q hq
    obtain ⟨y', code', maxL', lv', ret', hM, hlt, hmx, w1, w2, w3, -, w5⟩ := hcS k q hq
    obtain ⟨t1, t2⟩ := w5 rfl
    exact zcall_S S hG hA hM t1 w1 w2 t2 w3 ⟨by show lv' + 2 + 1 ≤ lv + 2; omega, by show 8 + (maxL' + 11) + (40 * lv' + 100) ≤ 40 * lv + 100; omega⟩ ⟨Nat.le_refl _, Nat.le_refl _⟩
  have hloop := zloops (e := e) (below := below) (meth := meth) (R := zRm lv) S hG hpl hcl hsy hR hcv' hcS' hret hthr hB hI
  refine zwp_sound (e := e) (below := below) (meth := meth) (R := zRm lv) S hG hpl hcl hsy hR hcv' hcS' hret hthr hB (X := zAny I) (fun pc' Jn hq ls' st' mem' w => ?_) F 0 _ [] mem hE hm (fun _ h => by cases h) (zent_ok _ 0 hok) s.heap [] L hP hD hL hS
  unfold zAny at hq
  cases hi : I pc' with
  | none => rw [hi] at hq; cases hq
  | some J' =>
    rw [hi] at hq
    cases hq
    obtain ⟨n', h2⟩ := w
    exact hloop n' pc' J' hi ls' st' mem' h2
theorem zRem_nn {x y : Int} (hx : zR32 x) (hy : zR32 y) (h0 : 0 ≤ x) (h1 : 0 < y) : zRem x y = x % y := by
  rw [zRem_c x y hx hy h1, Int.tdiv_eq_ediv_of_nonneg h0]
  have := Int.emod_add_mul_ediv x y
  rw [Int.mul_comm] at this
  omega
end
section
/-! ===== texts: length and charAt ===== -/
theorem hJ0_length_8abf5 : zMv yJ0_length_8abf5 cJ0_length_8abf5 1 (some .int) := ⟨zG_mem (n := 665) (by decide +kernel), zG_mem (n := 128) (by decide +kernel), zG_mem (n := 663) (by decide +kernel), zG_mem (n := 664) (by decide +kernel)⟩
theorem hJ0_charAt_5068e : zMv yJ0_charAt_5068e cJ0_charAt_5068e 2 (some .char) := ⟨zG_mem (n := 675) (by decide +kernel), zG_mem (n := 128) (by decide +kernel), zG_mem (n := 673) (by decide +kernel), zG_mem (n := 674) (by decide +kernel)⟩
theorem hJ0_coder_7d493 : zMv yJ0_coder_7d493 cJ0_coder_7d493 1 (some .byte) := ⟨zG_mem (n := 669) (by decide +kernel), zG_mem (n := 128) (by decide +kernel), zG_mem (n := 667) (by decide +kernel), zG_mem (n := 668) (by decide +kernel)⟩
theorem hJ0_isLatin1_aae02 : zMv yJ0_isLatin1_aae02 cJ0_isLatin1_aae02 1 (some .boolean) := ⟨zG_mem (n := 679) (by decide +kernel), zG_mem (n := 128) (by decide +kernel), zG_mem (n := 677) (by decide +kernel), zG_mem (n := 678) (by decide +kernel)⟩
theorem hJ0_checkIndex_df160 : zMs yJ0_checkIndex_df160 cJ0_checkIndex_df160 2 none := ⟨zG_mem (n := 685) (by decide +kernel), zG_mem (n := 128) (by decide +kernel), zG_mem (n := 684) (by decide +kernel)⟩
theorem hJ1_charAt_3b067 : zMs yJ1_charAt_3b067 cJ1_charAt_3b067 2 (some .char) := ⟨zG_mem (n := 682) (by decide +kernel), zG_mem (n := 129) (by decide +kernel), zG_mem (n := 681) (by decide +kernel)⟩
theorem hJ3_checkIndex_8e157 : zMs yJ3_checkIndex_8e157 cJ3_checkIndex_8e157 3 (some .int) := ⟨zG_mem (n := 690) (by decide +kernel), zG_mem (n := 130) (by decide +kernel), zG_mem (n := 689) (by decide +kernel)⟩
theorem kJ0_335 : Cond.methodLink RJ0 335 yJ0_coder_7d493 ∈ zTbl := zG_mem (n := 666) (by decide +kernel)
theorem kJ0_492 : Cond.methodLink RJ0 492 yJ0_isLatin1_aae02 ∈ zTbl := zG_mem (n := 676) (by decide +kernel)
theorem kJ0_495 : Cond.methodLink RJ0 495 yJ1_charAt_3b067 ∈ zTbl := zG_mem (n := 680) (by decide +kernel)
theorem kJ1_9 : Cond.methodLink RJ1 9 yJ0_checkIndex_df160 ∈ zTbl := zG_mem (n := 683) (by decide +kernel)
theorem kJ0_1059 : Cond.methodLink RJ0 1059 yJ3_checkIndex_8e157 ∈ zTbl := zG_mem (n := 688) (by decide +kernel)
theorem fJ0_9 : Cond.fieldLink RJ0 9 "java/lang/String" "value" "[B" ∈ zTbl := zG_mem (n := 2058) (by decide +kernel)
theorem fJ0_15 : Cond.fieldLink RJ0 15 "java/lang/String" "coder" "B" ∈ zTbl := zG_mem (n := 2059) (by decide +kernel)
theorem fJ0_38 : Cond.fieldLink RJ0 38 "java/lang/String" "COMPACT_STRINGS" "Z" ∈ zTbl := zG_mem (n := 670) (by decide +kernel)
theorem fJ0_1053 : Cond.fieldLink RJ0 1053 "jdk/internal/util/Preconditions" "SIOOBE_FORMATTER" "Ljava/util/function/BiFunction;" ∈ zTbl := zG_mem (n := 686) (by decide +kernel)
theorem kT4_59 : Cond.methodLink RX4 59 yJ0_length_8abf5 ∈ zTbl := zG_mem (n := 662) (by decide +kernel)
theorem kT4_65 : Cond.methodLink RX4 65 yJ0_charAt_5068e ∈ zTbl := zG_mem (n := 672) (by decide +kernel)
theorem kT11_82 : Cond.methodLink RX11 82 yJ0_length_8abf5 ∈ zTbl := zG_mem (n := 1601) (by decide +kernel)
theorem kT11_88 : Cond.methodLink RX11 88 yJ0_charAt_5068e ∈ zTbl := zG_mem (n := 1602) (by decide +kernel)
/-- a method walked by hand -/
def zHb (l : Launch) (Λ : List zC) (code : ByteArray) (maxL lv rt : Nat) (ret : Option FieldType) (tags : List Nat) (own : String) (post : List Int → zM → Int → zM → Prop) (vs : List Int) (mem : zM) : Prop :=
  ∀ (p : Program) (e : Env) (s : State) (m : MethodId) (args : Array Value) (below : List Frame) (meth : Method) (c : Code) (Q : State → Prop) (D : va_G) (ad sa sv : Nat → Nat) (cs : Nat → ClassId) (A : Nat → Prop),
    CallFix p m c code maxL s args zTbl own → zGl D cs sa sv A s → (∀ q, s.heap.size ≤ q → A q) →
    (∀ pc ls v mem', decode code pc = .ok (.ireturn, 1) → ¬ rt = 9 → (∀ ty, ret = some ty → narrow ty (.int (Int32.ofInt v)) = .int (Int32.ofInt v)) → post vs mem v mem' → zAW p l e (zRm lv) s m args below meth c 0 0 Q maxL Λ D ad sa cs A pc ls [(0, v)] mem') →
    (∀ pc ls mem', decode code pc = .ok (.return_, 1) → post vs mem 0 mem' → rt = 9 → zAW p l e (zRm lv) s m args below meth c 0 0 Q maxL Λ D ad sa cs A pc ls [] mem') →
    zAW p l e (zRm lv) s m args below meth c 0 0 Q maxL Λ D ad sa cs A 0 (zent 0 (tags.zip vs)) [] mem
theorem zMet_H {l : Launch} {Λ : List zC} {y : MethodName} {code : ByteArray} {maxL lv rt : Nat} {ret : Option FieldType} {tags : List Nat} {pre : List Int → zM → Prop} {post : List Int → zM → Int → zM → Prop} {own : String}
    (hy : plainFor y = true) (how : y.cls = own) (hrk : (rt = 9 ∧ ret = none) ∨ ((rt = 0 ∨ rt = 4) ∧ ∃ ty, ret = some ty)) (hlen : ∀ vs : List Int, vs.length = tags.length → (lg_sl ((tags.zip vs).map (zE (fun x => x) (fun x => x)))).length ≤ maxL)
    (body : ∀ (vs : List Int) (mem : zM), vs.length = tags.length → (∀ v ∈ tags.zip vs, zok v) → zokM Λ mem → pre vs mem → zHb l Λ code maxL lv rt ret tags own post vs mem) : zMet l Λ y code maxL ret lv tags rt pre post := by
  intro D ad sa sv cs sz vs mem hvl hok hm hpre
  have hE := body vs mem hvl hok hm hpre
  refine va_MetF (cc := code) (maxL := maxL) (ret := ret) hy rfl ?_
  intro p e s m args below meth c s₁ Bd hml hv
  obtain ⟨rfl, hsz, hG, hP, hD⟩ := hv
  subst hsz
  have hx := Bd.exec
  have hb := Bd.bytes
  have hr := Bd.returns
  have hts0 := atoms_spec (ws := Cond.code y code maxL ret :: zTbl) Bd.pre
  have hts : ∀ w ∈ zTbl, w.before ((tags.zip vs).map (zE ad sa)).toArray s = true := fun w hw => hts0 w (List.mem_cons_of_mem _ hw)
  have hown : s.vm.findClass own = some m.cls := how ▸ findClass_of_methodNamed Bd.named
  have hlocks := Bd.notSynchronized
  have hA : ∀ q : Nat, s.heap.size ≤ q → zA Λ ad s.heap.size q := fun q h => Or.inr h
  have S : CallFix p m c code maxL s ((tags.zip vs).map (zE ad sa)).toArray zTbl own := ⟨hx, hb, hml, hown, hts⟩
  have hcatlen : (lg_sl ((tags.zip vs).map (zE ad sa))).length ≤ maxL := by
    have h1 := hlen vs hvl
    have h2 : ∀ (ad' sa' : Nat → Nat) (us : List zV), (lg_sl (us.map (zE ad' sa'))).length = (us.map fun v => if v.1 = 1 then 2 else 1).sum := by
      intro ad' sa' us
      induction us with
      | nil => rfl
      | cons v r ih =>
        have e : lg_sl ((v :: r).map (zE ad' sa')) = (if (zE ad' sa' v).category = 2 then [.val (zE ad' sa' v), .second] else [.val (zE ad' sa' v)]) ++ lg_sl (r.map (zE ad' sa')) := rfl
        rw [e, List.length_append, ih, zE_cat, List.map_cons, List.sum_cons]
        by_cases h1 : v.1 = 1
        · rw [if_pos h1, if_pos rfl]; rfl
        · rw [if_neg h1, if_neg (by decide)]; rfl
    rw [h2] at h1 ⊢
    exact h1
  have hl0 := lv_entry ((tags.zip vs).map (zE ad sa)) (n := maxL) hcatlen
  rw [lg_entry_eq]
  generalize (lg_sl ((tags.zip vs).map (zE ad sa)) ++ List.replicate (maxL - (lg_sl ((tags.zip vs).map (zE ad sa))).length) Slot.unset).toArray = L at hl0 ⊢
  have hL : zLs ad sa maxL (zent 0 (tags.zip vs)) L := ⟨hl0.1, hl0.2.1, fun k h9 => hl0.2.2 _ (zent_in (tags.zip vs) 0 k h9)⟩
  have hS : va_S (zA Λ ad s.heap.size) s.heap s.heap [] := va_S.rf
  refine hE p e s m _ below meth c _ D ad sa sv cs _ S hG hA ?_ ?_ hm (fun _ h => by cases h) (zent_ok _ 0 hok) s.heap [] L hP hD hL hS
  · intro pc ls v mem' hd h99 hn hp hm' hs' _ H locs L' hP' hD' hL' hS'
    have hvr := zhi hs'
    rcases hrk with ⟨k1, k2⟩ | ⟨k1, ty, k2⟩
    · exact absurd k1 h99
    · have hq : ∀ t : State, t.heap = H → s.WarmedH t.vm → zQ rt Λ D ad cs s.heap.size (post vs mem) ((tags.zip vs).map (zE ad sa)).toArray s (.returned (some (.int (Int32.ofInt v)))) t := by
        intro t ht _
        have h1 : ¬ rt = 1 := by omega
        have h9 : ¬ rt = 9 := by omega
        unfold zQ
        rw [if_neg h1, if_neg h9]
        exact ⟨⟨Int32.ofInt v, mem', rfl, ⟨by rw [zi_toInt hvr]; exact hp, hm'⟩, by show va_P D zCl (zWd Λ ad cs mem') t.heap; rw [ht]; exact hP'⟩, hS'.F ht⟩
      exact W.zret (ty := ty) hx hb (hr.trans k2) (hn ty k2) hq hS'.2.2 hd
  · intro pc ls mem' hd hp hrt hm' hs' _ H locs L' hP' hD' hL' hS'
    have hq : ∀ t : State, t.heap = H → s.WarmedH t.vm → zQ rt Λ D ad cs s.heap.size (post vs mem) ((tags.zip vs).map (zE ad sa)).toArray s (.returned none) t := by
      intro t ht _
      have h1 : ¬ rt = 1 := by omega
      unfold zQ
      rw [if_neg h1, if_pos hrt]
      exact ⟨⟨mem', rfl, ⟨hp, hm'⟩, by show va_P D zCl (zWd Λ ad cs mem') t.heap; rw [ht]; exact hP'⟩, hS'.F ht⟩
    rcases hrk with ⟨k1, k2⟩ | ⟨k1, k2⟩
    · exact W.vret hx hb (hr.trans k2) hq hS'.2.2 hd
    · omega
/-- a text's length, as a number -/
def zLen (x : Int) : Int := (((zTx.map List.length).getD (x - 3).toNat 0 : Nat) : Int)
theorem zTl_b (i : Nat) : (zTx.map List.length).getD i 0 ≤ 7 := by
  have h : ∀ w ∈ zTx.map List.length, w ≤ 7 := by decide
  cases hj : (zTx.map List.length)[i]? with
  | none => rw [List.getD_eq_getElem?_getD, hj]; exact Nat.zero_le 7
  | some w => rw [List.getD_eq_getElem?_getD, hj]; exact h w (List.mem_of_getElem? hj)
theorem zTl_n : ∀ i, i < 26 → Int32.ofNat ((zTx.map List.length).getD i 0) = Int32.ofInt (((zTx.map List.length).getD i 0 : Nat) : Int) := by decide +kernel
section ZTX
variable {p : Program} {l : Launch} {e : Env} {R : Room} {s : State} {m : MethodId} {args : Array Value} {below : List Frame} {meth : Method} {c : Code} {cells slots : Nat} {Q : State → Prop} {cc : ByteArray} {nL : Nat} {own : String} {Λ : List zC} {D : va_G} {ad sa sv : Nat → Nat} {cs : Nat → ClassId} {A : Nat → Prop} {pc : Nat} {ls : zL} {st : List zV} {mem : zM}
theorem zx_aload {i : Fin 4} {v : zV} (S : CallFix p m c cc nL s args zTbl own) (hd : decode cc pc = .ok (.aload_n i, 1)) (hv : ls i.val = v) (ht : v.1 = 2 ∨ v.1 = 3) (k : zAW p l e R s m args below meth c cells slots Q nL Λ D ad sa cs A  (pc + 1) ls (v :: st) mem) : zAW p l e R s m args below meth c cells slots Q nL Λ D ad sa cs A  pc ls st mem := by
  obtain ⟨hx, hb, hml, hown, hts⟩ := id S
  subst hv; exact zs_aload_n hx hb hd ht k
theorem zx_iload {i : Fin 4} {x : Int} (S : CallFix p m c cc nL s args zTbl own) (hd : decode cc pc = .ok (.iload_n i, 1)) (hv : ls i.val = (0, x)) (k : zAW p l e R s m args below meth c cells slots Q nL Λ D ad sa cs A  (pc + 1) ls ((0, x) :: st) mem) : zAW p l e R s m args below meth c cells slots Q nL Λ D ad sa cs A  pc ls st mem := by
  obtain ⟨hx, hb, hml, hown, hts⟩ := id S
  exact zs_iload_n hx hb hd (by rw [hv]) (by rw [hv]; exact k)
theorem zx_ref {i : Nat} (hG : zGl D cs sa sv A s) (hi : i < 26) : zE ad sa (3, ((30 + i : Nat) : Int)) = .ref (sv i) := by
  show Value.ref (sa (30 + i)) = _
  rw [hG.2.2.2.2.2.2.2 i hi]
theorem zx_val {i idx : Nat} (S : CallFix p m c cc nL s args zTbl own) (hG : zGl D cs sa sv A s) (hi : i < 26) (hlk : Cond.fieldLink own idx "java/lang/String" "value" "[B" ∈ zTbl) (hd : decode cc pc = .ok (.getfield idx, 3)) (k : zAW p l e R s m args below meth c cells slots Q nL Λ D ad sa cs A  (pc + 3) ls ((3, ((30 + i : Nat) : Int)) :: st) mem) : zAW p l e R s m args below meth c cells slots Q nL Λ D ad sa cs A  pc ls ((3, ((3 + i : Nat) : Int)) :: st) mem := by
  intro hm hs hl H locs L hP hD hL hS
  obtain ⟨hx, hb, hml, hown, hts⟩ := id S
  have h := k hm (zcons (zok_c _) (ztl hs)) hl H locs L hP hD hL hS
  rw [List.map_cons, zx_ref hG hi] at h
  exact vk_getf hx hb (hG.2.2.2.1.1 i hi).2.2.1 hS hown (hts _ hlk) (fun _ q => q) hd h
theorem zx_coder {i idx : Nat} (S : CallFix p m c cc nL s args zTbl own) (hG : zGl D cs sa sv A s) (hi : i < 26) (hlk : Cond.fieldLink own idx "java/lang/String" "coder" "B" ∈ zTbl) (hd : decode cc pc = .ok (.getfield idx, 3)) (k : zAW p l e R s m args below meth c cells slots Q nL Λ D ad sa cs A  (pc + 3) ls ((0, 0) :: st) mem) : zAW p l e R s m args below meth c cells slots Q nL Λ D ad sa cs A  pc ls ((3, ((3 + i : Nat) : Int)) :: st) mem := by
  intro hm hs hl H locs L hP hD hL hS
  obtain ⟨hx, hb, hml, hown, hts⟩ := id S
  have h := k hm (zcons (zok_i' zR0) (ztl hs)) hl H locs L hP hD hL hS
  exact vk_getf hx hb (hG.2.2.2.1.1 i hi).2.1 hS hown (hts _ hlk) (fun _ q => q) hd h
theorem zx_len {i : Nat} (S : CallFix p m c cc nL s args zTbl own) (hG : zGl D cs sa sv A s) (hi : i < 26) (hd : decode cc pc = .ok (.arraylength, 1)) (k : zAW p l e R s m args below meth c cells slots Q nL Λ D ad sa cs A  (pc + 1) ls ((0, (((zTx.map List.length).getD i 0 : Nat) : Int)) :: st) mem) : zAW p l e R s m args below meth c cells slots Q nL Λ D ad sa cs A  pc ls ((3, ((30 + i : Nat) : Int)) :: st) mem := by
  intro hm hs hl H locs L hP hD hL hS
  obtain ⟨hx, hb, hml, hown, hts⟩ := id S
  have hb7 := zTl_b i
  have h := k hm (zcons (zok_i' ⟨by omega, by omega⟩) (ztl hs)) hl H locs L hP hD hL hS
  rw [List.map_cons, zx_ref hG hi]
  exact va_tlen hx hb (hG.2.2.2.1.1 i hi).2.2.2 hS (zTl_n i hi) hd h
theorem zx_byte {i : Nat} {k : Int} (S : CallFix p m c cc nL s args zTbl own) (hG : zGl D cs sa sv A s) (hi : i < 26) (h0 : 0 ≤ k) (h1 : k < (((zTx.map List.length).getD i 0 : Nat) : Int)) (hd : decode cc pc = .ok (.baload, 1)) (kk : ∀ z : Int32, zAW p l e R s m args below meth c cells slots Q nL Λ D ad sa cs A  (pc + 1) ls ((0, z.toInt) :: st) mem) : zAW p l e R s m args below meth c cells slots Q nL Λ D ad sa cs A  pc ls ((0, k) :: (3, ((30 + i : Nat) : Int)) :: st) mem := by
  intro hm hs hl H locs L hP hD hL hS
  obtain ⟨hx, hb, hml, hown, hts⟩ := id S
  have hk := zhi hs
  have h := kk (((zTx.map (·.map Int32.ofInt)).getD i []).getD k.toNat 0) hm (zcons (zok_i _) (ztl (ztl hs))) hl H locs L hP hD hL hS
  rw [List.map_cons, zE_i] at h
  rw [List.map_cons, List.map_cons, zx_ref hG hi]
  exact va_tb hx hb (hG.2.2.2.1.1 i hi).2.2.2 hS (zin hk h0 h1) (by rw [zcl_i hk]) hd h
theorem zx_cs {idx : Nat} (S : CallFix p m c cc nL s args zTbl own) (hG : zGl D cs sa sv A s) (hlk : Cond.fieldLink own idx "java/lang/String" "COMPACT_STRINGS" "Z" ∈ zTbl) (hd : decode cc pc = .ok (.getstatic idx, 3)) (k : zAW p l e R s m args below meth c cells slots Q nL Λ D ad sa cs A  (pc + 3) ls ((0, 1) :: st) mem) : zAW p l e R s m args below meth c cells slots Q nL Λ D ad sa cs A  pc ls st mem := by
  obtain ⟨hx, hb, hml, hown, hts⟩ := id S
  exact zs_push (zok_i' ⟨by omega, by omega⟩) (fun H locs L rest _ hS w => va_gets hx hb hG.2.2.2.2.2.1 hS hown (hts _ hlk) (fun _ q => q) hd w) k
theorem zx_i2c {z : Int32} (S : CallFix p m c cc nL s args zTbl own) (hd : decode cc pc = .ok (.i2c, 1)) (k : zAW p l e R s m args below meth c cells slots Q nL Λ D ad sa cs A  (pc + 1) ls ((0, (z &&& 255).toInt) :: st) mem) : zAW p l e R s m args below meth c cells slots Q nL Λ D ad sa cs A  pc ls ((0, (z &&& 255).toInt) :: st) mem := by
  obtain ⟨hx, hb, hml, hown, hts⟩ := id S
  exact zs_i1 rfl (fun H locs L rest h => lv_i2c hx hb hd (by rw [zi_of]; exact sc_c2 z) h) k
/-- a call whose receiver is a text -/
theorem zcall_T {y : MethodName} {code : ByteArray} {maxL lv rt idx : Nat} {ret : Option FieldType} {tags : List Nat} {pre : List Int → zM → Prop} {post : List Int → zM → Int → zM → Prop}
    (S : CallFix p m c cc nL s args zTbl own) (hG : zGl D cs sa sv A s) (hA : ∀ q, s.heap.size ≤ q → A q) (hM : zMet l Λ y code maxL ret lv (3 :: tags) rt pre post) (hnm : zNm y tags.length) (hw : zMv y code maxL ret) (hcl : y.cls = "java/lang/String")
    (hlk : Cond.methodLink own idx y ∈ zTbl) (hrc : ∀ vs mem, pre vs mem → ∃ (i : Nat) (tl : List Int), vs = ((3 + i : Nat) : Int) :: tl ∧ i < 26)
    (hR : lv + 2 + 1 ≤ R.frames ∧ 8 + (maxL + 11) + (40 * lv + 100) ≤ R.locals) (hf : cells ≤ R.cells ∧ slots ≤ R.slots) : zCOK p l e R s m args below meth c cells slots nL Λ D ad sa cs A cc (.invokevirtual idx) (3 :: tags) rt pre post := by
  intro Q pc ls vs rest mem hd hlen hpre hcat kk
  obtain ⟨i, tl, rfl, hi⟩ := hrc vs mem hpre
  intro hm hs hl H locs L hP hD hL hS
  obtain ⟨hsv, hsr⟩ := zrev hs
  have hAs := zA_sub (s := s) hD hS hA
  have hM' := hM D ad sa sv cs H.size (((3 + i : Nat) : Int) :: tl) mem hlen hsv hm hpre
  have hrecv := vk_recv hG.2.2.2.1 hi hS
  rw [← hcl] at hrecv
  have hlt : tl.length = tags.length := Nat.succ.inj hlen
  have hn : ((tags.zip tl).map (zE ad sa)).length = tags.length := by rw [List.length_map, List.length_zip, hlt, Nat.min_self]
  have hst : ((((3 :: tags).zip (((3 + i : Nat) : Int) :: tl)).reverse ++ rest).map (zE ad sa)) = ((tags.zip tl).map (zE ad sa)).reverse ++ .ref (sa (3 + i)) :: rest.map (zE ad sa) := by
    rw [List.zip_cons_cons, List.reverse_cons, List.append_assoc, List.map_append, List.map_reverse]
    rfl
  have hp : PreV s H y.cls (sa (3 + i)) (zPre Λ D ad sa sv cs H.size ((3 :: tags).zip (((3 + i : Nat) : Int) :: tl)) mem) ((tags.zip tl).map (zE ad sa)) :=
    ⟨zPre_blind, hrecv, fun U hU hW => zPre_at (vs := (3 :: tags).zip (((3 + i : Nat) : Int) :: tl)) hG hP hD hS hAs hU hW⟩
  have hcw : 2 * (F0 m pc L ((((3 :: tags).zip (((3 + i : Nat) : Int) :: tl)).reverse ++ rest).map (zE ad sa))).monitorRoom + ((rest.map (zE ad sa)).map fun v => v.category).sum ≤ 8 := lv_room (by rw [zcats_E]; exact hcat)
  obtain ⟨hx, hb, hml, hown, hts⟩ := id S
  refine zcall_end (rt := rt) (post := post (((3 + i : Nat) : Int) :: tl) mem) hm hl hsr hP hD hL hS hAs (av := (Value.ref (sa (3 + i)) :: (tags.zip tl).map (zE ad sa)).toArray) ?_ kk
  exact va_runV S hM' (C := y.cls) ⟨⟨rfl, rfl, hR.1, hR.2, zwords hts hw.1, List.mem_cons_self, hts _ hw.1, hts _ hw.2.1, hnm.1, zparams hnm.2, hts _ hlk⟩, hts _ hw.2.2.1, hts _ hw.2.2.2⟩ hp rfl hn hL.1 hst hcw hd hf
end ZTX
/-- a text's number: 3 to 28 -/
def zPt : List Int → zM → Prop := fun vs _ => match vs with
  | a :: _ => 3 ≤ a ∧ a < 29
  | [] => False
theorem zPt_r {pre : List Int → zM → Prop} (h : ∀ vs mem, pre vs mem → zPt vs mem) : ∀ vs mem, pre vs mem → ∃ (i : Nat) (tl : List Int), vs = ((3 + i : Nat) : Int) :: tl ∧ i < 26 := by
  intro vs mem hp
  have := h vs mem hp
  cases vs with
  | nil => exact this.elim
  | cons a tl =>
    have hb : 3 ≤ a ∧ a < 29 := this
    exact ⟨(a - 3).toNat, tl, by congr 1; omega, by omega⟩
/-- a method walked by hand whose last argument isn't looked at: any value -/
def zPreE (Λ : List zC) (D : va_G) (ad sa sv : Nat → Nat) (cs : Nat → ClassId) (sz : Nat) (vs : List zV) (v : Value) (mem : zM) : Array Value → State → Prop :=
  va_Pc (vs.map (zE ad sa) ++ [v]) (fun U => U.heap.size = sz ∧ zGl D cs sa sv (zA Λ ad sz) U ∧ va_P D zCl (zWd Λ ad cs mem) U.heap ∧ va_D (zA Λ ad sz) (zWd Λ ad cs mem))
theorem zargs_app {v : Value} {q : Nat × Value} : ∀ (xs : List Value) (k : Nat), q ∈ lv_args k xs → q ∈ lv_args k (xs ++ [v]) := by
  intro xs
  induction xs with
  | nil => intro k h; simp only [lv_args] at h; cases h
  | cons x r ih =>
    intro k h
    simp only [lv_args, List.cons_append] at h ⊢
    rcases List.mem_cons.mp h with h | h
    · exact List.mem_cons.mpr (Or.inl h)
    · exact List.mem_cons.mpr (Or.inr (ih _ h))
theorem zsl_app {v : Value} (hv : v.category = 1) (xs : List Value) : (lg_sl (xs ++ [v])).length = (lg_sl xs).length + 1 := by
  unfold lg_sl
  rw [List.flatMap_append, List.length_append]
  have e : (List.flatMap (fun v : Value => if v.category = 2 then [Slot.val v, .second] else [.val v]) [v]).length = 1 := by
    rw [List.flatMap_cons, List.flatMap_nil, List.append_nil, hv, if_neg (by decide)]
    rfl
  rw [e]
theorem zsl_E (ad sa ad' sa' : Nat → Nat) (us : List zV) : (lg_sl (us.map (zE ad sa))).length = (lg_sl (us.map (zE ad' sa'))).length := by
  have h2 : ∀ (ad' sa' : Nat → Nat) (us : List zV), (lg_sl (us.map (zE ad' sa'))).length = (us.map fun v => if v.1 = 1 then 2 else 1).sum := by
    intro ad' sa' us
    induction us with
    | nil => rfl
    | cons v r ih =>
      have e : lg_sl ((v :: r).map (zE ad' sa')) = (if (zE ad' sa' v).category = 2 then [.val (zE ad' sa' v), .second] else [.val (zE ad' sa' v)]) ++ lg_sl (r.map (zE ad' sa')) := rfl
      rw [e, List.length_append, ih, zE_cat, List.map_cons, List.sum_cons]
      by_cases h1 : v.1 = 1
      · rw [if_pos h1, if_pos rfl]; rfl
      · rw [if_neg h1, if_neg (by decide)]; rfl
  rw [h2, h2]
theorem zMet_E {l : Launch} {Λ : List zC} {y : MethodName} {code : ByteArray} {maxL lv : Nat} {ty : FieldType} {tags : List Nat} {post : List Int → zM → Int → zM → Prop} {own : String} {v : Value} (hvc : v.category = 1)
    (hy : plainFor y = true) (how : y.cls = own) {vs : List Int} {mem : zM} (hok : ∀ w ∈ tags.zip vs, zok w) (hm : zokM Λ mem) (hlen : (lg_sl ((tags.zip vs).map (zE (fun x => x) (fun x => x)))).length + 1 ≤ maxL)
    (hE : zHb l Λ code maxL lv 0 (some ty) tags own post vs mem) (D : va_G) (ad sa sv : Nat → Nat) (cs : Nat → ClassId) (sz : Nat) : Met l y (.code y code maxL (some ty) :: zTbl) (zRm lv) (zPreE Λ D ad sa sv cs sz (tags.zip vs) v mem) (zQ 0 Λ D ad cs sz (post vs mem)) 0 0 (zA Λ ad sz) := by
  refine va_MetF (cc := code) (maxL := maxL) (ret := some ty) hy rfl ?_
  intro p e s m args below meth c s₁ Bd hml hv
  obtain ⟨rfl, hsz, hG, hP, hD⟩ := hv
  subst hsz
  have hx := Bd.exec
  have hb := Bd.bytes
  have hr := Bd.returns
  have hts0 := atoms_spec (ws := Cond.code y code maxL (some ty) :: zTbl) Bd.pre
  have hts : ∀ w ∈ zTbl, w.before ((tags.zip vs).map (zE ad sa) ++ [v]).toArray s = true := fun w hw => hts0 w (List.mem_cons_of_mem _ hw)
  have hown : s.vm.findClass own = some m.cls := how ▸ findClass_of_methodNamed Bd.named
  have hlocks := Bd.notSynchronized
  have hA : ∀ q : Nat, s.heap.size ≤ q → zA Λ ad s.heap.size q := fun q h => Or.inr h
  have S : CallFix p m c code maxL s ((tags.zip vs).map (zE ad sa) ++ [v]).toArray zTbl own := ⟨hx, hb, hml, hown, hts⟩
  have hcatlen : (lg_sl ((tags.zip vs).map (zE ad sa) ++ [v])).length ≤ maxL := by
    rw [zsl_app hvc, zsl_E ad sa (fun x => x) (fun x => x)]
    exact hlen
  have hl0 := lv_entry ((tags.zip vs).map (zE ad sa) ++ [v]) (n := maxL) hcatlen
  rw [lg_entry_eq]
  generalize (lg_sl ((tags.zip vs).map (zE ad sa) ++ [v]) ++ List.replicate (maxL - (lg_sl ((tags.zip vs).map (zE ad sa) ++ [v])).length) Slot.unset).toArray = L at hl0 ⊢
  have hL : zLs ad sa maxL (zent 0 (tags.zip vs)) L := ⟨hl0.1, hl0.2.1, fun k h9 => hl0.2.2 _ (zargs_app _ 0 (zent_in (tags.zip vs) 0 k h9))⟩
  have hS : va_S (zA Λ ad s.heap.size) s.heap s.heap [] := va_S.rf
  refine hE p e s m _ below meth c _ D ad sa sv cs _ S hG hA ?_ ?_ hm (fun _ h => by cases h) (zent_ok _ 0 hok) s.heap [] L hP hD hL hS
  · intro pc ls w mem' hd h99 hn hp hm' hs' _ H locs L' hP' hD' hL' hS'
    have hvr := zhi hs'
    have hq : ∀ t : State, t.heap = H → s.WarmedH t.vm → zQ 0 Λ D ad cs s.heap.size (post vs mem) ((tags.zip vs).map (zE ad sa) ++ [v]).toArray s (.returned (some (.int (Int32.ofInt w)))) t := by
      intro t ht _
      unfold zQ
      rw [if_neg (by decide), if_neg (by decide)]
      exact ⟨⟨Int32.ofInt w, mem', rfl, ⟨by rw [zi_toInt hvr]; exact hp, hm'⟩, by show va_P D zCl (zWd Λ ad cs mem') t.heap; rw [ht]; exact hP'⟩, hS'.F ht⟩
    exact W.zret (ty := ty) hx hb hr (hn ty rfl) hq hS'.2.2 hd
  · intro pc ls mem' hd hp hrt
    exact absurd hrt (by decide)
/-- Preconditions.checkIndex -/
theorem hbJ3_checkIndex (l : Launch) {a b : Int} {mem : zM} (hab : 0 ≤ a ∧ a < b) : zHb l zLay cJ3_checkIndex_8e157 3 0 0 (some .int) [0, 0] RJ3 (zpu fun _ _ _ => True) [a, b] mem := by
  intro p e s m args below meth c Q D ad sa sv cs A S hG hA hret hvr
  obtain ⟨hx, hb, hml, hown, hts⟩ := id S
  refine zx_iload (x := a) S (i := 0) (by decide +kernel) rfl ?_
  refine zs_if (cnd := .lt) (off := 8) hx hb (by decide +kernel) (tgt := 9) rfl (fun h => ?_) (fun _ => ?_)
  · exact absurd (show a < 0 from h) (by omega)
  refine zx_iload (x := a) S (i := 0) (by decide +kernel) rfl ?_
  refine zx_iload (x := b) S (i := 1) (by decide +kernel) rfl ?_
  refine zs_icmp (cnd := .lt) (off := 10) hx hb (by decide +kernel) (tgt := 16) rfl (fun _ => ?_) (fun h => ?_)
  · refine zx_iload (x := a) S (i := 0) (by decide +kernel) rfl ?_
    exact hret _ _ _ _ (by decide +kernel) (by decide) (fun ty h => by cases h; exact vp_nar_int _) ⟨rfl, trivial⟩
  · exact absurd (show a < b from hab.2) h
/-- String.checkIndex: the formatter is any value -/
theorem mJ0_checkIndex (l : Launch) : zMet l zLay yJ0_checkIndex_df160 cJ0_checkIndex_df160 2 none 1 [0, 0] 9 (fun vs _ => match vs with | [a, b] => 0 ≤ a ∧ a < b | _ => False) (zpu fun _ _ _ => True) := by
  refine zMet_H (own := RJ0) (by decide +kernel) rfl (Or.inl ⟨rfl, rfl⟩) (fun vs h => by obtain ⟨a, b, rfl⟩ := zlen2 h; exact Nat.le_of_ble_eq_true rfl) ?_
  intro vs mem hvl hok hm hpre
  obtain ⟨a, b, rfl⟩ := zlen2 hvl
  have hab : 0 ≤ a ∧ a < b := hpre
  intro p e s m args below meth c Q D ad sa sv cs A S hG hA hret hvr
  obtain ⟨hx, hb, hml, hown, hts⟩ := id S
  refine zx_iload (x := a) S (i := 0) (by decide +kernel) rfl ?_
  refine zx_iload (x := b) S (i := 1) (by decide +kernel) rfl ?_
  obtain ⟨v, hvc, hZ⟩ := hG.2.2.2.2.2.2.1
  intro hm1 hs1 hl1 H locs L hP hD hL hS
  refine va_gets hx hb hZ hS hown (hts _ fJ0_1053) (fun _ q => q) (by decide +kernel) ?_
  have hAs := zA_sub (s := s) hD hS hA
  have hM := zMet_E (l := l) (Λ := zLay) (y := yJ3_checkIndex_8e157) (maxL := 3) (tags := [0, 0]) (vs := [a, b]) hvc (by decide +kernel) rfl hok hm1 (Nat.le_of_ble_eq_true rfl) (hbJ3_checkIndex l hab) D ad sa sv cs H.size
  have hp : PreS s H (zPreE zLay D ad sa sv cs H.size (([0, 0] : List Nat).zip [a, b]) v mem) ((([0, 0] : List Nat).zip [a, b]).map (zE ad sa) ++ [v]) := by
    refine ⟨fun a U g mk h => ?_, fun U hU hW => ?_⟩
    · obtain ⟨h1, h2, h3, h4, h5⟩ := h
      exact ⟨h1, h2, zGl_same (U := U.calling g mk a) h3 rfl rfl, h4, h5⟩
    · refine ⟨rfl, by rw [hU], zGl_call hG (by rw [hU]; exact hS) hAs hW, by rw [hU]; exact hP, hD.weaken (fun k q hk _ => ?_)⟩
      obtain ⟨h1, h2⟩ := zWd_addr hk
      exact Or.inl ⟨k, h1, h2⟩
  refine zcall_end (rt := 0) (post := (zpu fun _ _ _ => True) [a, b] mem) (rest := []) (pc := 5) hm1 hl1 (fun _ h => by cases h) hP hD hL hS hAs (av := ((([0, 0] : List Nat).zip [a, b]).map (zE ad sa) ++ [v]).toArray) ?_ (fun r mem' _ hm' hq => ?_)
  · exact va_runS (n := 3) S hM ⟨⟨rfl, rfl, by decide, by decide, zwords hts hJ3_checkIndex_8e157.1, List.mem_cons_self, hts _ hJ3_checkIndex_8e157.1, hts _ hJ3_checkIndex_8e157.2.1, by decide, zparams (by decide +kernel), hts _ kJ0_1059⟩, hts _ hJ3_checkIndex_8e157.2.2⟩ hp rfl rfl hL.1 rfl (lv_room (Nat.zero_le _)) (show decode cJ0_checkIndex_df160 5 = .ok (.invokestatic 1059, 3) from by decide +kernel) ⟨Nat.le_refl _, Nat.le_refl _⟩
  · obtain ⟨rfl, _⟩ := hq
    refine zs_pop hx hb (by decide +kernel) (show (0 : Nat) ≠ 1 by decide) ?_
    exact hvr _ _ _ (by decide +kernel) ⟨rfl, trivial⟩ rfl
/-- StringLatin1.charAt: the bytes of a text, by its number -/
theorem mJ1_charAt (l : Launch) : zMet l zLay yJ1_charAt_3b067 cJ1_charAt_3b067 2 (some .char) 2 [3, 0] 0 (fun vs _ => match vs with | [a, k] => 30 ≤ a ∧ a < 56 ∧ 0 ≤ k ∧ k < zLen (a - 27) | _ => False) (zpu fun _ _ r => narrow .char (.int (Int32.ofInt r)) = .int (Int32.ofInt r)) := by
  refine zMet_H (own := RJ1) (by decide +kernel) rfl (Or.inr ⟨Or.inl rfl, _, rfl⟩) (fun vs h => by obtain ⟨a, b, rfl⟩ := zlen2 h; exact Nat.le_of_ble_eq_true rfl) ?_
  intro vs mem hvl hok hm hpre
  obtain ⟨a, k, rfl⟩ := zlen2 hvl
  have hab : 30 ≤ a ∧ a < 56 ∧ 0 ≤ k ∧ k < zLen (a - 27) := hpre
  obtain ⟨i, hi, rfl⟩ : ∃ i : Nat, i < 26 ∧ a = ((30 + i : Nat) : Int) := ⟨(a - 30).toNat, by omega, by omega⟩
  have hk : k < (((zTx.map List.length).getD i 0 : Nat) : Int) := by
    have h4 := hab.2.2.2
    unfold zLen at h4
    rw [show (((30 + i : Nat) : Int) - 27 - 3).toNat = i by omega] at h4
    exact h4
  intro p e s m args below meth c Q D ad sa sv cs A S hG hA hret hvr
  obtain ⟨hx, hb, hml, hown, hts⟩ := id S
  refine zx_iload (x := k) S (i := 1) (by decide +kernel) rfl ?_
  refine zx_aload (v := (3, ((30 + i : Nat) : Int))) S (i := 0) (by decide +kernel) rfl (Or.inr rfl) ?_
  refine zx_len S hG hi (by decide +kernel) ?_
  refine zcall_S S hG hA (mJ0_checkIndex l) ⟨by decide, by decide +kernel⟩ hJ0_checkIndex_df160.1 hJ0_checkIndex_df160.2.1 hJ0_checkIndex_df160.2.2 (Or.inl kJ1_9) ⟨by decide, by decide⟩ ⟨Nat.le_refl _, Nat.le_refl _⟩ Q 3 _ [k, (((zTx.map List.length).getD i 0 : Nat) : Int)] [] mem (by decide +kernel) rfl ⟨hab.2.2.1, hk⟩ (by decide) (fun r mem' _ hm' hp => ?_)
  obtain ⟨rfl, _⟩ := hp
  refine zx_aload (v := (3, ((30 + i : Nat) : Int))) S (i := 0) (by decide +kernel) rfl (Or.inr rfl) ?_
  refine zx_iload (x := k) S (i := 1) (by decide +kernel) rfl ?_
  refine zx_byte S hG hi hab.2.2.1 hk (by decide +kernel) (fun z => ?_)
  refine zs_sipush (n := 255) hx hb (by decide +kernel) ⟨by decide, by decide⟩ ?_
  have ez : Int32.ofInt z.toInt &&& Int32.ofInt 255 = z &&& 255 := by rw [zi_of]; rfl
  refine zs_ii (f := Int32.ofInt z.toInt &&& Int32.ofInt 255) rfl (fun H locs L rest h => lv_iand hx hb (by decide +kernel) h) ?_
  rw [ez]
  refine zx_i2c S (by decide +kernel) ?_
  exact hret _ _ _ _ (by decide +kernel) (by decide) (fun ty h => by cases h; rw [zi_of]; exact sc_nar z) ⟨rfl, by show narrow .char (.int (Int32.ofInt (z &&& 255).toInt)) = .int (Int32.ofInt (z &&& 255).toInt); rw [zi_of]; exact sc_nar z⟩
/-- String.isLatin1, coder, length, charAt -/
theorem mJ0_isLatin1 (l : Launch) : zMet l zLay yJ0_isLatin1_aae02 cJ0_isLatin1_aae02 1 (some .boolean) 0 [3] 4 zPt (zpu fun _ _ r => r = 1) := by
  refine zMet_H (own := RJ0) (by decide +kernel) rfl (Or.inr ⟨Or.inr rfl, _, rfl⟩) (fun vs h => by obtain ⟨a, rfl⟩ := zlen1 h; exact Nat.le_of_ble_eq_true rfl) ?_
  intro vs mem hvl hok hm hpre
  obtain ⟨a, rfl⟩ := zlen1 hvl
  have hab : 3 ≤ a ∧ a < 29 := hpre
  obtain ⟨i, hi, rfl⟩ : ∃ i : Nat, i < 26 ∧ a = ((3 + i : Nat) : Int) := ⟨(a - 3).toNat, by omega, by omega⟩
  intro p e s m args below meth c Q D ad sa sv cs A S hG hA hret hvr
  obtain ⟨hx, hb, hml, hown, hts⟩ := id S
  refine zx_cs S hG fJ0_38 (by decide +kernel) ?_
  refine zs_if (cnd := .eq) (off := 14) hx hb (by decide +kernel) (tgt := 17) rfl (fun h => ?_) (fun _ => ?_)
  · exact absurd (show (1 : Int) = 0 from h) (by decide)
  refine zx_aload (v := (3, ((3 + i : Nat) : Int))) S (i := 0) (by decide +kernel) rfl (Or.inr rfl) ?_
  refine zx_coder S hG hi fJ0_15 (by decide +kernel) ?_
  refine zs_if (cnd := .ne) (off := 7) hx hb (by decide +kernel) (tgt := 17) rfl (fun h => ?_) (fun _ => ?_)
  · exact absurd (rfl : (0 : Int) = 0) h
  refine zs_iconst hx hb (n := 1) (by decide +kernel) ⟨by decide, by decide⟩ ?_
  refine zs_goto (off := 4) hx hb (by decide +kernel) (tgt := 18) rfl ?_
  exact hret _ _ _ _ (by decide +kernel) (by decide) (fun ty h => by cases h; rfl) ⟨rfl, rfl⟩
theorem mJ0_coder (l : Launch) : zMet l zLay yJ0_coder_7d493 cJ0_coder_7d493 1 (some .byte) 0 [3] 0 zPt (zpu fun _ _ r => r = 0) := by
  refine zMet_H (own := RJ0) (by decide +kernel) rfl (Or.inr ⟨Or.inl rfl, _, rfl⟩) (fun vs h => by obtain ⟨a, rfl⟩ := zlen1 h; exact Nat.le_of_ble_eq_true rfl) ?_
  intro vs mem hvl hok hm hpre
  obtain ⟨a, rfl⟩ := zlen1 hvl
  have hab : 3 ≤ a ∧ a < 29 := hpre
  obtain ⟨i, hi, rfl⟩ : ∃ i : Nat, i < 26 ∧ a = ((3 + i : Nat) : Int) := ⟨(a - 3).toNat, by omega, by omega⟩
  intro p e s m args below meth c Q D ad sa sv cs A S hG hA hret hvr
  obtain ⟨hx, hb, hml, hown, hts⟩ := id S
  refine zx_cs S hG fJ0_38 (by decide +kernel) ?_
  refine zs_if (cnd := .eq) (off := 10) hx hb (by decide +kernel) (tgt := 13) rfl (fun h => ?_) (fun _ => ?_)
  · exact absurd (show (1 : Int) = 0 from h) (by decide)
  refine zx_aload (v := (3, ((3 + i : Nat) : Int))) S (i := 0) (by decide +kernel) rfl (Or.inr rfl) ?_
  refine zx_coder S hG hi fJ0_15 (by decide +kernel) ?_
  refine zs_goto (off := 4) hx hb (by decide +kernel) (tgt := 14) rfl ?_
  exact hret _ _ _ _ (by decide +kernel) (by decide) (fun ty h => by cases h; rfl) ⟨rfl, rfl⟩
theorem mJ0_length (l : Launch) : zMet l zLay yJ0_length_8abf5 cJ0_length_8abf5 1 (some .int) 1 [3] 0 zPt (zfu fun vs _ => match vs with | a :: _ => zLen a | [] => 0) := by
  refine zMet_H (own := RJ0) (by decide +kernel) rfl (Or.inr ⟨Or.inl rfl, _, rfl⟩) (fun vs h => by obtain ⟨a, rfl⟩ := zlen1 h; exact Nat.le_of_ble_eq_true rfl) ?_
  intro vs mem hvl hok hm hpre
  obtain ⟨a, rfl⟩ := zlen1 hvl
  have hab : 3 ≤ a ∧ a < 29 := hpre
  obtain ⟨i, hi, rfl⟩ : ∃ i : Nat, i < 26 ∧ a = ((3 + i : Nat) : Int) := ⟨(a - 3).toNat, by omega, by omega⟩
  have hz : zLen ((3 + i : Nat) : Int) = (((zTx.map List.length).getD i 0 : Nat) : Int) := by
    unfold zLen; rw [show (((3 + i : Nat) : Int) - 3).toNat = i by omega]
  intro p e s m args below meth c Q D ad sa sv cs A S hG hA hret hvr
  obtain ⟨hx, hb, hml, hown, hts⟩ := id S
  refine zx_aload (v := (3, ((3 + i : Nat) : Int))) S (i := 0) (by decide +kernel) rfl (Or.inr rfl) ?_
  refine zx_val S hG hi fJ0_9 (by decide +kernel) ?_
  refine zx_len S hG hi (by decide +kernel) ?_
  refine zx_aload (v := (3, ((3 + i : Nat) : Int))) S (i := 0) (by decide +kernel) rfl (Or.inr rfl) ?_
  refine zcall_T S hG hA (mJ0_coder l) ⟨by decide, by decide +kernel⟩ hJ0_coder_7d493 rfl kJ0_335 (zPt_r (fun _ _ h => h)) ⟨by decide, by decide⟩ ⟨Nat.le_refl _, Nat.le_refl _⟩ Q 6 _ [((3 + i : Nat) : Int)] [(0, (((zTx.map List.length).getD i 0 : Nat) : Int))] mem (by decide +kernel) rfl hab (Nat.le_of_ble_eq_true rfl) (fun r mem' _ hm' hp => ?_)
  obtain ⟨rfl, rfl⟩ := hp
  have hb7 := zTl_b i
  have hsh : ∀ n : Nat, n ≤ 7 → (n : Int) = (Int32.ofInt (n : Int) >>> (Int32.ofInt 0 &&& 31)).toInt := by
    intro n hn
    have : n = 0 ∨ n = 1 ∨ n = 2 ∨ n = 3 ∨ n = 4 ∨ n = 5 ∨ n = 6 ∨ n = 7 := by omega
    rcases this with h | h | h | h | h | h | h | h <;> subst h <;> decide
  refine zs_ii (hsh _ hb7) (fun H locs L rest h => lv_ishr hx hb (by decide +kernel) h) ?_
  exact hret _ _ _ _ (by decide +kernel) (by decide) (fun ty h => by cases h; exact vp_nar_int _) ⟨rfl, hz.symm⟩
theorem mJ0_charAt (l : Launch) : zMet l zLay yJ0_charAt_5068e cJ0_charAt_5068e 2 (some .char) 3 [3, 0] 0 (fun vs _ => match vs with | [a, k] => (3 ≤ a ∧ a < 29) ∧ 0 ≤ k ∧ k < zLen a | _ => False) (zpu fun _ _ _ => True) := by
  refine zMet_H (own := RJ0) (by decide +kernel) rfl (Or.inr ⟨Or.inl rfl, _, rfl⟩) (fun vs h => by obtain ⟨a, b, rfl⟩ := zlen2 h; exact Nat.le_of_ble_eq_true rfl) ?_
  intro vs mem hvl hok hm hpre
  obtain ⟨a, k, rfl⟩ := zlen2 hvl
  have hab : (3 ≤ a ∧ a < 29) ∧ 0 ≤ k ∧ k < zLen a := hpre
  obtain ⟨i, hi, rfl⟩ : ∃ i : Nat, i < 26 ∧ a = ((3 + i : Nat) : Int) := ⟨(a - 3).toNat, by omega, by omega⟩
  intro p e s m args below meth c Q D ad sa sv cs A S hG hA hret hvr
  obtain ⟨hx, hb, hml, hown, hts⟩ := id S
  refine zx_aload (v := (3, ((3 + i : Nat) : Int))) S (i := 0) (by decide +kernel) rfl (Or.inr rfl) ?_
  refine zcall_T S hG hA (mJ0_isLatin1 l) ⟨by decide, by decide +kernel⟩ hJ0_isLatin1_aae02 rfl kJ0_492 (zPt_r (fun _ _ h => h)) ⟨by decide, by decide⟩ ⟨Nat.le_refl _, Nat.le_refl _⟩ Q 1 _ [((3 + i : Nat) : Int)] [] mem (by decide +kernel) rfl hab.1 (by decide) (fun r mem' _ hm' hp => ?_)
  obtain ⟨rfl, rfl⟩ := hp
  refine zs_if (cnd := .eq) (off := 12) hx hb (by decide +kernel) (tgt := 16) rfl (fun h => ?_) (fun _ => ?_)
  · exact absurd (show (1 : Int) = 0 from h) (by decide)
  refine zx_aload (v := (3, ((3 + i : Nat) : Int))) S (i := 0) (by decide +kernel) rfl (Or.inr rfl) ?_
  refine zx_val S hG hi fJ0_9 (by decide +kernel) ?_
  refine zx_iload (x := k) S (i := 1) (by decide +kernel) rfl ?_
  have hpz : 30 ≤ ((30 + i : Nat) : Int) ∧ ((30 + i : Nat) : Int) < 56 ∧ 0 ≤ k ∧ k < zLen (((30 + i : Nat) : Int) - 27) := by
    refine ⟨by omega, by omega, hab.2.1, ?_⟩
    rw [show ((30 + i : Nat) : Int) - 27 = ((3 + i : Nat) : Int) by omega]
    exact hab.2.2
  refine zcall_S S hG hA (mJ1_charAt l) ⟨by decide, by decide +kernel⟩ hJ1_charAt_3b067.1 hJ1_charAt_3b067.2.1 hJ1_charAt_3b067.2.2 (Or.inl kJ0_495) ⟨by decide, by decide⟩ ⟨Nat.le_refl _, Nat.le_refl _⟩ Q 12 _ [((30 + i : Nat) : Int), k] [] _ (by decide +kernel) rfl hpz (by decide) (fun r mem' hrr hm' hp => ?_)
  obtain ⟨rfl, hn⟩ := hp
  exact hret _ _ _ _ (by decide +kernel) (by decide) (fun ty h => by cases h; exact hn) ⟨rfl, trivial⟩
/-- as callees of a class's own methods -/
theorem zTx_length {l : Launch} {own : String} {idx : Nat} (hl : Cond.methodLink own idx yJ0_length_8abf5 ∈ zTbl) : zTxC l zLay own idx ([3], 0, zPt, zfu fun vs _ => match vs with | a :: _ => zLen a | [] => 0) := by
  intro p e R s m args below meth c nL D ad sa sv cs A cc S hG hA hF hL
  exact zcall_T S hG hA (mJ0_length l) ⟨by decide, by decide +kernel⟩ hJ0_length_8abf5 rfl hl (zPt_r (fun _ _ h => h)) ⟨by omega, by omega⟩ ⟨Nat.zero_le _, Nat.zero_le _⟩
theorem zTx_charAt {l : Launch} {own : String} {idx : Nat} (hl : Cond.methodLink own idx yJ0_charAt_5068e ∈ zTbl) : zTxC l zLay own idx ([3, 0], 0, (fun vs _ => match vs with | [a, k] => (3 ≤ a ∧ a < 29) ∧ 0 ≤ k ∧ k < zLen a | _ => False), zpu fun _ _ _ => True) := by
  intro p e R s m args below meth c nL D ad sa sv cs A cc S hG hA hF hL
  refine zcall_T S hG hA (mJ0_charAt l) ⟨by decide, by decide +kernel⟩ hJ0_charAt_5068e rfl hl (zPt_r ?_) ⟨by omega, by omega⟩ ⟨Nat.zero_le _, Nat.zero_le _⟩
  intro vs mem h
  match vs, h with
  | [a, k], h => exact h.1
theorem zLen_b (x : Int) : 0 ≤ zLen x ∧ zLen x ≤ 7 := by
  have := zTl_b (x - 3).toNat
  unfold zLen; omega
def CJ0_length_8abf5 : zCt := ([3], 0, zPt, zfu fun vs _ => match vs with | a :: _ => zLen a | [] => 0)
def CJ0_charAt_5068e : zCt := ([3, 0], 0, (fun vs _ => match vs with | [a, k] => (3 ≤ a ∧ a < 29) ∧ 0 ≤ k ∧ k < zLen a | _ => False), zpu fun _ _ _ => True)
theorem zPt_c (a : Int) (tv : List Int) (mem : zM) : zPt (a :: tv) mem = (3 ≤ a ∧ a < 29) := rfl
end
