section
-- ===== PART A: goes FIRST, ahead of the names: the tables' words, and 'selects' of the private methods out of them =====
/-- a private method of a class that the tables say can be made, by its rows of tables_1 -/
def lw_okq (q : MethodName × Nat) : Prop := (q.1.cls ≠ "java/lang/invoke/MethodHandle" ∧ q.1.cls ≠ "java/lang/invoke/VarHandle") ∧ Cond.instantiable q.1.cls q.2 ∈ tables_1 ∧ Cond.privateMethod q.1 ∈ tables_1 ∧ Cond.instanceMethod q.1 ∈ tables_1
theorem lw_p0 : lw_okq (⟨"SandRails$Reader", "advance", "()V"⟩, 6) := ⟨⟨by decide +kernel, by decide +kernel⟩, List.mem_of_getElem? (i := 196) (by decide +kernel), List.mem_of_getElem? (i := 520) (by decide +kernel), List.mem_of_getElem? (i := 521) (by decide +kernel)⟩
theorem lw_p1 : lw_okq (⟨"SandRails$Reader", "readRow", "(I)Z"⟩, 6) := ⟨⟨by decide +kernel, by decide +kernel⟩, List.mem_of_getElem? (i := 196) (by decide +kernel), List.mem_of_getElem? (i := 531) (by decide +kernel), List.mem_of_getElem? (i := 532) (by decide +kernel)⟩
theorem lw_p2 : lw_okq (⟨"SandRails$Reader", "readOrder", "(I)Z"⟩, 6) := ⟨⟨by decide +kernel, by decide +kernel⟩, List.mem_of_getElem? (i := 196) (by decide +kernel), List.mem_of_getElem? (i := 535) (by decide +kernel), List.mem_of_getElem? (i := 536) (by decide +kernel)⟩
theorem lw_p3 : lw_okq (⟨"SandRails$Reader", "orderWord", "()I"⟩, 6) := ⟨⟨by decide +kernel, by decide +kernel⟩, List.mem_of_getElem? (i := 196) (by decide +kernel), List.mem_of_getElem? (i := 539) (by decide +kernel), List.mem_of_getElem? (i := 540) (by decide +kernel)⟩
theorem lw_p4 : lw_okq (⟨"SandRails$Reader", "isWord", "(Ljava/lang/String;)Z"⟩, 6) := ⟨⟨by decide +kernel, by decide +kernel⟩, List.mem_of_getElem? (i := 196) (by decide +kernel), List.mem_of_getElem? (i := 544) (by decide +kernel), List.mem_of_getElem? (i := 545) (by decide +kernel)⟩
theorem lw_p5 : lw_okq (⟨"SandRails$Reader", "isRefused", "()Z"⟩, 6) := ⟨⟨by decide +kernel, by decide +kernel⟩, List.mem_of_getElem? (i := 196) (by decide +kernel), List.mem_of_getElem? (i := 605) (by decide +kernel), List.mem_of_getElem? (i := 606) (by decide +kernel)⟩
theorem lw_p6 : lw_okq (⟨"SandRails$Reader", "readWay", "(I)Z"⟩, 6) := ⟨⟨by decide +kernel, by decide +kernel⟩, List.mem_of_getElem? (i := 196) (by decide +kernel), List.mem_of_getElem? (i := 609) (by decide +kernel), List.mem_of_getElem? (i := 610) (by decide +kernel)⟩
theorem lw_p7 : lw_okq (⟨"SandRails$Reader", "wayWord", "()I"⟩, 6) := ⟨⟨by decide +kernel, by decide +kernel⟩, List.mem_of_getElem? (i := 196) (by decide +kernel), List.mem_of_getElem? (i := 613) (by decide +kernel), List.mem_of_getElem? (i := 614) (by decide +kernel)⟩
theorem lw_p8 : lw_okq (⟨"SandRails$Reader", "readRest", "(I)Z"⟩, 6) := ⟨⟨by decide +kernel, by decide +kernel⟩, List.mem_of_getElem? (i := 196) (by decide +kernel), List.mem_of_getElem? (i := 625) (by decide +kernel), List.mem_of_getElem? (i := 626) (by decide +kernel)⟩
theorem lw_p9 : lw_okq (⟨"SandRails$Reader", "takeNumber", "(II)I"⟩, 6) := ⟨⟨by decide +kernel, by decide +kernel⟩, List.mem_of_getElem? (i := 196) (by decide +kernel), List.mem_of_getElem? (i := 629) (by decide +kernel), List.mem_of_getElem? (i := 630) (by decide +kernel)⟩
theorem lw_p10 : lw_okq (⟨"SandRails$Reader", "readAgain", "(I)Z"⟩, 6) := ⟨⟨by decide +kernel, by decide +kernel⟩, List.mem_of_getElem? (i := 196) (by decide +kernel), List.mem_of_getElem? (i := 633) (by decide +kernel), List.mem_of_getElem? (i := 634) (by decide +kernel)⟩
theorem lw_p11 : lw_okq (⟨"SandRails$Reader", "readBlock", "(I)Z"⟩, 6) := ⟨⟨by decide +kernel, by decide +kernel⟩, List.mem_of_getElem? (i := 196) (by decide +kernel), List.mem_of_getElem? (i := 637) (by decide +kernel), List.mem_of_getElem? (i := 638) (by decide +kernel)⟩
theorem lw_p12 : lw_okq (⟨"SandRails$Reader", "isSign", "(I)Z"⟩, 6) := ⟨⟨by decide +kernel, by decide +kernel⟩, List.mem_of_getElem? (i := 196) (by decide +kernel), List.mem_of_getElem? (i := 641) (by decide +kernel), List.mem_of_getElem? (i := 642) (by decide +kernel)⟩
theorem lw_p13 : lw_okq (⟨"SandRails$Reader", "takeSign", "(I)Z"⟩, 6) := ⟨⟨by decide +kernel, by decide +kernel⟩, List.mem_of_getElem? (i := 196) (by decide +kernel), List.mem_of_getElem? (i := 645) (by decide +kernel), List.mem_of_getElem? (i := 646) (by decide +kernel)⟩
theorem lw_p14 : lw_okq (⟨"SandRails$Reader", "readIf", "(I)Z"⟩, 6) := ⟨⟨by decide +kernel, by decide +kernel⟩, List.mem_of_getElem? (i := 196) (by decide +kernel), List.mem_of_getElem? (i := 649) (by decide +kernel), List.mem_of_getElem? (i := 650) (by decide +kernel)⟩
theorem lw_p15 : lw_okq (⟨"SandRails$Reader", "readEither", "(I)Z"⟩, 6) := ⟨⟨by decide +kernel, by decide +kernel⟩, List.mem_of_getElem? (i := 196) (by decide +kernel), List.mem_of_getElem? (i := 653) (by decide +kernel), List.mem_of_getElem? (i := 654) (by decide +kernel)⟩
def lw_privs_1 : List (MethodName × Nat) := [(⟨"SandRails$Reader", "advance", "()V"⟩, 6), (⟨"SandRails$Reader", "readRow", "(I)Z"⟩, 6), (⟨"SandRails$Reader", "readOrder", "(I)Z"⟩, 6), (⟨"SandRails$Reader", "orderWord", "()I"⟩, 6), (⟨"SandRails$Reader", "isWord", "(Ljava/lang/String;)Z"⟩, 6), (⟨"SandRails$Reader", "isRefused", "()Z"⟩, 6), (⟨"SandRails$Reader", "readWay", "(I)Z"⟩, 6), (⟨"SandRails$Reader", "wayWord", "()I"⟩, 6), (⟨"SandRails$Reader", "readRest", "(I)Z"⟩, 6), (⟨"SandRails$Reader", "takeNumber", "(II)I"⟩, 6), (⟨"SandRails$Reader", "readAgain", "(I)Z"⟩, 6), (⟨"SandRails$Reader", "readBlock", "(I)Z"⟩, 6), (⟨"SandRails$Reader", "isSign", "(I)Z"⟩, 6), (⟨"SandRails$Reader", "takeSign", "(I)Z"⟩, 6), (⟨"SandRails$Reader", "readIf", "(I)Z"⟩, 6), (⟨"SandRails$Reader", "readEither", "(I)Z"⟩, 6)]
theorem lw_r1 : ∀ q ∈ lw_privs_1, lw_okq q := List.forall_mem_cons.mpr ⟨lw_p0, List.forall_mem_cons.mpr ⟨lw_p1, List.forall_mem_cons.mpr ⟨lw_p2, List.forall_mem_cons.mpr ⟨lw_p3, List.forall_mem_cons.mpr ⟨lw_p4, List.forall_mem_cons.mpr ⟨lw_p5, List.forall_mem_cons.mpr ⟨lw_p6, List.forall_mem_cons.mpr ⟨lw_p7, List.forall_mem_cons.mpr ⟨lw_p8, List.forall_mem_cons.mpr ⟨lw_p9, List.forall_mem_cons.mpr ⟨lw_p10, List.forall_mem_cons.mpr ⟨lw_p11, List.forall_mem_cons.mpr ⟨lw_p12, List.forall_mem_cons.mpr ⟨lw_p13, List.forall_mem_cons.mpr ⟨lw_p14, List.forall_mem_cons.mpr ⟨lw_p15, fun _ h => absurd h List.not_mem_nil⟩⟩⟩⟩⟩⟩⟩⟩⟩⟩⟩⟩⟩⟩⟩⟩
theorem lw_p16 : lw_okq (⟨"SandRails$Reader", "readBoth", "(I)Z"⟩, 6) := ⟨⟨by decide +kernel, by decide +kernel⟩, List.mem_of_getElem? (i := 196) (by decide +kernel), List.mem_of_getElem? (i := 657) (by decide +kernel), List.mem_of_getElem? (i := 658) (by decide +kernel)⟩
theorem lw_p17 : lw_okq (⟨"SandRails$Reader", "readAtom", "(I)Z"⟩, 6) := ⟨⟨by decide +kernel, by decide +kernel⟩, List.mem_of_getElem? (i := 196) (by decide +kernel), List.mem_of_getElem? (i := 661) (by decide +kernel), List.mem_of_getElem? (i := 662) (by decide +kernel)⟩
theorem lw_p18 : lw_okq (⟨"SandRails$Reader", "readDenied", "(I)Z"⟩, 6) := ⟨⟨by decide +kernel, by decide +kernel⟩, List.mem_of_getElem? (i := 196) (by decide +kernel), List.mem_of_getElem? (i := 666) (by decide +kernel), List.mem_of_getElem? (i := 667) (by decide +kernel)⟩
theorem lw_p19 : lw_okq (⟨"SandRails$Reader", "readFact", "()Z"⟩, 6) := ⟨⟨by decide +kernel, by decide +kernel⟩, List.mem_of_getElem? (i := 196) (by decide +kernel), List.mem_of_getElem? (i := 671) (by decide +kernel), List.mem_of_getElem? (i := 672) (by decide +kernel)⟩
theorem lw_p20 : lw_okq (⟨"SandRails$Reader", "factWord", "()I"⟩, 6) := ⟨⟨by decide +kernel, by decide +kernel⟩, List.mem_of_getElem? (i := 196) (by decide +kernel), List.mem_of_getElem? (i := 675) (by decide +kernel), List.mem_of_getElem? (i := 676) (by decide +kernel)⟩
theorem lw_p21 : lw_okq (⟨"SandRails$Reader", "readWhile", "(I)Z"⟩, 6) := ⟨⟨by decide +kernel, by decide +kernel⟩, List.mem_of_getElem? (i := 196) (by decide +kernel), List.mem_of_getElem? (i := 697) (by decide +kernel), List.mem_of_getElem? (i := 698) (by decide +kernel)⟩
theorem lw_p22 : lw_okq (⟨"java/lang/Throwable", "fillInStackTrace", "(I)Ljava/lang/Throwable;"⟩, 6) := ⟨⟨by decide +kernel, by decide +kernel⟩, List.mem_of_getElem? (i := 741) (by decide +kernel), List.mem_of_getElem? (i := 739) (by decide +kernel), List.mem_of_getElem? (i := 740) (by decide +kernel)⟩
theorem lw_p23 : lw_okq (⟨"SandRails$World", "putRail", "(III)V"⟩, 10) := ⟨⟨by decide +kernel, by decide +kernel⟩, List.mem_of_getElem? (i := 36) (by decide +kernel), List.mem_of_getElem? (i := 974) (by decide +kernel), List.mem_of_getElem? (i := 975) (by decide +kernel)⟩
theorem lw_p24 : lw_okq (⟨"SandRails$Log", "slotOf", "(I)I"⟩, 7) := ⟨⟨by decide +kernel, by decide +kernel⟩, List.mem_of_getElem? (i := 119) (by decide +kernel), List.mem_of_getElem? (i := 986) (by decide +kernel), List.mem_of_getElem? (i := 987) (by decide +kernel)⟩
theorem lw_p25 : lw_okq (⟨"SandRails$World", "lastOfTrain", "()I"⟩, 10) := ⟨⟨by decide +kernel, by decide +kernel⟩, List.mem_of_getElem? (i := 36) (by decide +kernel), List.mem_of_getElem? (i := 1013) (by decide +kernel), List.mem_of_getElem? (i := 1014) (by decide +kernel)⟩
theorem lw_p26 : lw_okq (⟨"SandRails$Desert", "blow", "(II)V"⟩, 3) := ⟨⟨by decide +kernel, by decide +kernel⟩, List.mem_of_getElem? (i := 42) (by decide +kernel), List.mem_of_getElem? (i := 1045) (by decide +kernel), List.mem_of_getElem? (i := 1046) (by decide +kernel)⟩
theorem lw_p27 : lw_okq (⟨"SandRails$World", "isStuck", "(I)Z"⟩, 10) := ⟨⟨by decide +kernel, by decide +kernel⟩, List.mem_of_getElem? (i := 36) (by decide +kernel), List.mem_of_getElem? (i := 1094) (by decide +kernel), List.mem_of_getElem? (i := 1095) (by decide +kernel)⟩
theorem lw_p28 : lw_okq (⟨"SandRails$Runner", "judge", "(LSandRails$World;III)V"⟩, 5) := ⟨⟨by decide +kernel, by decide +kernel⟩, List.mem_of_getElem? (i := 259) (by decide +kernel), List.mem_of_getElem? (i := 1169) (by decide +kernel), List.mem_of_getElem? (i := 1170) (by decide +kernel)⟩
theorem lw_p29 : lw_okq (⟨"SandRails$Runner", "push", "(Z)V"⟩, 5) := ⟨⟨by decide +kernel, by decide +kernel⟩, List.mem_of_getElem? (i := 259) (by decide +kernel), List.mem_of_getElem? (i := 1177) (by decide +kernel), List.mem_of_getElem? (i := 1178) (by decide +kernel)⟩
theorem lw_p30 : lw_okq (⟨"SandRails$Runner", "turn", "(III)V"⟩, 5) := ⟨⟨by decide +kernel, by decide +kernel⟩, List.mem_of_getElem? (i := 259) (by decide +kernel), List.mem_of_getElem? (i := 1182) (by decide +kernel), List.mem_of_getElem? (i := 1183) (by decide +kernel)⟩
theorem lw_p31 : lw_okq (⟨"SandRails$Router", "solve", "(LSandRails$World;I)V"⟩, 9) := ⟨⟨by decide +kernel, by decide +kernel⟩, List.mem_of_getElem? (i := 281) (by decide +kernel), List.mem_of_getElem? (i := 1233) (by decide +kernel), List.mem_of_getElem? (i := 1234) (by decide +kernel)⟩
def lw_privs_2 : List (MethodName × Nat) := [(⟨"SandRails$Reader", "readBoth", "(I)Z"⟩, 6), (⟨"SandRails$Reader", "readAtom", "(I)Z"⟩, 6), (⟨"SandRails$Reader", "readDenied", "(I)Z"⟩, 6), (⟨"SandRails$Reader", "readFact", "()Z"⟩, 6), (⟨"SandRails$Reader", "factWord", "()I"⟩, 6), (⟨"SandRails$Reader", "readWhile", "(I)Z"⟩, 6), (⟨"java/lang/Throwable", "fillInStackTrace", "(I)Ljava/lang/Throwable;"⟩, 6), (⟨"SandRails$World", "putRail", "(III)V"⟩, 10), (⟨"SandRails$Log", "slotOf", "(I)I"⟩, 7), (⟨"SandRails$World", "lastOfTrain", "()I"⟩, 10), (⟨"SandRails$Desert", "blow", "(II)V"⟩, 3), (⟨"SandRails$World", "isStuck", "(I)Z"⟩, 10), (⟨"SandRails$Runner", "judge", "(LSandRails$World;III)V"⟩, 5), (⟨"SandRails$Runner", "push", "(Z)V"⟩, 5), (⟨"SandRails$Runner", "turn", "(III)V"⟩, 5), (⟨"SandRails$Router", "solve", "(LSandRails$World;I)V"⟩, 9)]
theorem lw_r2 : ∀ q ∈ lw_privs_2, lw_okq q := List.forall_mem_cons.mpr ⟨lw_p16, List.forall_mem_cons.mpr ⟨lw_p17, List.forall_mem_cons.mpr ⟨lw_p18, List.forall_mem_cons.mpr ⟨lw_p19, List.forall_mem_cons.mpr ⟨lw_p20, List.forall_mem_cons.mpr ⟨lw_p21, List.forall_mem_cons.mpr ⟨lw_p22, List.forall_mem_cons.mpr ⟨lw_p23, List.forall_mem_cons.mpr ⟨lw_p24, List.forall_mem_cons.mpr ⟨lw_p25, List.forall_mem_cons.mpr ⟨lw_p26, List.forall_mem_cons.mpr ⟨lw_p27, List.forall_mem_cons.mpr ⟨lw_p28, List.forall_mem_cons.mpr ⟨lw_p29, List.forall_mem_cons.mpr ⟨lw_p30, List.forall_mem_cons.mpr ⟨lw_p31, fun _ h => absurd h List.not_mem_nil⟩⟩⟩⟩⟩⟩⟩⟩⟩⟩⟩⟩⟩⟩⟩⟩
theorem lw_p32 : lw_okq (⟨"SandRails$Router", "isAsBefore", "(LSandRails$World;I)Z"⟩, 9) := ⟨⟨by decide +kernel, by decide +kernel⟩, List.mem_of_getElem? (i := 281) (by decide +kernel), List.mem_of_getElem? (i := 1239) (by decide +kernel), List.mem_of_getElem? (i := 1240) (by decide +kernel)⟩
theorem lw_p33 : lw_okq (⟨"SandRails$Router", "spread", "()V"⟩, 9) := ⟨⟨by decide +kernel, by decide +kernel⟩, List.mem_of_getElem? (i := 281) (by decide +kernel), List.mem_of_getElem? (i := 1250) (by decide +kernel), List.mem_of_getElem? (i := 1251) (by decide +kernel)⟩
theorem lw_p34 : lw_okq (⟨"SandRails$Router", "spreadAt", "(I)Z"⟩, 9) := ⟨⟨by decide +kernel, by decide +kernel⟩, List.mem_of_getElem? (i := 281) (by decide +kernel), List.mem_of_getElem? (i := 1254) (by decide +kernel), List.mem_of_getElem? (i := 1255) (by decide +kernel)⟩
theorem lw_p35 : lw_okq (⟨"SandRails$Router", "bestStep", "(III)J"⟩, 9) := ⟨⟨by decide +kernel, by decide +kernel⟩, List.mem_of_getElem? (i := 281) (by decide +kernel), List.mem_of_getElem? (i := 1258) (by decide +kernel), List.mem_of_getElem? (i := 1259) (by decide +kernel)⟩
theorem lw_p36 : lw_okq (⟨"SandRails$Router", "stepTo", "(III)J"⟩, 9) := ⟨⟨by decide +kernel, by decide +kernel⟩, List.mem_of_getElem? (i := 281) (by decide +kernel), List.mem_of_getElem? (i := 1263) (by decide +kernel), List.mem_of_getElem? (i := 1264) (by decide +kernel)⟩
theorem lw_p37 : lw_okq (⟨"SandRails$Router", "leftWith", "(II)J"⟩, 9) := ⟨⟨by decide +kernel, by decide +kernel⟩, List.mem_of_getElem? (i := 281) (by decide +kernel), List.mem_of_getElem? (i := 1268) (by decide +kernel), List.mem_of_getElem? (i := 1269) (by decide +kernel)⟩
theorem lw_p38 : lw_okq (⟨"SandRails$Router", "takeAnew", "()Z"⟩, 9) := ⟨⟨by decide +kernel, by decide +kernel⟩, List.mem_of_getElem? (i := 281) (by decide +kernel), List.mem_of_getElem? (i := 1276) (by decide +kernel), List.mem_of_getElem? (i := 1277) (by decide +kernel)⟩
theorem lw_p39 : lw_okq (⟨"SandRails$Router", "leftFrom", "(II)J"⟩, 9) := ⟨⟨by decide +kernel, by decide +kernel⟩, List.mem_of_getElem? (i := 281) (by decide +kernel), List.mem_of_getElem? (i := 1280) (by decide +kernel), List.mem_of_getElem? (i := 1281) (by decide +kernel)⟩
theorem lw_p40 : lw_okq (⟨"SandRails$Router", "step", "()V"⟩, 9) := ⟨⟨by decide +kernel, by decide +kernel⟩, List.mem_of_getElem? (i := 281) (by decide +kernel), List.mem_of_getElem? (i := 1287) (by decide +kernel), List.mem_of_getElem? (i := 1288) (by decide +kernel)⟩
theorem lw_p41 : lw_okq (⟨"SandRails$Router", "stepThatKeeps", "(JII)I"⟩, 9) := ⟨⟨by decide +kernel, by decide +kernel⟩, List.mem_of_getElem? (i := 281) (by decide +kernel), List.mem_of_getElem? (i := 1291) (by decide +kernel), List.mem_of_getElem? (i := 1292) (by decide +kernel)⟩
theorem lw_p42 : lw_okq (⟨"SandRailsModel", "readAll", "()Z"⟩, 25) := ⟨⟨by decide +kernel, by decide +kernel⟩, List.mem_of_getElem? (i := 1352) (by decide +kernel), List.mem_of_getElem? (i := 1458) (by decide +kernel), List.mem_of_getElem? (i := 1459) (by decide +kernel)⟩
theorem lw_p43 : lw_okq (⟨"SandRailsModel", "blanks", "()V"⟩, 25) := ⟨⟨by decide +kernel, by decide +kernel⟩, List.mem_of_getElem? (i := 1352) (by decide +kernel), List.mem_of_getElem? (i := 1462) (by decide +kernel), List.mem_of_getElem? (i := 1463) (by decide +kernel)⟩
theorem lw_p44 : lw_okq (⟨"SandRailsModel", "isAt", "(II)Z"⟩, 25) := ⟨⟨by decide +kernel, by decide +kernel⟩, List.mem_of_getElem? (i := 1352) (by decide +kernel), List.mem_of_getElem? (i := 1466) (by decide +kernel), List.mem_of_getElem? (i := 1467) (by decide +kernel)⟩
theorem lw_p45 : lw_okq (⟨"SandRailsModel", "readRow", "()Z"⟩, 25) := ⟨⟨by decide +kernel, by decide +kernel⟩, List.mem_of_getElem? (i := 1352) (by decide +kernel), List.mem_of_getElem? (i := 1470) (by decide +kernel), List.mem_of_getElem? (i := 1471) (by decide +kernel)⟩
theorem lw_p46 : lw_okq (⟨"SandRailsModel", "readOrder", "()Z"⟩, 25) := ⟨⟨by decide +kernel, by decide +kernel⟩, List.mem_of_getElem? (i := 1352) (by decide +kernel), List.mem_of_getElem? (i := 1474) (by decide +kernel), List.mem_of_getElem? (i := 1475) (by decide +kernel)⟩
theorem lw_p47 : lw_okq (⟨"SandRailsModel", "letters", "()V"⟩, 25) := ⟨⟨by decide +kernel, by decide +kernel⟩, List.mem_of_getElem? (i := 1352) (by decide +kernel), List.mem_of_getElem? (i := 1478) (by decide +kernel), List.mem_of_getElem? (i := 1479) (by decide +kernel)⟩
def lw_privs_3 : List (MethodName × Nat) := [(⟨"SandRails$Router", "isAsBefore", "(LSandRails$World;I)Z"⟩, 9), (⟨"SandRails$Router", "spread", "()V"⟩, 9), (⟨"SandRails$Router", "spreadAt", "(I)Z"⟩, 9), (⟨"SandRails$Router", "bestStep", "(III)J"⟩, 9), (⟨"SandRails$Router", "stepTo", "(III)J"⟩, 9), (⟨"SandRails$Router", "leftWith", "(II)J"⟩, 9), (⟨"SandRails$Router", "takeAnew", "()Z"⟩, 9), (⟨"SandRails$Router", "leftFrom", "(II)J"⟩, 9), (⟨"SandRails$Router", "step", "()V"⟩, 9), (⟨"SandRails$Router", "stepThatKeeps", "(JII)I"⟩, 9), (⟨"SandRailsModel", "readAll", "()Z"⟩, 25), (⟨"SandRailsModel", "blanks", "()V"⟩, 25), (⟨"SandRailsModel", "isAt", "(II)Z"⟩, 25), (⟨"SandRailsModel", "readRow", "()Z"⟩, 25), (⟨"SandRailsModel", "readOrder", "()Z"⟩, 25), (⟨"SandRailsModel", "letters", "()V"⟩, 25)]
theorem lw_r3 : ∀ q ∈ lw_privs_3, lw_okq q := List.forall_mem_cons.mpr ⟨lw_p32, List.forall_mem_cons.mpr ⟨lw_p33, List.forall_mem_cons.mpr ⟨lw_p34, List.forall_mem_cons.mpr ⟨lw_p35, List.forall_mem_cons.mpr ⟨lw_p36, List.forall_mem_cons.mpr ⟨lw_p37, List.forall_mem_cons.mpr ⟨lw_p38, List.forall_mem_cons.mpr ⟨lw_p39, List.forall_mem_cons.mpr ⟨lw_p40, List.forall_mem_cons.mpr ⟨lw_p41, List.forall_mem_cons.mpr ⟨lw_p42, List.forall_mem_cons.mpr ⟨lw_p43, List.forall_mem_cons.mpr ⟨lw_p44, List.forall_mem_cons.mpr ⟨lw_p45, List.forall_mem_cons.mpr ⟨lw_p46, List.forall_mem_cons.mpr ⟨lw_p47, fun _ h => absurd h List.not_mem_nil⟩⟩⟩⟩⟩⟩⟩⟩⟩⟩⟩⟩⟩⟩⟩⟩
theorem lw_p48 : lw_okq (⟨"SandRailsModel", "isWord", "(Ljava/lang/String;)Z"⟩, 25) := ⟨⟨by decide +kernel, by decide +kernel⟩, List.mem_of_getElem? (i := 1352) (by decide +kernel), List.mem_of_getElem? (i := 1483) (by decide +kernel), List.mem_of_getElem? (i := 1484) (by decide +kernel)⟩
theorem lw_p49 : lw_okq (⟨"SandRailsModel", "puts", "(III)I"⟩, 25) := ⟨⟨by decide +kernel, by decide +kernel⟩, List.mem_of_getElem? (i := 1352) (by decide +kernel), List.mem_of_getElem? (i := 1489) (by decide +kernel), List.mem_of_getElem? (i := 1490) (by decide +kernel)⟩
theorem lw_p50 : lw_okq (⟨"SandRailsModel", "readAgain", "()Z"⟩, 25) := ⟨⟨by decide +kernel, by decide +kernel⟩, List.mem_of_getElem? (i := 1352) (by decide +kernel), List.mem_of_getElem? (i := 1504) (by decide +kernel), List.mem_of_getElem? (i := 1505) (by decide +kernel)⟩
theorem lw_p51 : lw_okq (⟨"SandRailsModel", "number", "(II)I"⟩, 25) := ⟨⟨by decide +kernel, by decide +kernel⟩, List.mem_of_getElem? (i := 1352) (by decide +kernel), List.mem_of_getElem? (i := 1508) (by decide +kernel), List.mem_of_getElem? (i := 1509) (by decide +kernel)⟩
theorem lw_p52 : lw_okq (⟨"SandRailsModel", "opens", "(I)Z"⟩, 25) := ⟨⟨by decide +kernel, by decide +kernel⟩, List.mem_of_getElem? (i := 1352) (by decide +kernel), List.mem_of_getElem? (i := 1512) (by decide +kernel), List.mem_of_getElem? (i := 1513) (by decide +kernel)⟩
theorem lw_p53 : lw_okq (⟨"SandRailsModel", "sign", "(I)Z"⟩, 25) := ⟨⟨by decide +kernel, by decide +kernel⟩, List.mem_of_getElem? (i := 1352) (by decide +kernel), List.mem_of_getElem? (i := 1516) (by decide +kernel), List.mem_of_getElem? (i := 1517) (by decide +kernel)⟩
theorem lw_p54 : lw_okq (⟨"SandRailsModel", "deeper", "()Z"⟩, 25) := ⟨⟨by decide +kernel, by decide +kernel⟩, List.mem_of_getElem? (i := 1352) (by decide +kernel), List.mem_of_getElem? (i := 1520) (by decide +kernel), List.mem_of_getElem? (i := 1521) (by decide +kernel)⟩
theorem lw_p55 : lw_okq (⟨"SandRailsModel", "closes", "(I)Z"⟩, 25) := ⟨⟨by decide +kernel, by decide +kernel⟩, List.mem_of_getElem? (i := 1352) (by decide +kernel), List.mem_of_getElem? (i := 1524) (by decide +kernel), List.mem_of_getElem? (i := 1525) (by decide +kernel)⟩
theorem lw_p56 : lw_okq (⟨"SandRailsModel", "readTest", "(Z)Z"⟩, 25) := ⟨⟨by decide +kernel, by decide +kernel⟩, List.mem_of_getElem? (i := 1352) (by decide +kernel), List.mem_of_getElem? (i := 1529) (by decide +kernel), List.mem_of_getElem? (i := 1530) (by decide +kernel)⟩
theorem lw_p57 : lw_okq (⟨"SandRailsModel", "readCond", "()Z"⟩, 25) := ⟨⟨by decide +kernel, by decide +kernel⟩, List.mem_of_getElem? (i := 1352) (by decide +kernel), List.mem_of_getElem? (i := 1533) (by decide +kernel), List.mem_of_getElem? (i := 1534) (by decide +kernel)⟩
theorem lw_p58 : lw_okq (⟨"SandRailsModel", "readAllOf", "()Z"⟩, 25) := ⟨⟨by decide +kernel, by decide +kernel⟩, List.mem_of_getElem? (i := 1352) (by decide +kernel), List.mem_of_getElem? (i := 1537) (by decide +kernel), List.mem_of_getElem? (i := 1538) (by decide +kernel)⟩
theorem lw_p59 : lw_okq (⟨"SandRailsModel", "readAtom", "()Z"⟩, 25) := ⟨⟨by decide +kernel, by decide +kernel⟩, List.mem_of_getElem? (i := 1352) (by decide +kernel), List.mem_of_getElem? (i := 1541) (by decide +kernel), List.mem_of_getElem? (i := 1542) (by decide +kernel)⟩
theorem lw_p60 : lw_okq (⟨"SandRailsModel", "passes", "(Ljava/lang/String;)Z"⟩, 25) := ⟨⟨by decide +kernel, by decide +kernel⟩, List.mem_of_getElem? (i := 1352) (by decide +kernel), List.mem_of_getElem? (i := 1546) (by decide +kernel), List.mem_of_getElem? (i := 1547) (by decide +kernel)⟩
theorem lw_p61 : lw_okq (⟨"SandRailsModel", "emits", "(II)Z"⟩, 25) := ⟨⟨by decide +kernel, by decide +kernel⟩, List.mem_of_getElem? (i := 1352) (by decide +kernel), List.mem_of_getElem? (i := 1550) (by decide +kernel), List.mem_of_getElem? (i := 1551) (by decide +kernel)⟩
theorem lw_p62 : lw_okq (⟨"SandRailsModel", "factAt", "()I"⟩, 25) := ⟨⟨by decide +kernel, by decide +kernel⟩, List.mem_of_getElem? (i := 1352) (by decide +kernel), List.mem_of_getElem? (i := 1558) (by decide +kernel), List.mem_of_getElem? (i := 1559) (by decide +kernel)⟩
theorem lw_p63 : lw_okq (⟨"SandRailsModel", "wayAt", "()I"⟩, 25) := ⟨⟨by decide +kernel, by decide +kernel⟩, List.mem_of_getElem? (i := 1352) (by decide +kernel), List.mem_of_getElem? (i := 1575) (by decide +kernel), List.mem_of_getElem? (i := 1576) (by decide +kernel)⟩
def lw_privs_4 : List (MethodName × Nat) := [(⟨"SandRailsModel", "isWord", "(Ljava/lang/String;)Z"⟩, 25), (⟨"SandRailsModel", "puts", "(III)I"⟩, 25), (⟨"SandRailsModel", "readAgain", "()Z"⟩, 25), (⟨"SandRailsModel", "number", "(II)I"⟩, 25), (⟨"SandRailsModel", "opens", "(I)Z"⟩, 25), (⟨"SandRailsModel", "sign", "(I)Z"⟩, 25), (⟨"SandRailsModel", "deeper", "()Z"⟩, 25), (⟨"SandRailsModel", "closes", "(I)Z"⟩, 25), (⟨"SandRailsModel", "readTest", "(Z)Z"⟩, 25), (⟨"SandRailsModel", "readCond", "()Z"⟩, 25), (⟨"SandRailsModel", "readAllOf", "()Z"⟩, 25), (⟨"SandRailsModel", "readAtom", "()Z"⟩, 25), (⟨"SandRailsModel", "passes", "(Ljava/lang/String;)Z"⟩, 25), (⟨"SandRailsModel", "emits", "(II)Z"⟩, 25), (⟨"SandRailsModel", "factAt", "()I"⟩, 25), (⟨"SandRailsModel", "wayAt", "()I"⟩, 25)]
theorem lw_r4 : ∀ q ∈ lw_privs_4, lw_okq q := List.forall_mem_cons.mpr ⟨lw_p48, List.forall_mem_cons.mpr ⟨lw_p49, List.forall_mem_cons.mpr ⟨lw_p50, List.forall_mem_cons.mpr ⟨lw_p51, List.forall_mem_cons.mpr ⟨lw_p52, List.forall_mem_cons.mpr ⟨lw_p53, List.forall_mem_cons.mpr ⟨lw_p54, List.forall_mem_cons.mpr ⟨lw_p55, List.forall_mem_cons.mpr ⟨lw_p56, List.forall_mem_cons.mpr ⟨lw_p57, List.forall_mem_cons.mpr ⟨lw_p58, List.forall_mem_cons.mpr ⟨lw_p59, List.forall_mem_cons.mpr ⟨lw_p60, List.forall_mem_cons.mpr ⟨lw_p61, List.forall_mem_cons.mpr ⟨lw_p62, List.forall_mem_cons.mpr ⟨lw_p63, fun _ h => absurd h List.not_mem_nil⟩⟩⟩⟩⟩⟩⟩⟩⟩⟩⟩⟩⟩⟩⟩⟩
theorem lw_p64 : lw_okq (⟨"SandRailsModel", "throwsIf", "(ZI)Z"⟩, 25) := ⟨⟨by decide +kernel, by decide +kernel⟩, List.mem_of_getElem? (i := 1352) (by decide +kernel), List.mem_of_getElem? (i := 1583) (by decide +kernel), List.mem_of_getElem? (i := 1584) (by decide +kernel)⟩
theorem lw_p65 : lw_okq (⟨"SandRailsModel", "isLine", "(I)Z"⟩, 25) := ⟨⟨by decide +kernel, by decide +kernel⟩, List.mem_of_getElem? (i := 1352) (by decide +kernel), List.mem_of_getElem? (i := 1599) (by decide +kernel), List.mem_of_getElem? (i := 1600) (by decide +kernel)⟩
theorem lw_p66 : lw_okq (⟨"SandRailsModel", "lineMany", "()I"⟩, 25) := ⟨⟨by decide +kernel, by decide +kernel⟩, List.mem_of_getElem? (i := 1352) (by decide +kernel), List.mem_of_getElem? (i := 1603) (by decide +kernel), List.mem_of_getElem? (i := 1604) (by decide +kernel)⟩
theorem lw_p67 : lw_okq (⟨"SandRailsModel", "cellAt", "(I)I"⟩, 25) := ⟨⟨by decide +kernel, by decide +kernel⟩, List.mem_of_getElem? (i := 1352) (by decide +kernel), List.mem_of_getElem? (i := 1607) (by decide +kernel), List.mem_of_getElem? (i := 1608) (by decide +kernel)⟩
theorem lw_p68 : lw_okq (⟨"SandRailsModel", "railAt", "(I)I"⟩, 25) := ⟨⟨by decide +kernel, by decide +kernel⟩, List.mem_of_getElem? (i := 1352) (by decide +kernel), List.mem_of_getElem? (i := 1611) (by decide +kernel), List.mem_of_getElem? (i := 1612) (by decide +kernel)⟩
theorem lw_p69 : lw_okq (⟨"SandRailsModel", "ofRail", "(II)I"⟩, 25) := ⟨⟨by decide +kernel, by decide +kernel⟩, List.mem_of_getElem? (i := 1352) (by decide +kernel), List.mem_of_getElem? (i := 1615) (by decide +kernel), List.mem_of_getElem? (i := 1616) (by decide +kernel)⟩
theorem lw_p70 : lw_okq (⟨"SandRailsModel", "kindAt", "(I)I"⟩, 25) := ⟨⟨by decide +kernel, by decide +kernel⟩, List.mem_of_getElem? (i := 1352) (by decide +kernel), List.mem_of_getElem? (i := 1623) (by decide +kernel), List.mem_of_getElem? (i := 1624) (by decide +kernel)⟩
theorem lw_p71 : lw_okq (⟨"SandRailsModel", "setsRail", "(III)V"⟩, 25) := ⟨⟨by decide +kernel, by decide +kernel⟩, List.mem_of_getElem? (i := 1352) (by decide +kernel), List.mem_of_getElem? (i := 1631) (by decide +kernel), List.mem_of_getElem? (i := 1632) (by decide +kernel)⟩
theorem lw_p72 : lw_okq (⟨"SandRailsModel", "isStore", "(II)Z"⟩, 25) := ⟨⟨by decide +kernel, by decide +kernel⟩, List.mem_of_getElem? (i := 1352) (by decide +kernel), List.mem_of_getElem? (i := 1647) (by decide +kernel), List.mem_of_getElem? (i := 1648) (by decide +kernel)⟩
theorem lw_p73 : lw_okq (⟨"SandRailsModel", "isSet", "()Z"⟩, 25) := ⟨⟨by decide +kernel, by decide +kernel⟩, List.mem_of_getElem? (i := 1352) (by decide +kernel), List.mem_of_getElem? (i := 1651) (by decide +kernel), List.mem_of_getElem? (i := 1652) (by decide +kernel)⟩
theorem lw_p74 : lw_okq (⟨"SandRailsModel", "carried", "()I"⟩, 25) := ⟨⟨by decide +kernel, by decide +kernel⟩, List.mem_of_getElem? (i := 1352) (by decide +kernel), List.mem_of_getElem? (i := 1659) (by decide +kernel), List.mem_of_getElem? (i := 1660) (by decide +kernel)⟩
theorem lw_p75 : lw_okq (⟨"SandRailsModel", "isWay", "(III)Z"⟩, 25) := ⟨⟨by decide +kernel, by decide +kernel⟩, List.mem_of_getElem? (i := 1352) (by decide +kernel), List.mem_of_getElem? (i := 1663) (by decide +kernel), List.mem_of_getElem? (i := 1664) (by decide +kernel)⟩
theorem lw_p76 : lw_okq (⟨"SandRailsModel", "leastCarried", "()I"⟩, 25) := ⟨⟨by decide +kernel, by decide +kernel⟩, List.mem_of_getElem? (i := 1352) (by decide +kernel), List.mem_of_getElem? (i := 1670) (by decide +kernel), List.mem_of_getElem? (i := 1671) (by decide +kernel)⟩
theorem lw_p77 : lw_okq (⟨"SandRailsModel", "comesOn", "(II)V"⟩, 25) := ⟨⟨by decide +kernel, by decide +kernel⟩, List.mem_of_getElem? (i := 1352) (by decide +kernel), List.mem_of_getElem? (i := 1674) (by decide +kernel), List.mem_of_getElem? (i := 1675) (by decide +kernel)⟩
theorem lw_p78 : lw_okq (⟨"SandRailsModel", "logs", "(IIZ)V"⟩, 25) := ⟨⟨by decide +kernel, by decide +kernel⟩, List.mem_of_getElem? (i := 1352) (by decide +kernel), List.mem_of_getElem? (i := 1678) (by decide +kernel), List.mem_of_getElem? (i := 1679) (by decide +kernel)⟩
theorem lw_p79 : lw_okq (⟨"SandRailsModel", "mayLift", "()Z"⟩, 25) := ⟨⟨by decide +kernel, by decide +kernel⟩, List.mem_of_getElem? (i := 1352) (by decide +kernel), List.mem_of_getElem? (i := 1686) (by decide +kernel), List.mem_of_getElem? (i := 1687) (by decide +kernel)⟩
def lw_privs_5 : List (MethodName × Nat) := [(⟨"SandRailsModel", "throwsIf", "(ZI)Z"⟩, 25), (⟨"SandRailsModel", "isLine", "(I)Z"⟩, 25), (⟨"SandRailsModel", "lineMany", "()I"⟩, 25), (⟨"SandRailsModel", "cellAt", "(I)I"⟩, 25), (⟨"SandRailsModel", "railAt", "(I)I"⟩, 25), (⟨"SandRailsModel", "ofRail", "(II)I"⟩, 25), (⟨"SandRailsModel", "kindAt", "(I)I"⟩, 25), (⟨"SandRailsModel", "setsRail", "(III)V"⟩, 25), (⟨"SandRailsModel", "isStore", "(II)Z"⟩, 25), (⟨"SandRailsModel", "isSet", "()Z"⟩, 25), (⟨"SandRailsModel", "carried", "()I"⟩, 25), (⟨"SandRailsModel", "isWay", "(III)Z"⟩, 25), (⟨"SandRailsModel", "leastCarried", "()I"⟩, 25), (⟨"SandRailsModel", "comesOn", "(II)V"⟩, 25), (⟨"SandRailsModel", "logs", "(IIZ)V"⟩, 25), (⟨"SandRailsModel", "mayLift", "()Z"⟩, 25)]
theorem lw_r5 : ∀ q ∈ lw_privs_5, lw_okq q := List.forall_mem_cons.mpr ⟨lw_p64, List.forall_mem_cons.mpr ⟨lw_p65, List.forall_mem_cons.mpr ⟨lw_p66, List.forall_mem_cons.mpr ⟨lw_p67, List.forall_mem_cons.mpr ⟨lw_p68, List.forall_mem_cons.mpr ⟨lw_p69, List.forall_mem_cons.mpr ⟨lw_p70, List.forall_mem_cons.mpr ⟨lw_p71, List.forall_mem_cons.mpr ⟨lw_p72, List.forall_mem_cons.mpr ⟨lw_p73, List.forall_mem_cons.mpr ⟨lw_p74, List.forall_mem_cons.mpr ⟨lw_p75, List.forall_mem_cons.mpr ⟨lw_p76, List.forall_mem_cons.mpr ⟨lw_p77, List.forall_mem_cons.mpr ⟨lw_p78, List.forall_mem_cons.mpr ⟨lw_p79, fun _ h => absurd h List.not_mem_nil⟩⟩⟩⟩⟩⟩⟩⟩⟩⟩⟩⟩⟩⟩⟩⟩
theorem lw_p80 : lw_okq (⟨"SandRailsModel", "isBuried", "(I)Z"⟩, 25) := ⟨⟨by decide +kernel, by decide +kernel⟩, List.mem_of_getElem? (i := 1352) (by decide +kernel), List.mem_of_getElem? (i := 1690) (by decide +kernel), List.mem_of_getElem? (i := 1691) (by decide +kernel)⟩
theorem lw_p81 : lw_okq (⟨"SandRailsModel", "strength", "(I)I"⟩, 25) := ⟨⟨by decide +kernel, by decide +kernel⟩, List.mem_of_getElem? (i := 1352) (by decide +kernel), List.mem_of_getElem? (i := 1694) (by decide +kernel), List.mem_of_getElem? (i := 1695) (by decide +kernel)⟩
theorem lw_p82 : lw_okq (⟨"SandRailsModel", "lifts", "()I"⟩, 25) := ⟨⟨by decide +kernel, by decide +kernel⟩, List.mem_of_getElem? (i := 1352) (by decide +kernel), List.mem_of_getElem? (i := 1698) (by decide +kernel), List.mem_of_getElem? (i := 1699) (by decide +kernel)⟩
theorem lw_p83 : lw_okq (⟨"SandRailsModel", "elapses", "(I)V"⟩, 25) := ⟨⟨by decide +kernel, by decide +kernel⟩, List.mem_of_getElem? (i := 1352) (by decide +kernel), List.mem_of_getElem? (i := 1705) (by decide +kernel), List.mem_of_getElem? (i := 1706) (by decide +kernel)⟩
theorem lw_p84 : lw_okq (⟨"SandRailsModel", "men", "()I"⟩, 25) := ⟨⟨by decide +kernel, by decide +kernel⟩, List.mem_of_getElem? (i := 1352) (by decide +kernel), List.mem_of_getElem? (i := 1709) (by decide +kernel), List.mem_of_getElem? (i := 1710) (by decide +kernel)⟩
theorem lw_p85 : lw_okq (⟨"SandRailsModel", "night", "()V"⟩, 25) := ⟨⟨by decide +kernel, by decide +kernel⟩, List.mem_of_getElem? (i := 1352) (by decide +kernel), List.mem_of_getElem? (i := 1713) (by decide +kernel), List.mem_of_getElem? (i := 1714) (by decide +kernel)⟩
theorem lw_p86 : lw_okq (⟨"SandRailsModel", "draw", "()I"⟩, 25) := ⟨⟨by decide +kernel, by decide +kernel⟩, List.mem_of_getElem? (i := 1352) (by decide +kernel), List.mem_of_getElem? (i := 1717) (by decide +kernel), List.mem_of_getElem? (i := 1718) (by decide +kernel)⟩
theorem lw_p87 : lw_okq (⟨"SandRailsModel", "mayLay", "(I)Z"⟩, 25) := ⟨⟨by decide +kernel, by decide +kernel⟩, List.mem_of_getElem? (i := 1352) (by decide +kernel), List.mem_of_getElem? (i := 1726) (by decide +kernel), List.mem_of_getElem? (i := 1727) (by decide +kernel)⟩
theorem lw_p88 : lw_okq (⟨"SandRailsModel", "next", "(I)I"⟩, 25) := ⟨⟨by decide +kernel, by decide +kernel⟩, List.mem_of_getElem? (i := 1352) (by decide +kernel), List.mem_of_getElem? (i := 1730) (by decide +kernel), List.mem_of_getElem? (i := 1731) (by decide +kernel)⟩
theorem lw_p89 : lw_okq (⟨"SandRailsModel", "lays", "(I)I"⟩, 25) := ⟨⟨by decide +kernel, by decide +kernel⟩, List.mem_of_getElem? (i := 1352) (by decide +kernel), List.mem_of_getElem? (i := 1734) (by decide +kernel), List.mem_of_getElem? (i := 1735) (by decide +kernel)⟩
theorem lw_p90 : lw_okq (⟨"SandRailsModel", "takes", "(I)V"⟩, 25) := ⟨⟨by decide +kernel, by decide +kernel⟩, List.mem_of_getElem? (i := 1352) (by decide +kernel), List.mem_of_getElem? (i := 1741) (by decide +kernel), List.mem_of_getElem? (i := 1742) (by decide +kernel)⟩
theorem lw_p91 : lw_okq (⟨"SandRailsModel", "mayGo", "(Z)Z"⟩, 25) := ⟨⟨by decide +kernel, by decide +kernel⟩, List.mem_of_getElem? (i := 1352) (by decide +kernel), List.mem_of_getElem? (i := 1749) (by decide +kernel), List.mem_of_getElem? (i := 1750) (by decide +kernel)⟩
theorem lw_p92 : lw_okq (⟨"SandRailsModel", "front", "()I"⟩, 25) := ⟨⟨by decide +kernel, by decide +kernel⟩, List.mem_of_getElem? (i := 1352) (by decide +kernel), List.mem_of_getElem? (i := 1753) (by decide +kernel), List.mem_of_getElem? (i := 1754) (by decide +kernel)⟩
theorem lw_p93 : lw_okq (⟨"SandRailsModel", "goes", "(Z)Z"⟩, 25) := ⟨⟨by decide +kernel, by decide +kernel⟩, List.mem_of_getElem? (i := 1352) (by decide +kernel), List.mem_of_getElem? (i := 1757) (by decide +kernel), List.mem_of_getElem? (i := 1758) (by decide +kernel)⟩
theorem lw_p94 : lw_okq (⟨"SandRailsModel", "widthAt", "(I)I"⟩, 25) := ⟨⟨by decide +kernel, by decide +kernel⟩, List.mem_of_getElem? (i := 1352) (by decide +kernel), List.mem_of_getElem? (i := 1761) (by decide +kernel), List.mem_of_getElem? (i := 1762) (by decide +kernel)⟩
theorem lw_p95 : lw_okq (⟨"SandRailsModel", "mayFill", "()Z"⟩, 25) := ⟨⟨by decide +kernel, by decide +kernel⟩, List.mem_of_getElem? (i := 1352) (by decide +kernel), List.mem_of_getElem? (i := 1773) (by decide +kernel), List.mem_of_getElem? (i := 1774) (by decide +kernel)⟩
def lw_privs_6 : List (MethodName × Nat) := [(⟨"SandRailsModel", "isBuried", "(I)Z"⟩, 25), (⟨"SandRailsModel", "strength", "(I)I"⟩, 25), (⟨"SandRailsModel", "lifts", "()I"⟩, 25), (⟨"SandRailsModel", "elapses", "(I)V"⟩, 25), (⟨"SandRailsModel", "men", "()I"⟩, 25), (⟨"SandRailsModel", "night", "()V"⟩, 25), (⟨"SandRailsModel", "draw", "()I"⟩, 25), (⟨"SandRailsModel", "mayLay", "(I)Z"⟩, 25), (⟨"SandRailsModel", "next", "(I)I"⟩, 25), (⟨"SandRailsModel", "lays", "(I)I"⟩, 25), (⟨"SandRailsModel", "takes", "(I)V"⟩, 25), (⟨"SandRailsModel", "mayGo", "(Z)Z"⟩, 25), (⟨"SandRailsModel", "front", "()I"⟩, 25), (⟨"SandRailsModel", "goes", "(Z)Z"⟩, 25), (⟨"SandRailsModel", "widthAt", "(I)I"⟩, 25), (⟨"SandRailsModel", "mayFill", "()Z"⟩, 25)]
theorem lw_r6 : ∀ q ∈ lw_privs_6, lw_okq q := List.forall_mem_cons.mpr ⟨lw_p80, List.forall_mem_cons.mpr ⟨lw_p81, List.forall_mem_cons.mpr ⟨lw_p82, List.forall_mem_cons.mpr ⟨lw_p83, List.forall_mem_cons.mpr ⟨lw_p84, List.forall_mem_cons.mpr ⟨lw_p85, List.forall_mem_cons.mpr ⟨lw_p86, List.forall_mem_cons.mpr ⟨lw_p87, List.forall_mem_cons.mpr ⟨lw_p88, List.forall_mem_cons.mpr ⟨lw_p89, List.forall_mem_cons.mpr ⟨lw_p90, List.forall_mem_cons.mpr ⟨lw_p91, List.forall_mem_cons.mpr ⟨lw_p92, List.forall_mem_cons.mpr ⟨lw_p93, List.forall_mem_cons.mpr ⟨lw_p94, List.forall_mem_cons.mpr ⟨lw_p95, fun _ h => absurd h List.not_mem_nil⟩⟩⟩⟩⟩⟩⟩⟩⟩⟩⟩⟩⟩⟩⟩⟩
theorem lw_p96 : lw_okq (⟨"SandRailsModel", "isByWell", "(I)Z"⟩, 25) := ⟨⟨by decide +kernel, by decide +kernel⟩, List.mem_of_getElem? (i := 1352) (by decide +kernel), List.mem_of_getElem? (i := 1777) (by decide +kernel), List.mem_of_getElem? (i := 1778) (by decide +kernel)⟩
theorem lw_p97 : lw_okq (⟨"SandRailsModel", "fills", "()I"⟩, 25) := ⟨⟨by decide +kernel, by decide +kernel⟩, List.mem_of_getElem? (i := 1352) (by decide +kernel), List.mem_of_getElem? (i := 1781) (by decide +kernel), List.mem_of_getElem? (i := 1782) (by decide +kernel)⟩
theorem lw_p98 : lw_okq (⟨"SandRailsModel", "mayDig", "()Z"⟩, 25) := ⟨⟨by decide +kernel, by decide +kernel⟩, List.mem_of_getElem? (i := 1352) (by decide +kernel), List.mem_of_getElem? (i := 1789) (by decide +kernel), List.mem_of_getElem? (i := 1790) (by decide +kernel)⟩
theorem lw_p99 : lw_okq (⟨"SandRailsModel", "firstBuried", "()I"⟩, 25) := ⟨⟨by decide +kernel, by decide +kernel⟩, List.mem_of_getElem? (i := 1352) (by decide +kernel), List.mem_of_getElem? (i := 1793) (by decide +kernel), List.mem_of_getElem? (i := 1794) (by decide +kernel)⟩
theorem lw_p100 : lw_okq (⟨"SandRailsModel", "digs", "()I"⟩, 25) := ⟨⟨by decide +kernel, by decide +kernel⟩, List.mem_of_getElem? (i := 1352) (by decide +kernel), List.mem_of_getElem? (i := 1797) (by decide +kernel), List.mem_of_getElem? (i := 1798) (by decide +kernel)⟩
theorem lw_p101 : lw_okq (⟨"SandRailsModel", "acts", "(II)Z"⟩, 25) := ⟨⟨by decide +kernel, by decide +kernel⟩, List.mem_of_getElem? (i := 1352) (by decide +kernel), List.mem_of_getElem? (i := 1809) (by decide +kernel), List.mem_of_getElem? (i := 1810) (by decide +kernel)⟩
theorem lw_p102 : lw_okq (⟨"SandRailsModel", "holds", "(III)Z"⟩, 25) := ⟨⟨by decide +kernel, by decide +kernel⟩, List.mem_of_getElem? (i := 1352) (by decide +kernel), List.mem_of_getElem? (i := 1813) (by decide +kernel), List.mem_of_getElem? (i := 1814) (by decide +kernel)⟩
theorem lw_p103 : lw_okq (⟨"SandRailsModel", "factOf", "(I)I"⟩, 25) := ⟨⟨by decide +kernel, by decide +kernel⟩, List.mem_of_getElem? (i := 1352) (by decide +kernel), List.mem_of_getElem? (i := 1817) (by decide +kernel), List.mem_of_getElem? (i := 1818) (by decide +kernel)⟩
theorem lw_p104 : lw_okq (⟨"SandRailsModel", "noRail", "(I)Z"⟩, 25) := ⟨⟨by decide +kernel, by decide +kernel⟩, List.mem_of_getElem? (i := 1352) (by decide +kernel), List.mem_of_getElem? (i := 1829) (by decide +kernel), List.mem_of_getElem? (i := 1830) (by decide +kernel)⟩
theorem lw_p105 : lw_okq (⟨"SandRailsModel", "isNoEnd", "(I)Z"⟩, 25) := ⟨⟨by decide +kernel, by decide +kernel⟩, List.mem_of_getElem? (i := 1352) (by decide +kernel), List.mem_of_getElem? (i := 1841) (by decide +kernel), List.mem_of_getElem? (i := 1842) (by decide +kernel)⟩
theorem lw_p106 : lw_okq (⟨"SandRailsModel", "hasWay", "(I)Z"⟩, 25) := ⟨⟨by decide +kernel, by decide +kernel⟩, List.mem_of_getElem? (i := 1352) (by decide +kernel), List.mem_of_getElem? (i := 1845) (by decide +kernel), List.mem_of_getElem? (i := 1846) (by decide +kernel)⟩
theorem lw_p107 : lw_okq (⟨"SandRailsModel", "finds", "(I)V"⟩, 25) := ⟨⟨by decide +kernel, by decide +kernel⟩, List.mem_of_getElem? (i := 1352) (by decide +kernel), List.mem_of_getElem? (i := 1849) (by decide +kernel), List.mem_of_getElem? (i := 1850) (by decide +kernel)⟩
theorem lw_p108 : lw_okq (⟨"SandRailsModel", "isFree", "(I)Z"⟩, 25) := ⟨⟨by decide +kernel, by decide +kernel⟩, List.mem_of_getElem? (i := 1352) (by decide +kernel), List.mem_of_getElem? (i := 1853) (by decide +kernel), List.mem_of_getElem? (i := 1854) (by decide +kernel)⟩
theorem lw_p109 : lw_okq (⟨"SandRailsModel", "stepping", "(II)J"⟩, 25) := ⟨⟨by decide +kernel, by decide +kernel⟩, List.mem_of_getElem? (i := 1352) (by decide +kernel), List.mem_of_getElem? (i := 1861) (by decide +kernel), List.mem_of_getElem? (i := 1862) (by decide +kernel)⟩
theorem lw_p110 : lw_okq (⟨"SandRailsModel", "path", "(III)I"⟩, 25) := ⟨⟨by decide +kernel, by decide +kernel⟩, List.mem_of_getElem? (i := 1352) (by decide +kernel), List.mem_of_getElem? (i := 1868) (by decide +kernel), List.mem_of_getElem? (i := 1869) (by decide +kernel)⟩
theorem lw_p111 : lw_okq (⟨"SandRailsModel", "stepOf", "(II)I"⟩, 25) := ⟨⟨by decide +kernel, by decide +kernel⟩, List.mem_of_getElem? (i := 1352) (by decide +kernel), List.mem_of_getElem? (i := 1872) (by decide +kernel), List.mem_of_getElem? (i := 1873) (by decide +kernel)⟩
def lw_privs_7 : List (MethodName × Nat) := [(⟨"SandRailsModel", "isByWell", "(I)Z"⟩, 25), (⟨"SandRailsModel", "fills", "()I"⟩, 25), (⟨"SandRailsModel", "mayDig", "()Z"⟩, 25), (⟨"SandRailsModel", "firstBuried", "()I"⟩, 25), (⟨"SandRailsModel", "digs", "()I"⟩, 25), (⟨"SandRailsModel", "acts", "(II)Z"⟩, 25), (⟨"SandRailsModel", "holds", "(III)Z"⟩, 25), (⟨"SandRailsModel", "factOf", "(I)I"⟩, 25), (⟨"SandRailsModel", "noRail", "(I)Z"⟩, 25), (⟨"SandRailsModel", "isNoEnd", "(I)Z"⟩, 25), (⟨"SandRailsModel", "hasWay", "(I)Z"⟩, 25), (⟨"SandRailsModel", "finds", "(I)V"⟩, 25), (⟨"SandRailsModel", "isFree", "(I)Z"⟩, 25), (⟨"SandRailsModel", "stepping", "(II)J"⟩, 25), (⟨"SandRailsModel", "path", "(III)I"⟩, 25), (⟨"SandRailsModel", "stepOf", "(II)I"⟩, 25)]
theorem lw_r7 : ∀ q ∈ lw_privs_7, lw_okq q := List.forall_mem_cons.mpr ⟨lw_p96, List.forall_mem_cons.mpr ⟨lw_p97, List.forall_mem_cons.mpr ⟨lw_p98, List.forall_mem_cons.mpr ⟨lw_p99, List.forall_mem_cons.mpr ⟨lw_p100, List.forall_mem_cons.mpr ⟨lw_p101, List.forall_mem_cons.mpr ⟨lw_p102, List.forall_mem_cons.mpr ⟨lw_p103, List.forall_mem_cons.mpr ⟨lw_p104, List.forall_mem_cons.mpr ⟨lw_p105, List.forall_mem_cons.mpr ⟨lw_p106, List.forall_mem_cons.mpr ⟨lw_p107, List.forall_mem_cons.mpr ⟨lw_p108, List.forall_mem_cons.mpr ⟨lw_p109, List.forall_mem_cons.mpr ⟨lw_p110, List.forall_mem_cons.mpr ⟨lw_p111, fun _ h => absurd h List.not_mem_nil⟩⟩⟩⟩⟩⟩⟩⟩⟩⟩⟩⟩⟩⟩⟩⟩
theorem lw_p112 : lw_okq (⟨"SandRailsModel", "isThere", "(I)Z"⟩, 25) := ⟨⟨by decide +kernel, by decide +kernel⟩, List.mem_of_getElem? (i := 1352) (by decide +kernel), List.mem_of_getElem? (i := 1888) (by decide +kernel), List.mem_of_getElem? (i := 1889) (by decide +kernel)⟩
theorem lw_p113 : lw_okq (⟨"SandRailsModel", "dunes", "()I"⟩, 25) := ⟨⟨by decide +kernel, by decide +kernel⟩, List.mem_of_getElem? (i := 1352) (by decide +kernel), List.mem_of_getElem? (i := 1912) (by decide +kernel), List.mem_of_getElem? (i := 1913) (by decide +kernel)⟩
theorem lw_p114 : lw_okq (⟨"SandRailsModel", "buried", "()I"⟩, 25) := ⟨⟨by decide +kernel, by decide +kernel⟩, List.mem_of_getElem? (i := 1352) (by decide +kernel), List.mem_of_getElem? (i := 1916) (by decide +kernel), List.mem_of_getElem? (i := 1917) (by decide +kernel)⟩
def lw_privs_8 : List (MethodName × Nat) := [(⟨"SandRailsModel", "isThere", "(I)Z"⟩, 25), (⟨"SandRailsModel", "dunes", "()I"⟩, 25), (⟨"SandRailsModel", "buried", "()I"⟩, 25)]
theorem lw_r8 : ∀ q ∈ lw_privs_8, lw_okq q := List.forall_mem_cons.mpr ⟨lw_p112, List.forall_mem_cons.mpr ⟨lw_p113, List.forall_mem_cons.mpr ⟨lw_p114, fun _ h => absurd h List.not_mem_nil⟩⟩⟩
def lw_privs : List (MethodName × Nat) := lw_privs_1 ++ (lw_privs_2 ++ (lw_privs_3 ++ (lw_privs_4 ++ (lw_privs_5 ++ (lw_privs_6 ++ (lw_privs_7 ++ (lw_privs_8)))))))
def lw_tbl : List Cond := k2_sels lw_privs ++ tables_1
theorem lw_privs_ok : ∀ q ∈ lw_privs, lw_okq q := by
  show ∀ q ∈ lw_privs_1 ++ (lw_privs_2 ++ (lw_privs_3 ++ (lw_privs_4 ++ (lw_privs_5 ++ (lw_privs_6 ++ (lw_privs_7 ++ (lw_privs_8))))))), lw_okq q
  exact List.forall_mem_append.mpr ⟨lw_r1, List.forall_mem_append.mpr ⟨lw_r2, List.forall_mem_append.mpr ⟨lw_r3, List.forall_mem_append.mpr ⟨lw_r4, List.forall_mem_append.mpr ⟨lw_r5, List.forall_mem_append.mpr ⟨lw_r6, List.forall_mem_append.mpr ⟨lw_r7, lw_r8⟩⟩⟩⟩⟩⟩⟩
end
section
/-! ===== BEGIN words of one list among another's, by their places ===== -/
theorem goodIn_r {big : List Cond} (ws : List Cond) (ps : List Nat) (hp : ws = ps.filterMap (fun i => big[i]?)) (h : ws.all goodWord = true) : GoodIn big ws := by
  intro w hw
  have h1 := List.all_eq_true.mp h w hw
  rw [hp] at hw
  obtain ⟨i, -, hi⟩ := List.mem_filterMap.mp hw
  have hm : w ∈ big := by first | exact List.mem_of_getElem? hi | exact List.getElem?_mem hi
  exact ⟨hm, good_of_word h1⟩
theorem goodIn_app {big a b : List Cond} (ha : GoodIn big a) (hb : GoodIn big b) : GoodIn big (a ++ b) := fun w h => (List.mem_append.mp h).elim (ha w) (hb w)
theorem goodIn_ca {big a b : List Cond} {c : Cond} (ha : GoodIn big (c :: a)) (hb : GoodIn big b) : GoodIn big (c :: (a ++ b)) := fun w h => (List.mem_cons.mp h).elim (fun e => ha w (List.mem_cons.mpr (Or.inl e))) (fun h => (List.mem_append.mp h).elim (fun h => ha w (List.mem_cons.mpr (Or.inr h))) (hb w))
theorem goodIn_sub {big ws : List Cond} (hm : ∀ w ∈ ws, w ∈ big) (h : ws.all goodWord = true) : GoodIn big ws := fun w hw => ⟨hm w hw, good_of_word (List.all_eq_true.mp h w hw)⟩
/-! ===== END ===== -/

def RX0 : String := "SandRails$Desert"
def TX0 : u_T := fun k => match k with
  | 0 => ("SandRails$Desert", "kinds", "[I", true)
  | 1 => ("SandRails$Desert", "before", "[I", true)
  | _ => ("SandRails$Desert", "seed", "I", false)
def tyX0 : Nat → FieldType := fun k => match k with
  | 0 => .array .int
  | 1 => .array .int
  | _ => .int
abbrev wsX00 : List Cond := u_ws RX0 TX0 3
theorem nmX0 : ∀ a, a < 3 → ∀ b, b < 3 → a ≠ b → (TX0 a).2.1 ≠ (TX0 b).2.1 := by decide +kernel
theorem tyX0_ok : ∀ k, k < 3 → parseFieldDescriptor (TX0 k).2.2.1 = some (tyX0 k) := by decide +kernel
abbrev cX0_init : ByteArray := prog_2_method_1_code
def yX0_init : MethodName := ⟨RX0, "<init>", "()V"⟩
abbrev cX0_kindOf : ByteArray := prog_2_method_2_code
def yX0_kindOf : MethodName := ⟨RX0, "kindOf", "(I)I"⟩
abbrev cX0_put : ByteArray := prog_2_method_3_code
def yX0_put : MethodName := ⟨RX0, "put", "(II)V"⟩
abbrev cX0_isBesideWell : ByteArray := prog_2_method_4_code
def yX0_isBesideWell : MethodName := ⟨RX0, "isBesideWell", "(I)Z"⟩
abbrev cX0_dunes : ByteArray := prog_2_method_5_code
def yX0_dunes : MethodName := ⟨RX0, "dunes", "()I"⟩
abbrev cX0_draw : ByteArray := prog_2_method_6_code
def yX0_draw : MethodName := ⟨RX0, "draw", "()I"⟩
abbrev cX0_night : ByteArray := prog_2_method_7_code
def yX0_night : MethodName := ⟨RX0, "night", "(I)V"⟩
abbrev cX0_blow : ByteArray := prog_2_method_8_code
def yX0_blow : MethodName := ⟨RX0, "blow", "(II)V"⟩
abbrev cX0_copyFrom : ByteArray := prog_2_method_9_code
def yX0_copyFrom : MethodName := ⟨RX0, "copyFrom", "(LSandRails$Desert;)V"⟩
def RX1 : String := "SandRails$Gangs"
def TX1 : u_T := fun k => match k with
  | 0 => ("SandRails$Gangs", "strengths", "[I", true)
  | 1 => ("SandRails$Gangs", "men", "[I", true)
  | 2 => ("SandRails$Gangs", "tasks", "[I", true)
  | _ => ("SandRails$Gangs", "size", "I", false)
def tyX1 : Nat → FieldType := fun k => match k with
  | 0 => .array .int
  | 1 => .array .int
  | 2 => .array .int
  | _ => .int
abbrev wsX10 : List Cond := u_ws RX1 TX1 4
theorem nmX1 : ∀ a, a < 4 → ∀ b, b < 4 → a ≠ b → (TX1 a).2.1 ≠ (TX1 b).2.1 := by decide +kernel
theorem tyX1_ok : ∀ k, k < 4 → parseFieldDescriptor (TX1 k).2.2.1 = some (tyX1 k) := by decide +kernel
abbrev cX1_init : ByteArray := prog_3_method_1_code
def yX1_init : MethodName := ⟨RX1, "<init>", "()V"⟩
abbrev cX1_isGang : ByteArray := prog_3_method_2_code
def yX1_isGang : MethodName := ⟨RX1, "isGang", "(I)Z"⟩
abbrev cX1_addGang : ByteArray := prog_3_method_3_code
def yX1_addGang : MethodName := ⟨RX1, "addGang", "(II)I"⟩
abbrev cX1_changeTask : ByteArray := prog_3_method_4_code
def yX1_changeTask : MethodName := ⟨RX1, "changeTask", "(II)I"⟩
abbrev cX1_strengthAt : ByteArray := prog_3_method_5_code
def yX1_strengthAt : MethodName := ⟨RX1, "strengthAt", "(I)I"⟩
abbrev cX1_allMen : ByteArray := prog_3_method_6_code
def yX1_allMen : MethodName := ⟨RX1, "allMen", "()I"⟩
abbrev cX1_copyFrom : ByteArray := prog_3_method_7_code
def yX1_copyFrom : MethodName := ⟨RX1, "copyFrom", "(LSandRails$Gangs;)V"⟩
def RX2 : String := "SandRails$Log"
def TX2 : u_T := fun k => match k with
  | 0 => ("SandRails$Log", "rails", "[I", true)
  | 1 => ("SandRails$Log", "cells", "[I", true)
  | 2 => ("SandRails$Log", "minutes", "[I", true)
  | 3 => ("SandRails$Log", "laid", "[I", true)
  | 4 => ("SandRails$Log", "begin", "I", false)
  | 5 => ("SandRails$Log", "size", "I", false)
  | _ => ("SandRails$Log", "seen", "[Z", true)
def tyX2 : Nat → FieldType := fun k => match k with
  | 0 => .array .int
  | 1 => .array .int
  | 2 => .array .int
  | 3 => .array .int
  | 4 => .int
  | 5 => .int
  | _ => .array .boolean
abbrev wsX20 : List Cond := u_ws RX2 TX2 7
theorem nmX2 : ∀ a, a < 7 → ∀ b, b < 7 → a ≠ b → (TX2 a).2.1 ≠ (TX2 b).2.1 := by decide +kernel
theorem tyX2_ok : ∀ k, k < 7 → parseFieldDescriptor (TX2 k).2.2.1 = some (tyX2 k) := by decide +kernel
abbrev cX2_init : ByteArray := prog_4_method_1_code
def yX2_init : MethodName := ⟨RX2, "<init>", "()V"⟩
abbrev cX2_note : ByteArray := prog_4_method_2_code
def yX2_note : MethodName := ⟨RX2, "note", "(IIIZ)V"⟩
abbrev cX2_slotOf : ByteArray := prog_4_method_3_code
def yX2_slotOf : MethodName := ⟨RX2, "slotOf", "(I)I"⟩
abbrev cX2_railOn : ByteArray := prog_4_method_4_code
def yX2_railOn : MethodName := ⟨RX2, "railOn", "(II)I"⟩
abbrev cX2_cellsUnder : ByteArray := prog_4_method_5_code
def yX2_cellsUnder : MethodName := ⟨RX2, "cellsUnder", "(I)I"⟩
abbrev cX2_copyFrom : ByteArray := prog_4_method_6_code
def yX2_copyFrom : MethodName := ⟨RX2, "copyFrom", "(LSandRails$Log;)V"⟩
def RX3 : String := "SandRails$Orders"
def TX3 : u_T := fun k => match k with
  | 0 => ("SandRails$Orders", "operations", "[I", true)
  | 1 => ("SandRails$Orders", "firsts", "[I", true)
  | 2 => ("SandRails$Orders", "seconds", "[I", true)
  | _ => ("SandRails$Orders", "size", "I", false)
def tyX3 : Nat → FieldType := fun k => match k with
  | 0 => .array .int
  | 1 => .array .int
  | 2 => .array .int
  | _ => .int
abbrev wsX30 : List Cond := u_ws RX3 TX3 4
theorem nmX3 : ∀ a, a < 4 → ∀ b, b < 4 → a ≠ b → (TX3 a).2.1 ≠ (TX3 b).2.1 := by decide +kernel
theorem tyX3_ok : ∀ k, k < 4 → parseFieldDescriptor (TX3 k).2.2.1 = some (tyX3 k) := by decide +kernel
abbrev cX3_init : ByteArray := prog_5_method_1_code
def yX3_init : MethodName := ⟨RX3, "<init>", "()V"⟩
abbrev cX3_has : ByteArray := prog_5_method_2_code
def yX3_has : MethodName := ⟨RX3, "has", "(I)Z"⟩
abbrev cX3_operationAt : ByteArray := prog_5_method_3_code
def yX3_operationAt : MethodName := ⟨RX3, "operationAt", "(I)I"⟩
abbrev cX3_firstAt : ByteArray := prog_5_method_4_code
def yX3_firstAt : MethodName := ⟨RX3, "firstAt", "(I)I"⟩
abbrev cX3_secondAt : ByteArray := prog_5_method_5_code
def yX3_secondAt : MethodName := ⟨RX3, "secondAt", "(I)I"⟩
abbrev cX3_add : ByteArray := prog_5_method_6_code
def yX3_add : MethodName := ⟨RX3, "add", "(III)V"⟩
abbrev cX3_leadHere : ByteArray := prog_5_method_7_code
def yX3_leadHere : MethodName := ⟨RX3, "leadHere", "(I)V"⟩
abbrev cX3_copyFrom : ByteArray := prog_5_method_8_code
def yX3_copyFrom : MethodName := ⟨RX3, "copyFrom", "(LSandRails$Orders;)V"⟩
def RX4 : String := "SandRails$Reader"
def TX4 : u_T := fun k => match k with
  | 0 => ("SandRails$Reader", "out", "LSandRails$Orders;", true)
  | 1 => ("SandRails$Reader", "tape", "LSandRails$Tape;", true)
  | 2 => ("SandRails$Reader", "type", "I", false)
  | 3 => ("SandRails$Reader", "begin", "I", false)
  | 4 => ("SandRails$Reader", "stop", "I", false)
  | _ => ("SandRails$Reader", "wrong", "I", false)
def tyX4 : Nat → FieldType := fun k => match k with
  | 0 => .object "SandRails$Orders"
  | 1 => .object "SandRails$Tape"
  | 2 => .int
  | 3 => .int
  | 4 => .int
  | _ => .int
abbrev wsX40 : List Cond := u_ws RX4 TX4 6
theorem nmX4 : ∀ a, a < 6 → ∀ b, b < 6 → a ≠ b → (TX4 a).2.1 ≠ (TX4 b).2.1 := by decide +kernel
theorem tyX4_ok : ∀ k, k < 6 → parseFieldDescriptor (TX4 k).2.2.1 = some (tyX4 k) := by decide +kernel
abbrev cX4_init : ByteArray := prog_6_method_1_code
def yX4_init : MethodName := ⟨RX4, "<init>", "()V"⟩
abbrev cX4_read : ByteArray := prog_6_method_2_code
def yX4_read : MethodName := ⟨RX4, "read", "()I"⟩
abbrev cX4_isRefused : ByteArray := prog_6_method_3_code
def yX4_isRefused : MethodName := ⟨RX4, "isRefused", "()Z"⟩
abbrev cX4_advance : ByteArray := prog_6_method_4_code
def yX4_advance : MethodName := ⟨RX4, "advance", "()V"⟩
abbrev cX4_typeOf : ByteArray := prog_6_method_5_code
def yX4_typeOf : MethodName := ⟨RX4, "typeOf", "(I)I"⟩
abbrev cX4_isSign : ByteArray := prog_6_method_6_code
def yX4_isSign : MethodName := ⟨RX4, "isSign", "(I)Z"⟩
abbrev cX4_isWord : ByteArray := prog_6_method_7_code
def yX4_isWord : MethodName := ⟨RX4, "isWord", "(Ljava/lang/String;)Z"⟩
abbrev cX4_takeSign : ByteArray := prog_6_method_8_code
def yX4_takeSign : MethodName := ⟨RX4, "takeSign", "(I)Z"⟩
abbrev cX4_takeNumber : ByteArray := prog_6_method_9_code
def yX4_takeNumber : MethodName := ⟨RX4, "takeNumber", "(II)I"⟩
abbrev cX4_readRow : ByteArray := prog_6_method_10_code
def yX4_readRow : MethodName := ⟨RX4, "readRow", "(I)Z"⟩
abbrev cX4_readOrder : ByteArray := prog_6_method_11_code
def yX4_readOrder : MethodName := ⟨RX4, "readOrder", "(I)Z"⟩
abbrev cX4_orderWord : ByteArray := prog_6_method_12_code
def yX4_orderWord : MethodName := ⟨RX4, "orderWord", "()I"⟩
abbrev cX4_readWay : ByteArray := prog_6_method_13_code
def yX4_readWay : MethodName := ⟨RX4, "readWay", "(I)Z"⟩
abbrev cX4_wayWord : ByteArray := prog_6_method_14_code
def yX4_wayWord : MethodName := ⟨RX4, "wayWord", "()I"⟩
abbrev cX4_readRest : ByteArray := prog_6_method_15_code
def yX4_readRest : MethodName := ⟨RX4, "readRest", "(I)Z"⟩
abbrev cX4_readAgain : ByteArray := prog_6_method_16_code
def yX4_readAgain : MethodName := ⟨RX4, "readAgain", "(I)Z"⟩
abbrev cX4_readIf : ByteArray := prog_6_method_17_code
def yX4_readIf : MethodName := ⟨RX4, "readIf", "(I)Z"⟩
abbrev cX4_readWhile : ByteArray := prog_6_method_18_code
def yX4_readWhile : MethodName := ⟨RX4, "readWhile", "(I)Z"⟩
abbrev cX4_readBlock : ByteArray := prog_6_method_19_code
def yX4_readBlock : MethodName := ⟨RX4, "readBlock", "(I)Z"⟩
abbrev cX4_readEither : ByteArray := prog_6_method_20_code
def yX4_readEither : MethodName := ⟨RX4, "readEither", "(I)Z"⟩
abbrev cX4_readBoth : ByteArray := prog_6_method_21_code
def yX4_readBoth : MethodName := ⟨RX4, "readBoth", "(I)Z"⟩
abbrev cX4_readAtom : ByteArray := prog_6_method_22_code
def yX4_readAtom : MethodName := ⟨RX4, "readAtom", "(I)Z"⟩
abbrev cX4_readDenied : ByteArray := prog_6_method_23_code
def yX4_readDenied : MethodName := ⟨RX4, "readDenied", "(I)Z"⟩
abbrev cX4_readFact : ByteArray := prog_6_method_24_code
def yX4_readFact : MethodName := ⟨RX4, "readFact", "()Z"⟩
abbrev cX4_factWord : ByteArray := prog_6_method_25_code
def yX4_factWord : MethodName := ⟨RX4, "factWord", "()I"⟩
def RX5 : String := "SandRails$Router"
def TX5 : u_T := fun k => match k with
  | 0 => ("SandRails$Router", "left", "[J", true)
  | 1 => ("SandRails$Router", "costs", "[I", true)
  | 2 => ("SandRails$Router", "isWet", "[Z", true)
  | 3 => ("SandRails$Router", "taking", "[J", true)
  | 4 => ("SandRails$Router", "tank", "I", false)
  | 5 => ("SandRails$Router", "goal", "I", false)
  | 6 => ("SandRails$Router", "enough", "I", false)
  | 7 => ("SandRails$Router", "cell", "I", false)
  | _ => ("SandRails$Router", "water", "I", false)
def tyX5 : Nat → FieldType := fun k => match k with
  | 0 => .array .long
  | 1 => .array .int
  | 2 => .array .boolean
  | 3 => .array .long
  | 4 => .int
  | 5 => .int
  | 6 => .int
  | 7 => .int
  | _ => .int
abbrev wsX50 : List Cond := u_ws RX5 TX5 9
theorem nmX5 : ∀ a, a < 9 → ∀ b, b < 9 → a ≠ b → (TX5 a).2.1 ≠ (TX5 b).2.1 := by decide +kernel
theorem tyX5_ok : ∀ k, k < 9 → parseFieldDescriptor (TX5 k).2.2.1 = some (tyX5 k) := by decide +kernel
abbrev cX5_init : ByteArray := prog_7_method_1_code
def yX5_init : MethodName := ⟨RX5, "<init>", "()V"⟩
abbrev cX5_tell : ByteArray := prog_7_method_2_code
def yX5_tell : MethodName := ⟨RX5, "tell", "(LSandRails$World;II)I"⟩
abbrev cX5_cellsWithin : ByteArray := prog_7_method_3_code
def yX5_cellsWithin : MethodName := ⟨RX5, "cellsWithin", "(LSandRails$World;II)I"⟩
abbrev cX5_minutesOf : ByteArray := prog_7_method_4_code
def yX5_minutesOf : MethodName := ⟨RX5, "minutesOf", "(J)I"⟩
abbrev cX5_solve : ByteArray := prog_7_method_5_code
def yX5_solve : MethodName := ⟨RX5, "solve", "(LSandRails$World;I)V"⟩
abbrev cX5_isAsBefore : ByteArray := prog_7_method_6_code
def yX5_isAsBefore : MethodName := ⟨RX5, "isAsBefore", "(LSandRails$World;I)Z"⟩
abbrev cX5_spread : ByteArray := prog_7_method_7_code
def yX5_spread : MethodName := ⟨RX5, "spread", "()V"⟩
abbrev cX5_spreadAt : ByteArray := prog_7_method_8_code
def yX5_spreadAt : MethodName := ⟨RX5, "spreadAt", "(I)Z"⟩
abbrev cX5_takeAnew : ByteArray := prog_7_method_9_code
def yX5_takeAnew : MethodName := ⟨RX5, "takeAnew", "()Z"⟩
abbrev cX5_leftWith : ByteArray := prog_7_method_10_code
def yX5_leftWith : MethodName := ⟨RX5, "leftWith", "(II)J"⟩
abbrev cX5_stepTo : ByteArray := prog_7_method_11_code
def yX5_stepTo : MethodName := ⟨RX5, "stepTo", "(III)J"⟩
abbrev cX5_bestStep : ByteArray := prog_7_method_12_code
def yX5_bestStep : MethodName := ⟨RX5, "bestStep", "(III)J"⟩
abbrev cX5_leftFrom : ByteArray := prog_7_method_13_code
def yX5_leftFrom : MethodName := ⟨RX5, "leftFrom", "(II)J"⟩
abbrev cX5_step : ByteArray := prog_7_method_14_code
def yX5_step : MethodName := ⟨RX5, "step", "()V"⟩
abbrev cX5_stepThatKeeps : ByteArray := prog_7_method_15_code
def yX5_stepThatKeeps : MethodName := ⟨RX5, "stepThatKeeps", "(JII)I"⟩
def RX6 : String := "SandRails$Runner"
def TX6 : u_T := fun k => match k with
  | 0 => ("SandRails$Runner", "turns", "[I", true)
  | 1 => ("SandRails$Runner", "marks", "[I", true)
  | 2 => ("SandRails$Runner", "done", "I", false)
  | 3 => ("SandRails$Runner", "next", "I", false)
  | _ => ("SandRails$Runner", "truths", "I", false)
def tyX6 : Nat → FieldType := fun k => match k with
  | 0 => .array .int
  | 1 => .array .int
  | 2 => .int
  | 3 => .int
  | _ => .int
abbrev wsX60 : List Cond := u_ws RX6 TX6 5
theorem nmX6 : ∀ a, a < 5 → ∀ b, b < 5 → a ≠ b → (TX6 a).2.1 ≠ (TX6 b).2.1 := by decide +kernel
theorem tyX6_ok : ∀ k, k < 5 → parseFieldDescriptor (TX6 k).2.2.1 = some (tyX6 k) := by decide +kernel
abbrev cX6_init : ByteArray := prog_8_method_1_code
def yX6_init : MethodName := ⟨RX6, "<init>", "()V"⟩
abbrev cX6_perform : ByteArray := prog_8_method_2_code
def yX6_perform : MethodName := ⟨RX6, "perform", "(LSandRails$World;LSandRails$Orders;I)I"⟩
abbrev cX6_turn : ByteArray := prog_8_method_3_code
def yX6_turn : MethodName := ⟨RX6, "turn", "(III)V"⟩
abbrev cX6_judge : ByteArray := prog_8_method_4_code
def yX6_judge : MethodName := ⟨RX6, "judge", "(LSandRails$World;III)V"⟩
abbrev cX6_push : ByteArray := prog_8_method_5_code
def yX6_push : MethodName := ⟨RX6, "push", "(Z)V"⟩
def RX7 : String := "SandRails$Tape"
def TX7 : u_T := fun k => match k with
  | 0 => ("SandRails$Tape", "bytes", "[I", true)
  | _ => ("SandRails$Tape", "size", "I", false)
def tyX7 : Nat → FieldType := fun k => match k with
  | 0 => .array .int
  | _ => .int
abbrev wsX70 : List Cond := u_ws RX7 TX7 2
theorem nmX7 : ∀ a, a < 2 → ∀ b, b < 2 → a ≠ b → (TX7 a).2.1 ≠ (TX7 b).2.1 := by decide +kernel
theorem tyX7_ok : ∀ k, k < 2 → parseFieldDescriptor (TX7 k).2.2.1 = some (tyX7 k) := by decide +kernel
abbrev cX7_init : ByteArray := prog_9_method_1_code
def yX7_init : MethodName := ⟨RX7, "<init>", "()V"⟩
abbrev cX7_hasRoom : ByteArray := prog_9_method_2_code
def yX7_hasRoom : MethodName := ⟨RX7, "hasRoom", "()Z"⟩
abbrev cX7_append : ByteArray := prog_9_method_3_code
def yX7_append : MethodName := ⟨RX7, "append", "(I)V"⟩
abbrev cX7_cut : ByteArray := prog_9_method_4_code
def yX7_cut : MethodName := ⟨RX7, "cut", "(I)Z"⟩
abbrev cX7_byteAt : ByteArray := prog_9_method_5_code
def yX7_byteAt : MethodName := ⟨RX7, "byteAt", "(I)I"⟩
def RX8 : String := "SandRails$Track"
def TX8 : u_T := fun k => match k with
  | 0 => ("SandRails$Track", "wears", "[I", true)
  | 1 => ("SandRails$Track", "widths", "[I", true)
  | 2 => ("SandRails$Track", "states", "[I", true)
  | 3 => ("SandRails$Track", "cells", "[I", true)
  | 4 => ("SandRails$Track", "rails", "I", false)
  | 5 => ("SandRails$Track", "row", "[I", true)
  | 6 => ("SandRails$Track", "rowCells", "[I", true)
  | 7 => ("SandRails$Track", "size", "I", false)
  | _ => ("SandRails$Track", "front", "I", false)
def tyX8 : Nat → FieldType := fun k => match k with
  | 0 => .array .int
  | 1 => .array .int
  | 2 => .array .int
  | 3 => .array .int
  | 4 => .int
  | 5 => .array .int
  | 6 => .array .int
  | 7 => .int
  | _ => .int
abbrev wsX80 : List Cond := u_ws RX8 TX8 9
theorem nmX8 : ∀ a, a < 9 → ∀ b, b < 9 → a ≠ b → (TX8 a).2.1 ≠ (TX8 b).2.1 := by decide +kernel
theorem tyX8_ok : ∀ k, k < 9 → parseFieldDescriptor (TX8 k).2.2.1 = some (tyX8 k) := by decide +kernel
abbrev cX8_init : ByteArray := prog_10_method_1_code
def yX8_init : MethodName := ⟨RX8, "<init>", "()V"⟩
abbrev cX8_isRail : ByteArray := prog_10_method_2_code
def yX8_isRail : MethodName := ⟨RX8, "isRail", "(I)Z"⟩
abbrev cX8_isSetOut : ByteArray := prog_10_method_3_code
def yX8_isSetOut : MethodName := ⟨RX8, "isSetOut", "()Z"⟩
abbrev cX8_wearOf : ByteArray := prog_10_method_4_code
def yX8_wearOf : MethodName := ⟨RX8, "wearOf", "(I)I"⟩
abbrev cX8_widthOf : ByteArray := prog_10_method_5_code
def yX8_widthOf : MethodName := ⟨RX8, "widthOf", "(I)I"⟩
abbrev cX8_stateOf : ByteArray := prog_10_method_6_code
def yX8_stateOf : MethodName := ⟨RX8, "stateOf", "(I)I"⟩
abbrev cX8_cellOf : ByteArray := prog_10_method_7_code
def yX8_cellOf : MethodName := ⟨RX8, "cellOf", "(I)I"⟩
abbrev cX8_railAt : ByteArray := prog_10_method_8_code
def yX8_railAt : MethodName := ⟨RX8, "railAt", "(I)I"⟩
abbrev cX8_cellAt : ByteArray := prog_10_method_9_code
def yX8_cellAt : MethodName := ⟨RX8, "cellAt", "(I)I"⟩
abbrev cX8_head : ByteArray := prog_10_method_10_code
def yX8_head : MethodName := ⟨RX8, "head", "()I"⟩
abbrev cX8_addRail : ByteArray := prog_10_method_11_code
def yX8_addRail : MethodName := ⟨RX8, "addRail", "(II)I"⟩
abbrev cX8_changeState : ByteArray := prog_10_method_12_code
def yX8_changeState : MethodName := ⟨RX8, "changeState", "(II)V"⟩
abbrev cX8_age : ByteArray := prog_10_method_13_code
def yX8_age : MethodName := ⟨RX8, "age", "(III)V"⟩
abbrev cX8_leastCarried : ByteArray := prog_10_method_14_code
def yX8_leastCarried : MethodName := ⟨RX8, "leastCarried", "()I"⟩
abbrev cX8_inState : ByteArray := prog_10_method_15_code
def yX8_inState : MethodName := ⟨RX8, "inState", "(I)I"⟩
abbrev cX8_covers : ByteArray := prog_10_method_16_code
def yX8_covers : MethodName := ⟨RX8, "covers", "(I)Z"⟩
abbrev cX8_append : ByteArray := prog_10_method_17_code
def yX8_append : MethodName := ⟨RX8, "append", "(II)V"⟩
abbrev cX8_removeTail : ByteArray := prog_10_method_18_code
def yX8_removeTail : MethodName := ⟨RX8, "removeTail", "()V"⟩
abbrev cX8_isBuried : ByteArray := prog_10_method_19_code
def yX8_isBuried : MethodName := ⟨RX8, "isBuried", "(ILSandRails$Desert;)Z"⟩
abbrev cX8_buriedIn : ByteArray := prog_10_method_20_code
def yX8_buriedIn : MethodName := ⟨RX8, "buriedIn", "(LSandRails$Desert;)I"⟩
abbrev cX8_firstBuried : ByteArray := prog_10_method_21_code
def yX8_firstBuried : MethodName := ⟨RX8, "firstBuried", "(LSandRails$Desert;)I"⟩
abbrev cX8_jointOf : ByteArray := prog_10_method_22_code
def yX8_jointOf : MethodName := ⟨RX8, "jointOf", "(II)I"⟩
abbrev cX8_widestJoint : ByteArray := prog_10_method_23_code
def yX8_widestJoint : MethodName := ⟨RX8, "widestJoint", "()I"⟩
abbrev cX8_firstJointAbove : ByteArray := prog_10_method_24_code
def yX8_firstJointAbove : MethodName := ⟨RX8, "firstJointAbove", "(I)I"⟩
abbrev cX8_mostWorn : ByteArray := prog_10_method_25_code
def yX8_mostWorn : MethodName := ⟨RX8, "mostWorn", "()I"⟩
abbrev cX8_copyFrom : ByteArray := prog_10_method_26_code
def yX8_copyFrom : MethodName := ⟨RX8, "copyFrom", "(LSandRails$Track;)V"⟩
def RX9 : String := "SandRails$World"
def TX9 : u_T := fun k => match k with
  | 0 => ("SandRails$World", "desert", "LSandRails$Desert;", true)
  | 1 => ("SandRails$World", "track", "LSandRails$Track;", true)
  | 2 => ("SandRails$World", "gangs", "LSandRails$Gangs;", true)
  | 3 => ("SandRails$World", "log", "LSandRails$Log;", true)
  | 4 => ("SandRails$World", "stores", "[I", true)
  | 5 => ("SandRails$World", "clock", "I", false)
  | 6 => ("SandRails$World", "dry", "I", false)
  | 7 => ("SandRails$World", "timesLeft", "I", false)
  | 8 => ("SandRails$World", "orders", "I", false)
  | _ => ("SandRails$World", "where", "I", false)
def tyX9 : Nat → FieldType := fun k => match k with
  | 0 => .object "SandRails$Desert"
  | 1 => .object "SandRails$Track"
  | 2 => .object "SandRails$Gangs"
  | 3 => .object "SandRails$Log"
  | 4 => .array .int
  | 5 => .int
  | 6 => .int
  | 7 => .int
  | 8 => .int
  | _ => .int
abbrev wsX90 : List Cond := u_ws RX9 TX9 10
theorem nmX9 : ∀ a, a < 10 → ∀ b, b < 10 → a ≠ b → (TX9 a).2.1 ≠ (TX9 b).2.1 := by decide +kernel
theorem tyX9_ok : ∀ k, k < 10 → parseFieldDescriptor (TX9 k).2.2.1 = some (tyX9 k) := by decide +kernel
abbrev cX9_init : ByteArray := prog_11_method_1_code
def yX9_init : MethodName := ⟨RX9, "<init>", "()V"⟩
abbrev cX9_storeOf : ByteArray := prog_11_method_2_code
def yX9_storeOf : MethodName := ⟨RX9, "storeOf", "(I)I"⟩
abbrev cX9_mayStore : ByteArray := prog_11_method_3_code
def yX9_mayStore : MethodName := ⟨RX9, "mayStore", "(II)Z"⟩
abbrev cX9_changeStore : ByteArray := prog_11_method_4_code
def yX9_changeStore : MethodName := ⟨RX9, "changeStore", "(II)I"⟩
abbrev cX9_takePlates : ByteArray := prog_11_method_5_code
def yX9_takePlates : MethodName := ⟨RX9, "takePlates", "(I)I"⟩
abbrev cX9_shape : ByteArray := prog_11_method_6_code
def yX9_shape : MethodName := ⟨RX9, "shape", "(III)I"⟩
abbrev cX9_isFree : ByteArray := prog_11_method_7_code
def yX9_isFree : MethodName := ⟨RX9, "isFree", "(I)Z"⟩
abbrev cX9_maySetOut : ByteArray := prog_11_method_8_code
def yX9_maySetOut : MethodName := ⟨RX9, "maySetOut", "(III)Z"⟩
abbrev cX9_setOut : ByteArray := prog_11_method_9_code
def yX9_setOut : MethodName := ⟨RX9, "setOut", "(III)I"⟩
abbrev cX9_putRail : ByteArray := prog_11_method_10_code
def yX9_putRail : MethodName := ⟨RX9, "putRail", "(III)V"⟩
abbrev cX9_lastOfTrain : ByteArray := prog_11_method_11_code
def yX9_lastOfTrain : MethodName := ⟨RX9, "lastOfTrain", "()I"⟩
abbrev cX9_tryAct : ByteArray := prog_11_method_12_code
def yX9_tryAct : MethodName := ⟨RX9, "tryAct", "(II)I"⟩
abbrev cX9_tryLift : ByteArray := prog_11_method_13_code
def yX9_tryLift : MethodName := ⟨RX9, "tryLift", "()I"⟩
abbrev cX9_tryLay : ByteArray := prog_11_method_14_code
def yX9_tryLay : MethodName := ⟨RX9, "tryLay", "(I)I"⟩
abbrev cX9_tryGo : ByteArray := prog_11_method_15_code
def yX9_tryGo : MethodName := ⟨RX9, "tryGo", "(Z)I"⟩
abbrev cX9_isStuck : ByteArray := prog_11_method_16_code
def yX9_isStuck : MethodName := ⟨RX9, "isStuck", "(I)Z"⟩
abbrev cX9_tryFill : ByteArray := prog_11_method_17_code
def yX9_tryFill : MethodName := ⟨RX9, "tryFill", "()I"⟩
abbrev cX9_tryDig : ByteArray := prog_11_method_18_code
def yX9_tryDig : MethodName := ⟨RX9, "tryDig", "()I"⟩
abbrev cX9_pass : ByteArray := prog_11_method_19_code
def yX9_pass : MethodName := ⟨RX9, "pass", "(I)V"⟩
abbrev cX9_factOf : ByteArray := prog_11_method_20_code
def yX9_factOf : MethodName := ⟨RX9, "factOf", "(I)I"⟩
abbrev cX9_tellOfRail : ByteArray := prog_11_method_21_code
def yX9_tellOfRail : MethodName := ⟨RX9, "tellOfRail", "(II)I"⟩
abbrev cX9_copyFrom : ByteArray := prog_11_method_22_code
def yX9_copyFrom : MethodName := ⟨RX9, "copyFrom", "(LSandRails$World;)V"⟩
def RX10 : String := "SandRails"
def TX10 : u_T := fun k => match k with
  | 0 => ("SandRails", "world", "LSandRails$World;", true)
  | 1 => ("SandRails", "kept", "LSandRails$World;", true)
  | 2 => ("SandRails", "isKept", "Z", false)
  | 3 => ("SandRails", "dream", "LSandRails$Desert;", true)
  | 4 => ("SandRails", "reader", "LSandRails$Reader;", true)
  | 5 => ("SandRails", "texts", "[LSandRails$Orders;", true)
  | 6 => ("SandRails", "wrongByte", "I", false)
  | 7 => ("SandRails", "runner", "LSandRails$Runner;", true)
  | _ => ("SandRails", "router", "LSandRails$Router;", true)
def tyX10 : Nat → FieldType := fun k => match k with
  | 0 => .object "SandRails$World"
  | 1 => .object "SandRails$World"
  | 2 => .boolean
  | 3 => .object "SandRails$Desert"
  | 4 => .object "SandRails$Reader"
  | 5 => .array (.object "SandRails$Orders")
  | 6 => .int
  | 7 => .object "SandRails$Runner"
  | _ => .object "SandRails$Router"
abbrev wsX100 : List Cond := u_ws RX10 TX10 9
theorem nmX10 : ∀ a, a < 9 → ∀ b, b < 9 → a ≠ b → (TX10 a).2.1 ≠ (TX10 b).2.1 := by decide +kernel
theorem tyX10_ok : ∀ k, k < 9 → parseFieldDescriptor (TX10 k).2.2.1 = some (tyX10 k) := by decide +kernel
abbrev cX10_init : ByteArray := prog_1_method_1_code
def yX10_init : MethodName := ⟨RX10, "<init>", "()V"⟩
abbrev cX10_feed : ByteArray := prog_1_method_2_code
def yX10_feed : MethodName := ⟨RX10, "feed", "(IIIII)I"⟩
abbrev cX10_end : ByteArray := prog_1_method_3_code
def yX10_end : MethodName := ⟨RX10, "end", "(I)Z"⟩
abbrev cX10_orders : ByteArray := prog_1_method_4_code
def yX10_orders : MethodName := ⟨RX10, "orders", "()I"⟩
abbrev cX10_fault : ByteArray := prog_1_method_5_code
def yX10_fault : MethodName := ⟨RX10, "fault", "()I"⟩
abbrev cX10_run : ByteArray := prog_1_method_6_code
def yX10_run : MethodName := ⟨RX10, "run", "(II)I"⟩
abbrev cX10_where : ByteArray := prog_1_method_7_code
def yX10_where : MethodName := ⟨RX10, "where", "()I"⟩
abbrev cX10_ground : ByteArray := prog_1_method_8_code
def yX10_ground : MethodName := ⟨RX10, "ground", "(III)I"⟩
abbrev cX10_kind : ByteArray := prog_1_method_9_code
def yX10_kind : MethodName := ⟨RX10, "kind", "(I)I"⟩
abbrev cX10_rail : ByteArray := prog_1_method_10_code
def yX10_rail : MethodName := ⟨RX10, "rail", "(II)I"⟩
abbrev cX10_gang : ByteArray := prog_1_method_11_code
def yX10_gang : MethodName := ⟨RX10, "gang", "(II)I"⟩
abbrev cX10_task : ByteArray := prog_1_method_12_code
def yX10_task : MethodName := ⟨RX10, "task", "(II)I"⟩
abbrev cX10_store : ByteArray := prog_1_method_13_code
def yX10_store : MethodName := ⟨RX10, "store", "(II)I"⟩
abbrev cX10_steal : ByteArray := prog_1_method_14_code
def yX10_steal : MethodName := ⟨RX10, "steal", "(I)I"⟩
abbrev cX10_lose : ByteArray := prog_1_method_15_code
def yX10_lose : MethodName := ⟨RX10, "lose", "(I)V"⟩
abbrev cX10_set : ByteArray := prog_1_method_16_code
def yX10_set : MethodName := ⟨RX10, "set", "(III)I"⟩
abbrev cX10_lift : ByteArray := prog_1_method_17_code
def yX10_lift : MethodName := ⟨RX10, "lift", "()I"⟩
abbrev cX10_lay : ByteArray := prog_1_method_18_code
def yX10_lay : MethodName := ⟨RX10, "lay", "(I)I"⟩
abbrev cX10_go : ByteArray := prog_1_method_19_code
def yX10_go : MethodName := ⟨RX10, "go", "(Z)Z"⟩
abbrev cX10_fill : ByteArray := prog_1_method_20_code
def yX10_fill : MethodName := ⟨RX10, "fill", "()I"⟩
abbrev cX10_dig : ByteArray := prog_1_method_21_code
def yX10_dig : MethodName := ⟨RX10, "dig", "()I"⟩
abbrev cX10_rest : ByteArray := prog_1_method_22_code
def yX10_rest : MethodName := ⟨RX10, "rest", "(I)I"⟩
abbrev cX10_look : ByteArray := prog_1_method_23_code
def yX10_look : MethodName := ⟨RX10, "look", "(II)I"⟩
abbrev cX10_line : ByteArray := prog_1_method_24_code
def yX10_line : MethodName := ⟨RX10, "line", "(IZ)I"⟩
abbrev cX10_route : ByteArray := prog_1_method_25_code
def yX10_route : MethodName := ⟨RX10, "route", "(II)I"⟩
abbrev cX10_reach : ByteArray := prog_1_method_26_code
def yX10_reach : MethodName := ⟨RX10, "reach", "(II)I"⟩
abbrev cX10_joints : ByteArray := prog_1_method_27_code
def yX10_joints : MethodName := ⟨RX10, "joints", "(Z)I"⟩
abbrev cX10_worn : ByteArray := prog_1_method_28_code
def yX10_worn : MethodName := ⟨RX10, "worn", "()I"⟩
abbrev cX10_few : ByteArray := prog_1_method_29_code
def yX10_few : MethodName := ⟨RX10, "few", "()Z"⟩
abbrev cX10_which : ByteArray := prog_1_method_30_code
def yX10_which : MethodName := ⟨RX10, "which", "(II)I"⟩
abbrev cX10_ahead : ByteArray := prog_1_method_31_code
def yX10_ahead : MethodName := ⟨RX10, "ahead", "(IZ)I"⟩
abbrev cX10_count : ByteArray := prog_1_method_32_code
def yX10_count : MethodName := ⟨RX10, "count", "(I)I"⟩
abbrev cX10_image : ByteArray := prog_1_method_33_code
def yX10_image : MethodName := ⟨RX10, "image", "()V"⟩
abbrev cX10_back : ByteArray := prog_1_method_34_code
def yX10_back : MethodName := ⟨RX10, "back", "()Z"⟩
abbrev cX10_isCell : ByteArray := prog_1_method_35_code
def yX10_isCell : MethodName := ⟨RX10, "isCell", "(I)Z"⟩
abbrev cX10_isWay : ByteArray := prog_1_method_36_code
def yX10_isWay : MethodName := ⟨RX10, "isWay", "(I)Z"⟩
abbrev cX10_beside : ByteArray := prog_1_method_37_code
def yX10_beside : MethodName := ⟨RX10, "beside", "(II)I"⟩
abbrev cX10_minutesOn : ByteArray := prog_1_method_38_code
def yX10_minutesOn : MethodName := ⟨RX10, "minutesOn", "(I)I"⟩
abbrev cX10_wearOn : ByteArray := prog_1_method_39_code
def yX10_wearOn : MethodName := ⟨RX10, "wearOn", "(I)I"⟩
abbrev cX10_workMinutes : ByteArray := prog_1_method_40_code
def yX10_workMinutes : MethodName := ⟨RX10, "workMinutes", "(II)I"⟩
def RX11 : String := "SandRailsModel"
def TX11 : u_T := fun k => match k with
  | 0 => ("SandRailsModel", "thrown", "I", false)
  | 1 => ("SandRailsModel", "world", "[I", true)
  | 2 => ("SandRailsModel", "image", "[I", true)
  | 3 => ("SandRailsModel", "hasImage", "Z", false)
  | 4 => ("SandRailsModel", "tape", "[B", true)
  | 5 => ("SandRailsModel", "taped", "I", false)
  | 6 => ("SandRailsModel", "point", "I", false)
  | 7 => ("SandRailsModel", "end", "I", false)
  | 8 => ("SandRailsModel", "begin", "I", false)
  | 9 => ("SandRailsModel", "deep", "I", false)
  | 10 => ("SandRailsModel", "faultAt", "I", false)
  | 11 => ("SandRailsModel", "five", "[I", true)
  | 12 => ("SandRailsModel", "ops", "I", false)
  | 13 => ("SandRailsModel", "steps", "I", false)
  | 14 => ("SandRailsModel", "row", "[I", true)
  | 15 => ("SandRailsModel", "wasDune", "[Z", true)
  | 16 => ("SandRailsModel", "value", "[I", true)
  | 17 => ("SandRailsModel", "left", "[I", true)
  | 18 => ("SandRailsModel", "since", "[I", true)
  | 19 => ("SandRailsModel", "rest", "[J", true)
  | 20 => ("SandRailsModel", "open", "[Z", true)
  | 21 => ("SandRailsModel", "wells", "[Z", true)
  | 22 => ("SandRailsModel", "pathMany", "I", false)
  | 23 => ("SandRailsModel", "pathWithin", "I", false)
  | _ => ("SandRailsModel", "kept", "[I", true)
def tyX11 : Nat → FieldType := fun k => match k with
  | 0 => .int
  | 1 => .array .int
  | 2 => .array .int
  | 3 => .boolean
  | 4 => .array .byte
  | 5 => .int
  | 6 => .int
  | 7 => .int
  | 8 => .int
  | 9 => .int
  | 10 => .int
  | 11 => .array .int
  | 12 => .int
  | 13 => .int
  | 14 => .array .int
  | 15 => .array .boolean
  | 16 => .array .int
  | 17 => .array .int
  | 18 => .array .int
  | 19 => .array .long
  | 20 => .array .boolean
  | 21 => .array .boolean
  | 22 => .int
  | 23 => .int
  | _ => .array .int
abbrev wsX110 : List Cond := u_ws RX11 TX11 25
theorem nmX11 : ∀ a, a < 25 → ∀ b, b < 25 → a ≠ b → (TX11 a).2.1 ≠ (TX11 b).2.1 := by decide +kernel
theorem tyX11_ok : ∀ k, k < 25 → parseFieldDescriptor (TX11 k).2.2.1 = some (tyX11 k) := by decide +kernel
abbrev cX11_throwsIf : ByteArray := prog_13_method_2_code
def yX11_throwsIf : MethodName := ⟨RX11, "throwsIf", "(ZI)Z"⟩
abbrev cX11_in : ByteArray := prog_13_method_3_code
def yX11_in : MethodName := ⟨RX11, "in", "(III)Z"⟩
abbrev cX11_init : ByteArray := prog_13_method_4_code
def yX11_init : MethodName := ⟨RX11, "<init>", "()V"⟩
abbrev cX11_image : ByteArray := prog_13_method_5_code
def yX11_image : MethodName := ⟨RX11, "image", "()V"⟩
abbrev cX11_back : ByteArray := prog_13_method_6_code
def yX11_back : MethodName := ⟨RX11, "back", "()Z"⟩
abbrev cX11_feed : ByteArray := prog_13_method_7_code
def yX11_feed : MethodName := ⟨RX11, "feed", "(IIIII)I"⟩
abbrev cX11_end : ByteArray := prog_13_method_8_code
def yX11_end : MethodName := ⟨RX11, "end", "(I)Z"⟩
abbrev cX11_isAt : ByteArray := prog_13_method_9_code
def yX11_isAt : MethodName := ⟨RX11, "isAt", "(II)Z"⟩
abbrev cX11_blanks : ByteArray := prog_13_method_10_code
def yX11_blanks : MethodName := ⟨RX11, "blanks", "()V"⟩
abbrev cX11_letters : ByteArray := prog_13_method_11_code
def yX11_letters : MethodName := ⟨RX11, "letters", "()V"⟩
abbrev cX11_isWord : ByteArray := prog_13_method_12_code
def yX11_isWord : MethodName := ⟨RX11, "isWord", "(Ljava/lang/String;)Z"⟩
abbrev cX11_passes : ByteArray := prog_13_method_13_code
def yX11_passes : MethodName := ⟨RX11, "passes", "(Ljava/lang/String;)Z"⟩
abbrev cX11_sign : ByteArray := prog_13_method_14_code
def yX11_sign : MethodName := ⟨RX11, "sign", "(I)Z"⟩
abbrev cX11_number : ByteArray := prog_13_method_15_code
def yX11_number : MethodName := ⟨RX11, "number", "(II)I"⟩
abbrev cX11_fault : ByteArray := prog_13_method_16_code
def yX11_fault : MethodName := ⟨RX11, "fault", "()I"⟩
abbrev cX11_textAt : ByteArray := prog_13_method_17_code
def yX11_textAt : MethodName := ⟨RX11, "textAt", "(I)I"⟩
abbrev cX11_opAt : ByteArray := prog_13_method_18_code
def yX11_opAt : MethodName := ⟨RX11, "opAt", "(II)I"⟩
abbrev cX11_stepAt : ByteArray := prog_13_method_19_code
def yX11_stepAt : MethodName := ⟨RX11, "stepAt", "(II)I"⟩
abbrev cX11_puts : ByteArray := prog_13_method_20_code
def yX11_puts : MethodName := ⟨RX11, "puts", "(III)I"⟩
abbrev cX11_emits : ByteArray := prog_13_method_21_code
def yX11_emits : MethodName := ⟨RX11, "emits", "(II)Z"⟩
abbrev cX11_deeper : ByteArray := prog_13_method_22_code
def yX11_deeper : MethodName := ⟨RX11, "deeper", "()Z"⟩
abbrev cX11_opens : ByteArray := prog_13_method_23_code
def yX11_opens : MethodName := ⟨RX11, "opens", "(I)Z"⟩
abbrev cX11_closes : ByteArray := prog_13_method_24_code
def yX11_closes : MethodName := ⟨RX11, "closes", "(I)Z"⟩
abbrev cX11_factAt : ByteArray := prog_13_method_25_code
def yX11_factAt : MethodName := ⟨RX11, "factAt", "()I"⟩
abbrev cX11_readAtom : ByteArray := prog_13_method_26_code
def yX11_readAtom : MethodName := ⟨RX11, "readAtom", "()Z"⟩
abbrev cX11_readAllOf : ByteArray := prog_13_method_27_code
def yX11_readAllOf : MethodName := ⟨RX11, "readAllOf", "()Z"⟩
abbrev cX11_readCond : ByteArray := prog_13_method_28_code
def yX11_readCond : MethodName := ⟨RX11, "readCond", "()Z"⟩
abbrev cX11_wayAt : ByteArray := prog_13_method_29_code
def yX11_wayAt : MethodName := ⟨RX11, "wayAt", "()I"⟩
abbrev cX11_readAgain : ByteArray := prog_13_method_30_code
def yX11_readAgain : MethodName := ⟨RX11, "readAgain", "()Z"⟩
abbrev cX11_readTest : ByteArray := prog_13_method_31_code
def yX11_readTest : MethodName := ⟨RX11, "readTest", "(Z)Z"⟩
abbrev cX11_readOrder : ByteArray := prog_13_method_32_code
def yX11_readOrder : MethodName := ⟨RX11, "readOrder", "()Z"⟩
abbrev cX11_readRow : ByteArray := prog_13_method_33_code
def yX11_readRow : MethodName := ⟨RX11, "readRow", "()Z"⟩
abbrev cX11_readAll : ByteArray := prog_13_method_34_code
def yX11_readAll : MethodName := ⟨RX11, "readAll", "()Z"⟩
abbrev cX11_orders : ByteArray := prog_13_method_35_code
def yX11_orders : MethodName := ⟨RX11, "orders", "()I"⟩
abbrev cX11_noCell : ByteArray := prog_13_method_36_code
def yX11_noCell : MethodName := ⟨RX11, "noCell", "(I)Z"⟩
abbrev cX11_beside : ByteArray := prog_13_method_37_code
def yX11_beside : MethodName := ⟨RX11, "beside", "(II)I"⟩
abbrev cX11_kindAt : ByteArray := prog_13_method_38_code
def yX11_kindAt : MethodName := ⟨RX11, "kindAt", "(I)I"⟩
abbrev cX11_lineMany : ByteArray := prog_13_method_39_code
def yX11_lineMany : MethodName := ⟨RX11, "lineMany", "()I"⟩
abbrev cX11_railAt : ByteArray := prog_13_method_40_code
def yX11_railAt : MethodName := ⟨RX11, "railAt", "(I)I"⟩
abbrev cX11_ofRail : ByteArray := prog_13_method_41_code
def yX11_ofRail : MethodName := ⟨RX11, "ofRail", "(II)I"⟩
abbrev cX11_setsRail : ByteArray := prog_13_method_42_code
def yX11_setsRail : MethodName := ⟨RX11, "setsRail", "(III)V"⟩
abbrev cX11_cellAt : ByteArray := prog_13_method_43_code
def yX11_cellAt : MethodName := ⟨RX11, "cellAt", "(I)I"⟩
abbrev cX11_isLine : ByteArray := prog_13_method_44_code
def yX11_isLine : MethodName := ⟨RX11, "isLine", "(I)Z"⟩
abbrev cX11_ground : ByteArray := prog_13_method_45_code
def yX11_ground : MethodName := ⟨RX11, "ground", "(III)I"⟩
abbrev cX11_kind : ByteArray := prog_13_method_46_code
def yX11_kind : MethodName := ⟨RX11, "kind", "(I)I"⟩
abbrev cX11_rail : ByteArray := prog_13_method_47_code
def yX11_rail : MethodName := ⟨RX11, "rail", "(II)I"⟩
abbrev cX11_gang : ByteArray := prog_13_method_48_code
def yX11_gang : MethodName := ⟨RX11, "gang", "(II)I"⟩
abbrev cX11_task : ByteArray := prog_13_method_49_code
def yX11_task : MethodName := ⟨RX11, "task", "(II)I"⟩
abbrev cX11_isStore : ByteArray := prog_13_method_50_code
def yX11_isStore : MethodName := ⟨RX11, "isStore", "(II)Z"⟩
abbrev cX11_isSet : ByteArray := prog_13_method_51_code
def yX11_isSet : MethodName := ⟨RX11, "isSet", "()Z"⟩
abbrev cX11_store : ByteArray := prog_13_method_52_code
def yX11_store : MethodName := ⟨RX11, "store", "(II)I"⟩
abbrev cX11_carried : ByteArray := prog_13_method_53_code
def yX11_carried : MethodName := ⟨RX11, "carried", "()I"⟩
abbrev cX11_leastCarried : ByteArray := prog_13_method_54_code
def yX11_leastCarried : MethodName := ⟨RX11, "leastCarried", "()I"⟩
abbrev cX11_logs : ByteArray := prog_13_method_55_code
def yX11_logs : MethodName := ⟨RX11, "logs", "(IIZ)V"⟩
abbrev cX11_comesOn : ByteArray := prog_13_method_56_code
def yX11_comesOn : MethodName := ⟨RX11, "comesOn", "(II)V"⟩
abbrev cX11_isWay : ByteArray := prog_13_method_57_code
def yX11_isWay : MethodName := ⟨RX11, "isWay", "(III)Z"⟩
abbrev cX11_set : ByteArray := prog_13_method_58_code
def yX11_set : MethodName := ⟨RX11, "set", "(III)I"⟩
abbrev cX11_men : ByteArray := prog_13_method_59_code
def yX11_men : MethodName := ⟨RX11, "men", "()I"⟩
abbrev cX11_draw : ByteArray := prog_13_method_60_code
def yX11_draw : MethodName := ⟨RX11, "draw", "()I"⟩
abbrev cX11_night : ByteArray := prog_13_method_61_code
def yX11_night : MethodName := ⟨RX11, "night", "()V"⟩
abbrev cX11_elapses : ByteArray := prog_13_method_62_code
def yX11_elapses : MethodName := ⟨RX11, "elapses", "(I)V"⟩
abbrev cX11_takes : ByteArray := prog_13_method_63_code
def yX11_takes : MethodName := ⟨RX11, "takes", "(I)V"⟩
abbrev cX11_strength : ByteArray := prog_13_method_64_code
def yX11_strength : MethodName := ⟨RX11, "strength", "(I)I"⟩
abbrev cX11_shared : ByteArray := prog_13_method_65_code
def yX11_shared : MethodName := ⟨RX11, "shared", "(II)I"⟩
abbrev cX11_isBuried : ByteArray := prog_13_method_66_code
def yX11_isBuried : MethodName := ⟨RX11, "isBuried", "(I)Z"⟩
abbrev cX11_mayLift : ByteArray := prog_13_method_67_code
def yX11_mayLift : MethodName := ⟨RX11, "mayLift", "()Z"⟩
abbrev cX11_lifts : ByteArray := prog_13_method_68_code
def yX11_lifts : MethodName := ⟨RX11, "lifts", "()I"⟩
abbrev cX11_lift : ByteArray := prog_13_method_69_code
def yX11_lift : MethodName := ⟨RX11, "lift", "()I"⟩
abbrev cX11_next : ByteArray := prog_13_method_70_code
def yX11_next : MethodName := ⟨RX11, "next", "(I)I"⟩
abbrev cX11_mayLay : ByteArray := prog_13_method_71_code
def yX11_mayLay : MethodName := ⟨RX11, "mayLay", "(I)Z"⟩
abbrev cX11_costOf : ByteArray := prog_13_method_72_code
def yX11_costOf : MethodName := ⟨RX11, "costOf", "(I)I"⟩
abbrev cX11_lays : ByteArray := prog_13_method_73_code
def yX11_lays : MethodName := ⟨RX11, "lays", "(I)I"⟩
abbrev cX11_lay : ByteArray := prog_13_method_74_code
def yX11_lay : MethodName := ⟨RX11, "lay", "(I)I"⟩
abbrev cX11_front : ByteArray := prog_13_method_75_code
def yX11_front : MethodName := ⟨RX11, "front", "()I"⟩
abbrev cX11_mayGo : ByteArray := prog_13_method_76_code
def yX11_mayGo : MethodName := ⟨RX11, "mayGo", "(Z)Z"⟩
abbrev cX11_apart : ByteArray := prog_13_method_77_code
def yX11_apart : MethodName := ⟨RX11, "apart", "(II)I"⟩
abbrev cX11_widthAt : ByteArray := prog_13_method_78_code
def yX11_widthAt : MethodName := ⟨RX11, "widthAt", "(I)I"⟩
abbrev cX11_goes : ByteArray := prog_13_method_79_code
def yX11_goes : MethodName := ⟨RX11, "goes", "(Z)Z"⟩
abbrev cX11_go : ByteArray := prog_13_method_80_code
def yX11_go : MethodName := ⟨RX11, "go", "(Z)Z"⟩
abbrev cX11_isByWell : ByteArray := prog_13_method_81_code
def yX11_isByWell : MethodName := ⟨RX11, "isByWell", "(I)Z"⟩
abbrev cX11_mayFill : ByteArray := prog_13_method_82_code
def yX11_mayFill : MethodName := ⟨RX11, "mayFill", "()Z"⟩
abbrev cX11_fills : ByteArray := prog_13_method_83_code
def yX11_fills : MethodName := ⟨RX11, "fills", "()I"⟩
abbrev cX11_fill : ByteArray := prog_13_method_84_code
def yX11_fill : MethodName := ⟨RX11, "fill", "()I"⟩
abbrev cX11_firstBuried : ByteArray := prog_13_method_85_code
def yX11_firstBuried : MethodName := ⟨RX11, "firstBuried", "()I"⟩
abbrev cX11_mayDig : ByteArray := prog_13_method_86_code
def yX11_mayDig : MethodName := ⟨RX11, "mayDig", "()Z"⟩
abbrev cX11_digs : ByteArray := prog_13_method_87_code
def yX11_digs : MethodName := ⟨RX11, "digs", "()I"⟩
abbrev cX11_dig : ByteArray := prog_13_method_88_code
def yX11_dig : MethodName := ⟨RX11, "dig", "()I"⟩
abbrev cX11_rest : ByteArray := prog_13_method_89_code
def yX11_rest : MethodName := ⟨RX11, "rest", "(I)I"⟩
abbrev cX11_factOf : ByteArray := prog_13_method_90_code
def yX11_factOf : MethodName := ⟨RX11, "factOf", "(I)I"⟩
abbrev cX11_holds : ByteArray := prog_13_method_91_code
def yX11_holds : MethodName := ⟨RX11, "holds", "(III)Z"⟩
abbrev cX11_acts : ByteArray := prog_13_method_92_code
def yX11_acts : MethodName := ⟨RX11, "acts", "(II)Z"⟩
abbrev cX11_run : ByteArray := prog_13_method_93_code
def yX11_run : MethodName := ⟨RX11, "run", "(II)I"⟩
abbrev cX11_where : ByteArray := prog_13_method_94_code
def yX11_where : MethodName := ⟨RX11, "where", "()I"⟩
abbrev cX11_noRail : ByteArray := prog_13_method_95_code
def yX11_noRail : MethodName := ⟨RX11, "noRail", "(I)Z"⟩
abbrev cX11_look : ByteArray := prog_13_method_96_code
def yX11_look : MethodName := ⟨RX11, "look", "(II)I"⟩
abbrev cX11_line : ByteArray := prog_13_method_97_code
def yX11_line : MethodName := ⟨RX11, "line", "(IZ)I"⟩
abbrev cX11_restAt : ByteArray := prog_13_method_98_code
def yX11_restAt : MethodName := ⟨RX11, "restAt", "(II)I"⟩
abbrev cX11_isFree : ByteArray := prog_13_method_99_code
def yX11_isFree : MethodName := ⟨RX11, "isFree", "(I)Z"⟩
abbrev cX11_stepping : ByteArray := prog_13_method_100_code
def yX11_stepping : MethodName := ⟨RX11, "stepping", "(II)J"⟩
abbrev cX11_finds : ByteArray := prog_13_method_101_code
def yX11_finds : MethodName := ⟨RX11, "finds", "(I)V"⟩
abbrev cX11_stepOf : ByteArray := prog_13_method_102_code
def yX11_stepOf : MethodName := ⟨RX11, "stepOf", "(II)I"⟩
abbrev cX11_isNoEnd : ByteArray := prog_13_method_103_code
def yX11_isNoEnd : MethodName := ⟨RX11, "isNoEnd", "(I)Z"⟩
abbrev cX11_path : ByteArray := prog_13_method_104_code
def yX11_path : MethodName := ⟨RX11, "path", "(III)I"⟩
abbrev cX11_hasWay : ByteArray := prog_13_method_105_code
def yX11_hasWay : MethodName := ⟨RX11, "hasWay", "(I)Z"⟩
abbrev cX11_route : ByteArray := prog_13_method_106_code
def yX11_route : MethodName := ⟨RX11, "route", "(II)I"⟩
abbrev cX11_reach : ByteArray := prog_13_method_107_code
def yX11_reach : MethodName := ⟨RX11, "reach", "(II)I"⟩
abbrev cX11_joints : ByteArray := prog_13_method_108_code
def yX11_joints : MethodName := ⟨RX11, "joints", "(Z)I"⟩
abbrev cX11_isThere : ByteArray := prog_13_method_109_code
def yX11_isThere : MethodName := ⟨RX11, "isThere", "(I)Z"⟩
abbrev cX11_worn : ByteArray := prog_13_method_110_code
def yX11_worn : MethodName := ⟨RX11, "worn", "()I"⟩
abbrev cX11_few : ByteArray := prog_13_method_111_code
def yX11_few : MethodName := ⟨RX11, "few", "()Z"⟩
abbrev cX11_steal : ByteArray := prog_13_method_112_code
def yX11_steal : MethodName := ⟨RX11, "steal", "(I)I"⟩
abbrev cX11_lose : ByteArray := prog_13_method_113_code
def yX11_lose : MethodName := ⟨RX11, "lose", "(I)V"⟩
abbrev cX11_which : ByteArray := prog_13_method_114_code
def yX11_which : MethodName := ⟨RX11, "which", "(II)I"⟩
abbrev cX11_buried : ByteArray := prog_13_method_115_code
def yX11_buried : MethodName := ⟨RX11, "buried", "()I"⟩
abbrev cX11_dunes : ByteArray := prog_13_method_116_code
def yX11_dunes : MethodName := ⟨RX11, "dunes", "()I"⟩
abbrev cX11_ahead : ByteArray := prog_13_method_117_code
def yX11_ahead : MethodName := ⟨RX11, "ahead", "(IZ)I"⟩
abbrev cX11_count : ByteArray := prog_13_method_118_code
def yX11_count : MethodName := ⟨RX11, "count", "(I)I"⟩
def RJx145de : String := "java/io/Serializable"
def TJx145de : u_T := fun k => match k with
  | _ => ("", "", "", false)
def tyJx145de : Nat → FieldType := fun k => match k with
  | _ => .int
abbrev wsJx145de0 : List Cond := u_ws RJx145de TJx145de 0
theorem nmJx145de : ∀ a, a < 0 → ∀ b, b < 0 → a ≠ b → (TJx145de a).2.1 ≠ (TJx145de b).2.1 := by decide +kernel
theorem tyJx145de_ok : ∀ k, k < 0 → parseFieldDescriptor (TJx145de k).2.2.1 = some (tyJx145de k) := by decide +kernel
def RJx9f9b0 : String := "java/lang/CharSequence"
def TJx9f9b0 : u_T := fun k => match k with
  | _ => ("", "", "", false)
def tyJx9f9b0 : Nat → FieldType := fun k => match k with
  | _ => .int
abbrev wsJx9f9b00 : List Cond := u_ws RJx9f9b0 TJx9f9b0 0
theorem nmJx9f9b0 : ∀ a, a < 0 → ∀ b, b < 0 → a ≠ b → (TJx9f9b0 a).2.1 ≠ (TJx9f9b0 b).2.1 := by decide +kernel
theorem tyJx9f9b0_ok : ∀ k, k < 0 → parseFieldDescriptor (TJx9f9b0 k).2.2.1 = some (tyJx9f9b0 k) := by decide +kernel
def RJxb160c : String := "java/lang/Comparable"
def TJxb160c : u_T := fun k => match k with
  | _ => ("", "", "", false)
def tyJxb160c : Nat → FieldType := fun k => match k with
  | _ => .int
abbrev wsJxb160c0 : List Cond := u_ws RJxb160c TJxb160c 0
theorem nmJxb160c : ∀ a, a < 0 → ∀ b, b < 0 → a ≠ b → (TJxb160c a).2.1 ≠ (TJxb160c b).2.1 := by decide +kernel
theorem tyJxb160c_ok : ∀ k, k < 0 → parseFieldDescriptor (TJxb160c k).2.2.1 = some (tyJxb160c k) := by decide +kernel
def RJ9 : String := "java/lang/Math"
def TJ9 : u_T := fun k => match k with
  | _ => ("", "", "", false)
def tyJ9 : Nat → FieldType := fun k => match k with
  | _ => .int
abbrev wsJ90 : List Cond := u_ws RJ9 TJ9 0
theorem nmJ9 : ∀ a, a < 0 → ∀ b, b < 0 → a ≠ b → (TJ9 a).2.1 ≠ (TJ9 b).2.1 := by decide +kernel
theorem tyJ9_ok : ∀ k, k < 0 → parseFieldDescriptor (TJ9 k).2.2.1 = some (tyJ9 k) := by decide +kernel
abbrev cJ9_floorMod_7cf53 : ByteArray := prog_21_method_50_code
def yJ9_floorMod_7cf53 : MethodName := ⟨RJ9, "floorMod", "(II)I"⟩
abbrev cJ9_abs_0f7a4 : ByteArray := prog_21_method_59_code
def yJ9_abs_0f7a4 : MethodName := ⟨RJ9, "abs", "(I)I"⟩
abbrev cJ9_max_7cf53 : ByteArray := prog_21_method_65_code
def yJ9_max_7cf53 : MethodName := ⟨RJ9, "max", "(II)I"⟩
abbrev cJ9_min_7cf53 : ByteArray := prog_21_method_69_code
def yJ9_min_7cf53 : MethodName := ⟨RJ9, "min", "(II)I"⟩
abbrev cJ9_min_f86c9 : ByteArray := prog_21_method_70_code
def yJ9_min_f86c9 : MethodName := ⟨RJ9, "min", "(JJ)J"⟩
def RJ0 : String := "java/lang/String"
def TJ0 : u_T := fun k => match k with
  | _ => ("", "", "", false)
def tyJ0 : Nat → FieldType := fun k => match k with
  | _ => .int
abbrev wsJ00 : List Cond := u_ws RJ0 TJ0 0
theorem nmJ0 : ∀ a, a < 0 → ∀ b, b < 0 → a ≠ b → (TJ0 a).2.1 ≠ (TJ0 b).2.1 := by decide +kernel
theorem tyJ0_ok : ∀ k, k < 0 → parseFieldDescriptor (TJ0 k).2.2.1 = some (tyJ0 k) := by decide +kernel
abbrev cJ0_length_8abf5 : ByteArray := prog_23_method_54_code
def yJ0_length_8abf5 : MethodName := ⟨RJ0, "length", "()I"⟩
abbrev cJ0_charAt_5068e : ByteArray := prog_23_method_56_code
def yJ0_charAt_5068e : MethodName := ⟨RJ0, "charAt", "(I)C"⟩
abbrev cJ0_coder_7d493 : ByteArray := prog_23_method_152_code
def yJ0_coder_7d493 : MethodName := ⟨RJ0, "coder", "()B"⟩
abbrev cJ0_isLatin1_aae02 : ByteArray := prog_23_method_154_code
def yJ0_isLatin1_aae02 : MethodName := ⟨RJ0, "isLatin1", "()Z"⟩
abbrev cJ0_checkIndex_df160 : ByteArray := prog_23_method_155_code
def yJ0_checkIndex_df160 : MethodName := ⟨RJ0, "checkIndex", "(II)V"⟩
def RJ1 : String := "java/lang/StringLatin1"
def TJ1 : u_T := fun k => match k with
  | _ => ("", "", "", false)
def tyJ1 : Nat → FieldType := fun k => match k with
  | _ => .int
abbrev wsJ10 : List Cond := u_ws RJ1 TJ1 0
theorem nmJ1 : ∀ a, a < 0 → ∀ b, b < 0 → a ≠ b → (TJ1 a).2.1 ≠ (TJ1 b).2.1 := by decide +kernel
theorem tyJ1_ok : ∀ k, k < 0 → parseFieldDescriptor (TJ1 k).2.2.1 = some (tyJ1 k) := by decide +kernel
abbrev cJ1_charAt_3b067 : ByteArray := prog_24_method_2_code
def yJ1_charAt_3b067 : MethodName := ⟨RJ1, "charAt", "([BI)C"⟩
def RJ2 : String := "java/lang/StringUTF16"
def TJ2 : u_T := fun k => match k with
  | _ => ("", "", "", false)
def tyJ2 : Nat → FieldType := fun k => match k with
  | _ => .int
abbrev wsJ20 : List Cond := u_ws RJ2 TJ2 0
theorem nmJ2 : ∀ a, a < 0 → ∀ b, b < 0 → a ≠ b → (TJ2 a).2.1 ≠ (TJ2 b).2.1 := by decide +kernel
theorem tyJ2_ok : ∀ k, k < 0 → parseFieldDescriptor (TJ2 k).2.2.1 = some (tyJ2 k) := by decide +kernel
abbrev cJ2_getChar_3b067 : ByteArray := prog_25_method_5_code
def yJ2_getChar_3b067 : MethodName := ⟨RJ2, "getChar", "([BI)C"⟩
abbrev cJ2_length_9d52b : ByteArray := prog_25_method_6_code
def yJ2_length_9d52b : MethodName := ⟨RJ2, "length", "([B)I"⟩
abbrev cJ2_charAt_3b067 : ByteArray := prog_25_method_83_code
def yJ2_charAt_3b067 : MethodName := ⟨RJ2, "charAt", "([BI)C"⟩
abbrev cJ2_checkIndex_2214a : ByteArray := prog_25_method_91_code
def yJ2_checkIndex_2214a : MethodName := ⟨RJ2, "checkIndex", "(I[B)V"⟩
def RJ10 : String := "java/lang/System"
def TJ10 : u_T := fun k => match k with
  | _ => ("", "", "", false)
def tyJ10 : Nat → FieldType := fun k => match k with
  | _ => .int
abbrev wsJ100 : List Cond := u_ws RJ10 TJ10 0
theorem nmJ10 : ∀ a, a < 0 → ∀ b, b < 0 → a ≠ b → (TJ10 a).2.1 ≠ (TJ10 b).2.1 := by decide +kernel
theorem tyJ10_ok : ∀ k, k < 0 → parseFieldDescriptor (TJ10 k).2.2.1 = some (tyJ10 k) := by decide +kernel
def RJxfd54e : String := "java/lang/constant/Constable"
def TJxfd54e : u_T := fun k => match k with
  | _ => ("", "", "", false)
def tyJxfd54e : Nat → FieldType := fun k => match k with
  | _ => .int
abbrev wsJxfd54e0 : List Cond := u_ws RJxfd54e TJxfd54e 0
theorem nmJxfd54e : ∀ a, a < 0 → ∀ b, b < 0 → a ≠ b → (TJxfd54e a).2.1 ≠ (TJxfd54e b).2.1 := by decide +kernel
theorem tyJxfd54e_ok : ∀ k, k < 0 → parseFieldDescriptor (TJxfd54e k).2.2.1 = some (tyJxfd54e k) := by decide +kernel
def RJx3cf43 : String := "java/lang/constant/ConstantDesc"
def TJx3cf43 : u_T := fun k => match k with
  | _ => ("", "", "", false)
def tyJx3cf43 : Nat → FieldType := fun k => match k with
  | _ => .int
abbrev wsJx3cf430 : List Cond := u_ws RJx3cf43 TJx3cf43 0
theorem nmJx3cf43 : ∀ a, a < 0 → ∀ b, b < 0 → a ≠ b → (TJx3cf43 a).2.1 ≠ (TJx3cf43 b).2.1 := by decide +kernel
theorem tyJx3cf43_ok : ∀ k, k < 0 → parseFieldDescriptor (TJx3cf43 k).2.2.1 = some (tyJx3cf43 k) := by decide +kernel
def RJ3 : String := "jdk/internal/util/Preconditions"
def TJ3 : u_T := fun k => match k with
  | _ => ("", "", "", false)
def tyJ3 : Nat → FieldType := fun k => match k with
  | _ => .int
abbrev wsJ30 : List Cond := u_ws RJ3 TJ3 0
theorem nmJ3 : ∀ a, a < 0 → ∀ b, b < 0 → a ≠ b → (TJ3 a).2.1 ≠ (TJ3 b).2.1 := by decide +kernel
theorem tyJ3_ok : ∀ k, k < 0 → parseFieldDescriptor (TJ3 k).2.2.1 = some (tyJ3 k) := by decide +kernel
abbrev cJ3_checkIndex_8e157 : ByteArray := prog_32_method_11_code
def yJ3_checkIndex_8e157 : MethodName := ⟨RJ3, "checkIndex", "(IILjava/util/function/BiFunction;)I"⟩
def RL : String := "SandRailsLaw"
abbrev cL_orders : ByteArray := method_3_code
def yL_orders : MethodName := ⟨RL, "orders", "(LSandRails;[J)I"⟩
abbrev cL_ground : ByteArray := method_4_code
def yL_ground : MethodName := ⟨RL, "ground", "(LSandRails;III[J)I"⟩
abbrev cL_kind : ByteArray := method_5_code
def yL_kind : MethodName := ⟨RL, "kind", "(LSandRails;I[J)I"⟩
abbrev cL_rail : ByteArray := method_6_code
def yL_rail : MethodName := ⟨RL, "rail", "(LSandRails;II[J)I"⟩
abbrev cL_gang : ByteArray := method_7_code
def yL_gang : MethodName := ⟨RL, "gang", "(LSandRails;II[J)I"⟩
abbrev cL_task : ByteArray := method_8_code
def yL_task : MethodName := ⟨RL, "task", "(LSandRails;II[J)I"⟩
abbrev cL_store : ByteArray := method_9_code
def yL_store : MethodName := ⟨RL, "store", "(LSandRails;II[J)I"⟩
abbrev cL_set : ByteArray := method_10_code
def yL_set : MethodName := ⟨RL, "set", "(LSandRails;III[J)I"⟩
abbrev cL_lift : ByteArray := method_11_code
def yL_lift : MethodName := ⟨RL, "lift", "(LSandRails;[J)I"⟩
abbrev cL_lay : ByteArray := method_12_code
def yL_lay : MethodName := ⟨RL, "lay", "(LSandRails;I[J)I"⟩
abbrev cL_go : ByteArray := method_13_code
def yL_go : MethodName := ⟨RL, "go", "(LSandRails;Z[J)I"⟩
abbrev cL_fill : ByteArray := method_14_code
def yL_fill : MethodName := ⟨RL, "fill", "(LSandRails;[J)I"⟩
abbrev cL_dig : ByteArray := method_15_code
def yL_dig : MethodName := ⟨RL, "dig", "(LSandRails;[J)I"⟩
abbrev cL_rest : ByteArray := method_16_code
def yL_rest : MethodName := ⟨RL, "rest", "(LSandRails;I[J)I"⟩
abbrev cL_run : ByteArray := method_17_code
def yL_run : MethodName := ⟨RL, "run", "(LSandRails;II[J)I"⟩
abbrev cL_look : ByteArray := method_18_code
def yL_look : MethodName := ⟨RL, "look", "(LSandRails;II[J)I"⟩
abbrev cL_route : ByteArray := method_19_code
def yL_route : MethodName := ⟨RL, "route", "(LSandRails;II[J)I"⟩
abbrev cL_reach : ByteArray := method_20_code
def yL_reach : MethodName := ⟨RL, "reach", "(LSandRails;II[J)I"⟩
abbrev cL_steal : ByteArray := method_21_code
def yL_steal : MethodName := ⟨RL, "steal", "(LSandRails;I[J)I"⟩
abbrev cL_lose : ByteArray := method_22_code
def yL_lose : MethodName := ⟨RL, "lose", "(LSandRails;I)I"⟩
abbrev cL_which : ByteArray := method_23_code
def yL_which : MethodName := ⟨RL, "which", "(LSandRails;II[J)I"⟩
abbrev cL_ahead : ByteArray := method_24_code
def yL_ahead : MethodName := ⟨RL, "ahead", "(LSandRails;IZ[J)I"⟩
abbrev cL_law : ByteArray := code
def yL_law : MethodName := ⟨RL, "law", "([I)Z"⟩
end
section
/-! ===== an abstract machine over numbers: values (tag, number): 0 int, 1 long, 2 a cell of the layout, 3 a constant (static array, text), 9 nothing ===== -/
abbrev zV : Type := Nat × Int
abbrev zM : Type := Nat → Nat → Int
abbrev zL : Type := Nat → zV
/-- a cell of the layout: (0, number of its class, fields (0 int, 4 boolean, 2 reference; target)); arrays (1 int, 2 long, 3 boolean, 4 byte, 5 references; length; targets) -/
abbrev zC : Type := Nat × Nat × List (Nat × Nat)
def zR32 (x : Int) : Prop := -2147483648 ≤ x ∧ x ≤ 2147483647
def zR64 (x : Int) : Prop := -9223372036854775808 ≤ x ∧ x ≤ 9223372036854775807
def zE (ad sa : Nat → Nat) (v : zV) : Value := match v.1 with
  | 0 => .int (Int32.ofInt v.2)
  | 1 => .long (Int64.ofInt v.2)
  | 2 => .ref (ad v.2.toNat)
  | _ => .ref (sa v.2.toNat)
def zok (v : zV) : Prop := (v.1 = 0 → zR32 v.2) ∧ (v.1 = 1 → zR64 v.2)
def zF (ad : Nat → Nat) (t : Nat × Nat) (x : Int) : Value := if t.1 = 2 then .ref (ad t.2) else .int (Int32.ofInt x)
def zEl (ad : Nat → Nat) (cs : Nat → ClassId) (κ : zC) (f : Nat → Int) : va_E := match κ.1 with
  | 0 => .inr (κ.2.1, κ.2.2.mapIdx fun k t => zF ad t (f k))
  | 1 => .inl (cs 0, κ.2.1, .inl fun i => Int32.ofInt (f i))
  | 2 => .inl (cs 1, κ.2.1, .inr (.inl fun i => Int64.ofInt (f i)))
  | 3 => .inl (cs 2, κ.2.1, .inl fun i => Int32.ofInt (f i))
  | 4 => .inl (cs 3, κ.2.1, .inl fun i => Int32.ofInt (f i))
  | _ => .inl (cs 4, κ.2.1, .inr (.inr (.inr (.inr fun i => (κ.2.2[i]?).map fun t => ad t.2))))
def zWd (Λ : List zC) (ad : Nat → Nat) (cs : Nat → ClassId) (mem : zM) : va_W := Λ.mapIdx fun id κ => (ad id, zEl ad cs κ (mem id))
def zset (mem : zM) (a k : Nat) (v : Int) : zM := fun b j => if b = a then (if j = k then v else mem b j) else mem b j
def zcopy (mem : zM) (a : Nat) (sp : Nat) (b : Nat) (dp n : Nat) : zM := fun c j => if c = b then (if dp ≤ j ∧ j < dp + n then mem a (sp + (j - dp)) else mem c j) else mem c j
/-- the numbers are of their kinds -/
def zokM (Λ : List zC) (mem : zM) : Prop := ∀ (id : Nat) (κ : zC), Λ[id]? = some κ →
  (κ.1 = 0 → ∀ (k : Nat) (t : Nat × Nat), κ.2.2[k]? = some t → (t.1 = 0 → zR32 (mem id k)) ∧ (t.1 = 4 → 0 ≤ mem id k ∧ mem id k ≤ 1)) ∧
  (κ.1 = 1 → ∀ i, i < κ.2.1 → zR32 (mem id i)) ∧ (κ.1 = 2 → ∀ i, i < κ.2.1 → zR64 (mem id i)) ∧
  (κ.1 = 3 → ∀ i, i < κ.2.1 → 0 ≤ mem id i ∧ mem id i ≤ 1) ∧ (κ.1 = 4 → ∀ i, i < κ.2.1 → -128 ≤ mem id i ∧ mem id i ≤ 127)
theorem zWd_get {Λ : List zC} {ad : Nat → Nat} {cs : Nat → ClassId} {mem : zM} {id : Nat} {κ : zC} (h : Λ[id]? = some κ) : (zWd Λ ad cs mem)[id]? = some (ad id, zEl ad cs κ (mem id)) := by
  simp [zWd, List.getElem?_mapIdx, h]
theorem zWd_set {Λ : List zC} {ad : Nat → Nat} {cs : Nat → ClassId} {mem mem' : zM} {id : Nat} {κ : zC} {e : va_E} (h : Λ[id]? = some κ) (he : zEl ad cs κ (mem' id) = e) (ho : ∀ b, b ≠ id → mem' b = mem b) : (zWd Λ ad cs mem).set id (ad id, e) = zWd Λ ad cs mem' := by
  apply List.ext_getElem?
  intro j
  rw [List.getElem?_set]
  by_cases hj : id = j
  · subst hj
    have hlt : id < (zWd Λ ad cs mem).length := by
      have := (List.getElem?_eq_some_iff.mp h).1
      simpa [zWd] using this
    rw [if_pos rfl, if_pos hlt, zWd_get h, he]
  · rw [if_neg hj]
    simp only [zWd, List.getElem?_mapIdx]
    cases hq : Λ[j]? with
    | none => rfl
    | some q => simp [ho j (fun q => hj q.symm)]
theorem zWd_addr {Λ : List zC} {ad : Nat → Nat} {cs : Nat → ClassId} {mem : zM} {k : Nat} {q : Nat × va_E} (h : (zWd Λ ad cs mem)[k]? = some q) : k < Λ.length ∧ q.1 = ad k := by
  simp only [zWd, List.getElem?_mapIdx] at h
  cases hq : Λ[k]? with
  | none => rw [hq] at h; cases h
  | some κ => rw [hq] at h; cases h; exact ⟨(List.getElem?_eq_some_iff.mp hq).1, rfl⟩
/-- numbers of 32 bits -/
theorem zi_toInt {x : Int} (h : zR32 x) : (Int32.ofInt x).toInt = x := by
  obtain ⟨h1, h2⟩ := h
  rw [Int32.toInt_ofInt, show Int32.size = 4294967296 from rfl]
  simp only [Int.bmod]
  omega
theorem zi_of (z : Int32) : Int32.ofInt z.toInt = z := Int32.ofInt_toInt z
theorem zi_rng (z : Int32) : zR32 z.toInt := by
  have h1 := Int32.le_toInt z
  have h2 := Int32.toInt_lt z
  constructor <;> simp only [Int.reducePow, Int.reduceNeg] at h1 h2 ⊢ <;> omega
theorem zl_toInt {x : Int} (h : zR64 x) : (Int64.ofInt x).toInt = x := by
  obtain ⟨h1, h2⟩ := h
  rw [Int64.toInt_ofInt, show Int64.size = 18446744073709551616 from rfl]
  simp only [Int.bmod]
  omega
theorem zl_of (z : Int64) : Int64.ofInt z.toInt = z := Int64.ofInt_toInt z
theorem zl_rng (z : Int64) : zR64 z.toInt := by
  have h1 := Int64.le_toInt z
  have h2 := Int64.toInt_lt z
  constructor <;> simp only [Int.reducePow, Int.reduceNeg] at h1 h2 ⊢ <;> omega
def zw (x : Int) : Int := (x + 2147483648) % 4294967296 - 2147483648
def zW (x : Int) : Int := (x + 9223372036854775808) % 18446744073709551616 - 9223372036854775808
theorem zw_bmod (x : Int) : x.bmod 4294967296 = zw x := by
  simp only [Int.bmod, zw]; omega
theorem zW_bmod (x : Int) : x.bmod 18446744073709551616 = zW x := by
  simp only [Int.bmod, zW]; omega
theorem zw_id {x : Int} (h1 : -2147483648 ≤ x) (h2 : x ≤ 2147483647) : zw x = x := by simp only [zw]; omega
theorem zW_id {x : Int} (h1 : -9223372036854775808 ≤ x) (h2 : x ≤ 9223372036854775807) : zW x = x := by simp only [zW]; omega
def zAdd (x y : Int) : Int := (Int32.ofInt x + Int32.ofInt y).toInt
def zSub (x y : Int) : Int := (Int32.ofInt x - Int32.ofInt y).toInt
def zMul (x y : Int) : Int := (Int32.ofInt x * Int32.ofInt y).toInt
def zNeg (x : Int) : Int := (-Int32.ofInt x).toInt
def zDiv (x y : Int) : Int := (Int32.ofInt x / Int32.ofInt y).toInt
def zRem (x y : Int) : Int := (Int32.ofInt x - Int32.ofInt x / Int32.ofInt y * Int32.ofInt y).toInt
def zAnd (x y : Int) : Int := (Int32.ofInt x &&& Int32.ofInt y).toInt
def zOr (x y : Int) : Int := (Int32.ofInt x ||| Int32.ofInt y).toInt
def zXor (x y : Int) : Int := (Int32.ofInt x ^^^ Int32.ofInt y).toInt
def zShl (x y : Int) : Int := (Int32.ofInt x <<< (Int32.ofInt y &&& 31)).toInt
def zShr (x y : Int) : Int := (Int32.ofInt x >>> (Int32.ofInt y &&& 31)).toInt
def zUsh (x y : Int) : Int := ((Int32.ofInt x).toUInt32 >>> ((Int32.ofInt y).toUInt32 &&& Int32.toUInt32 31)).toInt32.toInt
def zI2b (x : Int) : Int := (Int32.ofInt x).toInt8.toInt32.toInt
def zL2i (x : Int) : Int := (Int64.ofInt x).toInt32.toInt
def zLAdd (x y : Int) : Int := (Int64.ofInt x + Int64.ofInt y).toInt
def zLMul (x y : Int) : Int := (Int64.ofInt x * Int64.ofInt y).toInt
def zLDiv (x y : Int) : Int := (Int64.ofInt x / Int64.ofInt y).toInt
def zLRem (x y : Int) : Int := (Int64.ofInt x - Int64.ofInt x / Int64.ofInt y * Int64.ofInt y).toInt
def zLcmp (x y : Int) : Int := if x < y then -1 else if x = y then 0 else 1
def zCmp (c : ClassFile.Cond) (x y : Int) : Prop := match c with
  | .eq => x = y
  | .ne => ¬ x = y
  | .lt => x < y
  | .ge => y ≤ x
  | .gt => y < x
  | .le => x ≤ y
/-- locals -/
def zst (ls : zL) (i : Nat) (v : zV) : zL := fun j => if j = i then v else if j + 1 = i ∧ (ls j).1 = 1 then (9, 0) else ls j
def zst2 (ls : zL) (i : Nat) (v : zV) : zL := fun j => if j = i then v else if j = i + 1 then (9, 0) else if j + 1 = i ∧ (ls j).1 = 1 then (9, 0) else ls j
def zLs (ad sa : Nat → Nat) (nL : Nat) (ls : zL) (L : Array Slot) : Prop := L.size = nL ∧ lv_wf L ∧ ∀ k, (ls k).1 ≠ 9 → L[k]? = some (.val (zE ad sa (ls k)))
theorem zE_cat (ad sa : Nat → Nat) (v : zV) : (zE ad sa v).category = if v.1 = 1 then 2 else 1 := by
  obtain ⟨t, x⟩ := v
  match t with
  | 0 => rfl
  | 1 => rfl
  | 2 => rfl
  | n + 3 => rfl
end
section
/-! ===== the rows of the abstract machine ===== -/
abbrev zCl : List vw_C := [(RX0, TX0, 3), (RX1, TX1, 4), (RX2, TX2, 7), (RX3, TX3, 4), (RX4, TX4, 6), (RX5, TX5, 9), (RX6, TX6, 5), (RX7, TX7, 2), (RX8, TX8, 9), (RX9, TX9, 10), (RX10, TX10, 9), (RX11, TX11, 25)]
def zTys (cs : Nat → ClassId) : List (ClassId × FieldType) := [(cs 0, .int), (cs 1, .long), (cs 2, .boolean), (cs 3, .byte), (cs 4, .object "SandRails$Orders")]
/-- the machine, at an abstract state -/
def zAW (p : Program) (l : Launch) (e : Env) (R : Room) (s : State) (m : MethodId) (args : Array Value) (below : List Frame) (meth : Method) (c : Code) (cells slots : Nat) (Q : State → Prop) (nL : Nat) (Λ : List zC) (D : va_G) (ad sa : Nat → Nat) (cs : Nat → ClassId) (A : Nat → Prop) (pc : Nat) (ls : zL) (st : List zV) (mem : zM) : Prop :=
  zokM Λ mem → (∀ v ∈ st, zok v) → (∀ k, zok (ls k)) → ∀ (H : Heap) (locs : List Loc) (L : Array Slot), va_P D zCl (zWd Λ ad cs mem) H → va_D A (zWd Λ ad cs mem) → zLs ad sa nL ls L → va_S A s.heap H locs → W p l e R s m args below meth c  H locs cells slots Q (F0 m pc L (st.map (zE ad sa)))
section ZR
variable {p : Program} {l : Launch} {e : Env} {R : Room} {s : State} {m : MethodId} {args : Array Value} {below : List Frame} {meth : Method} {c : Code} {cells slots : Nat} {Q : State → Prop} {cc : ByteArray} {nL : Nat} {own : String} {Λ : List zC} {D : va_G} {ad sa : Nat → Nat} {cs : Nat → ClassId} {A : Nat → Prop} {pc : Nat} {ls : zL} {st : List zV} {mem : zM}
theorem zok_i (z : Int32) : zok (0, z.toInt) := ⟨fun _ => zi_rng z, fun h => absurd h (by decide : ¬ (0 : Nat) = 1)⟩
theorem zok_l (z : Int64) : zok (1, z.toInt) := ⟨fun h => absurd h (by decide : ¬ (1 : Nat) = 0), fun _ => zl_rng z⟩
theorem zok_r (x : Int) : zok (2, x) := ⟨fun h => absurd h (by decide : ¬ (2 : Nat) = 0), fun h => absurd h (by decide : ¬ (2 : Nat) = 1)⟩
theorem zok_c (x : Int) : zok (3, x) := ⟨fun h => absurd h (by decide : ¬ (3 : Nat) = 0), fun h => absurd h (by decide : ¬ (3 : Nat) = 1)⟩
theorem zok_n : zok (9, 0) := ⟨fun h => absurd h (by decide : ¬ (9 : Nat) = 0), fun h => absurd h (by decide : ¬ (9 : Nat) = 1)⟩
theorem zok_i' {x : Int} (h : zR32 x) : zok (0, x) := ⟨fun _ => h, fun h => absurd h (by decide : ¬ (0 : Nat) = 1)⟩
theorem zok_l' {x : Int} (h : zR64 x) : zok (1, x) := ⟨fun h => absurd h (by decide : ¬ (1 : Nat) = 0), fun _ => h⟩
theorem zE_i (z : Int32) : zE ad sa (0, z.toInt) = .int z := congrArg Value.int (zi_of z)
theorem zE_l (z : Int64) : zE ad sa (1, z.toInt) = .long z := congrArg Value.long (zl_of z)
theorem zcons {v : zV} {st : List zV} (h : zok v) (hs : ∀ w ∈ st, zok w) : ∀ w ∈ v :: st, zok w := fun w hw => (List.mem_cons.mp hw).elim (fun e => e ▸ h) (hs w)
theorem ztl {v : zV} {st : List zV} (hs : ∀ w ∈ v :: st, zok w) : ∀ w ∈ st, zok w := fun w hw => hs w (List.mem_cons_of_mem _ hw)
theorem zhd {v : zV} {st : List zV} (hs : ∀ w ∈ v :: st, zok w) : zok v := hs v List.mem_cons_self
theorem zhi {x : Int} {st : List zV} (hs : ∀ w ∈ ((0 : Nat), x) :: st, zok w) : zR32 x := (zhd hs).1 rfl
theorem zhl {x : Int} {st : List zV} (hs : ∀ w ∈ ((1 : Nat), x) :: st, zok w) : zR64 x := (zhd hs).2 rfl
/-- a number that an instruction makes of two ints -/
theorem zs_ii {x y r : Int} {f : Int32} (hr : r = f.toInt) (row : ∀ (H : Heap) (locs : List Loc) (L : Array Slot) (rest : List Value), W p l e R s m args below meth c  H locs cells slots Q (F0 m (pc + 1) L (.int f :: rest)) → W p l e R s m args below meth c  H locs cells slots Q (F0 m pc L (.int (Int32.ofInt y) :: .int (Int32.ofInt x) :: rest)))
    (k : zAW p l e R s m args below meth c cells slots Q nL Λ D ad sa cs A  (pc + 1) ls ((0, r) :: st) mem) : zAW p l e R s m args below meth c cells slots Q nL Λ D ad sa cs A  pc ls ((0, y) :: (0, x) :: st) mem := by
  intro hm hs hl H locs L hP hD hL hS
  subst hr
  have h := k hm (zcons (zok_i f) (ztl (ztl hs))) hl H locs L hP hD hL hS
  rw [List.map_cons, zE_i] at h
  exact row H locs L _ h
theorem zs_i1 {x r : Int} {f : Int32} (hr : r = f.toInt) (row : ∀ (H : Heap) (locs : List Loc) (L : Array Slot) (rest : List Value), W p l e R s m args below meth c  H locs cells slots Q (F0 m (pc + 1) L (.int f :: rest)) → W p l e R s m args below meth c  H locs cells slots Q (F0 m pc L (.int (Int32.ofInt x) :: rest)))
    (k : zAW p l e R s m args below meth c cells slots Q nL Λ D ad sa cs A  (pc + 1) ls ((0, r) :: st) mem) : zAW p l e R s m args below meth c cells slots Q nL Λ D ad sa cs A  pc ls ((0, x) :: st) mem := by
  intro hm hs hl H locs L hP hD hL hS
  subst hr
  have h := k hm (zcons (zok_i f) (ztl hs)) hl H locs L hP hD hL hS
  rw [List.map_cons, zE_i] at h
  exact row H locs L _ h
theorem zs_ll {x y r : Int} {f : Int64} (hr : r = f.toInt) (row : ∀ (H : Heap) (locs : List Loc) (L : Array Slot) (rest : List Value), W p l e R s m args below meth c  H locs cells slots Q (F0 m (pc + 1) L (.long f :: rest)) → W p l e R s m args below meth c  H locs cells slots Q (F0 m pc L (.long (Int64.ofInt y) :: .long (Int64.ofInt x) :: rest)))
    (k : zAW p l e R s m args below meth c cells slots Q nL Λ D ad sa cs A  (pc + 1) ls ((1, r) :: st) mem) : zAW p l e R s m args below meth c cells slots Q nL Λ D ad sa cs A  pc ls ((1, y) :: (1, x) :: st) mem := by
  intro hm hs hl H locs L hP hD hL hS
  subst hr
  have h := k hm (zcons (zok_l f) (ztl (ztl hs))) hl H locs L hP hD hL hS
  rw [List.map_cons, zE_l] at h
  exact row H locs L _ h
/-- pushing a value -/
theorem zs_push {v : zV} {len : Nat} (hv : zok v) (row : ∀ (H : Heap) (locs : List Loc) (L : Array Slot) (rest : List Value), zLs ad sa nL ls L → va_S A s.heap H locs → W p l e R s m args below meth c  H locs cells slots Q (F0 m (pc + len) L (zE ad sa v :: rest)) → W p l e R s m args below meth c  H locs cells slots Q (F0 m pc L rest))
    (k : zAW p l e R s m args below meth c cells slots Q nL Λ D ad sa cs A  (pc + len) ls (v :: st) mem) : zAW p l e R s m args below meth c cells slots Q nL Λ D ad sa cs A  pc ls st mem := by
  intro hm hs hl H locs L hP hD hL hS
  exact row H locs L _ hL hS (k hm (zcons hv hs) hl H locs L hP hD hL hS)
theorem zs_iconst {n : Int} (hx : p.tables.exec = Jvm.exec) (hb : c.code = cc) (hd : decode cc pc = .ok (.iconst n, 1)) (hn : -1 ≤ n ∧ n ≤ 5) (k : zAW p l e R s m args below meth c cells slots Q nL Λ D ad sa cs A  (pc + 1) ls ((0, n) :: st) mem) : zAW p l e R s m args below meth c cells slots Q nL Λ D ad sa cs A  pc ls st mem :=
  zs_push (zok_i' ⟨by omega, by omega⟩) (fun _ _ _ _ _ _ h => lv_iconst hx hb hd rfl h) k
theorem zb8 {n : Int} (h1 : -128 ≤ n) (h2 : n ≤ 127) : (Int8.ofInt n).toInt32 = Int32.ofInt n := by
  rw [← zi_of (Int8.ofInt n).toInt32, Int8.toInt_toInt32, Int8.toInt_ofInt, show Int8.size = 256 from rfl]
  congr 1
  simp only [Int.bmod]; omega
theorem zb16 {n : Int} (h1 : -32768 ≤ n) (h2 : n ≤ 32767) : (Int16.ofInt n).toInt32 = Int32.ofInt n := by
  rw [← zi_of (Int16.ofInt n).toInt32, Int16.toInt_toInt32, Int16.toInt_ofInt, show Int16.size = 65536 from rfl]
  congr 1
  simp only [Int.bmod]; omega
theorem zs_bipush {n : Int} (hx : p.tables.exec = Jvm.exec) (hb : c.code = cc) (hd : decode cc pc = .ok (.bipush n, 2)) (hn : -128 ≤ n ∧ n ≤ 127) (k : zAW p l e R s m args below meth c cells slots Q nL Λ D ad sa cs A  (pc + 2) ls ((0, n) :: st) mem) : zAW p l e R s m args below meth c cells slots Q nL Λ D ad sa cs A  pc ls st mem :=
  zs_push (zok_i' ⟨by omega, by omega⟩) (fun _ _ _ _ _ _ h => lv_bipush hx hb hd (zb8 hn.1 hn.2) h) k
theorem zs_sipush {n : Int} (hx : p.tables.exec = Jvm.exec) (hb : c.code = cc) (hd : decode cc pc = .ok (.sipush n, 3)) (hn : -32768 ≤ n ∧ n ≤ 32767) (k : zAW p l e R s m args below meth c cells slots Q nL Λ D ad sa cs A  (pc + 3) ls ((0, n) :: st) mem) : zAW p l e R s m args below meth c cells slots Q nL Λ D ad sa cs A  pc ls st mem :=
  zs_push (zok_i' ⟨by omega, by omega⟩) (fun _ _ _ _ _ _ h => lv_sipush hx hb hd (zb16 hn.1 hn.2) h) k
theorem zs_lconst {n : Fin 2} (hx : p.tables.exec = Jvm.exec) (hb : c.code = cc) (hd : decode cc pc = .ok (.lconst n, 1)) (k : zAW p l e R s m args below meth c cells slots Q nL Λ D ad sa cs A  (pc + 1) ls ((1, ((n : Nat) : Int)) :: st) mem) : zAW p l e R s m args below meth c cells slots Q nL Λ D ad sa cs A  pc ls st mem :=
  zs_push (zok_l' ⟨by omega, by omega⟩) (fun _ _ _ _ _ _ h => lv_lconst hx hb hd (by rcases n with ⟨n, hn⟩; match n, hn with | 0, _ => rfl | 1, _ => rfl) h) k
theorem zs_ldc {i : Nat} {n : Int} (hx : p.tables.exec = Jvm.exec) (hb : c.code = cc) (hown : s.vm.findClass own = some m.cls) (hc : (Cond.constant own i (Int32.ofInt n)).before args s = true) (hd : decode cc pc = .ok (.ldc i, 2)) (hn : zR32 n) (k : zAW p l e R s m args below meth c cells slots Q nL Λ D ad sa cs A  (pc + 2) ls ((0, n) :: st) mem) : zAW p l e R s m args below meth c cells slots Q nL Λ D ad sa cs A  pc ls st mem :=
  zs_push (zok_i' hn) (fun _ _ _ _ _ _ h => lv_ldc hx hb hown hc hd h) k
theorem zs_ldcw {i : Nat} {n : Int} (hx : p.tables.exec = Jvm.exec) (hb : c.code = cc) (hown : s.vm.findClass own = some m.cls) (hc : (Cond.constant own i (Int32.ofInt n)).before args s = true) (hd : decode cc pc = .ok (.ldc_w i, 3)) (hn : zR32 n) (k : zAW p l e R s m args below meth c cells slots Q nL Λ D ad sa cs A  (pc + 3) ls ((0, n) :: st) mem) : zAW p l e R s m args below meth c cells slots Q nL Λ D ad sa cs A  pc ls st mem :=
  zs_push (zok_i' hn) (fun _ _ _ _ _ _ h => lv_ldcw hx hb hown hc hd h) k
theorem zs_ldc2 {i : Nat} {n : Int} (hx : p.tables.exec = Jvm.exec) (hb : c.code = cc) (hown : s.vm.findClass own = some m.cls) (hc : (Cond.constantLong own i (Int64.ofInt n)).before args s = true) (hd : decode cc pc = .ok (.ldc2_w i, 3)) (hn : zR64 n) (k : zAW p l e R s m args below meth c cells slots Q nL Λ D ad sa cs A  (pc + 3) ls ((1, n) :: st) mem) : zAW p l e R s m args below meth c cells slots Q nL Λ D ad sa cs A  pc ls st mem :=
  zs_push (zok_l' hn) (fun _ _ _ _ _ _ h => lv_ldc2 hx hb hown hc hd h) k
/-- loads -/
theorem zload {L : Array Slot} {k t : Nat} (hL : zLs ad sa nL ls L) (ht : (ls k).1 = t) (h9 : t ≠ 9) : L[k]? = some (.val (zE ad sa (ls k))) := hL.2.2 k (by rw [ht]; exact h9)
theorem zv_i {v : zV} (h : v.1 = 0) : zE ad sa v = .int (Int32.ofInt v.2) := by obtain ⟨t, x⟩ := v; cases h; rfl
theorem zv_l {v : zV} (h : v.1 = 1) : zE ad sa v = .long (Int64.ofInt v.2) := by obtain ⟨t, x⟩ := v; cases h; rfl
theorem zv_r {v : zV} (h : v.1 = 2 ∨ v.1 = 3) : ∃ x : Nat, zE ad sa v = .ref x := by
  obtain ⟨t, x⟩ := v
  rcases h with h | h <;> cases h
  · exact ⟨ad x.toNat, rfl⟩
  · exact ⟨sa x.toNat, rfl⟩
theorem zs_load {k len : Nat} (row : ∀ (H : Heap) (locs : List Loc) (L : Array Slot) (rest : List Value), zLs ad sa nL ls L → va_S A s.heap H locs → W p l e R s m args below meth c  H locs cells slots Q (F0 m (pc + len) L (zE ad sa (ls k) :: rest)) → W p l e R s m args below meth c  H locs cells slots Q (F0 m pc L rest))
    (kk : zAW p l e R s m args below meth c cells slots Q nL Λ D ad sa cs A  (pc + len) ls (ls k :: st) mem) : zAW p l e R s m args below meth c cells slots Q nL Λ D ad sa cs A  pc ls st mem := by
  intro hm hs hl H locs L hP hD hL hS
  exact row H locs L _ hL hS (kk hm (zcons (hl k) hs) hl H locs L hP hD hL hS)
theorem zs_iload_n {i : Fin 4} (hx : p.tables.exec = Jvm.exec) (hb : c.code = cc) (hd : decode cc pc = .ok (.iload_n i, 1)) (ht : (ls i.val).1 = 0) (kk : zAW p l e R s m args below meth c cells slots Q nL Λ D ad sa cs A  (pc + 1) ls (ls i.val :: st) mem) : zAW p l e R s m args below meth c cells slots Q nL Λ D ad sa cs A  pc ls st mem :=
  zs_load (fun _ _ L _ hL _ h => lv_iload_n hx hb hd rfl (by rw [zload hL ht (by decide), zv_i ht]) (by rw [← zv_i ht]; exact h)) kk
theorem zs_iload {i : Nat} (hx : p.tables.exec = Jvm.exec) (hb : c.code = cc) (hd : decode cc pc = .ok (.iload i, 2)) (ht : (ls i).1 = 0) (kk : zAW p l e R s m args below meth c cells slots Q nL Λ D ad sa cs A  (pc + 2) ls (ls i :: st) mem) : zAW p l e R s m args below meth c cells slots Q nL Λ D ad sa cs A  pc ls st mem :=
  zs_load (fun _ _ L _ hL _ h => lv_iload hx hb hd (by rw [zload hL ht (by decide), zv_i ht]) (by rw [← zv_i ht]; exact h)) kk
theorem zs_lload_n {i : Fin 4} (hx : p.tables.exec = Jvm.exec) (hb : c.code = cc) (hd : decode cc pc = .ok (.lload_n i, 1)) (ht : (ls i.val).1 = 1) (kk : zAW p l e R s m args below meth c cells slots Q nL Λ D ad sa cs A  (pc + 1) ls (ls i.val :: st) mem) : zAW p l e R s m args below meth c cells slots Q nL Λ D ad sa cs A  pc ls st mem :=
  zs_load (fun _ _ L _ hL _ h => lv_lload_n hx hb hd rfl (by rw [zload hL ht (by decide), zv_l ht]) (by rw [← zv_l ht]; exact h)) kk
theorem zs_lload {i : Nat} (hx : p.tables.exec = Jvm.exec) (hb : c.code = cc) (hd : decode cc pc = .ok (.lload i, 2)) (ht : (ls i).1 = 1) (kk : zAW p l e R s m args below meth c cells slots Q nL Λ D ad sa cs A  (pc + 2) ls (ls i :: st) mem) : zAW p l e R s m args below meth c cells slots Q nL Λ D ad sa cs A  pc ls st mem :=
  zs_load (fun _ _ L _ hL _ h => lv_lload hx hb hd (by rw [zload hL ht (by decide), zv_l ht]) (by rw [← zv_l ht]; exact h)) kk
theorem zs_aload_n {i : Fin 4} (hx : p.tables.exec = Jvm.exec) (hb : c.code = cc) (hd : decode cc pc = .ok (.aload_n i, 1)) (ht : (ls i.val).1 = 2 ∨ (ls i.val).1 = 3) (kk : zAW p l e R s m args below meth c cells slots Q nL Λ D ad sa cs A  (pc + 1) ls (ls i.val :: st) mem) : zAW p l e R s m args below meth c cells slots Q nL Λ D ad sa cs A  pc ls st mem := by
  obtain ⟨x, hxx⟩ := zv_r (ad := ad) (sa := sa) ht
  exact zs_load (fun _ _ L _ hL _ h => lv_aload_n hx hb hd rfl (by rw [hL.2.2 i.val (by rcases ht with h | h <;> rw [h] <;> decide), hxx]) (by rw [← hxx]; exact h)) kk
theorem zs_aload {i : Nat} (hx : p.tables.exec = Jvm.exec) (hb : c.code = cc) (hd : decode cc pc = .ok (.aload i, 2)) (ht : (ls i).1 = 2 ∨ (ls i).1 = 3) (kk : zAW p l e R s m args below meth c cells slots Q nL Λ D ad sa cs A  (pc + 2) ls (ls i :: st) mem) : zAW p l e R s m args below meth c cells slots Q nL Λ D ad sa cs A  pc ls st mem := by
  obtain ⟨x, hxx⟩ := zv_r (ad := ad) (sa := sa) ht
  exact zs_load (fun _ _ L _ hL _ h => lv_aload hx hb hd (by rw [hL.2.2 i (by rcases ht with h | h <;> rw [h] <;> decide), hxx]) (by rw [← hxx]; exact h)) kk
/-- stores -/
theorem zst_ok {ls : zL} {i : Nat} {v : zV} (hv : zok v) (hl : ∀ k, zok (ls k)) : ∀ k, zok (zst ls i v k) := by
  intro k
  simp only [zst]
  split
  · exact hv
  · split
    · exact zok_n
    · exact hl k
theorem zst2_ok {ls : zL} {i : Nat} {v : zV} (hv : zok v) (hl : ∀ k, zok (ls k)) : ∀ k, zok (zst2 ls i v k) := by
  intro k
  simp only [zst2]
  split
  · exact hv
  · split
    · exact zok_n
    · split
      · exact zok_n
      · exact hl k
def zas (ad sa : Nat → Nat) (ls : zL) (nL : Nat) : List (Nat × Value) := (List.range nL).filterMap fun k => if (ls k).1 = 9 then none else some (k, zE ad sa (ls k))
theorem zas_has {L : Array Slot} (h : zLs ad sa nL ls L) : lv_has L nL (zas ad sa ls nL) := by
  refine ⟨h.1, h.2.1, fun q hq => ?_⟩
  obtain ⟨k, -, hk⟩ := List.mem_filterMap.mp hq
  by_cases h9 : (ls k).1 = 9
  · rw [if_pos h9] at hk; cases hk
  · rw [if_neg h9] at hk
    cases hk
    exact h.2.2 k h9
theorem zas_in {L : Array Slot} (h : zLs ad sa nL ls L) {k : Nat} (h9 : (ls k).1 ≠ 9) : (k, zE ad sa (ls k)) ∈ zas ad sa ls nL := by
  have hlt : k < nL := by rw [← h.1]; exact lv_lt (h.2.2 k h9)
  exact List.mem_filterMap.mpr ⟨k, List.mem_range.mpr hlt, by rw [if_neg h9]⟩
theorem zas_st {L L' : Array Slot} {i : Nat} {v : zV} {lv' : List (Nat × Value)} (hL : zLs ad sa nL ls L) (hl : (i, zE ad sa v) :: (zas ad sa ls nL).filter (fun q => !(q.1 == i) && !(q.1 + 1 == i && q.2.category == 2)) = lv') (h : lv_has L' nL lv') : zLs ad sa nL (zst ls i v) L' := by
  refine ⟨h.1, h.2.1, fun k h9 => h.2.2 (k, zE ad sa (zst ls i v k)) ?_⟩
  subst hl
  by_cases hk : k = i
  · subst hk
    rw [show zst ls k v k = v by simp [zst]]
    exact List.mem_cons_self
  · by_cases hq : k + 1 = i ∧ (ls k).1 = 1
    · exact absurd (show (zst ls i v k).1 = 9 by simp [zst, hk, hq]) h9
    · have he : zst ls i v k = ls k := by simp only [zst]; rw [if_neg hk, if_neg hq]
      rw [he] at h9 ⊢
      refine List.mem_cons_of_mem _ (List.mem_filter.mpr ⟨zas_in hL h9, ?_⟩)
      simp only [Bool.and_eq_true, Bool.not_eq_true', beq_eq_false_iff_ne, ne_eq, Bool.and_eq_false_iff]
      refine ⟨hk, ?_⟩
      by_cases h1 : k + 1 = i
      · right
        rw [zE_cat]
        rw [if_neg (fun z => hq ⟨h1, z⟩)]
        decide
      · exact Or.inl h1
theorem zas_st2 {L L' : Array Slot} {i : Nat} {v : zV} {lv' : List (Nat × Value)} (hL : zLs ad sa nL ls L) (hl : (i, zE ad sa v) :: (zas ad sa ls nL).filter (fun q => !(q.1 == i) && (!(q.1 == i + 1) && !(q.1 + 1 == i && q.2.category == 2))) = lv') (h : lv_has L' nL lv') : zLs ad sa nL (zst2 ls i v) L' := by
  refine ⟨h.1, h.2.1, fun k h9 => h.2.2 (k, zE ad sa (zst2 ls i v k)) ?_⟩
  subst hl
  by_cases hk : k = i
  · subst hk
    rw [show zst2 ls k v k = v by simp [zst2]]
    exact List.mem_cons_self
  · by_cases hk2 : k = i + 1
    · exact absurd (show (zst2 ls i v k).1 = 9 by simp [zst2, hk, hk2]) h9
    · by_cases hq : k + 1 = i ∧ (ls k).1 = 1
      · exact absurd (show (zst2 ls i v k).1 = 9 by simp only [zst2]; rw [if_neg hk, if_neg hk2, if_pos hq]) h9
      · have he : zst2 ls i v k = ls k := by simp only [zst2]; rw [if_neg hk, if_neg hk2, if_neg hq]
        rw [he] at h9 ⊢
        refine List.mem_cons_of_mem _ (List.mem_filter.mpr ⟨zas_in hL h9, ?_⟩)
        simp only [Bool.and_eq_true, Bool.not_eq_true', beq_eq_false_iff_ne, ne_eq, Bool.and_eq_false_iff]
        refine ⟨hk, hk2, ?_⟩
        by_cases h1 : k + 1 = i
        · right
          rw [zE_cat]
          rw [if_neg (fun z => hq ⟨h1, z⟩)]
          decide
        · exact Or.inl h1
theorem zs_istore_n {i : Fin 4} {x : Int} (hx : p.tables.exec = Jvm.exec) (hb : c.code = cc) (hd : decode cc pc = .ok (.istore_n i, 1)) (hi : i.val < nL) (kk : zAW p l e R s m args below meth c cells slots Q nL Λ D ad sa cs A  (pc + 1) (zst ls i.val (0, x)) st mem) : zAW p l e R s m args below meth c cells slots Q nL Λ D ad sa cs A  pc ls ((0, x) :: st) mem := by
  intro hm hs hl H locs L hP hD hL hS
  exact lv_istore_n (lv := zas ad sa ls nL) hx hb hd rfl (zas_has hL) hi rfl (fun L' h => kk hm (ztl hs) (zst_ok (zhd hs) hl) H locs L' hP hD (zas_st hL rfl h) hS)
theorem zs_istore {i : Nat} {x : Int} (hx : p.tables.exec = Jvm.exec) (hb : c.code = cc) (hd : decode cc pc = .ok (.istore i, 2)) (hi : i < nL) (kk : zAW p l e R s m args below meth c cells slots Q nL Λ D ad sa cs A  (pc + 2) (zst ls i (0, x)) st mem) : zAW p l e R s m args below meth c cells slots Q nL Λ D ad sa cs A  pc ls ((0, x) :: st) mem := by
  intro hm hs hl H locs L hP hD hL hS
  exact lv_istore (lv := zas ad sa ls nL) hx hb hd (zas_has hL) hi rfl (fun L' h => kk hm (ztl hs) (zst_ok (zhd hs) hl) H locs L' hP hD (zas_st hL rfl h) hS)
theorem zs_lstore_n {i : Fin 4} {x : Int} (hx : p.tables.exec = Jvm.exec) (hb : c.code = cc) (hd : decode cc pc = .ok (.lstore_n i, 1)) (hi : i.val + 1 < nL) (kk : zAW p l e R s m args below meth c cells slots Q nL Λ D ad sa cs A  (pc + 1) (zst2 ls i.val (1, x)) st mem) : zAW p l e R s m args below meth c cells slots Q nL Λ D ad sa cs A  pc ls ((1, x) :: st) mem := by
  intro hm hs hl H locs L hP hD hL hS
  exact lv_lstore_n (lv := zas ad sa ls nL) hx hb hd rfl (zas_has hL) hi rfl (fun L' h => kk hm (ztl hs) (zst2_ok (zhd hs) hl) H locs L' hP hD (zas_st2 hL rfl h) hS)
theorem zs_lstore {i : Nat} {x : Int} (hx : p.tables.exec = Jvm.exec) (hb : c.code = cc) (hd : decode cc pc = .ok (.lstore i, 2)) (hi : i + 1 < nL) (kk : zAW p l e R s m args below meth c cells slots Q nL Λ D ad sa cs A  (pc + 2) (zst2 ls i (1, x)) st mem) : zAW p l e R s m args below meth c cells slots Q nL Λ D ad sa cs A  pc ls ((1, x) :: st) mem := by
  intro hm hs hl H locs L hP hD hL hS
  exact lv_lstore (lv := zas ad sa ls nL) hx hb hd (zas_has hL) hi rfl (fun L' h => kk hm (ztl hs) (zst2_ok (zhd hs) hl) H locs L' hP hD (zas_st2 hL rfl h) hS)
theorem zs_astore_n {i : Fin 4} {v : zV} (hx : p.tables.exec = Jvm.exec) (hb : c.code = cc) (hd : decode cc pc = .ok (.astore_n i, 1)) (ht : v.1 = 2 ∨ v.1 = 3) (hi : i.val < nL) (kk : zAW p l e R s m args below meth c cells slots Q nL Λ D ad sa cs A  (pc + 1) (zst ls i.val v) st mem) : zAW p l e R s m args below meth c cells slots Q nL Λ D ad sa cs A  pc ls (v :: st) mem := by
  obtain ⟨x, hxx⟩ := zv_r (ad := ad) (sa := sa) ht
  intro hm hs hl H locs L hP hD hL hS
  rw [List.map_cons, hxx]
  exact lv_astore_n (lv := zas ad sa ls nL) hx hb hd rfl (zas_has hL) hi rfl (fun L' h => kk hm (ztl hs) (zst_ok (zhd hs) hl) H locs L' hP hD (zas_st hL (by rw [hxx]) h) hS)
theorem zs_astore {i : Nat} {v : zV} (hx : p.tables.exec = Jvm.exec) (hb : c.code = cc) (hd : decode cc pc = .ok (.astore i, 2)) (ht : v.1 = 2 ∨ v.1 = 3) (hi : i < nL) (kk : zAW p l e R s m args below meth c cells slots Q nL Λ D ad sa cs A  (pc + 2) (zst ls i v) st mem) : zAW p l e R s m args below meth c cells slots Q nL Λ D ad sa cs A  pc ls (v :: st) mem := by
  obtain ⟨x, hxx⟩ := zv_r (ad := ad) (sa := sa) ht
  intro hm hs hl H locs L hP hD hL hS
  rw [List.map_cons, hxx]
  exact lv_astore (lv := zas ad sa ls nL) hx hb hd (zas_has hL) hi rfl (fun L' h => kk hm (ztl hs) (zst_ok (zhd hs) hl) H locs L' hP hD (zas_st hL (by rw [hxx]) h) hS)
theorem zs_iinc {i : Nat} {n : Int} (hx : p.tables.exec = Jvm.exec) (hb : c.code = cc) (hd : decode cc pc = .ok (.iinc i n, 3)) (ht : (ls i).1 = 0) (hi : i < nL) (kk : zAW p l e R s m args below meth c cells slots Q nL Λ D ad sa cs A  (pc + 3) (zst ls i (0, zAdd (ls i).2 n)) st mem) : zAW p l e R s m args below meth c cells slots Q nL Λ D ad sa cs A  pc ls st mem := by
  intro hm hs hl H locs L hP hD hL hS
  have h9 : (ls i).1 ≠ 9 := by rw [ht]; decide
  obtain ⟨k, hk⟩ := List.getElem?_of_mem (zas_in hL h9)
  rw [zv_i ht] at hk
  exact lv_iinc (v := Int32.ofInt (ls i).2 + Int32.ofInt n) (lv := zas ad sa ls nL) hx hb hd (zas_has hL) hk rfl hi rfl (fun L' h => kk hm hs (zst_ok (zok_i _) hl) H locs L' hP hD (zas_st hL (by rw [zAdd, zE_i]) h) hS)
end ZR
end
section
/-! ===== branches, fields, arrays ===== -/
theorem zq_eq {x y : Int} (hx : zR32 x) (hy : zR32 y) : Int32.ofInt x = Int32.ofInt y ↔ x = y := ⟨fun h => by rw [← zi_toInt hx, ← zi_toInt hy, h], fun h => by rw [h]⟩
theorem zq_lt {x y : Int} (hx : zR32 x) (hy : zR32 y) : Int32.ofInt x < Int32.ofInt y ↔ x < y := by rw [Int32.lt_iff_toInt_lt, zi_toInt hx, zi_toInt hy]
theorem zq_le {x y : Int} (hx : zR32 x) (hy : zR32 y) : Int32.ofInt x ≤ Int32.ofInt y ↔ x ≤ y := by rw [Int32.le_iff_toInt_le, zi_toInt hx, zi_toInt hy]
theorem zR0 : zR32 0 := ⟨by omega, by omega⟩
theorem zi0 : (0 : Int32) = Int32.ofInt 0 := rfl
theorem zcl (z : Int32) : z.toNatClampNeg = z.toInt.toNat := rfl
theorem zcl_i {i : Int} (h : zR32 i) : (Int32.ofInt i).toNatClampNeg = i.toNat := by rw [zcl, zi_toInt h]
theorem zin {i : Int} {n : Nat} (h : zR32 i) (h0 : 0 ≤ i) (h1 : i < n) : vp_in (Int32.ofInt i) n := vp_in_iff.mpr (by rw [zi_toInt h]; exact ⟨h0, h1⟩)
theorem zokM_set {Λ : List zC} {mem : zM} {a k : Nat} {v : Int} {κ : zC} (h : zokM Λ mem) (hκ : Λ[a]? = some κ)
    (h0 : κ.1 = 0 → ∀ t, κ.2.2[k]? = some t → (t.1 = 0 → zR32 v) ∧ (t.1 = 4 → 0 ≤ v ∧ v ≤ 1)) (h1 : κ.1 = 1 → zR32 v) (h2 : κ.1 = 2 → zR64 v) (h3 : κ.1 = 3 → 0 ≤ v ∧ v ≤ 1) (h4 : κ.1 = 4 → -128 ≤ v ∧ v ≤ 127) : zokM Λ (zset mem a k v) := by
  intro id κ' hid
  obtain ⟨g0, g1, g2, g3, g4⟩ := h id κ' hid
  by_cases hia : id = a
  · subst hia
    cases hκ.symm.trans hid
    refine ⟨fun e j t ht => ?_, fun e i hi => ?_, fun e i hi => ?_, fun e i hi => ?_, fun e i hi => ?_⟩ <;> simp only [zset, if_pos]
    · by_cases hj : j = k
      · subst hj; rw [if_pos rfl]; exact h0 e t ht
      · rw [if_neg hj]; exact g0 e j t ht
    · by_cases hj : i = k
      · rw [if_pos hj]; exact h1 e
      · rw [if_neg hj]; exact g1 e i hi
    · by_cases hj : i = k
      · rw [if_pos hj]; exact h2 e
      · rw [if_neg hj]; exact g2 e i hi
    · by_cases hj : i = k
      · rw [if_pos hj]; exact h3 e
      · rw [if_neg hj]; exact g3 e i hi
    · by_cases hj : i = k
      · rw [if_pos hj]; exact h4 e
      · rw [if_neg hj]; exact g4 e i hi
  · have he : ∀ j, zset mem a k v id j = mem id j := fun j => by simp only [zset]; rw [if_neg hia]
    simp only [he]
    exact ⟨g0, g1, g2, g3, g4⟩
section ZS
variable {p : Program} {l : Launch} {e : Env} {R : Room} {s : State} {m : MethodId} {args : Array Value} {below : List Frame} {meth : Method} {c : Code} {cells slots : Nat} {Q : State → Prop} {cc : ByteArray} {nL : Nat} {own : String} {Λ : List zC} {D : va_G} {ad sa : Nat → Nat} {cs : Nat → ClassId} {A : Nat → Prop} {pc : Nat} {ls : zL} {st : List zV} {mem : zM}
theorem zs_if {cnd : ClassFile.Cond} {off : Int} {tgt : Nat} {x : Int} (hx : p.tables.exec = Jvm.exec) (hb : c.code = cc) (hd : decode cc pc = .ok (.ifCond cnd off, 3)) (ht : (pc : Int) + off = (tgt : Int)) (kt : zCmp cnd x 0 → zAW p l e R s m args below meth c cells slots Q nL Λ D ad sa cs A  tgt ls st mem) (kf : ¬ zCmp cnd x 0 → zAW p l e R s m args below meth c cells slots Q nL Λ D ad sa cs A  (pc + 3) ls st mem) : zAW p l e R s m args below meth c cells slots Q nL Λ D ad sa cs A  pc ls ((0, x) :: st) mem := by
  intro hm hs hl H locs L hP hD hL hS
  have hr := zhi hs
  cases cnd with
  | eq => exact lv_if_eq hx hb hd ht (fun h => kt ((zq_eq hr zR0).mp h) hm (ztl hs) hl H locs L hP hD hL hS) (fun h => kf (fun q => h ((zq_eq hr zR0).mpr q)) hm (ztl hs) hl H locs L hP hD hL hS)
  | ne => exact lv_if_ne hx hb hd ht (fun h => kt (fun q => h ((zq_eq hr zR0).mpr q)) hm (ztl hs) hl H locs L hP hD hL hS) (fun h => kf (fun q => q ((zq_eq hr zR0).mp h)) hm (ztl hs) hl H locs L hP hD hL hS)
  | lt => exact lv_if_lt hx hb hd ht (fun h => kt ((zq_lt hr zR0).mp h) hm (ztl hs) hl H locs L hP hD hL hS) (fun h => kf (fun q => h ((zq_lt hr zR0).mpr q)) hm (ztl hs) hl H locs L hP hD hL hS)
  | ge => exact lv_if_ge hx hb hd ht (fun h => kt ((zq_le zR0 hr).mp h) hm (ztl hs) hl H locs L hP hD hL hS) (fun h => kf (fun q => h ((zq_le zR0 hr).mpr q)) hm (ztl hs) hl H locs L hP hD hL hS)
  | gt => exact lv_if_gt hx hb hd ht (fun h => kt ((zq_lt zR0 hr).mp h) hm (ztl hs) hl H locs L hP hD hL hS) (fun h => kf (fun q => h ((zq_lt zR0 hr).mpr q)) hm (ztl hs) hl H locs L hP hD hL hS)
  | le => exact lv_if_le hx hb hd ht (fun h => kt ((zq_le hr zR0).mp h) hm (ztl hs) hl H locs L hP hD hL hS) (fun h => kf (fun q => h ((zq_le hr zR0).mpr q)) hm (ztl hs) hl H locs L hP hD hL hS)
theorem zs_icmp {cnd : ClassFile.Cond} {off : Int} {tgt : Nat} {x y : Int} (hx : p.tables.exec = Jvm.exec) (hb : c.code = cc) (hd : decode cc pc = .ok (.if_icmp cnd off, 3)) (ht : (pc : Int) + off = (tgt : Int)) (kt : zCmp cnd x y → zAW p l e R s m args below meth c cells slots Q nL Λ D ad sa cs A  tgt ls st mem) (kf : ¬ zCmp cnd x y → zAW p l e R s m args below meth c cells slots Q nL Λ D ad sa cs A  (pc + 3) ls st mem) : zAW p l e R s m args below meth c cells slots Q nL Λ D ad sa cs A  pc ls ((0, y) :: (0, x) :: st) mem := by
  intro hm hs hl H locs L hP hD hL hS
  have hy := zhi hs
  have hr := zhi (ztl hs)
  cases cnd with
  | eq => exact lv_icmp_eq hx hb hd ht (fun h => kt ((zq_eq hr hy).mp h) hm (ztl (ztl hs)) hl H locs L hP hD hL hS) (fun h => kf (fun q => h ((zq_eq hr hy).mpr q)) hm (ztl (ztl hs)) hl H locs L hP hD hL hS)
  | ne => exact lv_icmp_ne hx hb hd ht (fun h => kt (fun q => h ((zq_eq hr hy).mpr q)) hm (ztl (ztl hs)) hl H locs L hP hD hL hS) (fun h => kf (fun q => q ((zq_eq hr hy).mp h)) hm (ztl (ztl hs)) hl H locs L hP hD hL hS)
  | lt => exact lv_icmp_lt hx hb hd ht (fun h => kt ((zq_lt hr hy).mp h) hm (ztl (ztl hs)) hl H locs L hP hD hL hS) (fun h => kf (fun q => h ((zq_lt hr hy).mpr q)) hm (ztl (ztl hs)) hl H locs L hP hD hL hS)
  | ge => exact lv_icmp_ge hx hb hd ht (fun h => kt ((zq_le hy hr).mp h) hm (ztl (ztl hs)) hl H locs L hP hD hL hS) (fun h => kf (fun q => h ((zq_le hy hr).mpr q)) hm (ztl (ztl hs)) hl H locs L hP hD hL hS)
  | gt => exact lv_icmp_gt hx hb hd ht (fun h => kt ((zq_lt hy hr).mp h) hm (ztl (ztl hs)) hl H locs L hP hD hL hS) (fun h => kf (fun q => h ((zq_lt hy hr).mpr q)) hm (ztl (ztl hs)) hl H locs L hP hD hL hS)
  | le => exact lv_icmp_le hx hb hd ht (fun h => kt ((zq_le hr hy).mp h) hm (ztl (ztl hs)) hl H locs L hP hD hL hS) (fun h => kf (fun q => h ((zq_le hr hy).mpr q)) hm (ztl (ztl hs)) hl H locs L hP hD hL hS)
theorem zs_goto {off : Int} {tgt : Nat} (hx : p.tables.exec = Jvm.exec) (hb : c.code = cc) (hd : decode cc pc = .ok (.goto off, 3)) (ht : (pc : Int) + off = (tgt : Int)) (k : zAW p l e R s m args below meth c cells slots Q nL Λ D ad sa cs A  tgt ls st mem) : zAW p l e R s m args below meth c cells slots Q nL Λ D ad sa cs A  pc ls st mem :=
  fun hm hs hl H locs L hP hD hL hS => lv_goto hx hb hd ht (k hm hs hl H locs L hP hD hL hS)
theorem zs_ifnonnull {off : Int} {tgt : Nat} {v : zV} (hx : p.tables.exec = Jvm.exec) (hb : c.code = cc) (hd : decode cc pc = .ok (.ifnonnull off, 3)) (ht : (pc : Int) + off = (tgt : Int)) (hv : v.1 = 2 ∨ v.1 = 3) (k : zAW p l e R s m args below meth c cells slots Q nL Λ D ad sa cs A  tgt ls st mem) : zAW p l e R s m args below meth c cells slots Q nL Λ D ad sa cs A  pc ls (v :: st) mem := by
  obtain ⟨x, hxx⟩ := zv_r (ad := ad) (sa := sa) hv
  intro hm hs hl H locs L hP hD hL hS
  rw [List.map_cons, hxx]
  exact lv_ifnonnull hx hb hd ht (k hm (ztl hs) hl H locs L hP hD hL hS)
theorem zs_ifnull {off : Int} {v : zV} (hx : p.tables.exec = Jvm.exec) (hb : c.code = cc) (hd : decode cc pc = .ok (.ifnull off, 3)) (hv : v.1 = 2 ∨ v.1 = 3) (k : zAW p l e R s m args below meth c cells slots Q nL Λ D ad sa cs A  (pc + 3) ls st mem) : zAW p l e R s m args below meth c cells slots Q nL Λ D ad sa cs A  pc ls (v :: st) mem := by
  obtain ⟨x, hxx⟩ := zv_r (ad := ad) (sa := sa) hv
  intro hm hs hl H locs L hP hD hL hS
  rw [List.map_cons, hxx]
  exact lv_ifnull hx hb hd (k hm (ztl hs) hl H locs L hP hD hL hS)
theorem zs_tableOut {d lo hi : Int} {offs : Array Int} {len tgt : Nat} {x : Int} (hx : p.tables.exec = Jvm.exec) (hb : c.code = cc) (hd : decode cc pc = .ok (.tableswitch d lo hi offs, len)) (h : x < lo ∨ hi < x) (ht : (pc : Int) + d = (tgt : Int)) (k : zAW p l e R s m args below meth c cells slots Q nL Λ D ad sa cs A  tgt ls st mem) : zAW p l e R s m args below meth c cells slots Q nL Λ D ad sa cs A  pc ls ((0, x) :: st) mem :=
  fun hm hs hl H locs L hP hD hL hS => lv_tableOut hx hb hd (by rw [zi_toInt (zhi hs)]; exact h) ht (k hm (ztl hs) hl H locs L hP hD hL hS)
theorem zs_tableIn {d lo hi : Int} {offs : Array Int} {len tgt : Nat} {x off : Int} (hx : p.tables.exec = Jvm.exec) (hb : c.code = cc) (hd : decode cc pc = .ok (.tableswitch d lo hi offs, len)) (h1 : ¬ x < lo) (h2 : ¬ hi < x) (ho : offs[(x - lo).toNat]? = some off) (ht : (pc : Int) + off = (tgt : Int)) (k : zAW p l e R s m args below meth c cells slots Q nL Λ D ad sa cs A  tgt ls st mem) : zAW p l e R s m args below meth c cells slots Q nL Λ D ad sa cs A  pc ls ((0, x) :: st) mem := by
  intro hm hs hl H locs L hP hD hL hS
  have e := zi_toInt (zhi hs)
  exact lv_tableIn hx hb hd (by rw [e]; exact h1) (by rw [e]; exact h2) (by rw [e]; exact ho) ht (k hm (ztl hs) hl H locs L hP hD hL hS)
theorem zs_lookup {d : Int} {ps : Array (Int × Int)} {len tgt : Nat} {x off : Int} (hx : p.tables.exec = Jvm.exec) (hb : c.code = cc) (hd : decode cc pc = .ok (.lookupswitch d ps, len)) (hp : (ps.toList.zip (ps.toList.drop 1)).all (fun (a, next) => a.1 < next.1) = true) (ho : Op.lookupswitch.offset ps.toList d x = off) (ht : (pc : Int) + off = (tgt : Int)) (k : zAW p l e R s m args below meth c cells slots Q nL Λ D ad sa cs A  tgt ls st mem) : zAW p l e R s m args below meth c cells slots Q nL Λ D ad sa cs A  pc ls ((0, x) :: st) mem := by
  intro hm hs hl H locs L hP hD hL hS
  exact lv_lookup hx hb hd hp (by rw [zi_toInt (zhi hs)]; exact ho) ht (k hm (ztl hs) hl H locs L hP hD hL hS)
/-- stack -/
theorem zcat1 {v : zV} (h : v.1 ≠ 1) : (zE ad sa v).category = 1 := by rw [zE_cat, if_neg h]
theorem zs_dup {v : zV} (hx : p.tables.exec = Jvm.exec) (hb : c.code = cc) (hd : decode cc pc = .ok (.dup, 1)) (hv : v.1 ≠ 1) (k : zAW p l e R s m args below meth c cells slots Q nL Λ D ad sa cs A  (pc + 1) ls (v :: v :: st) mem) : zAW p l e R s m args below meth c cells slots Q nL Λ D ad sa cs A  pc ls (v :: st) mem :=
  fun hm hs hl H locs L hP hD hL hS => lv_dup hx hb hd (zcat1 hv) (k hm (zcons (zhd hs) hs) hl H locs L hP hD hL hS)
theorem zs_pop {v : zV} (hx : p.tables.exec = Jvm.exec) (hb : c.code = cc) (hd : decode cc pc = .ok (.pop, 1)) (hv : v.1 ≠ 1) (k : zAW p l e R s m args below meth c cells slots Q nL Λ D ad sa cs A  (pc + 1) ls st mem) : zAW p l e R s m args below meth c cells slots Q nL Λ D ad sa cs A  pc ls (v :: st) mem :=
  fun hm hs hl H locs L hP hD hL hS => lv_pop hx hb hd (zcat1 hv) (k hm (ztl hs) hl H locs L hP hD hL hS)
theorem zs_dup2 {v w : zV} (hx : p.tables.exec = Jvm.exec) (hb : c.code = cc) (hd : decode cc pc = .ok (.dup2, 1)) (hv : v.1 ≠ 1) (hw : w.1 ≠ 1) (k : zAW p l e R s m args below meth c cells slots Q nL Λ D ad sa cs A  (pc + 1) ls (v :: w :: v :: w :: st) mem) : zAW p l e R s m args below meth c cells slots Q nL Λ D ad sa cs A  pc ls (v :: w :: st) mem :=
  fun hm hs hl H locs L hP hD hL hS => lv_dup2_11 hx hb hd (zcat1 hv) (zcat1 hw) (k hm (zcons (zhd hs) (zcons (zhd (ztl hs)) hs)) hl H locs L hP hD hL hS)
theorem zs_i2l {x : Int} (hx : p.tables.exec = Jvm.exec) (hb : c.code = cc) (hd : decode cc pc = .ok (.i2l, 1)) (k : zAW p l e R s m args below meth c cells slots Q nL Λ D ad sa cs A  (pc + 1) ls ((1, x) :: st) mem) : zAW p l e R s m args below meth c cells slots Q nL Λ D ad sa cs A  pc ls ((0, x) :: st) mem := by
  intro hm hs hl H locs L hP hD hL hS
  have hr := zhi hs
  exact lv_i2l hx hb hd (by rw [← zl_of (Int32.ofInt x).toInt64, Int32.toInt_toInt64, zi_toInt hr]) (k hm (zcons (zok_l' ⟨by have := hr.1; omega, by have := hr.2; omega⟩) (ztl hs)) hl H locs L hP hD hL hS)
theorem zs_l2i {x : Int} (hx : p.tables.exec = Jvm.exec) (hb : c.code = cc) (hd : decode cc pc = .ok (.l2i, 1)) (k : zAW p l e R s m args below meth c cells slots Q nL Λ D ad sa cs A  (pc + 1) ls ((0, zL2i x) :: st) mem) : zAW p l e R s m args below meth c cells slots Q nL Λ D ad sa cs A  pc ls ((1, x) :: st) mem := by
  intro hm hs hl H locs L hP hD hL hS
  have h := k hm (zcons (zok_i _) (ztl hs)) hl H locs L hP hD hL hS
  rw [List.map_cons, zL2i, zE_i] at h
  exact lv_l2i hx hb hd rfl h
theorem zs_lcmp {x y : Int} (hx : p.tables.exec = Jvm.exec) (hb : c.code = cc) (hd : decode cc pc = .ok (.lcmp, 1)) (k : zAW p l e R s m args below meth c cells slots Q nL Λ D ad sa cs A  (pc + 1) ls ((0, zLcmp x y) :: st) mem) : zAW p l e R s m args below meth c cells slots Q nL Λ D ad sa cs A  pc ls ((1, y) :: (1, x) :: st) mem := by
  intro hm hs hl H locs L hP hD hL hS
  have hy := zhl hs
  have hr := zhl (ztl hs)
  have e : Int32.ofInt (zLcmp x y) = lg_cmp (Int64.ofInt x) (Int64.ofInt y) := by
    unfold zLcmp lg_cmp
    by_cases h1 : x < y
    · have h2 : ¬ Int64.ofInt x > Int64.ofInt y := by rw [gt_iff_lt, Int64.lt_iff_toInt_lt, zl_toInt hy, zl_toInt hr]; omega
      have h3 : ¬ Int64.ofInt x = Int64.ofInt y := fun q => by have := congrArg Int64.toInt q; rw [zl_toInt hr, zl_toInt hy] at this; omega
      rw [if_pos h1, if_neg h2, if_neg h3]; rfl
    · rw [if_neg h1]
      by_cases h2 : x = y
      · subst h2
        have h3 : ¬ Int64.ofInt x > Int64.ofInt x := by rw [gt_iff_lt, Int64.lt_iff_toInt_lt]; omega
        rw [if_pos rfl, if_neg h3, if_pos rfl]; rfl
      · have h3 : Int64.ofInt x > Int64.ofInt y := by rw [gt_iff_lt, Int64.lt_iff_toInt_lt, zl_toInt hy, zl_toInt hr]; omega
        rw [if_neg h2, if_pos h3]; rfl
  have hok : zok (0, zLcmp x y) := zok_i' (by unfold zLcmp zR32; omega)
  have h := k hm (zcons hok (ztl (ztl hs))) hl H locs L hP hD hL hS
  rw [List.map_cons, show zE ad sa (0, zLcmp x y) = .int (lg_cmp (Int64.ofInt x) (Int64.ofInt y)) from congrArg Value.int e] at h
  exact W.lcmp hx hb hd h
/-- fields -/
theorem zfl {ci : Nat} {fs : List (Nat × Nat)} {f : Nat} {t : Nat × Nat} {g : Nat → Int} (ht : fs[f]? = some t) : (fs.mapIdx fun k t => zF ad t (g k))[f]? = some (zF ad t (g f)) := by
  rw [List.getElem?_mapIdx, ht]; rfl
def zFv (t : Nat × Nat) (x : Int) : zV := if t.1 = 2 then (2, (t.2 : Int)) else (0, x)
theorem zFv_E (t : Nat × Nat) (x : Int) : zE ad sa (zFv t x) = zF ad t x := by
  unfold zFv zF
  by_cases h : t.1 = 2
  · rw [if_pos h, if_pos h]; rfl
  · rw [if_neg h, if_neg h]; rfl
theorem zFv_ok {Λ : List zC} {mem : zM} {a ci f : Nat} {fs : List (Nat × Nat)} {t : Nat × Nat} (hm : zokM Λ mem) (hΛ : Λ[a]? = some (0, ci, fs)) (ht : fs[f]? = some t) (hk : t.1 = 0 ∨ t.1 = 2 ∨ t.1 = 4) : zok (zFv t (mem a f)) := by
  unfold zFv
  have h := (hm a _ hΛ).1 rfl f t ht
  rcases hk with h0 | h0 | h0
  · rw [if_neg (by rw [h0]; decide)]; exact zok_i' (h.1 h0)
  · rw [if_pos h0]; exact zok_r _
  · rw [if_neg (by rw [h0]; decide)]; exact zok_i' ⟨by have := (h.2 h0).1; omega, by have := (h.2 h0).2; omega⟩
/-- what a field's entry of the pool says -/
def zFL (own : String) (s : State) (args : Array Value) (idx : Nat) (q : vw_C) (f : Nat) : Prop := f < q.2.2 ∧ (q.2.1 f).1 = q.1 ∧ ((Cond.fieldLink own idx q.1 (q.2.1 f).2.1 (q.2.1 f).2.2.1).before args s = true ∨ ∃ host, (Cond.fieldLinkNest own idx q.1 (q.2.1 f).2.1 (q.2.1 f).2.2.1 host).before args s = true)
theorem zs_getfield {Ts : List Cond} {tys : List (ClassId × FieldType)} {idx ci f : Nat} {q : vw_C} {a : Int} {fs : List (Nat × Nat)} {t : Nat × Nat} (hx : p.tables.exec = Jvm.exec) (hb : c.code = cc) (hown : s.vm.findClass own = some m.cls) (hts : ∀ w ∈ Ts, w.before args s = true) (hin : ∀ w ∈ u_ws q.1 q.2.1 q.2.2, w ∈ Ts) (hK : va_K D zCl tys s) (hd : decode cc pc = .ok (.getfield idx, 3)) (hq : zCl[ci]? = some q) (hF : zFL own s args idx q f) (hΛ : Λ[a.toNat]? = some (0, ci, fs)) (ht : fs[f]? = some t) (hk : t.1 = 0 ∨ t.1 = 2 ∨ t.1 = 4)
    (kk : zAW p l e R s m args below meth c cells slots Q nL Λ D ad sa cs A  (pc + 3) ls (zFv t (mem a.toNat f) :: st) mem) : zAW p l e R s m args below meth c cells slots Q nL Λ D ad sa cs A  pc ls ((2, a) :: st) mem := by
  intro hm hs hl H locs L hP hD hL hS
  obtain ⟨C, T, N⟩ := q
  obtain ⟨hf, hdc, hlk⟩ := hF
  have h := kk hm (zcons (zFv_ok hm hΛ ht hk) (ztl hs)) hl H locs L hP hD hL hS
  rw [List.map_cons, zFv_E] at h
  have he := zWd_get (ad := ad) (cs := cs) (mem := mem) hΛ
  dsimp only at hdc
  rcases hlk with hlk | ⟨host, hlk⟩
  · exact va_get hx hb hts hin hown hK hP a.toNat he hq f hf hlk (fun x h => by rw [hdc] at h; exact h) (zfl (ci := ci) ht) hd h
  · exact va_getN hx hb hts hin hown hK hP a.toNat he hq f hf hlk (fun x h => by rw [hdc] at h; exact h) (zfl (ci := ci) ht) hd h
theorem zfs_set {fs : List (Nat × Nat)} {f : Nat} {t : Nat × Nat} {g : Nat → Int} {v : Int} {mem : zM} {a : Nat} (ht : fs[f]? = some t) (h2 : t.1 ≠ 2) : (fs.mapIdx fun k t => zF ad t (mem a k)).set f (.int (Int32.ofInt v)) = fs.mapIdx fun k t => zF ad t (zset mem a f v a k) := by
  apply List.ext_getElem?
  intro j
  rw [List.getElem?_set]
  by_cases hj : f = j
  · subst hj
    have hlt : f < (fs.mapIdx fun k t => zF ad t (mem a k)).length := by rw [List.length_mapIdx]; exact (List.getElem?_eq_some_iff.mp ht).1
    rw [if_pos rfl, if_pos hlt, List.getElem?_mapIdx, ht]
    simp [zF, h2, zset]
  · rw [if_neg hj, List.getElem?_mapIdx, List.getElem?_mapIdx]
    cases hq : fs[j]? with
    | none => rfl
    | some u =>
      have hjf : ¬ j = f := fun q => hj q.symm
      simp [zset, hjf]
theorem zs_putfield {Ts : List Cond} {tys : List (ClassId × FieldType)} {idx ci f : Nat} {q : vw_C} {a v : Int} {fs : List (Nat × Nat)} {t : Nat × Nat} {ty0 : Nat → FieldType} (hx : p.tables.exec = Jvm.exec) (hb : c.code = cc) (hown : s.vm.findClass own = some m.cls) (hts : ∀ w ∈ Ts, w.before args s = true) (hin : ∀ w ∈ u_ws q.1 q.2.1 q.2.2, w ∈ Ts) (hty : ∀ k, k < q.2.2 → parseFieldDescriptor (q.2.1 k).2.2.1 = some (ty0 k)) (hnm : ∀ a, a < q.2.2 → ∀ b, b < q.2.2 → a ≠ b → (q.2.1 a).2.1 ≠ (q.2.1 b).2.1)
    (hK : va_K D zCl tys s) (hd : decode cc pc = .ok (.putfield idx, 3)) (hq : zCl[ci]? = some q) (hF : zFL own s args idx q f) (hfin : (q.2.1 f).2.2.2 = false) (hΛ : Λ[a.toNat]? = some (0, ci, fs)) (ht : fs[f]? = some t) (hk : t.1 = 0 ∧ parseFieldDescriptor (q.2.1 f).2.2.1 = some .int ∨ t.1 = 4 ∧ parseFieldDescriptor (q.2.1 f).2.2.1 = some .boolean ∧ (v = 0 ∨ v = 1))
    (kk : zAW p l e R s m args below meth c cells slots Q nL Λ D ad sa cs A  (pc + 3) ls st (zset mem a.toNat f v)) : zAW p l e R s m args below meth c cells slots Q nL Λ D ad sa cs A  pc ls ((0, v) :: (2, a) :: st) mem := by
  intro hm hs hl H locs L hP hD hL hS
  obtain ⟨C, T, N⟩ := q
  obtain ⟨hf, hdc, hlk⟩ := hF
  have hv := zhi hs
  have he := zWd_get (ad := ad) (cs := cs) (mem := mem) hΛ
  have h2 : t.1 ≠ 2 := by rcases hk with h | h <;> rw [h.1] <;> decide
  have hle : f < (fs.mapIdx fun k t => zF ad t (mem a.toNat k)).length := by rw [List.length_mapIdx]; exact (List.getElem?_eq_some_iff.mp ht).1
  have hw : ∀ u : List Value, u = (fs.mapIdx fun k t => zF ad t (mem a.toNat k)).set f (.int (Int32.ofInt v)) → (zWd Λ ad cs mem).set a.toNat (ad a.toNat, .inr (ci, u)) = zWd Λ ad cs (zset mem a.toNat f v) := by
    intro u hu
    rw [hu]
    refine zWd_set hΛ ?_ (fun b hb => by funext j; simp only [zset]; rw [if_neg hb])
    show Sum.inr (ci, _) = _
    rw [zfs_set (g := fun _ => 0) ht h2]
  have hm' : zokM Λ (zset mem a.toNat f v) := zokM_set hm hΛ (fun _ t' ht' => by
    cases ht.symm.trans ht'
    rcases hk with h | h
    · exact ⟨fun _ => hv, fun z => absurd (h.1.symm.trans z) (by decide)⟩
    · have h01 : 0 ≤ v ∧ v ≤ 1 := by have := h.2.2; omega
      exact ⟨fun z => absurd (h.1.symm.trans z) (by decide), fun _ => h01⟩) (fun z => by cases z) (fun z => by cases z) (fun z => by cases z) (fun z => by cases z)
  have go : ∀ (H1 : Heap) (locs1 : List Loc), va_P D zCl ((zWd Λ ad cs mem).set a.toNat (ad a.toNat, .inr (ci, (fs.mapIdx fun k t => zF ad t (mem a.toNat k)).set f (.int (Int32.ofInt v))))) H1 → va_D A ((zWd Λ ad cs mem).set a.toNat (ad a.toNat, .inr (ci, (fs.mapIdx fun k t => zF ad t (mem a.toNat k)).set f (.int (Int32.ofInt v))))) → va_S A s.heap H1 locs1 → W p l e R s m args below meth c  H1 locs1 cells slots Q (F0 m (pc + 3) L (st.map (zE ad sa))) := by
    intro H1 locs1 hP1 hD1 hS1
    rw [hw _ rfl] at hP1 hD1
    exact kk hm' (ztl (ztl hs)) hl H1 locs1 L hP1 hD1 hL hS1
  dsimp only at hdc hfin hk
  have hnf : ∃ ty, parseFieldDescriptor (T f).2.2.1 = some ty ∧ narrow ty (.int (Int32.ofInt v)) = .int (Int32.ofInt v) ∧ fits ty (.int (Int32.ofInt v)) = true := by
    rcases hk with h | h
    · exact ⟨_, h.2, rfl, rfl⟩
    · refine ⟨_, h.2.1, ?_⟩
      rcases h.2.2 with r | r <;> subst r <;> exact ⟨rfl, rfl⟩
  obtain ⟨ty, n1, n2, n3⟩ := hnf
  rcases hlk with hlk | ⟨host, hlk⟩
  · exact va_put hx hb hts hin ty0 hty hnm hown hK hP hD hS a.toNat he hq f hf hlk (fun x h => by rw [hdc] at h; exact h) hfin n1 n2 n3 hle hd go
  · exact va_putN hx hb hts hin ty0 hty hnm hown hK hP hD hS a.toNat he hq f hf hlk (fun x h => by rw [hdc] at h; exact h) hfin n1 n2 n3 hle hd go
end ZS
end
section
/-! ===== arrays ===== -/
theorem zup_i {mem : zM} {a k : Nat} {v : Int} : (fun i => Int32.ofInt (zset mem a k v a i)) = upd (fun i => Int32.ofInt (mem a i)) k (Int32.ofInt v) := by
  funext i
  by_cases h : i = k
  · subst h; simp [zset, upd]
  · simp [zset, upd, h]
theorem zup_l {mem : zM} {a k : Nat} {v : Int} : (fun i => Int64.ofInt (zset mem a k v a i)) = vp_updL (fun i => Int64.ofInt (mem a i)) k (Int64.ofInt v) := by
  funext i
  by_cases h : i = k
  · subst h; simp [zset, vp_updL]
  · simp [zset, vp_updL, h]
theorem zset_off {mem : zM} {a k : Nat} {v : Int} : ∀ b, b ≠ a → zset mem a k v b = mem b := fun b hb => by funext j; simp only [zset]; rw [if_neg hb]
theorem zR01 {x : Int} (h : 0 ≤ x ∧ x ≤ 1) : zR32 x := ⟨by omega, by omega⟩
theorem zR8 {x : Int} (h : -128 ≤ x ∧ x ≤ 127) : zR32 x := ⟨by omega, by omega⟩
section ZT
variable {p : Program} {l : Launch} {e : Env} {R : Room} {s : State} {m : MethodId} {args : Array Value} {below : List Frame} {meth : Method} {c : Code} {cells slots : Nat} {Q : State → Prop} {cc : ByteArray} {nL : Nat} {own : String} {Λ : List zC} {D : va_G} {ad sa : Nat → Nat} {cs : Nat → ClassId} {A : Nat → Prop} {pc : Nat} {ls : zL} {st : List zV} {mem : zM}
theorem zs_iaload {a i : Int} {n : Nat} {ts : List (Nat × Nat)} (hx : p.tables.exec = Jvm.exec) (hb : c.code = cc) (hK : va_K D zCl (zTys cs) s) (hd : decode cc pc = .ok (.iaload, 1)) (hΛ : Λ[a.toNat]? = some (1, n, ts)) (h0 : 0 ≤ i) (h1 : i < n) (kk : zAW p l e R s m args below meth c cells slots Q nL Λ D ad sa cs A  (pc + 1) ls ((0, mem a.toNat i.toNat) :: st) mem) : zAW p l e R s m args below meth c cells slots Q nL Λ D ad sa cs A  pc ls ((0, i) :: (2, a) :: st) mem := by
  intro hm hs hl H locs L hP hD hL hS
  have hi := zhi hs
  have h := kk hm (zcons (zok_i' ((hm _ _ hΛ).2.1 rfl i.toNat (by show i.toNat < n; omega))) (ztl (ztl hs))) hl H locs L hP hD hL hS
  refine va_iald hx hb hK hP a.toNat 0 (zWd_get hΛ) rfl (zin hi h0 h1) hd ?_
  rw [zcl_i hi]; exact h
theorem zs_laload {a i : Int} {n : Nat} {ts : List (Nat × Nat)} (hx : p.tables.exec = Jvm.exec) (hb : c.code = cc) (hK : va_K D zCl (zTys cs) s) (hd : decode cc pc = .ok (.laload, 1)) (hΛ : Λ[a.toNat]? = some (2, n, ts)) (h0 : 0 ≤ i) (h1 : i < n) (kk : zAW p l e R s m args below meth c cells slots Q nL Λ D ad sa cs A  (pc + 1) ls ((1, mem a.toNat i.toNat) :: st) mem) : zAW p l e R s m args below meth c cells slots Q nL Λ D ad sa cs A  pc ls ((0, i) :: (2, a) :: st) mem := by
  intro hm hs hl H locs L hP hD hL hS
  have hi := zhi hs
  have h := kk hm (zcons (zok_l' ((hm _ _ hΛ).2.2.1 rfl i.toNat (by show i.toNat < n; omega))) (ztl (ztl hs))) hl H locs L hP hD hL hS
  refine va_lald hx hb hK hP a.toNat 1 (zWd_get hΛ) rfl (zin hi h0 h1) hd ?_
  rw [zcl_i hi]; exact h
theorem zs_zaload {a i : Int} {n : Nat} {ts : List (Nat × Nat)} (hx : p.tables.exec = Jvm.exec) (hb : c.code = cc) (hK : va_K D zCl (zTys cs) s) (hd : decode cc pc = .ok (.baload, 1)) (hΛ : Λ[a.toNat]? = some (3, n, ts)) (h0 : 0 ≤ i) (h1 : i < n) (kk : zAW p l e R s m args below meth c cells slots Q nL Λ D ad sa cs A  (pc + 1) ls ((0, mem a.toNat i.toNat) :: st) mem) : zAW p l e R s m args below meth c cells slots Q nL Λ D ad sa cs A  pc ls ((0, i) :: (2, a) :: st) mem := by
  intro hm hs hl H locs L hP hD hL hS
  have hi := zhi hs
  have h := kk hm (zcons (zok_i' (zR01 ((hm _ _ hΛ).2.2.2.1 rfl i.toNat (by show i.toNat < n; omega)))) (ztl (ztl hs))) hl H locs L hP hD hL hS
  refine va_zald hx hb hK hP a.toNat 2 (zWd_get hΛ) rfl (zin hi h0 h1) hd ?_
  rw [zcl_i hi]; exact h
theorem zs_baload {a i : Int} {n : Nat} {ts : List (Nat × Nat)} (hx : p.tables.exec = Jvm.exec) (hb : c.code = cc) (hK : va_K D zCl (zTys cs) s) (hd : decode cc pc = .ok (.baload, 1)) (hΛ : Λ[a.toNat]? = some (4, n, ts)) (h0 : 0 ≤ i) (h1 : i < n) (kk : zAW p l e R s m args below meth c cells slots Q nL Λ D ad sa cs A  (pc + 1) ls ((0, mem a.toNat i.toNat) :: st) mem) : zAW p l e R s m args below meth c cells slots Q nL Λ D ad sa cs A  pc ls ((0, i) :: (2, a) :: st) mem := by
  intro hm hs hl H locs L hP hD hL hS
  have hi := zhi hs
  have h := kk hm (zcons (zok_i' (zR8 ((hm _ _ hΛ).2.2.2.2 rfl i.toNat (by show i.toNat < n; omega)))) (ztl (ztl hs))) hl H locs L hP hD hL hS
  refine va_bald hx hb hK hP a.toNat 3 (zWd_get hΛ) rfl (zin hi h0 h1) hd ?_
  rw [zcl_i hi]; exact h
theorem zs_aaload {a i : Int} {n : Nat} {ts : List (Nat × Nat)} {t : Nat × Nat} (hx : p.tables.exec = Jvm.exec) (hb : c.code = cc) (hK : va_K D zCl (zTys cs) s) (hd : decode cc pc = .ok (.aaload, 1)) (hΛ : Λ[a.toNat]? = some (5, n, ts)) (h0 : 0 ≤ i) (h1 : i < n) (ht : ts[i.toNat]? = some t) (kk : zAW p l e R s m args below meth c cells slots Q nL Λ D ad sa cs A  (pc + 1) ls ((2, (t.2 : Int)) :: st) mem) : zAW p l e R s m args below meth c cells slots Q nL Λ D ad sa cs A  pc ls ((0, i) :: (2, a) :: st) mem := by
  intro hm hs hl H locs L hP hD hL hS
  have hi := zhi hs
  have h := kk hm (zcons (zok_r _) (ztl (ztl hs))) hl H locs L hP hD hL hS
  refine va_aldq hx hb hK hP a.toNat 4 (zWd_get hΛ) rfl (zin hi h0 h1) hd ?_
  rw [zcl_i hi]
  dsimp only
  rw [ht]
  exact h
theorem zs_iastore {a i v : Int} {n : Nat} {ts : List (Nat × Nat)} (hx : p.tables.exec = Jvm.exec) (hb : c.code = cc) (hK : va_K D zCl (zTys cs) s) (hd : decode cc pc = .ok (.iastore, 1)) (hΛ : Λ[a.toNat]? = some (1, n, ts)) (h0 : 0 ≤ i) (h1 : i < n) (kk : zAW p l e R s m args below meth c cells slots Q nL Λ D ad sa cs A  (pc + 1) ls st (zset mem a.toNat i.toNat v)) : zAW p l e R s m args below meth c cells slots Q nL Λ D ad sa cs A  pc ls ((0, v) :: (0, i) :: (2, a) :: st) mem := by
  intro hm hs hl H locs L hP hD hL hS
  have hv := zhi hs
  have hi := zhi (ztl hs)
  have hm' : zokM Λ (zset mem a.toNat i.toNat v) := zokM_set hm hΛ (fun z => by cases z) (fun _ => hv) (fun z => by cases z) (fun z => by cases z) (fun z => by cases z)
  refine va_iast hx hb hK hP hD hS a.toNat 0 (zWd_get hΛ) rfl (zin hi h0 h1) hd (fun H1 locs1 hP1 hD1 hS1 => ?_)
  rw [zcl_i hi, zWd_set (mem' := zset mem a.toNat i.toNat v) hΛ (by show Sum.inl (cs 0, n, Sum.inl _) = _; rw [zup_i]) zset_off] at hP1 hD1
  exact kk hm' (ztl (ztl (ztl hs))) hl H1 locs1 L hP1 hD1 hL hS1
theorem zs_lastore {a i v : Int} {n : Nat} {ts : List (Nat × Nat)} (hx : p.tables.exec = Jvm.exec) (hb : c.code = cc) (hK : va_K D zCl (zTys cs) s) (hd : decode cc pc = .ok (.lastore, 1)) (hΛ : Λ[a.toNat]? = some (2, n, ts)) (h0 : 0 ≤ i) (h1 : i < n) (kk : zAW p l e R s m args below meth c cells slots Q nL Λ D ad sa cs A  (pc + 1) ls st (zset mem a.toNat i.toNat v)) : zAW p l e R s m args below meth c cells slots Q nL Λ D ad sa cs A  pc ls ((1, v) :: (0, i) :: (2, a) :: st) mem := by
  intro hm hs hl H locs L hP hD hL hS
  have hv := zhl hs
  have hi := zhi (ztl hs)
  have hm' : zokM Λ (zset mem a.toNat i.toNat v) := zokM_set hm hΛ (fun z => by cases z) (fun z => by cases z) (fun _ => hv) (fun z => by cases z) (fun z => by cases z)
  refine va_last hx hb hK hP hD hS a.toNat 1 (zWd_get hΛ) rfl (zin hi h0 h1) hd (fun H1 locs1 hP1 hD1 hS1 => ?_)
  rw [zcl_i hi, zWd_set (mem' := zset mem a.toNat i.toNat v) hΛ (by show Sum.inl (cs 1, n, Sum.inr (Sum.inl _)) = _; rw [zup_l]) zset_off] at hP1 hD1
  exact kk hm' (ztl (ztl (ztl hs))) hl H1 locs1 L hP1 hD1 hL hS1
theorem zs_zastore {a i v : Int} {n : Nat} {ts : List (Nat × Nat)} (hx : p.tables.exec = Jvm.exec) (hb : c.code = cc) (hK : va_K D zCl (zTys cs) s) (hd : decode cc pc = .ok (.bastore, 1)) (hΛ : Λ[a.toNat]? = some (3, n, ts)) (h0 : 0 ≤ i) (h1 : i < n) (hv01 : v = 0 ∨ v = 1) (kk : zAW p l e R s m args below meth c cells slots Q nL Λ D ad sa cs A  (pc + 1) ls st (zset mem a.toNat i.toNat v)) : zAW p l e R s m args below meth c cells slots Q nL Λ D ad sa cs A  pc ls ((0, v) :: (0, i) :: (2, a) :: st) mem := by
  intro hm hs hl H locs L hP hD hL hS
  have hi := zhi (ztl hs)
  have hm' : zokM Λ (zset mem a.toNat i.toNat v) := zokM_set hm hΛ (fun z => by cases z) (fun z => by cases z) (fun z => by cases z) (fun _ => by omega) (fun z => by cases z)
  have hn : vp_nar .boolean (Int32.ofInt v) = Int32.ofInt v := by rcases hv01 with r | r <;> subst r <;> rfl
  refine va_zast hx hb hK hP hD hS a.toNat 2 (zWd_get hΛ) rfl (zin hi h0 h1) hd (fun H1 locs1 hP1 hD1 hS1 => ?_)
  rw [hn, zcl_i hi, zWd_set (mem' := zset mem a.toNat i.toNat v) hΛ (by show Sum.inl (cs 2, n, Sum.inl _) = _; rw [zup_i]) zset_off] at hP1 hD1
  exact kk hm' (ztl (ztl (ztl hs))) hl H1 locs1 L hP1 hD1 hL hS1
theorem zs_bastore {a i v : Int} {n : Nat} {ts : List (Nat × Nat)} (hx : p.tables.exec = Jvm.exec) (hb : c.code = cc) (hK : va_K D zCl (zTys cs) s) (hd : decode cc pc = .ok (.bastore, 1)) (hΛ : Λ[a.toNat]? = some (4, n, ts)) (h0 : 0 ≤ i) (h1 : i < n) (hv8 : -128 ≤ v ∧ v ≤ 127) (kk : zAW p l e R s m args below meth c cells slots Q nL Λ D ad sa cs A  (pc + 1) ls st (zset mem a.toNat i.toNat v)) : zAW p l e R s m args below meth c cells slots Q nL Λ D ad sa cs A  pc ls ((0, v) :: (0, i) :: (2, a) :: st) mem := by
  intro hm hs hl H locs L hP hD hL hS
  have hi := zhi (ztl hs)
  have hm' : zokM Λ (zset mem a.toNat i.toNat v) := zokM_set hm hΛ (fun z => by cases z) (fun z => by cases z) (fun z => by cases z) (fun z => by cases z) (fun _ => hv8)
  have hn : vp_nar .byte (Int32.ofInt v) = Int32.ofInt v := by
    rw [vp_nar_byte]
    exact lg_i2b_small (by rw [zi_toInt (zR8 hv8)]; omega) (by rw [zi_toInt (zR8 hv8)]; omega)
  refine va_bast hx hb hK hP hD hS a.toNat 3 (zWd_get hΛ) rfl (zin hi h0 h1) hd (fun H1 locs1 hP1 hD1 hS1 => ?_)
  rw [hn, zcl_i hi, zWd_set (mem' := zset mem a.toNat i.toNat v) hΛ (by show Sum.inl (cs 3, n, Sum.inl _) = _; rw [zup_i]) zset_off] at hP1 hD1
  exact kk hm' (ztl (ztl (ztl hs))) hl H1 locs1 L hP1 hD1 hL hS1
theorem zs_alen {a : Int} {kd n : Nat} {ts : List (Nat × Nat)} (hx : p.tables.exec = Jvm.exec) (hb : c.code = cc) (hK : va_K D zCl (zTys cs) s) (hd : decode cc pc = .ok (.arraylength, 1)) (hΛ : Λ[a.toNat]? = some (kd, n, ts)) (hk : kd = 1 ∨ kd = 2) (hn : n ≤ 2147483647) (kk : zAW p l e R s m args below meth c cells slots Q nL Λ D ad sa cs A  (pc + 1) ls ((0, (n : Int)) :: st) mem) : zAW p l e R s m args below meth c cells slots Q nL Λ D ad sa cs A  pc ls ((2, a) :: st) mem := by
  intro hm hs hl H locs L hP hD hL hS
  have h := kk hm (zcons (zok_i' ⟨by omega, by omega⟩) (ztl hs)) hl H locs L hP hD hL hS
  have e : Int32.ofNat n = Int32.ofInt (n : Int) := (Int32.ofInt_eq_ofNat (n := n)).symm
  rcases hk with r | r <;> subst r
  · exact va_alen hx hb hK hP a.toNat 0 (zWd_get hΛ) (ty := .int) rfl e hd h
  · exact va_alen hx hb hK hP a.toNat 1 (zWd_get hΛ) (ty := .long) rfl e hd h
theorem zcp {mem : zM} {a b sp dp n : Nat} : (fun i => Int32.ofInt (zcopy mem a sp b dp n b i)) = va_cpy (fun i => Int32.ofInt (mem a i)) (fun i => Int32.ofInt (mem b i)) sp dp n := by
  funext i
  simp only [zcopy, va_cpy, if_pos]
  split <;> rfl
theorem zcopy_off {mem : zM} {a b sp dp n : Nat} : ∀ d, d ≠ b → zcopy mem a sp b dp n d = mem d := fun d hd => by funext j; simp only [zcopy]; rw [if_neg hd]
theorem zokM_copy {mem : zM} {a b sp dp n na nb : Nat} {ta tb : List (Nat × Nat)} (hm : zokM Λ mem) (ha : Λ[a]? = some (1, na, ta)) (hb : Λ[b]? = some (1, nb, tb)) (h : sp + n ≤ na) : zokM Λ (zcopy mem a sp b dp n) := by
  intro id κ hid
  obtain ⟨g0, g1, g2, g3, g4⟩ := hm id κ hid
  by_cases hib : id = b
  · subst hib
    cases hb.symm.trans hid
    refine ⟨fun z => (by cases z), fun _ i hi => ?_, fun z => (by cases z), fun z => (by cases z), fun z => (by cases z)⟩
    simp only [zcopy, if_pos]
    split
    · rename_i hq
      exact (hm a _ ha).2.1 rfl _ (by show _ < na; omega)
    · exact g1 rfl i hi
  · rw [zcopy_off id hib]
    exact ⟨g0, g1, g2, g3, g4⟩
theorem zs_arraycopy {idx : Nat} {a b sp dp n : Int} {na nb : Nat} {ta tb : List (Nat × Nat)} (hx : p.tables.exec = Jvm.exec) (hb : c.code = cc) (hml : c.maxLocals = nL) (hown : s.vm.findClass own = some m.cls) (hlink : (Cond.methodLink own idx arraycopyName).before args s = true) (hnat : (Cond.native arraycopyName).before args s = true) (hstat : (Cond.static arraycopyName).before args s = true) (hini : (Cond.initialized "java/lang/System").before args s = true) (hK : va_K D zCl (zTys cs) s) (hd : decode cc pc = .ok (.invokestatic idx, 3))
    (ha : Λ[a.toNat]? = some (1, na, ta)) (hbb : Λ[b.toNat]? = some (1, nb, tb)) (h1 : 0 ≤ sp) (h2 : 0 ≤ dp) (h3 : 0 ≤ n) (h4 : sp + n ≤ na) (h5 : dp + n ≤ nb) (hR : 1 ≤ R.frames ∧ 30 ≤ R.locals) (kk : zAW p l e R s m args below meth c cells slots Q nL Λ D ad sa cs A  (pc + 3) ls [] (zcopy mem a.toNat sp.toNat b.toNat dp.toNat n.toNat)) : zAW p l e R s m args below meth c cells slots Q nL Λ D ad sa cs A  pc ls [(0, n), (0, dp), (2, b), (0, sp), (2, a)] mem := by
  intro hm hs hl H locs L hP hD hL hS
  have hn := zhi hs
  have hdp := zhi (ztl hs)
  have hsp := zhi (ztl (ztl (ztl hs)))
  have c1 := zcl_i hn
  have c2 := zcl_i hdp
  have c3 := zcl_i hsp
  have hneg : ∀ {x : Int}, zR32 x → 0 ≤ x → ¬ Int32.ofInt x < 0 := fun hr h q => by have := (zq_lt hr zR0).mp q; omega
  refine va_copyi (ty := .int) (rest := []) hx hb (hml.trans hL.1.symm) hown hlink hnat hstat hini hK hP hD hS a.toNat b.toNat 0 0 (zWd_get ha) (zWd_get hbb) rfl rfl rfl (hneg hsp h1) (hneg hdp h2) (hneg hn h3) (by rw [c1, c3]; show _ ≤ na; omega) (by rw [c1, c2]; show _ ≤ nb; omega) (fun i _ => rfl) hR.1 (by show 0 + (7 + 11) ≤ R.locals; omega) hd (fun H1 locs1 hP1 hD1 hS1 => ?_)
  rw [c1, c2, c3, zWd_set (mem' := zcopy mem a.toNat sp.toNat b.toNat dp.toNat n.toNat) hbb (by show Sum.inl (cs 0, nb, Sum.inl _) = _; rw [zcp]) zcopy_off] at hP1 hD1
  exact kk (zokM_copy hm ha hbb (by omega)) (fun _ h => by cases h) hl H1 locs1 L hP1 hD1 hL hS1
end ZT
end
section
/-! ===== what holds outside the cells; contracts; calls ===== -/
def zTbl : List Cond := lw_tbl.filter goodWord
def zIsN (w : Cond) : Bool := match w with
  | .fieldLinkNest .. => true
  | .methodLinkNest .. => true
  | _ => false
def zStN : List String := ["WAYS_BY_NUMBER", "LEAST_STORES", "MOST_STORES"]
def zStV : List (List Int) := [[0, 3, 1, 2], [0, 0, 0, 1, 0, 0, 0, 1], [9999, 9999, 60, 60, 9, 18, 100, 4]]
/-- the texts, by number: their signs -/
def zTx : List (List Int) := [[108, 105, 102, 116], [108, 97, 121], [103, 111], [98, 97, 99, 107], [102, 105, 108, 108], [100, 105, 103], [114, 101, 115, 116], [97, 103, 97, 105, 110], [105, 102], [119, 104, 105, 108, 101], [110, 111, 114, 116, 104], [101, 97, 115, 116], [115, 111, 117, 116, 104], [119, 101, 115, 116], [110, 111, 116], [98, 117, 114, 105, 101, 100], [119, 97, 116, 101, 114], [119, 111, 111, 100], [112, 108, 97, 116, 101, 115], [99, 97, 114, 114, 105, 101, 100], [97, 104, 101, 97, 100], [98, 101, 104, 105, 110, 100], [104, 111, 117, 114], [100, 97, 121], [97, 110, 100], [111, 114]]
def zTxR : List (String × Nat × String × Nat) := [("SandRails$Reader", 97, "lift", 0), ("SandRails$Reader", 103, "lay", 1), ("SandRails$Reader", 105, "go", 2), ("SandRails$Reader", 107, "back", 3), ("SandRails$Reader", 109, "fill", 4), ("SandRails$Reader", 111, "dig", 5), ("SandRails$Reader", 113, "rest", 6), ("SandRails$Reader", 115, "again", 7), ("SandRails$Reader", 117, "if", 8), ("SandRails$Reader", 119, "while", 9), ("SandRails$Reader", 124, "north", 10), ("SandRails$Reader", 126, "east", 11), ("SandRails$Reader", 128, "south", 12), ("SandRails$Reader", 130, "west", 13), ("SandRails$Reader", 159, "not", 14), ("SandRails$Reader", 164, "buried", 15), ("SandRails$Reader", 172, "water", 16), ("SandRails$Reader", 174, "wood", 17), ("SandRails$Reader", 176, "plates", 18), ("SandRails$Reader", 178, "carried", 19), ("SandRails$Reader", 180, "ahead", 20), ("SandRails$Reader", 182, "behind", 21), ("SandRails$Reader", 184, "hour", 22), ("SandRails$Reader", 186, "day", 23), ("SandRails$Reader", 157, "and", 24), ("SandRails$Reader", 152, "or", 25), ("SandRailsModel", 193, "lift", 0), ("SandRailsModel", 195, "go", 2), ("SandRailsModel", 197, "back", 3), ("SandRailsModel", 199, "fill", 4), ("SandRailsModel", 201, "dig", 5), ("SandRailsModel", 203, "again", 7), ("SandRailsModel", 208, "if", 8), ("SandRailsModel", 149, "not", 14), ("SandRailsModel", 160, "buried", 15), ("SandRailsModel", 127, "water", 16), ("SandRailsModel", 129, "wood", 17), ("SandRailsModel", 131, "plates", 18), ("SandRailsModel", 133, "carried", 19), ("SandRailsModel", 135, "ahead", 20), ("SandRailsModel", 137, "behind", 21), ("SandRailsModel", 139, "hour", 22), ("SandRailsModel", 141, "day", 23), ("SandRailsModel", 168, "and", 24), ("SandRailsModel", 173, "or", 25), ("SandRailsModel", 214, "while", 9), ("SandRailsModel", 216, "rest", 6), ("SandRailsModel", 217, "lay", 1), ("SandRailsModel", 175, "north", 10), ("SandRailsModel", 177, "east", 11), ("SandRailsModel", 179, "south", 12), ("SandRailsModel", 181, "west", 13)]
def zGl (D : va_G) (cs : Nat → ClassId) (sa sv : Nat → Nat) (A : Nat → Prop) (U : State) : Prop :=
  va_K D zCl (zTys cs) U ∧ (∀ w ∈ lw_tbl, zIsN w = true → va_Nw w U) ∧
  (∀ (j : Nat) (n : String) (vs : List Int), zStN[j]? = some n → zStV[j]? = some vs → va_Z "SandRails" n "[I" (.ref (sa j)) A U U.heap ∧ va_T .int (sa j) vs.length (fun i => .int (Int32.ofInt (vs.getD i 0))) A U U.heap) ∧
  vk_S zTx.length (zTx.map List.length) (zTx.map (·.map Int32.ofInt)) (fun i => sa (3 + i)) sv A U U.heap ∧ (∀ q ∈ zTxR, vk_R q.1 q.2.1 q.2.2.1 (sa (3 + q.2.2.2)) U) ∧ va_Z "java/lang/String" "COMPACT_STRINGS" "Z" (.int 1) A U U.heap ∧ va_Z "jdk/internal/util/Preconditions" "SIOOBE_FORMATTER" "Ljava/util/function/BiFunction;" (.ref (sa 29)) A U U.heap
def zA (Λ : List zC) (ad : Nat → Nat) (sz : Nat) : Nat → Prop := fun q => (∃ id, id < Λ.length ∧ q = ad id) ∨ sz ≤ q
theorem vk_S_narrow {N : Nat} {len : List Nat} {byt : List (List Int32)} {adK adV : Nat → Nat} {A B : Nat → Prop} {U : State} {H : Heap} (h : vk_S N len byt adK adV A U H) (hAB : ∀ q, B q → A q) : vk_S N len byt adK adV B U H :=
  ⟨fun i hi => ⟨va_O.narrow (h.1 i hi).1 hAB, va_OF.narrow (h.1 i hi).2.1 hAB, va_OF.narrow (h.1 i hi).2.2.1 hAB, va_T.narrow (h.1 i hi).2.2.2 hAB⟩, h.2⟩
theorem zNw_warm {w : Cond} (hw : zIsN w = true) {s U : State} (hW : s.WarmedH U.vm) (h : va_Nw w s) : va_Nw w U := by
  cases w <;> simp only [zIsN] at hw <;> first | exact va_Nw.warmF hW h | exact va_Nw.warmM hW h | (cases hw)
theorem zNw_same {w : Cond} (hw : zIsN w = true) {s U : State} (hv : s.vm = U.vm) (h : va_Nw w s) : va_Nw w U := by
  cases w <;> simp only [zIsN] at hw <;> first | exact va_tabs rfl hv h | (cases hw)
/-- into a callee -/
theorem zGl_call {D : va_G} {cs : Nat → ClassId} {sa sv : Nat → Nat} {A B : Nat → Prop} {s U : State} {locs : List Loc} (h : zGl D cs sa sv A s) (hS : va_S A s.heap U.heap locs) (hAB : ∀ q, B q → A q) (hW : s.WarmedH U.vm) : zGl D cs sa sv B U := by
  obtain ⟨h1, h2, h3, h4, h5, h6, h7⟩ := h
  have hk : ∀ a : Nat, a < s.heap.size → ¬ A a → U.heap[a]? = s.heap[a]? := hS.2.1
  refine ⟨va_K.moved hW.alike h1, fun w hw hn => zNw_warm hn hW (h2 w hw hn), fun j n vs hn hv => ⟨?_, ?_⟩, ?_, fun q hq => vk_R.warm hW (h5 q hq), ?_, ?_⟩
  · exact va_Z.narrow (va_Z.kept (va_Z.moved hW.alike (h3 j n vs hn hv).1) hk) hAB
  · exact va_T.narrow (va_T.kept (va_T.moved hW.alike (h3 j n vs hn hv).2) hk) hAB
  · exact vk_S_narrow (vk_S.kept (vk_S.moved hW.alike h4) hk) hAB
  · exact va_Z.narrow (va_Z.kept (va_Z.moved hW.alike h6) hk) hAB
  · exact va_Z.narrow (va_Z.kept (va_Z.moved hW.alike h7) hk) hAB
theorem zGl_same {D : va_G} {cs : Nat → ClassId} {sa sv : Nat → Nat} {A : Nat → Prop} {s U : State} (h : zGl D cs sa sv A s) (hv : s.vm = U.vm) (hh : U.heap = s.heap) : zGl D cs sa sv A U := by
  obtain ⟨h1, h2, h3, h4, h5, h6, h7⟩ := h
  have hal : s.vm.Alike U.vm := by rw [← hv]; exact Vm.Alike.refl s.vm
  refine ⟨va_K.moved hal h1, fun w hw hn => zNw_same hn hv (h2 w hw hn), fun j n vs hn hvs => ⟨?_, ?_⟩, ?_, fun q hq => vk_R.same hv.symm (h5 q hq), ?_, ?_⟩
  · rw [hh]; exact va_Z.moved hal (h3 j n vs hn hvs).1
  · rw [hh]; exact va_T.moved hal (h3 j n vs hn hvs).2
  · rw [hh]; exact vk_S.moved hal h4
  · rw [hh]; exact va_Z.moved hal h6
  · rw [hh]; exact va_Z.moved hal h7
/-- a method's start and end -/
def zRm (lv : Nat) : Room := { frames := lv + 2, cells := 0, slots := 0, locals := 40 * lv + 100 }
def zPre (Λ : List zC) (D : va_G) (ad sa sv : Nat → Nat) (cs : Nat → ClassId) (sz : Nat) (vs : List zV) (mem : zM) : Array Value → State → Prop :=
  va_Pc (vs.map (zE ad sa)) (fun U => U.heap.size = sz ∧ zGl D cs sa sv (zA Λ ad sz) U ∧ va_P D zCl (zWd Λ ad cs mem) U.heap ∧ va_D (zA Λ ad sz) (zWd Λ ad cs mem))
/-- kinds of answers: 0 int, 4 boolean, 1 long, 9 none -/
def zQ (rt : Nat) (Λ : List zC) (D : va_G) (ad : Nat → Nat) (cs : Nat → ClassId) (sz : Nat) (post : Int → zM → Prop) : Array Value → State → Outcome → State → Prop :=
  if rt = 1 then va_Ql (S := zM) (fun r mem => post r.toInt mem ∧ zokM Λ mem) (fun mem t => va_P D zCl (zWd Λ ad cs mem) t.heap) (zA Λ ad sz)
  else if rt = 9 then va_Qv (S := zM) (fun mem => post 0 mem ∧ zokM Λ mem) (fun mem t => va_P D zCl (zWd Λ ad cs mem) t.heap) (zA Λ ad sz)
  else va_Qi (S := zM) (fun r mem => post r.toInt mem ∧ zokM Λ mem) (fun mem t => va_P D zCl (zWd Λ ad cs mem) t.heap) (zA Λ ad sz)
def zMet (l : Launch) (Λ : List zC) (y : MethodName) (code : ByteArray) (maxL : Nat) (ret : Option FieldType) (lv : Nat) (tags : List Nat) (rt : Nat) (pre : List Int → zM → Prop) (post : List Int → zM → Int → zM → Prop) : Prop :=
  ∀ (D : va_G) (ad sa sv : Nat → Nat) (cs : Nat → ClassId) (sz : Nat) (vs : List Int) (mem : zM), vs.length = tags.length → (∀ v ∈ tags.zip vs, zok v) → zokM Λ mem → pre vs mem →
    Met l y (.code y code maxL ret :: zTbl) (zRm lv) (zPre Λ D ad sa sv cs sz (tags.zip vs) mem) (zQ rt Λ D ad cs sz (post vs mem)) 0 0 (zA Λ ad sz)
def zres (rt : Nat) (r : Int) (rest : List zV) : List zV := if rt = 1 then (1, r) :: rest else if rt = 9 then rest else (0, r) :: rest
def zrt (rt : Nat) (r : Int) : Prop := if rt = 1 then zR64 r else if rt = 9 then r = 0 else zR32 r
def zcats (st : List zV) : Nat := (st.map fun v => if v.1 = 1 then 2 else 1).sum
theorem zcats_E {ad sa : Nat → Nat} (st : List zV) : ((st.map (zE ad sa)).map fun v => v.category).sum = zcats st := by
  unfold zcats
  rw [List.map_map]
  congr 1
  exact List.map_congr_left (fun v _ => zE_cat ad sa v)
theorem zWd_D {Λ : List zC} {ad : Nat → Nat} {cs : Nat → ClassId} {A : Nat → Prop} {mem mem' : zM} (h : va_D A (zWd Λ ad cs mem)) : va_D A (zWd Λ ad cs mem') := by
  have key : ∀ (k : Nat) (q : Nat × va_E), (zWd Λ ad cs mem')[k]? = some q → ∃ e', (zWd Λ ad cs mem)[k]? = some (q.1, e') := by
    intro k q hq
    obtain ⟨h1, h2⟩ := zWd_addr hq
    obtain ⟨κ, hκ⟩ : ∃ κ, Λ[k]? = some κ := ⟨Λ[k], List.getElem?_eq_getElem h1⟩
    exact ⟨_, by rw [zWd_get hκ, h2]⟩
  refine ⟨fun i j x y hi hj hxy => ?_, fun k q hk => ?_⟩
  · obtain ⟨e1, g1⟩ := key i x hi
    obtain ⟨e2, g2⟩ := key j y hj
    exact h.1 i j _ _ g1 g2 hxy
  · obtain ⟨e1, g1⟩ := key k q hk
    exact h.2 k (q.1, e1) g1
section ZU
variable {p : Program} {l : Launch} {e : Env} {R : Room} {s : State} {m : MethodId} {args : Array Value} {below : List Frame} {meth : Method} {c : Code} {cells slots : Nat} {Q : State → Prop} {cc : ByteArray} {nL : Nat} {own : String} {Λ : List zC} {D : va_G} {ad sa sv : Nat → Nat} {cs : Nat → ClassId} {A : Nat → Prop} {pc : Nat} {ls : zL} {st : List zV} {mem : zM}
/-- a call's end, out of its run -/
theorem zcall_end {rt : Nat} {post : Int → zM → Prop} {rest : List zV} {L : Array Slot} {H : Heap} {locs : List Loc} {st0 : List Value} {av : Array Value}
    (hm : zokM Λ mem) (hl : ∀ k, zok (ls k)) (hs : ∀ w ∈ rest, zok w) (hP : va_P D zCl (zWd Λ ad cs mem) H) (hD : va_D A (zWd Λ ad cs mem)) (hL : zLs ad sa nL ls L) (hS : va_S A s.heap H locs) (hA : ∀ q, zA Λ ad H.size q → A q)
    (hr : va_Run p l e R s m args below meth c H locs cells slots 0 0 (F0 m pc L st0) (rest.map (zE ad sa)) (zQ rt Λ D ad cs H.size post av) (zA Λ ad H.size))
    (kk : ∀ (r : Int) (mem' : zM), zrt rt r → zokM Λ mem' → post r mem' → zAW p l e R s m args below meth c cells slots Q nL Λ D ad sa cs A  (pc + 3) ls (zres rt r rest) mem') : W p l e R s m args below meth c  H locs cells slots Q (F0 m pc L st0) := by
  unfold zQ at hr
  by_cases h1 : rt = 1
  · rw [if_pos h1] at hr
    refine va_calll hr hS (fun q _ h => hA q h) hA (fun r mem' t H1 locs1 ht _ hp hB _ _ hS1 => ?_)
    have h := kk r.toInt mem' (by rw [zrt, if_pos h1]; exact zl_rng r) hp.2 hp.1
    unfold zres at h
    rw [if_pos h1] at h
    have g := h hp.2 (zcons (zok_l r) hs) hl H1 locs1 L (by rw [← ht]; exact hB) (zWd_D hD) hL hS1
    rw [List.map_cons, zE_l] at g
    exact g
  · rw [if_neg h1] at hr
    by_cases h9 : rt = 9
    · rw [if_pos h9] at hr
      refine va_callv hr hS (fun q _ h => hA q h) hA (fun mem' t H1 locs1 ht _ hp hB _ _ hS1 => ?_)
      have h := kk 0 mem' (by rw [zrt, if_neg h1, if_pos h9]) hp.2 hp.1
      unfold zres at h
      rw [if_neg h1, if_pos h9] at h
      exact h hp.2 hs hl H1 locs1 L (by rw [← ht]; exact hB) (zWd_D hD) hL hS1
    · rw [if_neg h9] at hr
      refine va_calli hr hS (fun q _ h => hA q h) hA (fun r mem' t H1 locs1 ht _ hp hB _ _ hS1 => ?_)
      have h := kk r.toInt mem' (by rw [zrt, if_neg h1, if_neg h9]; exact zi_rng r) hp.2 hp.1
      unfold zres at h
      rw [if_neg h1, if_neg h9] at h
      have g := h hp.2 (zcons (zok_i r) hs) hl H1 locs1 L (by rw [← ht]; exact hB) (zWd_D hD) hL hS1
      rw [List.map_cons, zE_i] at g
      exact g
theorem zwords {y : MethodName} {code : ByteArray} {maxL : Nat} {ret : Option FieldType} (hts : ∀ w ∈ zTbl, w.before args s = true) (hc : Cond.code y code maxL ret ∈ zTbl) : ∀ w ∈ Cond.code y code maxL ret :: zTbl, ∀ (a' : Array Value) (U : State), s.WarmedH U.vm → w.before a' U = true := by
  intro w hw a' U hW
  have hw' : w ∈ zTbl := by rcases List.mem_cons.mp hw with r | r; rw [r]; exact hc; exact r
  exact word_at hW (good_of_word (List.mem_filter.mp hw').2) (hts w hw')
/-- the callee's start, at the caller's state -/
theorem zPre_at {H : Heap} {locs : List Loc} {vs : List zV} {U : State} (hG : zGl D cs sa sv A s) (hP : va_P D zCl (zWd Λ ad cs mem) H) (hD : va_D A (zWd Λ ad cs mem)) (hS : va_S A s.heap H locs) (hA : ∀ q, zA Λ ad H.size q → A q) (hU : U.heap = H) (hW : s.WarmedH U.vm) : zPre Λ D ad sa sv cs H.size vs mem (vs.map (zE ad sa)).toArray U := by
  refine ⟨rfl, by rw [hU], zGl_call hG (by rw [hU]; exact hS) hA hW, by rw [hU]; exact hP, hD.weaken (fun k q hk _ => ?_)⟩
  obtain ⟨h1, h2⟩ := zWd_addr hk
  exact Or.inl ⟨k, h1, h2⟩
theorem zPre_blind {sz : Nat} {vs : List zV} : FrameBlind (zPre Λ D ad sa sv cs sz vs mem) := by
  intro a U g mk h
  obtain ⟨h1, h2, h3, h4, h5⟩ := h
  exact ⟨h1, h2, zGl_same (U := U.calling g mk a) h3 rfl rfl, h4, h5⟩
theorem zA_sub {H : Heap} {locs : List Loc} (hD : va_D A (zWd Λ ad cs mem)) (hS : va_S A s.heap H locs) (hA : ∀ q, s.heap.size ≤ q → A q) : ∀ q, zA Λ ad H.size q → A q := by
  intro q h
  rcases h with ⟨id, h1, h2⟩ | h
  · obtain ⟨κ, hκ⟩ : ∃ κ, Λ[id]? = some κ := ⟨Λ[id], List.getElem?_eq_getElem h1⟩
    rw [h2]
    exact hD.2 id _ (zWd_get hκ)
  · exact hA q (Nat.le_trans hS.1 h)
/-- what a call wants of the caller -/
def zCOK (p : Program) (l : Launch) (e : Env) (R : Room) (s : State) (m : MethodId) (args : Array Value) (below : List Frame) (meth : Method) (c : Code) (cells slots : Nat) (nL : Nat) (Λ : List zC) (D : va_G) (ad sa : Nat → Nat) (cs : Nat → ClassId) (A : Nat → Prop) (cc : ByteArray) (i : Instr) (tags : List Nat) (rt : Nat) (pre : List Int → zM → Prop) (post : List Int → zM → Int → zM → Prop) : Prop :=
  ∀ (Q : State → Prop) (pc : Nat) (ls : zL) (vs : List Int) (rest : List zV) (mem : zM), decode cc pc = .ok (i, 3) → vs.length = tags.length → pre vs mem → zcats rest ≤ 8 →
    (∀ (r : Int) (mem' : zM), zrt rt r → zokM Λ mem' → post vs mem r mem' → zAW p l e R s m args below meth c cells slots Q nL Λ D ad sa cs A  (pc + 3) ls (zres rt r rest) mem') → zAW p l e R s m args below meth c cells slots Q nL Λ D ad sa cs A  pc ls ((tags.zip vs).reverse ++ rest) mem
theorem zrev {vs rest : List zV} (hs : ∀ w ∈ vs.reverse ++ rest, zok w) : (∀ w ∈ vs, zok w) ∧ ∀ w ∈ rest, zok w :=
  ⟨fun w hw => hs w (List.mem_append_left _ (List.mem_reverse.mpr hw)), fun w hw => hs w (List.mem_append_right _ hw)⟩
theorem zparams {y : MethodName} {n : Nat} (h : (parseMethodDescriptor y.desc).map (fun d => d.parameters.length) = some n) : ∀ sig, parseMethodDescriptor y.desc = some sig → n = sig.parameters.length := by
  intro sig hs
  rw [hs] at h
  exact (Option.some.inj h).symm
/-- facts of a callee's name that a program decides -/
def zNm (y : MethodName) (n : Nat) : Prop := (y.cls ≠ "java/lang/invoke/MethodHandle" ∧ y.cls ≠ "java/lang/invoke/VarHandle") ∧ (parseMethodDescriptor y.desc).map (fun d => d.parameters.length) = some n
theorem zcall_V {y : MethodName} {code : ByteArray} {maxL lv rt idx ci : Nat} {ret : Option FieldType} {tags : List Nat} {pre : List Int → zM → Prop} {post : List Int → zM → Int → zM → Prop} {q : vw_C}
    (S : CallFix p m c cc nL s args zTbl own) (hG : zGl D cs sa sv A s) (hA : ∀ q, s.heap.size ≤ q → A q) (hM : zMet l Λ y code maxL ret lv (2 :: tags) rt pre post) (hnm : zNm y tags.length) (hcode : Cond.code y code maxL ret ∈ zTbl) (hini : Cond.initialized y.cls ∈ zTbl) (hin : Cond.instanceMethod y ∈ zTbl) (hsel : Cond.selects y.cls y y ∈ zTbl)
    (hlk : Cond.methodLink own idx y ∈ zTbl ∨ ∃ host, Cond.methodLinkNest own idx y host ∈ lw_tbl) (hq : zCl[ci]? = some q) (hqn : q.1 = y.cls) (hrc : ∀ vs mem, pre vs mem → ∃ (a : Int) (tl : List Int) (fs : List (Nat × Nat)), vs = a :: tl ∧ Λ[a.toNat]? = some (0, ci, fs))
    (hR : lv + 2 + 1 ≤ R.frames ∧ 8 + (maxL + 11) + (40 * lv + 100) ≤ R.locals) (hf : cells ≤ R.cells ∧ slots ≤ R.slots) : zCOK p l e R s m args below meth c cells slots nL Λ D ad sa cs A cc (.invokevirtual idx) (2 :: tags) rt pre post := by
  intro Q pc ls vs rest mem hd hlen hpre hcat kk
  obtain ⟨a, tl, fs, rfl, hΛ⟩ := hrc vs mem hpre
  intro hm hs hl H locs L hP hD hL hS
  obtain ⟨hsv, hsr⟩ := zrev hs
  have hAs := zA_sub (s := s) hD hS hA
  have hM' := hM D ad sa sv cs H.size (a :: tl) mem hlen hsv hm hpre
  have hrecv := va_recv (s := s) hG.1 hP hq (zWd_get (ad := ad) (cs := cs) (mem := mem) hΛ)
  rw [hqn] at hrecv
  have hlt : tl.length = tags.length := Nat.succ.inj hlen
  have hn : ((tags.zip tl).map (zE ad sa)).length = tags.length := by rw [List.length_map, List.length_zip, hlt, Nat.min_self]
  have hst : ((((2 :: tags).zip (a :: tl)).reverse ++ rest).map (zE ad sa)) = ((tags.zip tl).map (zE ad sa)).reverse ++ .ref (ad a.toNat) :: rest.map (zE ad sa) := by
    rw [List.zip_cons_cons, List.reverse_cons, List.append_assoc, List.map_append, List.map_reverse]
    rfl
  have hp : PreV s H y.cls (ad a.toNat) (zPre Λ D ad sa sv cs H.size ((2 :: tags).zip (a :: tl)) mem) ((tags.zip tl).map (zE ad sa)) :=
    ⟨zPre_blind, hrecv, fun U hU hW => zPre_at (vs := (2 :: tags).zip (a :: tl)) hG hP hD hS hAs hU hW⟩
  have hcw : 2 * (F0 m pc L ((((2 :: tags).zip (a :: tl)).reverse ++ rest).map (zE ad sa))).monitorRoom + ((rest.map (zE ad sa)).map fun v => v.category).sum ≤ 8 := lv_room (by rw [zcats_E]; exact hcat)
  obtain ⟨hx, hb, hml, hown, hts⟩ := id S
  refine zcall_end (rt := rt) (post := post (a :: tl) mem) hm hl hsr hP hD hL hS hAs (av := (Value.ref (ad a.toNat) :: (tags.zip tl).map (zE ad sa)).toArray) ?_ kk
  rcases hlk with hlk | ⟨host, hlk⟩
  · exact va_runV S hM' (C := y.cls) ⟨⟨rfl, rfl, hR.1, hR.2, zwords hts hcode, List.mem_cons_self, hts _ hcode, hts _ hini, hnm.1, zparams hnm.2, hts _ hlk⟩, hts _ hin, hts _ hsel⟩ hp rfl hn hL.1 hst hcw hd hf
  · exact va_runVN S hM' (C := y.cls) (host := host) ⟨⟨⟨rfl, rfl, hR.1, hR.2, zwords hts hcode, List.mem_cons_self⟩, hts _ hcode, hts _ hini, hnm.1, zparams hnm.2, va_Nw.use rfl (hG.2.1 _ hlk rfl)⟩, hts _ hin, hts _ hsel⟩ hp rfl hn hL.1 hst hcw hd hf
theorem zcall_S {y : MethodName} {code : ByteArray} {maxL lv rt idx : Nat} {ret : Option FieldType} {tags : List Nat} {pre : List Int → zM → Prop} {post : List Int → zM → Int → zM → Prop}
    (S : CallFix p m c cc nL s args zTbl own) (hG : zGl D cs sa sv A s) (hA : ∀ q, s.heap.size ≤ q → A q) (hM : zMet l Λ y code maxL ret lv tags rt pre post) (hnm : zNm y tags.length) (hcode : Cond.code y code maxL ret ∈ zTbl) (hini : Cond.initialized y.cls ∈ zTbl) (hst : Cond.static y ∈ zTbl)
    (hlk : Cond.methodLink own idx y ∈ zTbl ∨ ∃ host, Cond.methodLinkNest own idx y host ∈ lw_tbl)
    (hR : lv + 2 + 1 ≤ R.frames ∧ 8 + (maxL + 11) + (40 * lv + 100) ≤ R.locals) (hf : cells ≤ R.cells ∧ slots ≤ R.slots) : zCOK p l e R s m args below meth c cells slots nL Λ D ad sa cs A cc (.invokestatic idx) tags rt pre post := by
  intro Q pc ls vs rest mem hd hlen hpre hcat kk
  intro hm hs hl H locs L hP hD hL hS
  obtain ⟨hsv, hsr⟩ := zrev hs
  have hAs := zA_sub (s := s) hD hS hA
  have hM' := hM D ad sa sv cs H.size vs mem hlen hsv hm hpre
  have hn : ((tags.zip vs).map (zE ad sa)).length = tags.length := by rw [List.length_map, List.length_zip, hlen, Nat.min_self]
  have hstk : (((tags.zip vs).reverse ++ rest).map (zE ad sa)) = ((tags.zip vs).map (zE ad sa)).reverse ++ rest.map (zE ad sa) := by
    rw [List.map_append, List.map_reverse]
  have hp : PreS s H (zPre Λ D ad sa sv cs H.size (tags.zip vs) mem) ((tags.zip vs).map (zE ad sa)) :=
    ⟨zPre_blind, fun U hU hW => zPre_at hG hP hD hS hAs hU hW⟩
  have hcw : 2 * (F0 m pc L (((tags.zip vs).reverse ++ rest).map (zE ad sa))).monitorRoom + ((rest.map (zE ad sa)).map fun v => v.category).sum ≤ 8 := lv_room (by rw [zcats_E]; exact hcat)
  obtain ⟨hx, hb, hml, hown, hts⟩ := id S
  refine zcall_end (rt := rt) (post := post vs mem) hm hl hsr hP hD hL hS hAs (av := ((tags.zip vs).map (zE ad sa)).toArray) ?_ kk
  rcases hlk with hlk | ⟨host, hlk⟩
  · exact va_runS S hM' ⟨⟨rfl, rfl, hR.1, hR.2, zwords hts hcode, List.mem_cons_self, hts _ hcode, hts _ hini, hnm.1, zparams hnm.2, hts _ hlk⟩, hts _ hst⟩ hp rfl hn hL.1 hstk hcw hd hf
  · exact va_runSN S hM' (host := host) ⟨⟨⟨rfl, rfl, hR.1, hR.2, zwords hts hcode, List.mem_cons_self⟩, hts _ hcode, hts _ hini, hnm.1, zparams hnm.2, va_Nw.use rfl (hG.2.1 _ hlk rfl)⟩, hts _ hst, trivial⟩ hp rfl hn hL.1 hstk hcw hd hf
end ZU
end
section
/-! ===== what must hold ahead of a stretch of code ===== -/
abbrev zCt : Type := List Nat × Nat × (List Int → zM → Prop) × (List Int → zM → Int → zM → Prop)
abbrev zPo : Type := Nat → Option (Nat × Nat × Nat × Int)
abbrev zJ : Type := Nat → zL → List zV → zM → Prop
def zp1 (t : Nat) (st : List zV) (f : Int → List zV → Prop) : Prop := match st with
  | [] => False
  | a :: r => a.1 = t ∧ f a.2 r
def zpv (st : List zV) (f : zV → List zV → Prop) : Prop := match st with
  | [] => False
  | a :: r => f a r
def zarr (Λ : List zC) (kd : Nat) (a : Int) (f : Nat → List (Nat × Nat) → Prop) : Prop := match Λ[a.toNat]? with
  | none => False
  | some κ => κ.1 = kd ∧ f κ.2.1 κ.2.2
def zob (Λ : List zC) (a : Int) (ci f : Nat) (F : Nat × Nat → Prop) : Prop := match Λ[a.toNat]? with
  | none => False
  | some κ => κ.1 = 0 ∧ κ.2.1 = ci ∧ match κ.2.2[f]? with
    | none => False
    | some t => F t
def zpl (pl : zPo) (k kd : Nat) (F : Nat → Nat → Int → Prop) : Prop := match pl k with
  | none => False
  | some q => q.1 = kd ∧ F q.2.1 q.2.2.1 q.2.2.2
def ztg (pc : Nat) (off : Int) (J : Nat → Prop) : Prop := 0 ≤ (pc : Int) + off ∧ J ((pc : Int) + off).toNat
def zswT (pc : Nat) (J : Nat → Prop) (x : Int) : Int → List Int → Prop
  | _, [] => True
  | k, o :: r => (x = k → ztg pc o J) ∧ zswT pc J x (k + 1) r
def zswL (pc : Nat) (J : Nat → Prop) (x d : Int) : List (Int × Int) → Prop
  | [] => ztg pc d J
  | q :: r => (x = q.1 → ztg pc q.2 J) ∧ (¬ x = q.1 → zswL pc J x d r)
def zaa (K : Nat → Prop) (i : Int) : Int → List (Nat × Nat) → Prop
  | _, [] => True
  | k, t :: r => (i = k → K t.2) ∧ zaa K i (k + 1) r
def zinv (Λ : List zC) (ct : Option zCt) (st : List zV) (mem : zM) (K : List zV → zM → Prop) : Prop := match ct with
  | none => False
  | some q => (st.take q.1.length).map (·.1) = q.1.reverse ∧ zcats (st.drop q.1.length) ≤ 8 ∧ q.2.2.1 ((st.take q.1.length).map (·.2)).reverse mem ∧
      ∀ (r : Int) (mem' : zM), zrt q.2.1 r → zokM Λ mem' → q.2.2.2 ((st.take q.1.length).map (·.2)).reverse mem r mem' → K (zres q.2.1 r (st.drop q.1.length)) mem'
/-- one instruction -/
def zwI (Λ : List zC) (pl : zPo) (cv cS : Nat → Option zCt) (rt : Nat) (RP : Int → zM → Prop) (thr : Nat → Option Nat) (XP : Nat → zM → Prop) (nL : Nat) (i : Instr) (n pc : Nat) (ls : zL) (st : List zV) (mem : zM) (J : zJ) (K : zL → List zV → zM → Prop) : Prop := match i with
  | .iconst x => n = 1 ∧ (-1 ≤ x ∧ x ≤ 5) ∧ K ls ((0, x) :: st) mem
  | .bipush x => n = 2 ∧ (-128 ≤ x ∧ x ≤ 127) ∧ K ls ((0, x) :: st) mem
  | .sipush x => n = 3 ∧ (-32768 ≤ x ∧ x ≤ 32767) ∧ K ls ((0, x) :: st) mem
  | .lconst x => n = 1 ∧ K ls ((1, ((x : Nat) : Int)) :: st) mem
  | .ldc k => n = 2 ∧ (zpl pl k 1 (fun _ _ z => K ls ((0, z) :: st) mem) ∨ zpl pl k 3 (fun x _ _ => K ls ((3, ((3 + x : Nat) : Int)) :: st) mem))
  | .ldc_w k => n = 3 ∧ zpl pl k 1 (fun _ _ z => K ls ((0, z) :: st) mem)
  | .ldc2_w k => n = 3 ∧ zpl pl k 2 (fun _ _ z => K ls ((1, z) :: st) mem)
  | .getstatic k => n = 3 ∧ zpl pl k 4 (fun x _ _ => K ls ((3, (x : Int)) :: st) mem)
  | .iload_n k => n = 1 ∧ (ls k.val).1 = 0 ∧ K ls (ls k.val :: st) mem
  | .iload k => n = 2 ∧ (ls k).1 = 0 ∧ K ls (ls k :: st) mem
  | .lload_n k => n = 1 ∧ (ls k.val).1 = 1 ∧ K ls (ls k.val :: st) mem
  | .lload k => n = 2 ∧ (ls k).1 = 1 ∧ K ls (ls k :: st) mem
  | .aload_n k => n = 1 ∧ ((ls k.val).1 = 2 ∨ (ls k.val).1 = 3) ∧ K ls (ls k.val :: st) mem
  | .aload k => n = 2 ∧ ((ls k).1 = 2 ∨ (ls k).1 = 3) ∧ K ls (ls k :: st) mem
  | .istore_n k => n = 1 ∧ k.val < nL ∧ zp1 0 st fun x r => K (zst ls k.val (0, x)) r mem
  | .istore k => n = 2 ∧ k < nL ∧ zp1 0 st fun x r => K (zst ls k (0, x)) r mem
  | .lstore_n k => n = 1 ∧ k.val + 1 < nL ∧ zp1 1 st fun x r => K (zst2 ls k.val (1, x)) r mem
  | .lstore k => n = 2 ∧ k + 1 < nL ∧ zp1 1 st fun x r => K (zst2 ls k (1, x)) r mem
  | .astore_n k => n = 1 ∧ k.val < nL ∧ zpv st fun v r => (v.1 = 2 ∨ v.1 = 3) ∧ K (zst ls k.val v) r mem
  | .astore k => n = 2 ∧ k < nL ∧ zpv st fun v r => (v.1 = 2 ∨ v.1 = 3) ∧ K (zst ls k v) r mem
  | .iinc k x => n = 3 ∧ k < nL ∧ (ls k).1 = 0 ∧ K (zst ls k (0, zAdd (ls k).2 x)) st mem
  | .iadd => n = 1 ∧ zp1 0 st fun y r => zp1 0 r fun x r => K ls ((0, zAdd x y) :: r) mem
  | .isub => n = 1 ∧ zp1 0 st fun y r => zp1 0 r fun x r => K ls ((0, zSub x y) :: r) mem
  | .imul => n = 1 ∧ zp1 0 st fun y r => zp1 0 r fun x r => K ls ((0, zMul x y) :: r) mem
  | .idiv => n = 1 ∧ zp1 0 st fun y r => zp1 0 r fun x r => ¬ y = 0 ∧ K ls ((0, zDiv x y) :: r) mem
  | .irem => n = 1 ∧ zp1 0 st fun y r => zp1 0 r fun x r => ¬ y = 0 ∧ K ls ((0, zRem x y) :: r) mem
  | .iand => n = 1 ∧ zp1 0 st fun y r => zp1 0 r fun x r => K ls ((0, zAnd x y) :: r) mem
  | .ior => n = 1 ∧ zp1 0 st fun y r => zp1 0 r fun x r => K ls ((0, zOr x y) :: r) mem
  | .ixor => n = 1 ∧ zp1 0 st fun y r => zp1 0 r fun x r => K ls ((0, zXor x y) :: r) mem
  | .ishl => n = 1 ∧ zp1 0 st fun y r => zp1 0 r fun x r => K ls ((0, zShl x y) :: r) mem
  | .ishr => n = 1 ∧ zp1 0 st fun y r => zp1 0 r fun x r => K ls ((0, zShr x y) :: r) mem
  | .iushr => n = 1 ∧ zp1 0 st fun y r => zp1 0 r fun x r => K ls ((0, zUsh x y) :: r) mem
  | .ineg => n = 1 ∧ zp1 0 st fun x r => K ls ((0, zNeg x) :: r) mem
  | .i2b => n = 1 ∧ zp1 0 st fun x r => K ls ((0, zI2b x) :: r) mem
  | .i2l => n = 1 ∧ zp1 0 st fun x r => K ls ((1, x) :: r) mem
  | .l2i => n = 1 ∧ zp1 1 st fun x r => K ls ((0, zL2i x) :: r) mem
  | .ladd => n = 1 ∧ zp1 1 st fun y r => zp1 1 r fun x r => K ls ((1, zLAdd x y) :: r) mem
  | .lmul => n = 1 ∧ zp1 1 st fun y r => zp1 1 r fun x r => K ls ((1, zLMul x y) :: r) mem
  | .ldiv => n = 1 ∧ zp1 1 st fun y r => zp1 1 r fun x r => ¬ y = 0 ∧ K ls ((1, zLDiv x y) :: r) mem
  | .lrem => n = 1 ∧ zp1 1 st fun y r => zp1 1 r fun x r => ¬ y = 0 ∧ K ls ((1, zLRem x y) :: r) mem
  | .lcmp => n = 1 ∧ zp1 1 st fun y r => zp1 1 r fun x r => K ls ((0, zLcmp x y) :: r) mem
  | .dup => n = 1 ∧ zpv st fun v r => v.1 ≠ 1 ∧ K ls (v :: v :: r) mem
  | .pop => n = 1 ∧ zpv st fun v r => v.1 ≠ 1 ∧ K ls r mem
  | .dup2 => n = 1 ∧ zpv st fun v r => v.1 ≠ 1 ∧ zpv r fun w r => w.1 ≠ 1 ∧ K ls (v :: w :: v :: w :: r) mem
  | .ifCond c o => n = 3 ∧ 0 ≤ (pc : Int) + o ∧ zp1 0 st fun x r => (zCmp c x 0 → J ((pc : Int) + o).toNat ls r mem) ∧ (¬ zCmp c x 0 → K ls r mem)
  | .if_icmp c o => n = 3 ∧ 0 ≤ (pc : Int) + o ∧ zp1 0 st fun y r => zp1 0 r fun x r => (zCmp c x y → J ((pc : Int) + o).toNat ls r mem) ∧ (¬ zCmp c x y → K ls r mem)
  | .goto o => n = 3 ∧ ztg pc o fun t => J t ls st mem
  | .ifnonnull o => n = 3 ∧ zpv st fun v r => (v.1 = 2 ∨ v.1 = 3) ∧ ztg pc o fun t => J t ls r mem
  | .ifnull _ => n = 3 ∧ zpv st fun v r => (v.1 = 2 ∨ v.1 = 3) ∧ K ls r mem
  | .tableswitch d lo hi offs => zp1 0 st fun x r => (offs.size : Int) = hi - lo + 1 ∧ ((x < lo ∨ hi < x) → ztg pc d fun t => J t ls r mem) ∧ zswT pc (fun t => J t ls r mem) x lo offs.toList
  | .lookupswitch d ps => zp1 0 st fun x r => (ps.toList.zip (ps.toList.drop 1)).all (fun (a, next) => a.1 < next.1) = true ∧ zswL pc (fun t => J t ls r mem) x d ps.toList
  | .getfield k => n = 3 ∧ zp1 2 st fun a r => zpl pl k 0 fun ci f _ => zob Λ a ci f fun t => (t.1 = 0 ∨ t.1 = 2 ∨ t.1 = 4) ∧ K ls (zFv t (mem a.toNat f) :: r) mem
  | .putfield k => n = 3 ∧ zp1 0 st fun v r => zp1 2 r fun a r => zpl pl k 0 fun ci f w => zob Λ a ci f fun t => (t.1 = 0 ∧ w = 1 ∨ t.1 = 4 ∧ w = 2 ∧ (v = 0 ∨ v = 1)) ∧ K ls r (zset mem a.toNat f v)
  | .iaload => n = 1 ∧ zp1 0 st fun i r => zpv r fun a r => (a.1 = 2 ∧ zarr Λ 1 a.2 fun N _ => (0 ≤ i ∧ i < N) ∧ K ls ((0, mem a.2.toNat i.toNat) :: r) mem) ∨ (a.1 = 3 ∧ match zStV[a.2.toNat]? with
      | none => False
      | some vs => (0 ≤ i ∧ i < vs.length) ∧ K ls ((0, vs.getD i.toNat 0) :: r) mem)
  | .laload => n = 1 ∧ zp1 0 st fun i r => zp1 2 r fun a r => zarr Λ 2 a fun N _ => (0 ≤ i ∧ i < N) ∧ K ls ((1, mem a.toNat i.toNat) :: r) mem
  | .baload => n = 1 ∧ zp1 0 st fun i r => zp1 2 r fun a r => (zarr Λ 3 a fun N _ => (0 ≤ i ∧ i < N) ∧ K ls ((0, mem a.toNat i.toNat) :: r) mem) ∨ (zarr Λ 4 a fun N _ => (0 ≤ i ∧ i < N) ∧ K ls ((0, mem a.toNat i.toNat) :: r) mem)
  | .aaload => n = 1 ∧ zp1 0 st fun i r => zp1 2 r fun a r => zarr Λ 5 a fun N ts => (0 ≤ i ∧ i < N ∧ ts.length = N) ∧ zaa (fun t => K ls ((2, (t : Int)) :: r) mem) i 0 ts
  | .iastore => n = 1 ∧ zp1 0 st fun v r => zp1 0 r fun i r => zp1 2 r fun a r => zarr Λ 1 a fun N _ => (0 ≤ i ∧ i < N) ∧ K ls r (zset mem a.toNat i.toNat v)
  | .lastore => n = 1 ∧ zp1 1 st fun v r => zp1 0 r fun i r => zp1 2 r fun a r => zarr Λ 2 a fun N _ => (0 ≤ i ∧ i < N) ∧ K ls r (zset mem a.toNat i.toNat v)
  | .bastore => n = 1 ∧ zp1 0 st fun v r => zp1 0 r fun i r => zp1 2 r fun a r => (zarr Λ 3 a fun N _ => (0 ≤ i ∧ i < N) ∧ (v = 0 ∨ v = 1) ∧ K ls r (zset mem a.toNat i.toNat v)) ∨ (zarr Λ 4 a fun N _ => (0 ≤ i ∧ i < N) ∧ (-128 ≤ v ∧ v ≤ 127) ∧ K ls r (zset mem a.toNat i.toNat v))
  | .arraylength => n = 1 ∧ zp1 2 st fun a r => (zarr Λ 1 a fun N _ => N ≤ 2147483647 ∧ K ls ((0, (N : Int)) :: r) mem) ∨ (zarr Λ 2 a fun N _ => N ≤ 2147483647 ∧ K ls ((0, (N : Int)) :: r) mem)
  | .invokevirtual k => n = 3 ∧ zinv Λ (cv k) st mem (K ls)
  | .invokestatic k => n = 3 ∧ (zinv Λ (cS k) st mem (K ls) ∨ zpl pl k 6 fun _ _ _ => zp1 0 st fun N r => zp1 0 r fun dp r => zp1 2 r fun b r => zp1 0 r fun sp r => zp1 2 r fun a r => r = [] ∧ zarr Λ 1 a fun na _ => zarr Λ 1 b fun nb _ => (0 ≤ sp ∧ 0 ≤ dp ∧ 0 ≤ N ∧ sp + N ≤ na ∧ dp + N ≤ nb) ∧ K ls [] (zcopy mem a.toNat sp.toNat b.toNat dp.toNat N.toNat))
  | .ireturn => n = 1 ∧ zp1 0 st fun v r => r = [] ∧ (rt = 0 ∨ rt = 4 ∧ (v = 0 ∨ v = 1)) ∧ RP v mem
  | .lreturn => n = 1 ∧ zp1 1 st fun v r => r = [] ∧ rt = 1 ∧ RP v mem
  | .return_ => n = 1 ∧ st = [] ∧ rt = 9 ∧ RP 0 mem
  | .new _ => st = [] ∧ match thr pc with
    | none => False
    | some E => XP E mem
  | _ => False
def zrun (Λ : List zC) (pl : zPo) (cv cS : Nat → Option zCt) (rt : Nat) (RP : Int → zM → Prop) (thr : Nat → Option Nat) (XP : Nat → zM → Prop) (nL : Nat) (J : zJ) : List (Instr × Nat) → zJ
  | [], pc, ls, st, mem => J pc ls st mem
  | q :: r, pc, ls, st, mem => zwI Λ pl cv cS rt RP thr XP nL q.1 q.2 pc ls st mem J (fun ls' st' mem' => zrun Λ pl cv cS rt RP thr XP nL J r (pc + q.2) ls' st' mem')
def zwp (Λ : List zC) (pl : zPo) (cv cS : Nat → Option zCt) (rt : Nat) (RP : Int → zM → Prop) (thr : Nat → Option Nat) (XP : Nat → zM → Prop) (nL : Nat) (B : Nat → List (Instr × Nat)) (X : Nat → Option (zL → List zV → zM → Prop)) : Nat → zJ
  | 0 => fun _ _ _ _ => False
  | f + 1 => fun pc ls st mem => zrun Λ pl cv cS rt RP thr XP nL (fun pc' ls' st' mem' => match X pc' with
      | some Jn => Jn ls' st' mem'
      | none => zwp Λ pl cv cS rt RP thr XP nL B X f pc' ls' st' mem') (B pc) pc ls st mem
def zdec (cc : ByteArray) : Nat → List (Instr × Nat) → Prop
  | _, [] => True
  | pc, q :: r => decode cc pc = .ok (q.1, q.2) ∧ zdec cc (pc + q.2) r
/-- what the entries of a pool say -/
def zPlok (own : String) (pl : zPo) : Prop := ∀ (k kd x y : Nat) (z : Int), pl k = some (kd, x, y, z) →
  (kd = 0 → ∃ q : vw_C, zCl[x]? = some q ∧ y < q.2.2 ∧ (q.2.1 y).1 = q.1 ∧ (Cond.fieldLink own k q.1 (q.2.1 y).2.1 (q.2.1 y).2.2.1 ∈ zTbl ∨ ∃ host, Cond.fieldLinkNest own k q.1 (q.2.1 y).2.1 (q.2.1 y).2.2.1 host ∈ lw_tbl) ∧ (z = 1 → (q.2.1 y).2.2.2 = false ∧ parseFieldDescriptor (q.2.1 y).2.2.1 = some .int) ∧ (z = 2 → (q.2.1 y).2.2.2 = false ∧ parseFieldDescriptor (q.2.1 y).2.2.1 = some .boolean)) ∧
  (kd = 1 → Cond.constant own k (Int32.ofInt z) ∈ zTbl ∧ zR32 z) ∧ (kd = 2 → Cond.constantLong own k (Int64.ofInt z) ∈ zTbl ∧ zR64 z) ∧ (kd = 3 → ∃ tx, (own, k, tx, x) ∈ zTxR) ∧
  (kd = 4 → ∃ nm, zStN[x]? = some nm ∧ (Cond.fieldLink own k "SandRails" nm "[I" ∈ zTbl ∨ ∃ host, Cond.fieldLinkNest own k "SandRails" nm "[I" host ∈ lw_tbl)) ∧ (kd = 6 → Cond.methodLink own k arraycopyName ∈ zTbl)
def zClok : Prop := ∀ (ci : Nat) (q : vw_C), zCl[ci]? = some q → (∀ w ∈ u_ws q.1 q.2.1 q.2.2, w ∈ zTbl) ∧ ∃ ty0 : Nat → FieldType, (∀ k, k < q.2.2 → parseFieldDescriptor (q.2.1 k).2.2.1 = some (ty0 k)) ∧ ∀ a, a < q.2.2 → ∀ b, b < q.2.2 → a ≠ b → (q.2.1 a).2.1 ≠ (q.2.1 b).2.1
def zSyok : Prop := Cond.native arraycopyName ∈ zTbl ∧ Cond.static arraycopyName ∈ zTbl ∧ Cond.initialized "java/lang/System" ∈ zTbl
end
section
/-! ===== the rows together ===== -/
theorem zp1_inv {t : Nat} {st : List zV} {f : Int → List zV → Prop} (h : zp1 t st f) : ∃ x r, st = (t, x) :: r ∧ f x r := by
  cases st with
  | nil => exact h.elim
  | cons v r => obtain ⟨a, b⟩ := v; obtain ⟨h1, h2⟩ := h; dsimp only at h1; subst h1; exact ⟨b, r, rfl, h2⟩
theorem zpv_inv {st : List zV} {f : zV → List zV → Prop} (h : zpv st f) : ∃ v r, st = v :: r ∧ f v r := by
  cases st with
  | nil => exact h.elim
  | cons v r => exact ⟨v, r, rfl, h⟩
theorem zarr_inv {Λ : List zC} {kd : Nat} {a : Int} {f : Nat → List (Nat × Nat) → Prop} (h : zarr Λ kd a f) : ∃ n ts, Λ[a.toNat]? = some (kd, n, ts) ∧ f n ts := by
  unfold zarr at h
  cases hq : Λ[a.toNat]? with
  | none => rw [hq] at h; exact h.elim
  | some κ => rw [hq] at h; obtain ⟨k, n, ts⟩ := κ; obtain ⟨h1, h2⟩ := h; dsimp only at h1; subst h1; exact ⟨n, ts, rfl, h2⟩
theorem zob_inv {Λ : List zC} {a : Int} {ci f : Nat} {F : Nat × Nat → Prop} (h : zob Λ a ci f F) : ∃ fs t, Λ[a.toNat]? = some (0, ci, fs) ∧ fs[f]? = some t ∧ F t := by
  unfold zob at h
  cases hq : Λ[a.toNat]? with
  | none => rw [hq] at h; exact h.elim
  | some κ =>
    rw [hq] at h
    obtain ⟨k, n, ts⟩ := κ
    obtain ⟨h1, h2, h3⟩ := h
    dsimp only at h1 h2 h3
    subst h1; subst h2
    cases ht : ts[f]? with
    | none => rw [ht] at h3; exact h3.elim
    | some t => rw [ht] at h3; exact ⟨ts, t, rfl, ht, h3⟩
theorem zpl_inv {pl : zPo} {k kd : Nat} {F : Nat → Nat → Int → Prop} (h : zpl pl k kd F) : ∃ x y z, pl k = some (kd, x, y, z) ∧ F x y z := by
  unfold zpl at h
  cases hq : pl k with
  | none => rw [hq] at h; exact h.elim
  | some q => rw [hq] at h; obtain ⟨a, x, y, z⟩ := q; obtain ⟨h1, h2⟩ := h; dsimp only at h1; subst h1; exact ⟨x, y, z, rfl, h2⟩
theorem ztg_inv {pc : Nat} {off : Int} {J : Nat → Prop} (h : ztg pc off J) : ∃ t : Nat, (pc : Int) + off = (t : Int) ∧ J t := ⟨_, by have := h.1; omega, h.2⟩
theorem zswT_inv {pc : Nat} {J : Nat → Prop} {x : Int} : ∀ {k : Int} {os : List Int}, zswT pc J x k os → k ≤ x → x < k + os.length → ∃ (o : Int), os[(x - k).toNat]? = some o ∧ ztg pc o J := by
  intro k os
  induction os generalizing k with
  | nil => intro _ h1 h2; simp at h2; omega
  | cons o r ih =>
    intro h h1 h2
    by_cases hx : x = k
    · subst hx
      exact ⟨o, by simp, h.1 rfl⟩
    · obtain ⟨o', g1, g2⟩ := ih h.2 (by omega) (by simp at h2 ⊢; omega)
      refine ⟨o', ?_, g2⟩
      have e : (x - k).toNat = (x - (k + 1)).toNat + 1 := by omega
      rw [e, List.getElem?_cons_succ]
      exact g1
theorem zswL_inv {pc : Nat} {J : Nat → Prop} {x d : Int} : ∀ {ps : List (Int × Int)}, zswL pc J x d ps → ∃ o, Op.lookupswitch.offset ps d x = o ∧ ztg pc o J := by
  intro ps
  induction ps with
  | nil => intro h; exact ⟨d, rfl, h⟩
  | cons q r ih =>
    intro h
    obtain ⟨a, o⟩ := q
    by_cases hx : x = a
    · refine ⟨o, ?_, h.1 hx⟩
      rw [Op.lookupswitch.offset_cons, if_pos hx.symm]
    · obtain ⟨o', g1, g2⟩ := ih (h.2 hx)
      refine ⟨o', ?_, g2⟩
      rw [Op.lookupswitch.offset_cons, if_neg (fun q => hx q.symm)]
      exact g1
theorem zaa_inv {K : Nat → Prop} {i : Int} : ∀ {k : Int} {ts : List (Nat × Nat)}, zaa K i k ts → k ≤ i → i < k + ts.length → ∃ t, ts[(i - k).toNat]? = some t ∧ K t.2 := by
  intro k ts
  induction ts generalizing k with
  | nil => intro _ h1 h2; simp at h2; omega
  | cons o r ih =>
    intro h h1 h2
    by_cases hx : i = k
    · subst hx
      exact ⟨o, by simp, h.1 rfl⟩
    · obtain ⟨o', g1, g2⟩ := ih h.2 (by omega) (by simp at h2 ⊢; omega)
      refine ⟨o', ?_, g2⟩
      have e : (i - k).toNat = (i - (k + 1)).toNat + 1 := by omega
      rw [e, List.getElem?_cons_succ]
      exact g1
theorem zzip (l : List zV) : (l.map (·.1)).zip (l.map (·.2)) = l := by
  induction l with
  | nil => rfl
  | cons a r ih => simp only [List.map_cons, List.zip_cons_cons, ih]
section ZX
variable {p : Program} {l : Launch} {e : Env} {R : Room} {s : State} {m : MethodId} {args : Array Value} {below : List Frame} {meth : Method} {c : Code} {cells slots : Nat} {Q : State → Prop} {cc : ByteArray} {nL : Nat} {own : String} {Λ : List zC} {D : va_G} {ad sa sv : Nat → Nat} {cs : Nat → ClassId} {A : Nat → Prop} {pc : Nat} {ls : zL} {st : List zV} {mem : zM}
theorem zinv_sound {ct : Option zCt} {i : Instr} {K : List zV → zM → Prop} (hc : ∀ q, ct = some q → zCOK p l e R s m args below meth c cells slots nL Λ D ad sa cs A cc i q.1 q.2.1 q.2.2.1 q.2.2.2) (hd : decode cc pc = .ok (i, 3)) (hK : ∀ st mem, K st mem → zAW p l e R s m args below meth c cells slots Q nL Λ D ad sa cs A  (pc + 3) ls st mem) (h : zinv Λ ct st mem K) : zAW p l e R s m args below meth c cells slots Q nL Λ D ad sa cs A  pc ls st mem := by
  unfold zinv at h
  cases hq : ct with
  | none => rw [hq] at h; exact h.elim
  | some q =>
    rw [hq] at h
    obtain ⟨h1, h2, h3, h4⟩ := h
    have hvl : (((st.take q.1.length).map (·.2)).reverse).length = q.1.length := by
      have := congrArg List.length h1
      simp only [List.length_map, List.length_reverse] at this ⊢
      exact this
    have hz : (q.1.zip ((st.take q.1.length).map (·.2)).reverse).reverse = st.take q.1.length := by
      have e1 : q.1 = ((st.take q.1.length).reverse).map (·.1) := by rw [List.map_reverse, h1, List.reverse_reverse]
      have e2 : ((st.take q.1.length).map (·.2)).reverse = ((st.take q.1.length).reverse).map (·.2) := by rw [List.map_reverse]
      rw [e2]
      conv => lhs; arg 1; arg 1; rw [e1]
      rw [zzip, List.reverse_reverse]
    have := hc q hq Q pc ls _ (st.drop q.1.length) mem hd hvl h3 h2 (fun r mem' a b c => hK _ _ (h4 r mem' a b c))
    rw [hz, List.take_append_drop] at this
    exact this
/-- what is known where a method ends -/
def zRet (p : Program) (l : Launch) (e : Env) (R : Room) (s : State) (m : MethodId) (args : Array Value) (below : List Frame) (meth : Method) (c : Code) (cells slots : Nat) (Q : State → Prop) (nL : Nat) (Λ : List zC) (D : va_G) (ad sa : Nat → Nat) (cs : Nat → ClassId) (A : Nat → Prop) (cc : ByteArray) (rt : Nat) (RP : Int → zM → Prop) : Prop :=
  (∀ pc ls v mem, decode cc pc = .ok (.ireturn, 1) → (rt = 0 ∨ rt = 4 ∧ (v = 0 ∨ v = 1)) → RP v mem → zAW p l e R s m args below meth c cells slots Q nL Λ D ad sa cs A  pc ls [(0, v)] mem) ∧ (∀ pc ls v mem, decode cc pc = .ok (.lreturn, 1) → rt = 1 → RP v mem → zAW p l e R s m args below meth c cells slots Q nL Λ D ad sa cs A  pc ls [(1, v)] mem) ∧ (∀ pc ls mem, decode cc pc = .ok (.return_, 1) → rt = 9 → RP 0 mem → zAW p l e R s m args below meth c cells slots Q nL Λ D ad sa cs A  pc ls [] mem)
set_option maxHeartbeats 4000000 in
theorem zwI_sound {pl : zPo} {cv cS : Nat → Option zCt} {rt : Nat} {RP : Int → zM → Prop} {thr : Nat → Option Nat} {XP : Nat → zM → Prop} (S : CallFix p m c cc nL s args zTbl own) (hG : zGl D cs sa sv A s) (hpl : zPlok own pl) (hcl : zClok) (hsy : zSyok) (hR : 1 ≤ R.frames ∧ 30 ≤ R.locals)
    (hcv : ∀ k q, cv k = some q → zCOK p l e R s m args below meth c cells slots nL Λ D ad sa cs A cc (.invokevirtual k) q.1 q.2.1 q.2.2.1 q.2.2.2) (hcS : ∀ k q, cS k = some q → zCOK p l e R s m args below meth c cells slots nL Λ D ad sa cs A cc (.invokestatic k) q.1 q.2.1 q.2.2.1 q.2.2.2)
    (hret : zRet p l e R s m args below meth c cells slots Q nL Λ D ad sa cs A cc rt RP) (hthr : ∀ pc E ls mem, thr pc = some E → XP E mem → zAW p l e R s m args below meth c cells slots Q nL Λ D ad sa cs A  pc ls [] mem)
    {J : zJ} (hJ : ∀ pc ls st mem, J pc ls st mem → zAW p l e R s m args below meth c cells slots Q nL Λ D ad sa cs A  pc ls st mem) {i : Instr} {n : Nat} {K : zL → List zV → zM → Prop} (hd : decode cc pc = .ok (i, n)) (hK : ∀ ls st mem, K ls st mem → zAW p l e R s m args below meth c cells slots Q nL Λ D ad sa cs A  (pc + n) ls st mem) (h : zwI Λ pl cv cS rt RP thr XP nL i n pc ls st mem J K) : zAW p l e R s m args below meth c cells slots Q nL Λ D ad sa cs A  pc ls st mem := by
  obtain ⟨hx, hb, hml, hown, hts⟩ := id S
  have hKv := hG.1
  cases i with
  | iconst x => obtain ⟨rfl, h1, h2⟩ := h; exact zs_iconst hx hb hd h1 (hK _ _ _ h2)
  | bipush x => obtain ⟨rfl, h1, h2⟩ := h; exact zs_bipush hx hb hd h1 (hK _ _ _ h2)
  | sipush x => obtain ⟨rfl, h1, h2⟩ := h; exact zs_sipush hx hb hd h1 (hK _ _ _ h2)
  | lconst x => obtain ⟨rfl, h2⟩ := h; exact zs_lconst hx hb hd (hK _ _ _ h2)
  | ldc k =>
    obtain ⟨rfl, h | h⟩ := h
    · obtain ⟨x, y, z, h1, h2⟩ := zpl_inv h
      have g := (hpl k _ _ _ _ h1).2.1 rfl
      exact zs_ldc hx hb hown (hts _ g.1) hd g.2 (hK _ _ _ h2)
    · obtain ⟨x, y, z, h1, h2⟩ := zpl_inv h
      obtain ⟨tx, g⟩ := (hpl k _ _ _ _ h1).2.2.2.1 rfl
      exact zs_push (zok_c _) (fun H locs L rest _ _ w => va_ldcS hx hb hown (hG.2.2.2.2.1 _ g) hd w) (hK _ _ _ h2)
  | ldc_w k =>
    obtain ⟨rfl, h⟩ := h
    obtain ⟨x, y, z, h1, h2⟩ := zpl_inv h
    have g := (hpl k _ _ _ _ h1).2.1 rfl
    exact zs_ldcw hx hb hown (hts _ g.1) hd g.2 (hK _ _ _ h2)
  | ldc2_w k =>
    obtain ⟨rfl, h⟩ := h
    obtain ⟨x, y, z, h1, h2⟩ := zpl_inv h
    have g := (hpl k _ _ _ _ h1).2.2.1 rfl
    exact zs_ldc2 hx hb hown (hts _ g.1) hd g.2 (hK _ _ _ h2)
  | getstatic k =>
    obtain ⟨rfl, h⟩ := h
    obtain ⟨x, y, z, h1, h2⟩ := zpl_inv h
    obtain ⟨nm, g1, g2⟩ := (hpl k _ _ _ _ h1).2.2.2.2.1 rfl
    have hxl : x < zStV.length := (List.getElem?_eq_some_iff.mp g1).1
    have hZ := (hG.2.2.1 x nm _ g1 (List.getElem?_eq_getElem hxl)).1
    refine zs_push (len := 3) (v := (3, (x : Int))) (zok_c _) (fun H locs L rest _ hS w => ?_) (hK _ _ _ h2)
    rcases g2 with g2 | ⟨host, g2⟩
    · exact va_gets hx hb hZ hS hown (hts _ g2) (fun _ q => q) hd w
    · exact va_getsN hx hb hZ hS hown (va_Nw.use rfl (hG.2.1 _ g2 rfl)) (fun _ q => q) hd w
  | iload_n k => obtain ⟨rfl, h1, h2⟩ := h; exact zs_iload_n hx hb hd h1 (hK _ _ _ h2)
  | iload k => obtain ⟨rfl, h1, h2⟩ := h; exact zs_iload hx hb hd h1 (hK _ _ _ h2)
  | lload_n k => obtain ⟨rfl, h1, h2⟩ := h; exact zs_lload_n hx hb hd h1 (hK _ _ _ h2)
  | lload k => obtain ⟨rfl, h1, h2⟩ := h; exact zs_lload hx hb hd h1 (hK _ _ _ h2)
  | aload_n k => obtain ⟨rfl, h1, h2⟩ := h; exact zs_aload_n hx hb hd h1 (hK _ _ _ h2)
  | aload k => obtain ⟨rfl, h1, h2⟩ := h; exact zs_aload hx hb hd h1 (hK _ _ _ h2)
  | istore_n k => obtain ⟨rfl, h1, h2⟩ := h; obtain ⟨x, r, rfl, h3⟩ := zp1_inv h2; exact zs_istore_n hx hb hd h1 (hK _ _ _ h3)
  | istore k => obtain ⟨rfl, h1, h2⟩ := h; obtain ⟨x, r, rfl, h3⟩ := zp1_inv h2; exact zs_istore hx hb hd h1 (hK _ _ _ h3)
  | lstore_n k => obtain ⟨rfl, h1, h2⟩ := h; obtain ⟨x, r, rfl, h3⟩ := zp1_inv h2; exact zs_lstore_n hx hb hd h1 (hK _ _ _ h3)
  | lstore k => obtain ⟨rfl, h1, h2⟩ := h; obtain ⟨x, r, rfl, h3⟩ := zp1_inv h2; exact zs_lstore hx hb hd h1 (hK _ _ _ h3)
  | astore_n k => obtain ⟨rfl, h1, h2⟩ := h; obtain ⟨v, r, rfl, h3, h4⟩ := zpv_inv h2; exact zs_astore_n hx hb hd h3 h1 (hK _ _ _ h4)
  | astore k => obtain ⟨rfl, h1, h2⟩ := h; obtain ⟨v, r, rfl, h3, h4⟩ := zpv_inv h2; exact zs_astore hx hb hd h3 h1 (hK _ _ _ h4)
  | iinc k x => obtain ⟨rfl, h1, h2, h3⟩ := h; exact zs_iinc hx hb hd h2 h1 (hK _ _ _ h3)
  | iadd => obtain ⟨rfl, h⟩ := h; obtain ⟨y, r, rfl, hh1⟩ := zp1_inv h; obtain ⟨x, r, rfl, hh2⟩ := zp1_inv hh1; exact zs_ii rfl (fun _ _ _ _ w => lv_iadd hx hb hd w) (hK _ _ _ hh2)
  | isub => obtain ⟨rfl, h⟩ := h; obtain ⟨y, r, rfl, hh1⟩ := zp1_inv h; obtain ⟨x, r, rfl, hh2⟩ := zp1_inv hh1; exact zs_ii rfl (fun _ _ _ _ w => lv_isub hx hb hd w) (hK _ _ _ hh2)
  | imul => obtain ⟨rfl, h⟩ := h; obtain ⟨y, r, rfl, hh1⟩ := zp1_inv h; obtain ⟨x, r, rfl, hh2⟩ := zp1_inv hh1; exact zs_ii rfl (fun _ _ _ _ w => lv_imul hx hb hd w) (hK _ _ _ hh2)
  | idiv =>
    obtain ⟨rfl, h⟩ := h; obtain ⟨y, r, rfl, hh1⟩ := zp1_inv h; obtain ⟨x, r, rfl, h0, hh2⟩ := zp1_inv hh1
    intro hm hs hl H locs L hP hD hL hS
    have hy := zhi hs
    exact zs_ii (st := r) (x := x) (y := y) rfl (fun _ _ _ _ w => lv_idiv hx hb hd (fun q => h0 ((zq_eq hy zR0).mp q)) w) (hK _ _ _ hh2) hm hs hl H locs L hP hD hL hS
  | irem =>
    obtain ⟨rfl, h⟩ := h; obtain ⟨y, r, rfl, hh1⟩ := zp1_inv h; obtain ⟨x, r, rfl, h0, hh2⟩ := zp1_inv hh1
    intro hm hs hl H locs L hP hD hL hS
    have hy := zhi hs
    exact zs_ii (st := r) (x := x) (y := y) rfl (fun _ _ _ _ w => lv_irem hx hb hd (fun q => h0 ((zq_eq hy zR0).mp q)) w) (hK _ _ _ hh2) hm hs hl H locs L hP hD hL hS
  | iand => obtain ⟨rfl, h⟩ := h; obtain ⟨y, r, rfl, hh1⟩ := zp1_inv h; obtain ⟨x, r, rfl, hh2⟩ := zp1_inv hh1; exact zs_ii rfl (fun _ _ _ _ w => lv_iand hx hb hd w) (hK _ _ _ hh2)
  | ior => obtain ⟨rfl, h⟩ := h; obtain ⟨y, r, rfl, hh1⟩ := zp1_inv h; obtain ⟨x, r, rfl, hh2⟩ := zp1_inv hh1; exact zs_ii rfl (fun _ _ _ _ w => lv_ior hx hb hd w) (hK _ _ _ hh2)
  | ixor => obtain ⟨rfl, h⟩ := h; obtain ⟨y, r, rfl, hh1⟩ := zp1_inv h; obtain ⟨x, r, rfl, hh2⟩ := zp1_inv hh1; exact zs_ii rfl (fun _ _ _ _ w => lv_ixor hx hb hd w) (hK _ _ _ hh2)
  | ishl => obtain ⟨rfl, h⟩ := h; obtain ⟨y, r, rfl, hh1⟩ := zp1_inv h; obtain ⟨x, r, rfl, hh2⟩ := zp1_inv hh1; exact zs_ii rfl (fun _ _ _ _ w => lv_ishl hx hb hd w) (hK _ _ _ hh2)
  | ishr => obtain ⟨rfl, h⟩ := h; obtain ⟨y, r, rfl, hh1⟩ := zp1_inv h; obtain ⟨x, r, rfl, hh2⟩ := zp1_inv hh1; exact zs_ii rfl (fun _ _ _ _ w => lv_ishr hx hb hd w) (hK _ _ _ hh2)
  | iushr => obtain ⟨rfl, h⟩ := h; obtain ⟨y, r, rfl, hh1⟩ := zp1_inv h; obtain ⟨x, r, rfl, hh2⟩ := zp1_inv hh1; exact zs_ii rfl (fun _ _ _ _ w => lv_iushr hx hb hd rfl w) (hK _ _ _ hh2)
  | ineg => obtain ⟨rfl, h⟩ := h; obtain ⟨x, r, rfl, hh1⟩ := zp1_inv h; exact zs_i1 rfl (fun _ _ _ _ w => lv_ineg hx hb hd w) (hK _ _ _ hh1)
  | i2b => obtain ⟨rfl, h⟩ := h; obtain ⟨x, r, rfl, hh1⟩ := zp1_inv h; exact zs_i1 rfl (fun _ _ _ _ w => lv_i2b hx hb hd rfl w) (hK _ _ _ hh1)
  | i2l => obtain ⟨rfl, h⟩ := h; obtain ⟨x, r, rfl, hh1⟩ := zp1_inv h; exact zs_i2l hx hb hd (hK _ _ _ hh1)
  | l2i => obtain ⟨rfl, h⟩ := h; obtain ⟨x, r, rfl, hh1⟩ := zp1_inv h; exact zs_l2i hx hb hd (hK _ _ _ hh1)
  | ladd => obtain ⟨rfl, h⟩ := h; obtain ⟨y, r, rfl, hh1⟩ := zp1_inv h; obtain ⟨x, r, rfl, hh2⟩ := zp1_inv hh1; exact zs_ll rfl (fun _ _ _ _ w => lv_ladd hx hb hd w) (hK _ _ _ hh2)
  | lmul => obtain ⟨rfl, h⟩ := h; obtain ⟨y, r, rfl, hh1⟩ := zp1_inv h; obtain ⟨x, r, rfl, hh2⟩ := zp1_inv hh1; exact zs_ll rfl (fun _ _ _ _ w => lv_lmul hx hb hd w) (hK _ _ _ hh2)
  | ldiv =>
    obtain ⟨rfl, h⟩ := h; obtain ⟨y, r, rfl, hh1⟩ := zp1_inv h; obtain ⟨x, r, rfl, h0, hh2⟩ := zp1_inv hh1
    intro hm hs hl H locs L hP hD hL hS
    have hy := zhl hs
    exact zs_ll (st := r) (x := x) (y := y) rfl (fun _ _ _ _ w => lv_ldiv hx hb hd (fun q => h0 (by rw [← zl_toInt hy, q]; rfl)) w) (hK _ _ _ hh2) hm hs hl H locs L hP hD hL hS
  | lrem =>
    obtain ⟨rfl, h⟩ := h; obtain ⟨y, r, rfl, hh1⟩ := zp1_inv h; obtain ⟨x, r, rfl, h0, hh2⟩ := zp1_inv hh1
    intro hm hs hl H locs L hP hD hL hS
    have hy := zhl hs
    exact zs_ll (st := r) (x := x) (y := y) rfl (fun _ _ _ _ w => lv_lrem hx hb hd (fun q => h0 (by rw [← zl_toInt hy, q]; rfl)) w) (hK _ _ _ hh2) hm hs hl H locs L hP hD hL hS
  | lcmp => obtain ⟨rfl, h⟩ := h; obtain ⟨y, r, rfl, hh1⟩ := zp1_inv h; obtain ⟨x, r, rfl, hh2⟩ := zp1_inv hh1; exact zs_lcmp hx hb hd (hK _ _ _ hh2)
  | dup => obtain ⟨rfl, h⟩ := h; obtain ⟨v, r, rfl, h1, hh1⟩ := zpv_inv h; exact zs_dup hx hb hd h1 (hK _ _ _ hh1)
  | pop => obtain ⟨rfl, h⟩ := h; obtain ⟨v, r, rfl, h1, hh1⟩ := zpv_inv h; exact zs_pop hx hb hd h1 (hK _ _ _ hh1)
  | dup2 => obtain ⟨rfl, h⟩ := h; obtain ⟨v, r, rfl, h1, hh1⟩ := zpv_inv h; obtain ⟨w, r, rfl, h2, hh2⟩ := zpv_inv hh1; exact zs_dup2 hx hb hd h1 h2 (hK _ _ _ hh2)
  | ifCond cd o =>
    obtain ⟨rfl, h0, h⟩ := h; obtain ⟨x, r, rfl, h1, h2⟩ := zp1_inv h
    exact zs_if (tgt := ((pc : Int) + o).toNat) hx hb hd (by omega) (fun q => hJ _ _ _ _ (h1 q)) (fun q => hK _ _ _ (h2 q))
  | if_icmp cd o =>
    obtain ⟨rfl, h0, h⟩ := h; obtain ⟨y, r, rfl, hh1⟩ := zp1_inv h; obtain ⟨x, r, rfl, h1, h2⟩ := zp1_inv hh1
    exact zs_icmp (tgt := ((pc : Int) + o).toNat) hx hb hd (by omega) (fun q => hJ _ _ _ _ (h1 q)) (fun q => hK _ _ _ (h2 q))
  | goto o => obtain ⟨rfl, h⟩ := h; obtain ⟨t, h1, h2⟩ := ztg_inv h; exact zs_goto hx hb hd h1 (hJ _ _ _ _ h2)
  | ifnonnull o => obtain ⟨rfl, h⟩ := h; obtain ⟨v, r, rfl, h1, hh1⟩ := zpv_inv h; obtain ⟨t, h2, h3⟩ := ztg_inv hh1; exact zs_ifnonnull hx hb hd h2 h1 (hJ _ _ _ _ h3)
  | ifnull o => obtain ⟨rfl, h⟩ := h; obtain ⟨v, r, rfl, h1, hh1⟩ := zpv_inv h; exact zs_ifnull hx hb hd h1 (hK _ _ _ hh1)
  | tableswitch d lo hi offs =>
    simp only [zwI] at h
    obtain ⟨x, r, rfl, h0, h1, h2⟩ := zp1_inv h
    by_cases ho : x < lo ∨ hi < x
    · obtain ⟨t, g1, g2⟩ := ztg_inv (h1 ho); exact zs_tableOut hx hb hd ho g1 (hJ _ _ _ _ g2)
    · have hlen : (offs.toList.length : Int) = hi - lo + 1 := by rw [Array.length_toList]; exact h0
      obtain ⟨o, g1, g2⟩ := zswT_inv h2 (by omega) (by omega)
      obtain ⟨t, g3, g4⟩ := ztg_inv g2
      exact zs_tableIn hx hb hd (by omega) (by omega) (by rw [← Array.getElem?_toList]; exact g1) g3 (hJ _ _ _ _ g4)
  | lookupswitch d ps =>
    simp only [zwI] at h
    obtain ⟨x, r, rfl, h0, h1⟩ := zp1_inv h
    obtain ⟨o, g1, g2⟩ := zswL_inv h1
    obtain ⟨t, g3, g4⟩ := ztg_inv g2
    exact zs_lookup hx hb hd h0 g1 g3 (hJ _ _ _ _ g4)
  | getfield k =>
    obtain ⟨rfl, h⟩ := h; obtain ⟨a, r, rfl, hh1⟩ := zp1_inv h
    obtain ⟨ci, f, z, h1, hh2⟩ := zpl_inv hh1
    obtain ⟨fs, t, h2, h3, h4, h5⟩ := zob_inv hh2
    obtain ⟨q, g1, g2, g3, g4, -, -⟩ := (hpl k _ _ _ _ h1).1 rfl
    refine zs_getfield hx hb hown hts (hcl ci q g1).1 hKv hd g1 ⟨g2, g3, ?_⟩ h2 h3 h4 (hK _ _ _ h5)
    rcases g4 with g4 | ⟨host, g4⟩
    · exact Or.inl (hts _ g4)
    · exact Or.inr ⟨host, va_Nw.use rfl (hG.2.1 _ g4 rfl)⟩
  | putfield k =>
    obtain ⟨rfl, h⟩ := h; obtain ⟨v, r, rfl, hh1⟩ := zp1_inv h; obtain ⟨a, r, rfl, hh2⟩ := zp1_inv hh1
    obtain ⟨ci, f, z, h1, hh3⟩ := zpl_inv hh2
    obtain ⟨fs, t, h2, h3, h4, h5⟩ := zob_inv hh3
    obtain ⟨q, g1, g2, g3, g4, g5, g6⟩ := (hpl k _ _ _ _ h1).1 rfl
    obtain ⟨c1, ty0, c2, c3⟩ := hcl ci q g1
    have hF : zFL own s args k q f := ⟨g2, g3, by
      rcases g4 with g4 | ⟨host, g4⟩
      · exact Or.inl (hts _ g4)
      · exact Or.inr ⟨host, va_Nw.use rfl (hG.2.1 _ g4 rfl)⟩⟩
    rcases h4 with ⟨t0, w1⟩ | ⟨t0, w1, v01⟩
    · exact zs_putfield hx hb hown hts c1 c2 c3 hKv hd g1 hF (g5 w1).1 h2 h3 (Or.inl ⟨t0, (g5 w1).2⟩) (hK _ _ _ h5)
    · exact zs_putfield hx hb hown hts c1 c2 c3 hKv hd g1 hF (g6 w1).1 h2 h3 (Or.inr ⟨t0, (g6 w1).2, v01⟩) (hK _ _ _ h5)
  | iaload =>
    obtain ⟨rfl, h⟩ := h; obtain ⟨i, r, rfl, hh1⟩ := zp1_inv h; obtain ⟨v, r, rfl, hh2⟩ := zpv_inv hh1
    obtain ⟨tg, a⟩ := v
    rcases hh2 with ⟨h0, hh2⟩ | ⟨h0, hh2⟩
    · dsimp only at h0; subst h0
      obtain ⟨N, ts, h1, h2, h3⟩ := zarr_inv hh2
      exact zs_iaload hx hb hKv hd h1 h2.1 h2.2 (hK _ _ _ h3)
    · dsimp only at h0 hh2; subst h0
      cases hv : zStV[a.toNat]? with
      | none => rw [hv] at hh2; exact hh2.elim
      | some vs =>
        rw [hv] at hh2
        obtain ⟨⟨h1, h2⟩, h3⟩ := hh2
        have hlt : a.toNat < zStN.length := (List.getElem?_eq_some_iff.mp hv).1
        have hT := (hG.2.2.1 a.toNat _ vs (List.getElem?_eq_getElem hlt) hv).2
        intro hm hs hl H locs L hP hD hL hS
        have hi := zhi hs
        have hok : zok (0, vs.getD i.toNat 0) := by
          have hall : ∀ us ∈ zStV, ∀ j, zR32 (us.getD j 0) := by
            intro us hus j
            have hb2 : ∀ us ∈ zStV, ∀ w ∈ us, 0 ≤ w ∧ w ≤ 9999 := by decide
            cases hj : us[j]? with
            | none => rw [List.getD_eq_getElem?_getD, hj]; exact zR0
            | some w => rw [List.getD_eq_getElem?_getD, hj]; have := hb2 us hus w (List.mem_of_getElem? hj); exact ⟨by show _ ≤ w; omega, by show w ≤ _; omega⟩
          exact zok_i' (hall vs (List.mem_of_getElem? hv) _)
        refine va_ti hx hb hT hS (zin hi h1 h2) (v := .int (Int32.ofInt (vs.getD i.toNat 0))) (by rw [zcl_i hi]) hd ?_
        exact hK _ _ _ h3 hm (zcons hok (ztl (ztl hs))) hl H locs L hP hD hL hS
  | laload => obtain ⟨rfl, h⟩ := h; obtain ⟨i, r, rfl, hh1⟩ := zp1_inv h; obtain ⟨a, r, rfl, hh2⟩ := zp1_inv hh1; obtain ⟨N, ts, h1, h2, h3⟩ := zarr_inv hh2; exact zs_laload hx hb hKv hd h1 h2.1 h2.2 (hK _ _ _ h3)
  | baload =>
    obtain ⟨rfl, h⟩ := h; obtain ⟨i, r, rfl, hh1⟩ := zp1_inv h; obtain ⟨a, r, rfl, hh2⟩ := zp1_inv hh1
    rcases hh2 with hh2 | hh2
    · obtain ⟨N, ts, h1, h2, h3⟩ := zarr_inv hh2; exact zs_zaload hx hb hKv hd h1 h2.1 h2.2 (hK _ _ _ h3)
    · obtain ⟨N, ts, h1, h2, h3⟩ := zarr_inv hh2; exact zs_baload hx hb hKv hd h1 h2.1 h2.2 (hK _ _ _ h3)
  | aaload =>
    obtain ⟨rfl, h⟩ := h; obtain ⟨i, r, rfl, hh1⟩ := zp1_inv h; obtain ⟨a, r, rfl, hh2⟩ := zp1_inv hh1
    obtain ⟨N, ts, h1, ⟨h2, h3, h4⟩, h5⟩ := zarr_inv hh2
    obtain ⟨t, g1, g2⟩ := zaa_inv h5 h2 (by rw [h4]; omega)
    exact zs_aaload hx hb hKv hd h1 h2 h3 (by simpa using g1) (hK _ _ _ g2)
  | iastore => obtain ⟨rfl, h⟩ := h; obtain ⟨v, r, rfl, hh1⟩ := zp1_inv h; obtain ⟨i, r, rfl, hh2⟩ := zp1_inv hh1; obtain ⟨a, r, rfl, hh3⟩ := zp1_inv hh2; obtain ⟨N, ts, h1, h2, h3⟩ := zarr_inv hh3; exact zs_iastore hx hb hKv hd h1 h2.1 h2.2 (hK _ _ _ h3)
  | lastore => obtain ⟨rfl, h⟩ := h; obtain ⟨v, r, rfl, hh1⟩ := zp1_inv h; obtain ⟨i, r, rfl, hh2⟩ := zp1_inv hh1; obtain ⟨a, r, rfl, hh3⟩ := zp1_inv hh2; obtain ⟨N, ts, h1, h2, h3⟩ := zarr_inv hh3; exact zs_lastore hx hb hKv hd h1 h2.1 h2.2 (hK _ _ _ h3)
  | bastore =>
    obtain ⟨rfl, h⟩ := h; obtain ⟨v, r, rfl, hh1⟩ := zp1_inv h; obtain ⟨i, r, rfl, hh2⟩ := zp1_inv hh1; obtain ⟨a, r, rfl, hh3⟩ := zp1_inv hh2
    rcases hh3 with hh3 | hh3
    · obtain ⟨N, ts, h1, h2, h3, h4⟩ := zarr_inv hh3; exact zs_zastore hx hb hKv hd h1 h2.1 h2.2 h3 (hK _ _ _ h4)
    · obtain ⟨N, ts, h1, h2, h3, h4⟩ := zarr_inv hh3; exact zs_bastore hx hb hKv hd h1 h2.1 h2.2 h3 (hK _ _ _ h4)
  | arraylength =>
    obtain ⟨rfl, h⟩ := h; obtain ⟨a, r, rfl, hh1⟩ := zp1_inv h
    rcases hh1 with hh1 | hh1
    · obtain ⟨N, ts, h1, h2, h3⟩ := zarr_inv hh1; exact zs_alen hx hb hKv hd h1 (Or.inl rfl) h2 (hK _ _ _ h3)
    · obtain ⟨N, ts, h1, h2, h3⟩ := zarr_inv hh1; exact zs_alen hx hb hKv hd h1 (Or.inr rfl) h2 (hK _ _ _ h3)
  | invokevirtual k => obtain ⟨rfl, h⟩ := h; exact zinv_sound (fun q hq => hcv k q hq) hd (fun st mem w => hK _ _ _ w) h
  | invokestatic k =>
    obtain ⟨rfl, h | h⟩ := h
    · exact zinv_sound (fun q hq => hcS k q hq) hd (fun st mem w => hK _ _ _ w) h
    · obtain ⟨x, y, z, h1, hh1⟩ := zpl_inv h
      obtain ⟨N, r, rfl, hh2⟩ := zp1_inv hh1; obtain ⟨dp, r, rfl, hh3⟩ := zp1_inv hh2; obtain ⟨b, r, rfl, hh4⟩ := zp1_inv hh3; obtain ⟨sp, r, rfl, hh5⟩ := zp1_inv hh4; obtain ⟨a, r, rfl, rfl, hh6⟩ := zp1_inv hh5
      obtain ⟨na, ta, g1, hh7⟩ := zarr_inv hh6
      obtain ⟨nb, tb, g2, ⟨k1, k2, k3, k4, k5⟩, hh8⟩ := zarr_inv hh7
      exact zs_arraycopy hx hb hml hown (hts _ ((hpl k _ _ _ _ h1).2.2.2.2.2 rfl)) (hts _ hsy.1) (hts _ hsy.2.1) (hts _ hsy.2.2) hKv hd g1 g2 k1 k2 k3 k4 k5 hR (hK _ _ _ hh8)
  | ireturn => obtain ⟨rfl, h⟩ := h; obtain ⟨v, r, rfl, rfl, h1, h2⟩ := zp1_inv h; exact hret.1 _ _ _ _ hd h1 h2
  | lreturn => obtain ⟨rfl, h⟩ := h; obtain ⟨v, r, rfl, rfl, h1, h2⟩ := zp1_inv h; exact hret.2.1 _ _ _ _ hd h1 h2
  | return_ => obtain ⟨rfl, rfl, h1, h2⟩ := h; exact hret.2.2 _ _ _ hd h1 h2
  | new k =>
    obtain ⟨rfl, h⟩ := h
    cases hq : thr pc with
    | none => rw [hq] at h; exact h.elim
    | some E => rw [hq] at h; exact hthr _ _ _ _ hq h
  | _ => exact h.elim
end ZX
end
section
/-! ===== from a method's stretches to its contract ===== -/
def zent : Nat → List zV → zL
  | _, [] => fun _ => (9, 0)
  | k, v :: r => fun j => if j = k then v else zent (if v.1 = 1 then k + 2 else k + 1) r j
theorem zent_in {ad sa : Nat → Nat} : ∀ (vs : List zV) (k j : Nat), (zent k vs j).1 ≠ 9 → (j, zE ad sa (zent k vs j)) ∈ lv_args k (vs.map (zE ad sa)) := by
  intro vs
  induction vs with
  | nil => intro k j h; exact absurd rfl h
  | cons v r ih =>
    intro k j h
    simp only [List.map_cons, lv_args, zent]
    simp only [zent] at h
    by_cases hj : j = k
    · subst hj
      rw [if_pos rfl]
      exact List.mem_cons_self
    · rw [if_neg hj] at h ⊢
      refine List.mem_cons_of_mem _ ?_
      have e : (if (zE ad sa v).category = 2 then k + 2 else k + 1) = if v.1 = 1 then k + 2 else k + 1 := by
        rw [zE_cat]
        by_cases h1 : v.1 = 1
        · rw [if_pos h1, if_pos h1, if_pos rfl]
        · rw [if_neg h1, if_neg h1, if_neg (by decide)]
      rw [e]
      exact ih _ j h
theorem zent_ok : ∀ (vs : List zV) (k : Nat), (∀ v ∈ vs, zok v) → ∀ j, zok (zent k vs j) := by
  intro vs
  induction vs with
  | nil => intro k _ j; exact zok_n
  | cons v r ih =>
    intro k h j
    simp only [zent]
    by_cases hj : j = k
    · rw [if_pos hj]; exact h v List.mem_cons_self
    · rw [if_neg hj]; exact ih _ (fun w hw => h w (List.mem_cons_of_mem _ hw)) j
section ZY
variable {p : Program} {l : Launch} {e : Env} {R : Room} {s : State} {m : MethodId} {args : Array Value} {below : List Frame} {meth : Method} {c : Code} {cells slots : Nat} {Q : State → Prop} {cc : ByteArray} {nL : Nat} {own : String} {Λ : List zC} {D : va_G} {ad sa sv : Nat → Nat} {cs : Nat → ClassId} {A : Nat → Prop} {pc : Nat} {ls : zL} {st : List zV} {mem : zM}
theorem zrun_sound {pl : zPo} {cv cS : Nat → Option zCt} {rt : Nat} {RP : Int → zM → Prop} {thr : Nat → Option Nat} {XP : Nat → zM → Prop} (S : CallFix p m c cc nL s args zTbl own) (hG : zGl D cs sa sv A s) (hpl : zPlok own pl) (hcl : zClok) (hsy : zSyok) (hR : 1 ≤ R.frames ∧ 30 ≤ R.locals)
    (hcv : ∀ k q, cv k = some q → zCOK p l e R s m args below meth c cells slots nL Λ D ad sa cs A cc (.invokevirtual k) q.1 q.2.1 q.2.2.1 q.2.2.2) (hcS : ∀ k q, cS k = some q → zCOK p l e R s m args below meth c cells slots nL Λ D ad sa cs A cc (.invokestatic k) q.1 q.2.1 q.2.2.1 q.2.2.2)
    (hret : zRet p l e R s m args below meth c cells slots Q nL Λ D ad sa cs A cc rt RP) (hthr : ∀ pc E ls mem, thr pc = some E → XP E mem → zAW p l e R s m args below meth c cells slots Q nL Λ D ad sa cs A  pc ls [] mem)
    {J : zJ} (hJ : ∀ pc ls st mem, J pc ls st mem → zAW p l e R s m args below meth c cells slots Q nL Λ D ad sa cs A  pc ls st mem) : ∀ (b : List (Instr × Nat)) (pc : Nat) (ls : zL) (st : List zV) (mem : zM), zdec cc pc b → zrun Λ pl cv cS rt RP thr XP nL J b pc ls st mem → zAW p l e R s m args below meth c cells slots Q nL Λ D ad sa cs A  pc ls st mem := by
  intro b
  induction b with
  | nil => intro pc ls st mem _ h; exact hJ _ _ _ _ h
  | cons q r ih =>
    intro pc ls st mem hd h
    exact zwI_sound S hG hpl hcl hsy hR hcv hcS hret hthr hJ hd.1 (fun ls' st' mem' w => ih _ _ _ _ hd.2 w) h
theorem zwp_sound {pl : zPo} {cv cS : Nat → Option zCt} {rt : Nat} {RP : Int → zM → Prop} {thr : Nat → Option Nat} {XP : Nat → zM → Prop} (S : CallFix p m c cc nL s args zTbl own) (hG : zGl D cs sa sv A s) (hpl : zPlok own pl) (hcl : zClok) (hsy : zSyok) (hR : 1 ≤ R.frames ∧ 30 ≤ R.locals)
    (hcv : ∀ k q, cv k = some q → zCOK p l e R s m args below meth c cells slots nL Λ D ad sa cs A cc (.invokevirtual k) q.1 q.2.1 q.2.2.1 q.2.2.2) (hcS : ∀ k q, cS k = some q → zCOK p l e R s m args below meth c cells slots nL Λ D ad sa cs A cc (.invokestatic k) q.1 q.2.1 q.2.2.1 q.2.2.2)
    (hret : zRet p l e R s m args below meth c cells slots Q nL Λ D ad sa cs A cc rt RP) (hthr : ∀ pc E ls mem, thr pc = some E → XP E mem → zAW p l e R s m args below meth c cells slots Q nL Λ D ad sa cs A  pc ls [] mem)
    {B : Nat → List (Instr × Nat)} (hB : ∀ pc, zdec cc pc (B pc)) {X : Nat → Option (zL → List zV → zM → Prop)} (hX : ∀ pc Jn, X pc = some Jn → ∀ ls st mem, Jn ls st mem → zAW p l e R s m args below meth c cells slots Q nL Λ D ad sa cs A  pc ls st mem) : ∀ (f pc : Nat) (ls : zL) (st : List zV) (mem : zM), zwp Λ pl cv cS rt RP thr XP nL B X f pc ls st mem → zAW p l e R s m args below meth c cells slots Q nL Λ D ad sa cs A  pc ls st mem := by
  intro f
  induction f with
  | zero => intro pc ls st mem h; exact h.elim
  | succ f ih =>
    intro pc ls st mem h
    refine zrun_sound S hG hpl hcl hsy hR hcv hcS hret hthr (fun pc' ls' st' mem' w => ?_) (B pc) pc ls st mem (hB pc) h
    cases hq : X pc' with
    | none => rw [hq] at w; exact ih _ _ _ _ w
    | some Jn => rw [hq] at w; exact hX _ _ hq _ _ _ w
/-- loops: at their heads an invariant with a number that falls -/
abbrev zI : Type := Nat → Option (Nat → zL → List zV → zM → Prop)
def zBelow (I : zI) (n : Nat) : Nat → Option (zL → List zV → zM → Prop) := fun pc => (I pc).map fun J ls st mem => ∃ n', n' < n ∧ J n' ls st mem
def zAny (I : zI) : Nat → Option (zL → List zV → zM → Prop) := fun pc => (I pc).map fun J ls st mem => ∃ n', J n' ls st mem
theorem zloops {pl : zPo} {cv cS : Nat → Option zCt} {rt : Nat} {RP : Int → zM → Prop} {thr : Nat → Option Nat} {XP : Nat → zM → Prop} (S : CallFix p m c cc nL s args zTbl own) (hG : zGl D cs sa sv A s) (hpl : zPlok own pl) (hcl : zClok) (hsy : zSyok) (hR : 1 ≤ R.frames ∧ 30 ≤ R.locals)
    (hcv : ∀ k q, cv k = some q → zCOK p l e R s m args below meth c cells slots nL Λ D ad sa cs A cc (.invokevirtual k) q.1 q.2.1 q.2.2.1 q.2.2.2) (hcS : ∀ k q, cS k = some q → zCOK p l e R s m args below meth c cells slots nL Λ D ad sa cs A cc (.invokestatic k) q.1 q.2.1 q.2.2.1 q.2.2.2)
    (hret : zRet p l e R s m args below meth c cells slots Q nL Λ D ad sa cs A cc rt RP) (hthr : ∀ pc E ls mem, thr pc = some E → XP E mem → zAW p l e R s m args below meth c cells slots Q nL Λ D ad sa cs A  pc ls [] mem)
    {B : Nat → List (Instr × Nat)} (hB : ∀ pc, zdec cc pc (B pc)) {I : zI} {F : Nat} (hI : ∀ pc J, I pc = some J → ∀ n ls st mem, zokM Λ mem → (∀ k, zok (ls k)) → J n ls st mem → zwp Λ pl cv cS rt RP thr XP nL B (zBelow I n) F pc ls st mem) :
    ∀ (n pc : Nat) (J : Nat → zL → List zV → zM → Prop), I pc = some J → ∀ ls st mem, J n ls st mem → zAW p l e R s m args below meth c cells slots Q nL Λ D ad sa cs A  pc ls st mem := by
  intro n
  induction n using Nat.strongRecOn with
  | _ n ih =>
    intro pc J hJ ls st mem h hm hs hl
    refine zwp_sound S hG hpl hcl hsy hR hcv hcS hret hthr hB (X := zBelow I n) (fun pc' Jn hq ls' st' mem' w => ?_) F pc ls st mem (hI pc J hJ n ls st mem hm hl h) hm hs hl
    unfold zBelow at hq
    cases hi : I pc' with
    | none => rw [hi] at hq; cases hq
    | some J' =>
      rw [hi] at hq
      cases hq
      obtain ⟨n', h1, h2⟩ := w
      exact ih n' h1 pc' J' hi ls' st' mem' h2
end ZY
/-- a callee that is met: what a caller's proof needs of it -/
def zCallee (l : Launch) (Λ : List zC) (own : String) (idx : Nat) (virt : Bool) (LV : Nat) (q : zCt) : Prop :=
  ∃ (y : MethodName) (code : ByteArray) (maxL lv : Nat) (ret : Option FieldType), zMet l Λ y code maxL ret lv q.1 q.2.1 q.2.2.1 q.2.2.2 ∧ lv < LV ∧ maxL ≤ 20 ∧ Cond.code y code maxL ret ∈ zTbl ∧ Cond.initialized y.cls ∈ zTbl ∧ (Cond.methodLink own idx y ∈ zTbl ∨ ∃ host, Cond.methodLinkNest own idx y host ∈ lw_tbl) ∧
    (virt = true → ∃ (tl : List Nat) (ci : Nat) (r : vw_C), q.1 = 2 :: tl ∧ zNm y tl.length ∧ Cond.instanceMethod y ∈ zTbl ∧ Cond.selects y.cls y y ∈ zTbl ∧ zCl[ci]? = some r ∧ r.1 = y.cls ∧ ∀ vs mem, q.2.2.1 vs mem → ∃ (a : Int) (tv : List Int) (fs : List (Nat × Nat)), vs = a :: tv ∧ Λ[a.toNat]? = some (0, ci, fs)) ∧
    (virt = false → zNm y q.1.length ∧ Cond.static y ∈ zTbl)
/-- a text's own methods -/
def zTxC (l : Launch) (Λ : List zC) (own : String) (idx : Nat) (q : zCt) : Prop :=
  ∀ (p : Program) (e : Env) (R : Room) (s : State) (m : MethodId) (args : Array Value) (below : List Frame) (meth : Method) (c : Code) (nL : Nat) (D : va_G) (ad sa sv : Nat → Nat) (cs : Nat → ClassId) (A : Nat → Prop) (cc : ByteArray), CallFix p m c cc nL s args zTbl own → zGl D cs sa sv A s → (∀ q, s.heap.size ≤ q → A q) → 12 ≤ R.frames → 500 ≤ R.locals →
    zCOK p l e R s m args below meth c 0 0 nL Λ D ad sa cs A cc (.invokevirtual idx) q.1 q.2.1 q.2.2.1 q.2.2.2
def zRk (ret : Option FieldType) (rt : Nat) : Prop := (rt = 0 ∧ ret = some .int) ∨ (rt = 4 ∧ ret = some .boolean) ∨ (rt = 1 ∧ ret = some .long) ∨ (rt = 9 ∧ ret = none)
set_option maxHeartbeats 2000000 in
theorem zMet_of {l : Launch} {Λ : List zC} {y : MethodName} {code : ByteArray} {maxL lv rt : Nat} {ret : Option FieldType} {tags : List Nat} {pre : List Int → zM → Prop} {post : List Int → zM → Int → zM → Prop} {own : String} {pl : zPo} {cv cS : Nat → Option zCt} {B : Nat → List (Instr × Nat)} {F : Nat}
    (hy : plainName y.cls = true) (how : y.cls = own) (hrk : zRk ret rt) (hlen : ∀ vs : List Int, vs.length = tags.length → (lg_sl ((tags.zip vs).map (zE (fun x => x) (fun x => x)))).length ≤ maxL) (hpl : zPlok own pl) (hcl : zClok) (hsy : zSyok) (hB : ∀ pc, zdec code pc (B pc))
    (hcv : ∀ k q, cv k = some q → zCallee l Λ own k true lv q ∨ (zTxC l Λ own k q ∧ 10 ≤ lv)) (hcS : ∀ k q, cS k = some q → zCallee l Λ own k false lv q)
    (body : ∀ (vs : List Int) (mem : zM), vs.length = tags.length → (∀ v ∈ tags.zip vs, zok v) → zokM Λ mem → pre vs mem → ∃ I : zI,
      (∀ pc J, I pc = some J → ∀ n ls st mem', zokM Λ mem' → (∀ k, zok (ls k)) → J n ls st mem' → zwp Λ pl cv cS rt (post vs mem) (fun _ => none) (fun _ _ => False) maxL B (zBelow I n) F pc ls st mem') ∧
      zwp Λ pl cv cS rt (post vs mem) (fun _ => none) (fun _ _ => False) maxL B (zAny I) F 0 (zent 0 (tags.zip vs)) [] mem) : zMet l Λ y code maxL ret lv tags rt pre post := by
  intro D ad sa sv cs sz vs mem hvl hok hm hpre
  obtain ⟨I, hI, hE⟩ := body vs mem hvl hok hm hpre
  refine Met.ofW (cc := code) (maxL := maxL) (ret := ret) hy rfl ?_
  intro p e s m args below meth c s₁ Bd hml hv
  obtain ⟨rfl, hsz, hG, hP, hD⟩ := hv
  subst hsz
  have hx := Bd.exec
  have hb := Bd.bytes
  have hr := Bd.returns
  have hts0 := atoms_spec (ws := Cond.code y code maxL ret :: zTbl) Bd.pre
  have hts : ∀ w ∈ zTbl, w.before ((tags.zip vs).map (zE ad sa)).toArray s = true := fun w hw => hts0 w (List.mem_cons_of_mem _ hw)
  have hown : s.vm.findClass own = some m.cls := how ▸ findClass_of_methodNamed Bd.named
  have hlocks := Bd.notSynchronized
  have hA : ∀ q : Nat, s.heap.size ≤ q → zA Λ ad s.heap.size q := fun q h => Or.inr h
  have S : CallFix p m c code maxL s ((tags.zip vs).map (zE ad sa)).toArray zTbl own := ⟨hx, hb, hml, hown, hts⟩
  have hcatlen : (lg_sl ((tags.zip vs).map (zE ad sa))).length ≤ maxL := by
    have h1 := hlen vs hvl
    have h2 : ∀ (ad' sa' : Nat → Nat) (us : List zV), (lg_sl (us.map (zE ad' sa'))).length = (us.map fun v => if v.1 = 1 then 2 else 1).sum := by
      intro ad' sa' us
      induction us with
      | nil => rfl
      | cons v r ih =>
        have e : lg_sl ((v :: r).map (zE ad' sa')) = (if (zE ad' sa' v).category = 2 then [.val (zE ad' sa' v), .second] else [.val (zE ad' sa' v)]) ++ lg_sl (r.map (zE ad' sa')) := rfl
        rw [e, List.length_append, ih, zE_cat, List.map_cons, List.sum_cons]
        by_cases h1 : v.1 = 1
        · rw [if_pos h1, if_pos rfl]; rfl
        · rw [if_neg h1, if_neg (by decide)]; rfl
    rw [h2] at h1 ⊢
    exact h1
  have hl0 := lv_entry ((tags.zip vs).map (zE ad sa)) (n := maxL) hcatlen
  rw [lg_entry_eq]
  generalize (lg_sl ((tags.zip vs).map (zE ad sa)) ++ List.replicate (maxL - (lg_sl ((tags.zip vs).map (zE ad sa))).length) Slot.unset).toArray = L at hl0 ⊢
  have hL : zLs ad sa maxL (zent 0 (tags.zip vs)) L := ⟨hl0.1, hl0.2.1, fun k h9 => hl0.2.2 _ (zent_in (tags.zip vs) 0 k h9)⟩
  have hS : va_S (zA Λ ad s.heap.size) s.heap s.heap [] := va_S.rf
  have hret : zRet p l e (zRm lv) s m ((tags.zip vs).map (zE ad sa)).toArray below meth c 0 0 (MQ below (zQ rt Λ D ad cs s.heap.size (post vs mem)) ((tags.zip vs).map (zE ad sa)).toArray s 0 0 (zA Λ ad s.heap.size)) maxL Λ D ad sa cs (zA Λ ad s.heap.size) code rt (post vs mem) := by
    refine ⟨fun pc ls v mem' hd hrt hp hm' hs' _ H locs L' hP' hD' hL' hS' => ?_, fun pc ls v mem' hd hrt hp hm' hs' _ H locs L' hP' hD' hL' hS' => ?_, fun pc ls mem' hd hrt hp hm' hs' _ H locs L' hP' hD' hL' hS' => ?_⟩
    · have hvr := zhi hs'
      have hq : ∀ t : State, t.heap = H → s.WarmedH t.vm → zQ rt Λ D ad cs s.heap.size (post vs mem) ((tags.zip vs).map (zE ad sa)).toArray s (.returned (some (.int (Int32.ofInt v)))) t := by
        intro t ht _
        have h1 : ¬ rt = 1 := by omega
        have h9 : ¬ rt = 9 := by omega
        unfold zQ
        rw [if_neg h1, if_neg h9]
        exact ⟨⟨Int32.ofInt v, mem', rfl, ⟨by rw [zi_toInt hvr]; exact hp, hm'⟩, by show va_P D zCl (zWd Λ ad cs mem') t.heap; rw [ht]; exact hP'⟩, hS'.F ht⟩
      rcases hrk with ⟨k1, k2⟩ | ⟨k1, k2⟩ | ⟨k1, k2⟩ | ⟨k1, k2⟩
      · exact W.iret hx hb (hr.trans k2) hq hS'.2.2 hd
      · rcases hrt with h | ⟨_, h⟩
        · omega
        · exact W.zret (ty := .boolean) hx hb (hr.trans k2) (by rcases h with h | h <;> subst h <;> rfl) hq hS'.2.2 hd
      · omega
      · omega
    · have hvr := zhl hs'
      have hq : ∀ t : State, t.heap = H → s.WarmedH t.vm → zQ rt Λ D ad cs s.heap.size (post vs mem) ((tags.zip vs).map (zE ad sa)).toArray s (.returned (some (.long (Int64.ofInt v)))) t := by
        intro t ht _
        unfold zQ
        rw [if_pos hrt]
        exact ⟨⟨Int64.ofInt v, mem', rfl, ⟨by rw [zl_toInt hvr]; exact hp, hm'⟩, by show va_P D zCl (zWd Λ ad cs mem') t.heap; rw [ht]; exact hP'⟩, hS'.F ht⟩
      rcases hrk with ⟨k1, k2⟩ | ⟨k1, k2⟩ | ⟨k1, k2⟩ | ⟨k1, k2⟩
      · omega
      · omega
      · exact W.lret hx hb (hr.trans k2) hq hS'.2.2 hd
      · omega
    · have hq : ∀ t : State, t.heap = H → s.WarmedH t.vm → zQ rt Λ D ad cs s.heap.size (post vs mem) ((tags.zip vs).map (zE ad sa)).toArray s (.returned none) t := by
        intro t ht _
        have h1 : ¬ rt = 1 := by omega
        unfold zQ
        rw [if_neg h1, if_pos hrt]
        exact ⟨⟨mem', rfl, ⟨hp, hm'⟩, by show va_P D zCl (zWd Λ ad cs mem') t.heap; rw [ht]; exact hP'⟩, hS'.F ht⟩
      rcases hrk with ⟨k1, k2⟩ | ⟨k1, k2⟩ | ⟨k1, k2⟩ | ⟨k1, k2⟩
      · omega
      · omega
      · omega
      · exact W.vret hx hb (hr.trans k2) hq hS'.2.2 hd
  have hthr : ∀ (pc E : Nat) (ls : zL) (mem' : zM), (fun _ : Nat => (none : Option Nat)) pc = some E → (fun (_ : Nat) (_ : zM) => False) E mem' → zAW p l e (zRm lv) s m ((tags.zip vs).map (zE ad sa)).toArray below meth c 0 0 (MQ below (zQ rt Λ D ad cs s.heap.size (post vs mem)) ((tags.zip vs).map (zE ad sa)).toArray s 0 0 (zA Λ ad s.heap.size)) maxL Λ D ad sa cs (zA Λ ad s.heap.size) pc ls [] mem' := fun _ _ _ _ h => by cases h
  have hR : 1 ≤ (zRm lv).frames ∧ 30 ≤ (zRm lv).locals := ⟨by show 1 ≤ lv + 2; omega, by show 30 ≤ 40 * lv + 100; omega⟩
  have hcv' : ∀ k q, cv k = some q → zCOK p l e (zRm lv) s m ((tags.zip vs).map (zE ad sa)).toArray below meth c 0 0 maxL Λ D ad sa cs (zA Λ ad s.heap.size) code (.invokevirtual k) q.1 q.2.1 q.2.2.1 q.2.2.2 := by
    intro k q hq
    rcases hcv k q hq with hc | ⟨hc, h10⟩
    · obtain ⟨y', code', maxL', lv', ret', hM, hlt, hmx, w1, w2, w3, w4, -⟩ := hc
      obtain ⟨tl, ci, r, t1, t2, t3, t4, t5, t6, t7⟩ := w4 rfl
      obtain ⟨qt, qr, qpre, qpost⟩ := q
      dsimp only at t1 hM t7
      subst t1
      exact zcall_V S hG hA hM t2 w1 w2 t3 t4 w3 t5 t6 t7 ⟨by show lv' + 2 + 1 ≤ lv + 2; omega, by show 8 + (maxL' + 11) + (40 * lv' + 100) ≤ 40 * lv + 100; omega⟩ ⟨Nat.le_refl _, Nat.le_refl _⟩
    · exact hc p e (zRm lv) s m _ below meth c maxL D ad sa sv cs _ code S hG hA (by show 12 ≤ lv + 2; omega) (by show 500 ≤ 40 * lv + 100; omega)
  have hcS' : ∀ k q, cS k = some q → zCOK p l e (zRm lv) s m ((tags.zip vs).map (zE ad sa)).toArray below meth c 0 0 maxL Λ D ad sa cs (zA Λ ad s.heap.size) code (.invokestatic k) q.1 q.2.1 q.2.2.1 q.2.2.2 := by
    intro k q hq
    obtain ⟨y', code', maxL', lv', ret', hM, hlt, hmx, w1, w2, w3, -, w5⟩ := hcS k q hq
    obtain ⟨t1, t2⟩ := w5 rfl
    exact zcall_S S hG hA hM t1 w1 w2 t2 w3 ⟨by show lv' + 2 + 1 ≤ lv + 2; omega, by show 8 + (maxL' + 11) + (40 * lv' + 100) ≤ 40 * lv + 100; omega⟩ ⟨Nat.le_refl _, Nat.le_refl _⟩
  have hloop := zloops (e := e) (below := below) (meth := meth) (R := zRm lv) S hG hpl hcl hsy hR hcv' hcS' hret hthr hB hI
  refine zwp_sound (e := e) (below := below) (meth := meth) (R := zRm lv) S hG hpl hcl hsy hR hcv' hcS' hret hthr hB (X := zAny I) (fun pc' Jn hq ls' st' mem' w => ?_) F 0 _ [] mem hE hm (fun _ h => by cases h) (zent_ok _ 0 hok) s.heap [] L hP hD hL hS
  unfold zAny at hq
  cases hi : I pc' with
  | none => rw [hi] at hq; cases hq
  | some J' =>
    rw [hi] at hq
    cases hq
    obtain ⟨n', h2⟩ := w
    exact hloop n' pc' J' hi ls' st' mem' h2
end
