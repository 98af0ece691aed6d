/-- a block's decoding, out of its cuts -/
def zlen (b : List (Instr × Nat)) : Nat := (b.map (·.2)).sum
theorem zdecB_app {cc : ByteArray} {a b : List (Instr × Nat)} {pc q : Nat} (h1 : zdecB cc pc a = true) (h2 : zdecB cc q b = true) (hq : pc + zlen a = q := by decide) : zdecB cc pc (a ++ b) = true := by
  subst hq
  induction a generalizing pc with
  | nil => exact h2
  | cons x r ih =>
    unfold zdecB at h1
    rw [List.cons_append]
    unfold zdecB
    rw [Bool.and_eq_true] at h1 ⊢
    refine ⟨h1.1, ih h1.2 ?_⟩
    rw [show pc + x.2 + zlen r = pc + zlen (x :: r) by unfold zlen; rw [List.map_cons, List.sum_cons]; omega]
    exact h2
/-! ===== the law: blocks, calls, heads ===== -/
def BL_law : List (Nat × List (Instr × Nat)) := [(23, [(.iload 4, 2), (.aload_n 0, 1), (.arraylength, 1), (.bipush 6, 2), (.isub, 1), (.if_icmp .gt 1250, 3), (.aload_n 0, 1), (.iload 4, 2), (.iaload, 1), (.bipush 63, 2), (.iand, 1), (.tableswitch 1234 0 32 #[148, 221, 246, 262, 275, 327, 355, 395, 435, 503, 543, 595, 611, 639, 683, 699, 715, 743, 783, 796, 836, 889, 929, 969, 1010, 1023, 1036, 1064, 1089, 1129, 1185, 1196, 1209], 148)]), (188, [(.aload_n 1, 1), (.aload_n 0, 1), (.iload 4, 2), (.iconst 1, 1), (.iadd, 1), (.iaload, 1), (.aload_n 0, 1), (.iload 4, 2), (.iconst 2, 1), (.iadd, 1), (.iaload, 1), (.aload_n 0, 1), (.iload 4, 2), (.iconst 3, 1), (.iadd, 1), (.iaload, 1), (.aload_n 0, 1), (.iload 4, 2), (.iconst 4, 1), (.iadd, 1), (.iaload, 1), (.aload_n 0, 1), (.iload 4, 2), (.iconst 5, 1), (.iadd, 1), (.iaload, 1), (.invokevirtual 96, 3), (.pop, 1), (.aload_n 2, 1), (.aload_n 0, 1), (.iload 4, 2), (.iconst 1, 1), (.iadd, 1), (.iaload, 1), (.aload_n 0, 1), (.iload 4, 2), (.iconst 2, 1), (.iadd, 1), (.iaload, 1), (.aload_n 0, 1), (.iload 4, 2), (.iconst 3, 1), (.iadd, 1), (.iaload, 1), (.aload_n 0, 1), (.iload 4, 2), (.iconst 4, 1), (.iadd, 1), (.iaload, 1), (.aload_n 0, 1), (.iload 4, 2), (.iconst 5, 1), (.iadd, 1), (.iaload, 1), (.invokevirtual 100, 3), (.pop, 1), (.goto 1016, 3)]), (261, [(.aload_n 1, 1), (.aload_n 0, 1), (.iload 4, 2), (.iconst 1, 1), (.iadd, 1), (.iaload, 1), (.invokevirtual 101, 3), (.pop, 1), (.aload_n 2, 1), (.aload_n 0, 1), (.iload 4, 2), (.iconst 1, 1), (.iadd, 1), (.iaload, 1), (.invokevirtual 105, 3), (.pop, 1), (.goto 991, 3)]), (286, [(.aload_n 1, 1), (.aload_n 3, 1), (.invokestatic 106, 3), (.istore 5, 2), (.aload_n 2, 1), (.invokevirtual 111, 3), (.istore 6, 2), (.goto 975, 3)]), (302, [(.aload_n 1, 1), (.invokevirtual 112, 3), (.pop, 1), (.aload_n 2, 1), (.invokevirtual 115, 3), (.pop, 1), (.goto 962, 3)]), (315, [(.aload_n 1, 1), (.aload_n 0, 1), (.iload 4, 2), (.iconst 1, 1), (.iadd, 1), (.iaload, 1), (.aload_n 0, 1), (.iload 4, 2), (.iconst 2, 1), (.iadd, 1), (.iaload, 1), (.aload_n 0, 1), (.iload 4, 2), (.iconst 3, 1), (.iadd, 1), (.iaload, 1), (.aload_n 3, 1), (.invokestatic 116, 3), (.istore 5, 2), (.aload_n 2, 1), (.aload_n 0, 1), (.iload 4, 2), (.iconst 1, 1), (.iadd, 1), (.iaload, 1), (.aload_n 0, 1), (.iload 4, 2), (.iconst 2, 1), (.iadd, 1), (.iaload, 1), (.aload_n 0, 1), (.iload 4, 2), (.iconst 3, 1), (.iadd, 1), (.iaload, 1), (.invokevirtual 119, 3), (.istore 6, 2), (.goto 910, 3)]), (367, [(.aload_n 1, 1), (.aload_n 0, 1), (.iload 4, 2), (.iconst 1, 1), (.iadd, 1), (.iaload, 1), (.aload_n 3, 1), (.invokestatic 120, 3), (.istore 5, 2), (.aload_n 2, 1), (.aload_n 0, 1), (.iload 4, 2), (.iconst 1, 1), (.iadd, 1), (.iaload, 1), (.invokevirtual 123, 3), (.istore 6, 2), (.goto 882, 3)]), (395, [(.aload_n 1, 1), (.aload_n 0, 1), (.iload 4, 2), (.iconst 1, 1), (.iadd, 1), (.iaload, 1), (.aload_n 0, 1), (.iload 4, 2), (.iconst 2, 1), (.iadd, 1), (.iaload, 1), (.aload_n 3, 1), (.invokestatic 124, 3), (.istore 5, 2), (.aload_n 2, 1), (.aload_n 0, 1), (.iload 4, 2), (.iconst 1, 1), (.iadd, 1), (.iaload, 1), (.aload_n 0, 1), (.iload 4, 2), (.iconst 2, 1), (.iadd, 1), (.iaload, 1), (.invokevirtual 127, 3), (.istore 6, 2), (.goto 842, 3)]), (435, [(.aload_n 1, 1), (.aload_n 0, 1), (.iload 4, 2), (.iconst 1, 1), (.iadd, 1), (.iaload, 1), (.aload_n 0, 1), (.iload 4, 2), (.iconst 2, 1), (.iadd, 1), (.iaload, 1), (.aload_n 3, 1), (.invokestatic 128, 3), (.istore 5, 2), (.aload_n 2, 1), (.aload_n 0, 1), (.iload 4, 2), (.iconst 1, 1), (.iadd, 1), (.iaload, 1), (.aload_n 0, 1), (.iload 4, 2), (.iconst 2, 1), (.iadd, 1), (.iaload, 1), (.invokevirtual 130, 3), (.istore 6, 2), (.goto 802, 3)]), (475, [(.aload_n 1, 1), (.aload_n 0, 1), (.iload 4, 2), (.iconst 1, 1), (.iadd, 1), (.iaload, 1), (.aload_n 0, 1), (.iload 4, 2), (.iconst 2, 1), (.iadd, 1), (.iaload, 1), (.aload_n 3, 1), (.invokestatic 131, 3), (.istore 5, 2), (.aload_n 2, 1), (.aload_n 0, 1), (.iload 4, 2), (.iconst 1, 1), (.iadd, 1), (.iaload, 1), (.aload_n 0, 1), (.iload 4, 2), (.iconst 2, 1), (.iadd, 1), (.iaload, 1), (.invokevirtual 133, 3), (.istore 6, 2), (.aload_n 2, 1), (.invokevirtual 134, 3), (.iload 5, 2), (.if_icmp .eq 5, 3), (.iconst 0, 1), (.ireturn, 1)]), (523, [(.iload 5, 2), (.ifCond .ne 15, 3), (.aload_n 3, 1), (.iconst 0, 1), (.laload, 1), (.iload 6, 2), (.i2l, 1), (.lcmp, 1), (.ifCond .eq 5, 3), (.iconst 0, 1), (.ireturn, 1)]), (540, [(.goto 734, 3)]), (543, [(.aload_n 1, 1), (.aload_n 0, 1), (.iload 4, 2), (.iconst 1, 1), (.iadd, 1), (.iaload, 1), (.aload_n 0, 1), (.iload 4, 2), (.iconst 2, 1), (.iadd, 1), (.iaload, 1), (.aload_n 3, 1), (.invokestatic 137, 3), (.istore 5, 2), (.aload_n 2, 1), (.aload_n 0, 1), (.iload 4, 2), (.iconst 1, 1), (.iadd, 1), (.iaload, 1), (.aload_n 0, 1), (.iload 4, 2), (.iconst 2, 1), (.iadd, 1), (.iaload, 1), (.invokevirtual 139, 3), (.istore 6, 2), (.goto 694, 3)]), (583, [(.aload_n 1, 1), (.aload_n 0, 1), (.iload 4, 2), (.iconst 1, 1), (.iadd, 1), (.iaload, 1), (.aload_n 0, 1), (.iload 4, 2), (.iconst 2, 1), (.iadd, 1), (.iaload, 1), (.aload_n 0, 1), (.iload 4, 2), (.iconst 3, 1), (.iadd, 1), (.iaload, 1), (.aload_n 3, 1), (.invokestatic 140, 3), (.istore 5, 2), (.aload_n 2, 1), (.aload_n 0, 1), (.iload 4, 2), (.iconst 1, 1), (.iadd, 1), (.iaload, 1), (.aload_n 0, 1), (.iload 4, 2), (.iconst 2, 1), (.iadd, 1), (.iaload, 1), (.aload_n 0, 1), (.iload 4, 2), (.iconst 3, 1), (.iadd, 1), (.iaload, 1), (.invokevirtual 142, 3), (.istore 6, 2), (.goto 642, 3)]), (635, [(.aload_n 1, 1), (.aload_n 3, 1), (.invokestatic 143, 3), (.istore 5, 2), (.aload_n 2, 1), (.invokevirtual 145, 3), (.istore 6, 2), (.goto 626, 3)]), (651, [(.aload_n 1, 1), (.aload_n 0, 1), (.iload 4, 2), (.iconst 1, 1), (.iadd, 1), (.iaload, 1), (.aload_n 3, 1), (.invokestatic 146, 3), (.istore 5, 2), (.aload_n 2, 1), (.aload_n 0, 1), (.iload 4, 2), (.iconst 1, 1), (.iadd, 1), (.iaload, 1), (.invokevirtual 148, 3), (.istore 6, 2), (.goto 598, 3)]), (679, [(.aload_n 1, 1), (.aload_n 0, 1), (.iload 4, 2), (.iconst 1, 1), (.iadd, 1), (.iaload, 1), (.ifCond .eq 7, 3), (.iconst 1, 1), (.goto 4, 3)]), (693, [(.iconst 0, 1)]), (694, [(.aload_n 3, 1), (.invokestatic 149, 3), (.istore 5, 2), (.aload_n 2, 1), (.aload_n 0, 1), (.iload 4, 2), (.iconst 1, 1), (.iadd, 1), (.iaload, 1), (.ifCond .eq 7, 3), (.iconst 1, 1), (.goto 4, 3)]), (714, [(.iconst 0, 1)]), (715, [(.invokevirtual 152, 3), (.istore 6, 2), (.goto 554, 3)]), (723, [(.aload_n 1, 1), (.aload_n 3, 1), (.invokestatic 153, 3), (.istore 5, 2), (.aload_n 2, 1), (.invokevirtual 155, 3), (.istore 6, 2), (.goto 538, 3)]), (739, [(.aload_n 1, 1), (.aload_n 3, 1), (.invokestatic 156, 3), (.istore 5, 2), (.aload_n 2, 1), (.invokevirtual 158, 3), (.istore 6, 2), (.goto 522, 3)]), (755, [(.aload_n 1, 1), (.aload_n 0, 1), (.iload 4, 2), (.iconst 1, 1), (.iadd, 1), (.iaload, 1), (.aload_n 3, 1), (.invokestatic 159, 3), (.istore 5, 2), (.aload_n 2, 1), (.aload_n 0, 1), (.iload 4, 2), (.iconst 1, 1), (.iadd, 1), (.iaload, 1), (.invokevirtual 161, 3), (.istore 6, 2), (.goto 494, 3)]), (783, [(.aload_n 1, 1), (.aload_n 0, 1), (.iload 4, 2), (.iconst 1, 1), (.iadd, 1), (.iaload, 1), (.aload_n 0, 1), (.iload 4, 2), (.iconst 2, 1), (.iadd, 1), (.iaload, 1), (.aload_n 3, 1), (.invokestatic 162, 3), (.istore 5, 2), (.aload_n 2, 1), (.aload_n 0, 1), (.iload 4, 2), (.iconst 1, 1), (.iadd, 1), (.iaload, 1), (.aload_n 0, 1), (.iload 4, 2), (.iconst 2, 1), (.iadd, 1), (.iaload, 1), (.invokevirtual 164, 3), (.istore 6, 2), (.goto 454, 3)]), (823, [(.aload_n 1, 1), (.invokevirtual 165, 3), (.pop, 1), (.aload_n 2, 1), (.invokevirtual 168, 3), (.pop, 1), (.goto 441, 3)]), (836, [(.aload_n 1, 1), (.aload_n 0, 1), (.iload 4, 2), (.iconst 1, 1), (.iadd, 1), (.iaload, 1), (.aload_n 0, 1), (.iload 4, 2), (.iconst 2, 1), (.iadd, 1), (.iaload, 1), (.aload_n 3, 1), (.invokestatic 169, 3), (.istore 5, 2), (.aload_n 2, 1), (.aload_n 0, 1), (.iload 4, 2), (.iconst 1, 1), (.iadd, 1), (.iaload, 1), (.aload_n 0, 1), (.iload 4, 2), (.iconst 2, 1), (.iadd, 1), (.iaload, 1), (.invokevirtual 171, 3), (.istore 6, 2), (.goto 401, 3)]), (876, [(.aload_n 1, 1), (.aload_n 0, 1), (.iload 4, 2), (.iconst 1, 1), (.iadd, 1), (.iaload, 1), (.aload_n 0, 1), (.iload 4, 2), (.iconst 2, 1), (.iadd, 1), (.iaload, 1), (.ifCond .eq 7, 3), (.iconst 1, 1), (.goto 4, 3)]), (896, [(.iconst 0, 1)]), (897, [(.invokevirtual 172, 3), (.pop, 1), (.aload_n 2, 1), (.aload_n 0, 1), (.iload 4, 2), (.iconst 1, 1), (.iadd, 1), (.iaload, 1), (.aload_n 0, 1), (.iload 4, 2), (.iconst 2, 1), (.iadd, 1), (.iaload, 1), (.ifCond .eq 7, 3), (.iconst 1, 1), (.goto 4, 3)]), (921, [(.iconst 0, 1)]), (922, [(.invokevirtual 175, 3), (.pop, 1), (.goto 348, 3)]), (929, [(.aload_n 1, 1), (.aload_n 0, 1), (.iload 4, 2), (.iconst 1, 1), (.iadd, 1), (.iaload, 1), (.aload_n 0, 1), (.iload 4, 2), (.iconst 2, 1), (.iadd, 1), (.iaload, 1), (.aload_n 3, 1), (.invokestatic 176, 3), (.istore 5, 2), (.aload_n 2, 1), (.aload_n 0, 1), (.iload 4, 2), (.iconst 1, 1), (.iadd, 1), (.iaload, 1), (.aload_n 0, 1), (.iload 4, 2), (.iconst 2, 1), (.iadd, 1), (.iaload, 1), (.invokevirtual 178, 3), (.istore 6, 2), (.goto 308, 3)]), (969, [(.aload_n 1, 1), (.aload_n 0, 1), (.iload 4, 2), (.iconst 1, 1), (.iadd, 1), (.iaload, 1), (.aload_n 0, 1), (.iload 4, 2), (.iconst 2, 1), (.iadd, 1), (.iaload, 1), (.aload_n 3, 1), (.invokestatic 179, 3), (.istore 5, 2), (.aload_n 2, 1), (.aload_n 0, 1), (.iload 4, 2), (.iconst 1, 1), (.iadd, 1), (.iaload, 1), (.aload_n 0, 1), (.iload 4, 2), (.iconst 2, 1), (.iadd, 1), (.iaload, 1), (.invokevirtual 181, 3), (.istore 6, 2), (.goto 268, 3)]), (1009, [(.aload_n 1, 1), (.aload_n 0, 1), (.iload 4, 2), (.iconst 1, 1), (.iadd, 1), (.iaload, 1), (.ifCond .eq 7, 3), (.iconst 1, 1), (.goto 4, 3)]), (1023, [(.iconst 0, 1)]), (1024, [(.invokevirtual 182, 3), (.pop, 1), (.aload_n 2, 1), (.aload_n 0, 1), (.iload 4, 2), (.iconst 1, 1), (.iadd, 1), (.iaload, 1), (.ifCond .eq 7, 3), (.iconst 1, 1), (.goto 4, 3)]), (1042, [(.iconst 0, 1)]), (1043, [(.invokevirtual 186, 3), (.pop, 1), (.goto 227, 3)]), (1050, [(.aload_n 1, 1), (.invokevirtual 187, 3), (.pop, 1), (.aload_n 2, 1), (.invokevirtual 190, 3), (.pop, 1), (.goto 214, 3)]), (1063, [(.aload_n 1, 1), (.invokevirtual 191, 3), (.pop, 1), (.aload_n 2, 1), (.invokevirtual 195, 3), (.pop, 1), (.goto 201, 3)]), (1076, [(.aload_n 1, 1), (.aload_n 0, 1), (.iload 4, 2), (.iconst 1, 1), (.iadd, 1), (.iaload, 1), (.aload_n 3, 1), (.invokestatic 196, 3), (.istore 5, 2), (.aload_n 2, 1), (.aload_n 0, 1), (.iload 4, 2), (.iconst 1, 1), (.iadd, 1), (.iaload, 1), (.invokevirtual 198, 3), (.istore 6, 2), (.goto 173, 3)]), (1104, [(.aload_n 1, 1), (.aload_n 0, 1), (.iload 4, 2), (.iconst 1, 1), (.iadd, 1), (.iaload, 1), (.invokestatic 199, 3), (.istore 5, 2), (.aload_n 2, 1), (.aload_n 0, 1), (.iload 4, 2), (.iconst 1, 1), (.iadd, 1), (.iaload, 1), (.invokevirtual 202, 3), (.goto 148, 3)]), (1129, [(.aload_n 1, 1), (.aload_n 0, 1), (.iload 4, 2), (.iconst 1, 1), (.iadd, 1), (.iaload, 1), (.aload_n 0, 1), (.iload 4, 2), (.iconst 2, 1), (.iadd, 1), (.iaload, 1), (.aload_n 3, 1), (.invokestatic 203, 3), (.istore 5, 2), (.aload_n 2, 1), (.aload_n 0, 1), (.iload 4, 2), (.iconst 1, 1), (.iadd, 1), (.iaload, 1), (.aload_n 0, 1), (.iload 4, 2), (.iconst 2, 1), (.iadd, 1), (.iaload, 1), (.invokevirtual 205, 3), (.istore 6, 2), (.goto 108, 3)]), (1169, [(.aload_n 1, 1), (.aload_n 0, 1), (.iload 4, 2), (.iconst 1, 1), (.iadd, 1), (.iaload, 1), (.aload_n 0, 1), (.iload 4, 2), (.iconst 2, 1), (.iadd, 1), (.iaload, 1), (.ifCond .eq 7, 3), (.iconst 1, 1), (.goto 4, 3)]), (1189, [(.iconst 0, 1)]), (1190, [(.aload_n 3, 1), (.invokestatic 206, 3), (.istore 5, 2), (.aload_n 2, 1), (.aload_n 0, 1), (.iload 4, 2), (.iconst 1, 1), (.iadd, 1), (.iaload, 1), (.aload_n 0, 1), (.iload 4, 2), (.iconst 2, 1), (.iadd, 1), (.iaload, 1), (.ifCond .eq 7, 3), (.iconst 1, 1), (.goto 4, 3)]), (1216, [(.iconst 0, 1)]), (1217, [(.invokevirtual 209, 3), (.istore 6, 2), (.goto 52, 3)]), (1225, [(.aload_n 1, 1), (.invokevirtual 210, 3), (.aload_n 2, 1), (.invokevirtual 213, 3), (.goto 41, 3)]), (1236, [(.aload_n 1, 1), (.invokevirtual 214, 3), (.pop, 1), (.aload_n 2, 1), (.invokevirtual 217, 3), (.pop, 1), (.goto 28, 3)]), (1249, [(.aload_n 1, 1), (.aload_n 0, 1), (.iload 4, 2), (.iconst 1, 1), (.iadd, 1), (.iaload, 1), (.invokevirtual 218, 3), (.pop, 1), (.aload_n 2, 1), (.aload_n 0, 1), (.iload 4, 2), (.iconst 1, 1), (.iadd, 1), (.iaload, 1), (.invokevirtual 221, 3), (.pop, 1), (.goto 3, 3)]), (1274, [(.iinc 4 6, 3), (.goto (-1254), 3)]), (1280, [(.iconst 1, 1), (.ireturn, 1)])]
set_option maxRecDepth 100000 in
theorem dL_law_23 : zdecB cL_law 23 [(.iload 4, 2), (.aload_n 0, 1), (.arraylength, 1), (.bipush 6, 2), (.isub, 1), (.if_icmp .gt 1250, 3)] = true := by decide +kernel
set_option maxRecDepth 100000 in
theorem dL_law_33 : zdecB cL_law 33 [(.aload_n 0, 1), (.iload 4, 2), (.iaload, 1), (.bipush 63, 2), (.iand, 1), (.tableswitch 1234 0 32 #[148, 221, 246, 262, 275, 327, 355, 395, 435, 503, 543, 595, 611, 639, 683, 699, 715, 743, 783, 796, 836, 889, 929, 969, 1010, 1023, 1036, 1064, 1089, 1129, 1185, 1196, 1209], 148)] = true := by decide +kernel
set_option maxRecDepth 100000 in
theorem eL_law_23 : zdecB cL_law 23 [(.iload 4, 2), (.aload_n 0, 1), (.arraylength, 1), (.bipush 6, 2), (.isub, 1), (.if_icmp .gt 1250, 3), (.aload_n 0, 1), (.iload 4, 2), (.iaload, 1), (.bipush 63, 2), (.iand, 1), (.tableswitch 1234 0 32 #[148, 221, 246, 262, 275, 327, 355, 395, 435, 503, 543, 595, 611, 639, 683, 699, 715, 743, 783, 796, 836, 889, 929, 969, 1010, 1023, 1036, 1064, 1089, 1129, 1185, 1196, 1209], 148)] = true := zdecB_app (a := [(.iload 4, 2), (.aload_n 0, 1), (.arraylength, 1), (.bipush 6, 2), (.isub, 1), (.if_icmp .gt 1250, 3)]) dL_law_23 (dL_law_33)
set_option maxRecDepth 100000 in
theorem dL_law_188 : zdecB cL_law 188 [(.aload_n 1, 1), (.aload_n 0, 1), (.iload 4, 2), (.iconst 1, 1), (.iadd, 1), (.iaload, 1)] = true := by decide +kernel
set_option maxRecDepth 100000 in
theorem dL_law_195 : zdecB cL_law 195 [(.aload_n 0, 1), (.iload 4, 2), (.iconst 2, 1), (.iadd, 1), (.iaload, 1), (.aload_n 0, 1)] = true := by decide +kernel
set_option maxRecDepth 100000 in
theorem dL_law_202 : zdecB cL_law 202 [(.iload 4, 2), (.iconst 3, 1), (.iadd, 1), (.iaload, 1), (.aload_n 0, 1), (.iload 4, 2)] = true := by decide +kernel
set_option maxRecDepth 100000 in
theorem dL_law_210 : zdecB cL_law 210 [(.iconst 4, 1), (.iadd, 1), (.iaload, 1), (.aload_n 0, 1), (.iload 4, 2), (.iconst 5, 1)] = true := by decide +kernel
set_option maxRecDepth 100000 in
theorem dL_law_217 : zdecB cL_law 217 [(.iadd, 1), (.iaload, 1), (.invokevirtual 96, 3), (.pop, 1), (.aload_n 2, 1), (.aload_n 0, 1)] = true := by decide +kernel
set_option maxRecDepth 100000 in
theorem dL_law_225 : zdecB cL_law 225 [(.iload 4, 2), (.iconst 1, 1), (.iadd, 1), (.iaload, 1), (.aload_n 0, 1), (.iload 4, 2)] = true := by decide +kernel
set_option maxRecDepth 100000 in
theorem dL_law_233 : zdecB cL_law 233 [(.iconst 2, 1), (.iadd, 1), (.iaload, 1), (.aload_n 0, 1), (.iload 4, 2), (.iconst 3, 1)] = true := by decide +kernel
set_option maxRecDepth 100000 in
theorem dL_law_240 : zdecB cL_law 240 [(.iadd, 1), (.iaload, 1), (.aload_n 0, 1), (.iload 4, 2), (.iconst 4, 1), (.iadd, 1)] = true := by decide +kernel
set_option maxRecDepth 100000 in
theorem dL_law_247 : zdecB cL_law 247 [(.iaload, 1), (.aload_n 0, 1), (.iload 4, 2), (.iconst 5, 1), (.iadd, 1), (.iaload, 1)] = true := by decide +kernel
set_option maxRecDepth 100000 in
theorem dL_law_254 : zdecB cL_law 254 [(.invokevirtual 100, 3), (.pop, 1), (.goto 1016, 3)] = true := by decide +kernel
set_option maxRecDepth 100000 in
theorem eL_law_188 : zdecB cL_law 188 [(.aload_n 1, 1), (.aload_n 0, 1), (.iload 4, 2), (.iconst 1, 1), (.iadd, 1), (.iaload, 1), (.aload_n 0, 1), (.iload 4, 2), (.iconst 2, 1), (.iadd, 1), (.iaload, 1), (.aload_n 0, 1), (.iload 4, 2), (.iconst 3, 1), (.iadd, 1), (.iaload, 1), (.aload_n 0, 1), (.iload 4, 2), (.iconst 4, 1), (.iadd, 1), (.iaload, 1), (.aload_n 0, 1), (.iload 4, 2), (.iconst 5, 1), (.iadd, 1), (.iaload, 1), (.invokevirtual 96, 3), (.pop, 1), (.aload_n 2, 1), (.aload_n 0, 1), (.iload 4, 2), (.iconst 1, 1), (.iadd, 1), (.iaload, 1), (.aload_n 0, 1), (.iload 4, 2), (.iconst 2, 1), (.iadd, 1), (.iaload, 1), (.aload_n 0, 1), (.iload 4, 2), (.iconst 3, 1), (.iadd, 1), (.iaload, 1), (.aload_n 0, 1), (.iload 4, 2), (.iconst 4, 1), (.iadd, 1), (.iaload, 1), (.aload_n 0, 1), (.iload 4, 2), (.iconst 5, 1), (.iadd, 1), (.iaload, 1), (.invokevirtual 100, 3), (.pop, 1), (.goto 1016, 3)] = true := zdecB_app (a := [(.aload_n 1, 1), (.aload_n 0, 1), (.iload 4, 2), (.iconst 1, 1), (.iadd, 1), (.iaload, 1)]) dL_law_188 (zdecB_app (a := [(.aload_n 0, 1), (.iload 4, 2), (.iconst 2, 1), (.iadd, 1), (.iaload, 1), (.aload_n 0, 1)]) dL_law_195 (zdecB_app (a := [(.iload 4, 2), (.iconst 3, 1), (.iadd, 1), (.iaload, 1), (.aload_n 0, 1), (.iload 4, 2)]) dL_law_202 (zdecB_app (a := [(.iconst 4, 1), (.iadd, 1), (.iaload, 1), (.aload_n 0, 1), (.iload 4, 2), (.iconst 5, 1)]) dL_law_210 (zdecB_app (a := [(.iadd, 1), (.iaload, 1), (.invokevirtual 96, 3), (.pop, 1), (.aload_n 2, 1), (.aload_n 0, 1)]) dL_law_217 (zdecB_app (a := [(.iload 4, 2), (.iconst 1, 1), (.iadd, 1), (.iaload, 1), (.aload_n 0, 1), (.iload 4, 2)]) dL_law_225 (zdecB_app (a := [(.iconst 2, 1), (.iadd, 1), (.iaload, 1), (.aload_n 0, 1), (.iload 4, 2), (.iconst 3, 1)]) dL_law_233 (zdecB_app (a := [(.iadd, 1), (.iaload, 1), (.aload_n 0, 1), (.iload 4, 2), (.iconst 4, 1), (.iadd, 1)]) dL_law_240 (zdecB_app (a := [(.iaload, 1), (.aload_n 0, 1), (.iload 4, 2), (.iconst 5, 1), (.iadd, 1), (.iaload, 1)]) dL_law_247 (dL_law_254)))))))))
set_option maxRecDepth 100000 in
theorem dL_law_261 : zdecB cL_law 261 [(.aload_n 1, 1), (.aload_n 0, 1), (.iload 4, 2), (.iconst 1, 1), (.iadd, 1), (.iaload, 1)] = true := by decide +kernel
set_option maxRecDepth 100000 in
theorem dL_law_268 : zdecB cL_law 268 [(.invokevirtual 101, 3), (.pop, 1), (.aload_n 2, 1), (.aload_n 0, 1), (.iload 4, 2), (.iconst 1, 1)] = true := by decide +kernel
set_option maxRecDepth 100000 in
theorem dL_law_277 : zdecB cL_law 277 [(.iadd, 1), (.iaload, 1), (.invokevirtual 105, 3), (.pop, 1), (.goto 991, 3)] = true := by decide +kernel
set_option maxRecDepth 100000 in
theorem eL_law_261 : zdecB cL_law 261 [(.aload_n 1, 1), (.aload_n 0, 1), (.iload 4, 2), (.iconst 1, 1), (.iadd, 1), (.iaload, 1), (.invokevirtual 101, 3), (.pop, 1), (.aload_n 2, 1), (.aload_n 0, 1), (.iload 4, 2), (.iconst 1, 1), (.iadd, 1), (.iaload, 1), (.invokevirtual 105, 3), (.pop, 1), (.goto 991, 3)] = true := zdecB_app (a := [(.aload_n 1, 1), (.aload_n 0, 1), (.iload 4, 2), (.iconst 1, 1), (.iadd, 1), (.iaload, 1)]) dL_law_261 (zdecB_app (a := [(.invokevirtual 101, 3), (.pop, 1), (.aload_n 2, 1), (.aload_n 0, 1), (.iload 4, 2), (.iconst 1, 1)]) dL_law_268 (dL_law_277))
set_option maxRecDepth 100000 in
theorem dL_law_286 : zdecB cL_law 286 [(.aload_n 1, 1), (.aload_n 3, 1), (.invokestatic 106, 3), (.istore 5, 2), (.aload_n 2, 1), (.invokevirtual 111, 3)] = true := by decide +kernel
set_option maxRecDepth 100000 in
theorem dL_law_297 : zdecB cL_law 297 [(.istore 6, 2), (.goto 975, 3)] = true := by decide +kernel
set_option maxRecDepth 100000 in
theorem eL_law_286 : zdecB cL_law 286 [(.aload_n 1, 1), (.aload_n 3, 1), (.invokestatic 106, 3), (.istore 5, 2), (.aload_n 2, 1), (.invokevirtual 111, 3), (.istore 6, 2), (.goto 975, 3)] = true := zdecB_app (a := [(.aload_n 1, 1), (.aload_n 3, 1), (.invokestatic 106, 3), (.istore 5, 2), (.aload_n 2, 1), (.invokevirtual 111, 3)]) dL_law_286 (dL_law_297)
set_option maxRecDepth 100000 in
theorem dL_law_302 : zdecB cL_law 302 [(.aload_n 1, 1), (.invokevirtual 112, 3), (.pop, 1), (.aload_n 2, 1), (.invokevirtual 115, 3), (.pop, 1)] = true := by decide +kernel
set_option maxRecDepth 100000 in
theorem dL_law_312 : zdecB cL_law 312 [(.goto 962, 3)] = true := by decide +kernel
set_option maxRecDepth 100000 in
theorem eL_law_302 : zdecB cL_law 302 [(.aload_n 1, 1), (.invokevirtual 112, 3), (.pop, 1), (.aload_n 2, 1), (.invokevirtual 115, 3), (.pop, 1), (.goto 962, 3)] = true := zdecB_app (a := [(.aload_n 1, 1), (.invokevirtual 112, 3), (.pop, 1), (.aload_n 2, 1), (.invokevirtual 115, 3), (.pop, 1)]) dL_law_302 (dL_law_312)
set_option maxRecDepth 100000 in
theorem dL_law_315 : zdecB cL_law 315 [(.aload_n 1, 1), (.aload_n 0, 1), (.iload 4, 2), (.iconst 1, 1), (.iadd, 1), (.iaload, 1)] = true := by decide +kernel
set_option maxRecDepth 100000 in
theorem dL_law_322 : zdecB cL_law 322 [(.aload_n 0, 1), (.iload 4, 2), (.iconst 2, 1), (.iadd, 1), (.iaload, 1), (.aload_n 0, 1)] = true := by decide +kernel
set_option maxRecDepth 100000 in
theorem dL_law_329 : zdecB cL_law 329 [(.iload 4, 2), (.iconst 3, 1), (.iadd, 1), (.iaload, 1), (.aload_n 3, 1), (.invokestatic 116, 3)] = true := by decide +kernel
set_option maxRecDepth 100000 in
theorem dL_law_338 : zdecB cL_law 338 [(.istore 5, 2), (.aload_n 2, 1), (.aload_n 0, 1), (.iload 4, 2), (.iconst 1, 1), (.iadd, 1)] = true := by decide +kernel
set_option maxRecDepth 100000 in
theorem dL_law_346 : zdecB cL_law 346 [(.iaload, 1), (.aload_n 0, 1), (.iload 4, 2), (.iconst 2, 1), (.iadd, 1), (.iaload, 1)] = true := by decide +kernel
set_option maxRecDepth 100000 in
theorem dL_law_353 : zdecB cL_law 353 [(.aload_n 0, 1), (.iload 4, 2), (.iconst 3, 1), (.iadd, 1), (.iaload, 1), (.invokevirtual 119, 3)] = true := by decide +kernel
set_option maxRecDepth 100000 in
theorem dL_law_362 : zdecB cL_law 362 [(.istore 6, 2), (.goto 910, 3)] = true := by decide +kernel
set_option maxRecDepth 100000 in
theorem eL_law_315 : zdecB cL_law 315 [(.aload_n 1, 1), (.aload_n 0, 1), (.iload 4, 2), (.iconst 1, 1), (.iadd, 1), (.iaload, 1), (.aload_n 0, 1), (.iload 4, 2), (.iconst 2, 1), (.iadd, 1), (.iaload, 1), (.aload_n 0, 1), (.iload 4, 2), (.iconst 3, 1), (.iadd, 1), (.iaload, 1), (.aload_n 3, 1), (.invokestatic 116, 3), (.istore 5, 2), (.aload_n 2, 1), (.aload_n 0, 1), (.iload 4, 2), (.iconst 1, 1), (.iadd, 1), (.iaload, 1), (.aload_n 0, 1), (.iload 4, 2), (.iconst 2, 1), (.iadd, 1), (.iaload, 1), (.aload_n 0, 1), (.iload 4, 2), (.iconst 3, 1), (.iadd, 1), (.iaload, 1), (.invokevirtual 119, 3), (.istore 6, 2), (.goto 910, 3)] = true := zdecB_app (a := [(.aload_n 1, 1), (.aload_n 0, 1), (.iload 4, 2), (.iconst 1, 1), (.iadd, 1), (.iaload, 1)]) dL_law_315 (zdecB_app (a := [(.aload_n 0, 1), (.iload 4, 2), (.iconst 2, 1), (.iadd, 1), (.iaload, 1), (.aload_n 0, 1)]) dL_law_322 (zdecB_app (a := [(.iload 4, 2), (.iconst 3, 1), (.iadd, 1), (.iaload, 1), (.aload_n 3, 1), (.invokestatic 116, 3)]) dL_law_329 (zdecB_app (a := [(.istore 5, 2), (.aload_n 2, 1), (.aload_n 0, 1), (.iload 4, 2), (.iconst 1, 1), (.iadd, 1)]) dL_law_338 (zdecB_app (a := [(.iaload, 1), (.aload_n 0, 1), (.iload 4, 2), (.iconst 2, 1), (.iadd, 1), (.iaload, 1)]) dL_law_346 (zdecB_app (a := [(.aload_n 0, 1), (.iload 4, 2), (.iconst 3, 1), (.iadd, 1), (.iaload, 1), (.invokevirtual 119, 3)]) dL_law_353 (dL_law_362))))))
set_option maxRecDepth 100000 in
theorem dL_law_367 : zdecB cL_law 367 [(.aload_n 1, 1), (.aload_n 0, 1), (.iload 4, 2), (.iconst 1, 1), (.iadd, 1), (.iaload, 1)] = true := by decide +kernel
set_option maxRecDepth 100000 in
theorem dL_law_374 : zdecB cL_law 374 [(.aload_n 3, 1), (.invokestatic 120, 3), (.istore 5, 2), (.aload_n 2, 1), (.aload_n 0, 1), (.iload 4, 2)] = true := by decide +kernel
set_option maxRecDepth 100000 in
theorem dL_law_384 : zdecB cL_law 384 [(.iconst 1, 1), (.iadd, 1), (.iaload, 1), (.invokevirtual 123, 3), (.istore 6, 2), (.goto 882, 3)] = true := by decide +kernel
set_option maxRecDepth 100000 in
theorem eL_law_367 : zdecB cL_law 367 [(.aload_n 1, 1), (.aload_n 0, 1), (.iload 4, 2), (.iconst 1, 1), (.iadd, 1), (.iaload, 1), (.aload_n 3, 1), (.invokestatic 120, 3), (.istore 5, 2), (.aload_n 2, 1), (.aload_n 0, 1), (.iload 4, 2), (.iconst 1, 1), (.iadd, 1), (.iaload, 1), (.invokevirtual 123, 3), (.istore 6, 2), (.goto 882, 3)] = true := zdecB_app (a := [(.aload_n 1, 1), (.aload_n 0, 1), (.iload 4, 2), (.iconst 1, 1), (.iadd, 1), (.iaload, 1)]) dL_law_367 (zdecB_app (a := [(.aload_n 3, 1), (.invokestatic 120, 3), (.istore 5, 2), (.aload_n 2, 1), (.aload_n 0, 1), (.iload 4, 2)]) dL_law_374 (dL_law_384))
set_option maxRecDepth 100000 in
theorem dL_law_395 : zdecB cL_law 395 [(.aload_n 1, 1), (.aload_n 0, 1), (.iload 4, 2), (.iconst 1, 1), (.iadd, 1), (.iaload, 1)] = true := by decide +kernel
set_option maxRecDepth 100000 in
theorem dL_law_402 : zdecB cL_law 402 [(.aload_n 0, 1), (.iload 4, 2), (.iconst 2, 1), (.iadd, 1), (.iaload, 1), (.aload_n 3, 1)] = true := by decide +kernel
set_option maxRecDepth 100000 in
theorem dL_law_409 : zdecB cL_law 409 [(.invokestatic 124, 3), (.istore 5, 2), (.aload_n 2, 1), (.aload_n 0, 1), (.iload 4, 2), (.iconst 1, 1)] = true := by decide +kernel
set_option maxRecDepth 100000 in
theorem dL_law_419 : zdecB cL_law 419 [(.iadd, 1), (.iaload, 1), (.aload_n 0, 1), (.iload 4, 2), (.iconst 2, 1), (.iadd, 1)] = true := by decide +kernel
set_option maxRecDepth 100000 in
theorem dL_law_426 : zdecB cL_law 426 [(.iaload, 1), (.invokevirtual 127, 3), (.istore 6, 2), (.goto 842, 3)] = true := by decide +kernel
set_option maxRecDepth 100000 in
theorem eL_law_395 : zdecB cL_law 395 [(.aload_n 1, 1), (.aload_n 0, 1), (.iload 4, 2), (.iconst 1, 1), (.iadd, 1), (.iaload, 1), (.aload_n 0, 1), (.iload 4, 2), (.iconst 2, 1), (.iadd, 1), (.iaload, 1), (.aload_n 3, 1), (.invokestatic 124, 3), (.istore 5, 2), (.aload_n 2, 1), (.aload_n 0, 1), (.iload 4, 2), (.iconst 1, 1), (.iadd, 1), (.iaload, 1), (.aload_n 0, 1), (.iload 4, 2), (.iconst 2, 1), (.iadd, 1), (.iaload, 1), (.invokevirtual 127, 3), (.istore 6, 2), (.goto 842, 3)] = true := zdecB_app (a := [(.aload_n 1, 1), (.aload_n 0, 1), (.iload 4, 2), (.iconst 1, 1), (.iadd, 1), (.iaload, 1)]) dL_law_395 (zdecB_app (a := [(.aload_n 0, 1), (.iload 4, 2), (.iconst 2, 1), (.iadd, 1), (.iaload, 1), (.aload_n 3, 1)]) dL_law_402 (zdecB_app (a := [(.invokestatic 124, 3), (.istore 5, 2), (.aload_n 2, 1), (.aload_n 0, 1), (.iload 4, 2), (.iconst 1, 1)]) dL_law_409 (zdecB_app (a := [(.iadd, 1), (.iaload, 1), (.aload_n 0, 1), (.iload 4, 2), (.iconst 2, 1), (.iadd, 1)]) dL_law_419 (dL_law_426))))
set_option maxRecDepth 100000 in
theorem dL_law_435 : zdecB cL_law 435 [(.aload_n 1, 1), (.aload_n 0, 1), (.iload 4, 2), (.iconst 1, 1), (.iadd, 1), (.iaload, 1)] = true := by decide +kernel
set_option maxRecDepth 100000 in
theorem dL_law_442 : zdecB cL_law 442 [(.aload_n 0, 1), (.iload 4, 2), (.iconst 2, 1), (.iadd, 1), (.iaload, 1), (.aload_n 3, 1)] = true := by decide +kernel
set_option maxRecDepth 100000 in
theorem dL_law_449 : zdecB cL_law 449 [(.invokestatic 128, 3), (.istore 5, 2), (.aload_n 2, 1), (.aload_n 0, 1), (.iload 4, 2), (.iconst 1, 1)] = true := by decide +kernel
set_option maxRecDepth 100000 in
theorem dL_law_459 : zdecB cL_law 459 [(.iadd, 1), (.iaload, 1), (.aload_n 0, 1), (.iload 4, 2), (.iconst 2, 1), (.iadd, 1)] = true := by decide +kernel
set_option maxRecDepth 100000 in
theorem dL_law_466 : zdecB cL_law 466 [(.iaload, 1), (.invokevirtual 130, 3), (.istore 6, 2), (.goto 802, 3)] = true := by decide +kernel
set_option maxRecDepth 100000 in
theorem eL_law_435 : zdecB cL_law 435 [(.aload_n 1, 1), (.aload_n 0, 1), (.iload 4, 2), (.iconst 1, 1), (.iadd, 1), (.iaload, 1), (.aload_n 0, 1), (.iload 4, 2), (.iconst 2, 1), (.iadd, 1), (.iaload, 1), (.aload_n 3, 1), (.invokestatic 128, 3), (.istore 5, 2), (.aload_n 2, 1), (.aload_n 0, 1), (.iload 4, 2), (.iconst 1, 1), (.iadd, 1), (.iaload, 1), (.aload_n 0, 1), (.iload 4, 2), (.iconst 2, 1), (.iadd, 1), (.iaload, 1), (.invokevirtual 130, 3), (.istore 6, 2), (.goto 802, 3)] = true := zdecB_app (a := [(.aload_n 1, 1), (.aload_n 0, 1), (.iload 4, 2), (.iconst 1, 1), (.iadd, 1), (.iaload, 1)]) dL_law_435 (zdecB_app (a := [(.aload_n 0, 1), (.iload 4, 2), (.iconst 2, 1), (.iadd, 1), (.iaload, 1), (.aload_n 3, 1)]) dL_law_442 (zdecB_app (a := [(.invokestatic 128, 3), (.istore 5, 2), (.aload_n 2, 1), (.aload_n 0, 1), (.iload 4, 2), (.iconst 1, 1)]) dL_law_449 (zdecB_app (a := [(.iadd, 1), (.iaload, 1), (.aload_n 0, 1), (.iload 4, 2), (.iconst 2, 1), (.iadd, 1)]) dL_law_459 (dL_law_466))))
set_option maxRecDepth 100000 in
theorem dL_law_475 : zdecB cL_law 475 [(.aload_n 1, 1), (.aload_n 0, 1), (.iload 4, 2), (.iconst 1, 1), (.iadd, 1), (.iaload, 1)] = true := by decide +kernel
set_option maxRecDepth 100000 in
theorem dL_law_482 : zdecB cL_law 482 [(.aload_n 0, 1), (.iload 4, 2), (.iconst 2, 1), (.iadd, 1), (.iaload, 1), (.aload_n 3, 1)] = true := by decide +kernel
set_option maxRecDepth 100000 in
theorem dL_law_489 : zdecB cL_law 489 [(.invokestatic 131, 3), (.istore 5, 2), (.aload_n 2, 1), (.aload_n 0, 1), (.iload 4, 2), (.iconst 1, 1)] = true := by decide +kernel
set_option maxRecDepth 100000 in
theorem dL_law_499 : zdecB cL_law 499 [(.iadd, 1), (.iaload, 1), (.aload_n 0, 1), (.iload 4, 2), (.iconst 2, 1), (.iadd, 1)] = true := by decide +kernel
set_option maxRecDepth 100000 in
theorem dL_law_506 : zdecB cL_law 506 [(.iaload, 1), (.invokevirtual 133, 3), (.istore 6, 2), (.aload_n 2, 1), (.invokevirtual 134, 3), (.iload 5, 2)] = true := by decide +kernel
set_option maxRecDepth 100000 in
theorem dL_law_518 : zdecB cL_law 518 [(.if_icmp .eq 5, 3), (.iconst 0, 1), (.ireturn, 1)] = true := by decide +kernel
set_option maxRecDepth 100000 in
theorem eL_law_475 : zdecB cL_law 475 [(.aload_n 1, 1), (.aload_n 0, 1), (.iload 4, 2), (.iconst 1, 1), (.iadd, 1), (.iaload, 1), (.aload_n 0, 1), (.iload 4, 2), (.iconst 2, 1), (.iadd, 1), (.iaload, 1), (.aload_n 3, 1), (.invokestatic 131, 3), (.istore 5, 2), (.aload_n 2, 1), (.aload_n 0, 1), (.iload 4, 2), (.iconst 1, 1), (.iadd, 1), (.iaload, 1), (.aload_n 0, 1), (.iload 4, 2), (.iconst 2, 1), (.iadd, 1), (.iaload, 1), (.invokevirtual 133, 3), (.istore 6, 2), (.aload_n 2, 1), (.invokevirtual 134, 3), (.iload 5, 2), (.if_icmp .eq 5, 3), (.iconst 0, 1), (.ireturn, 1)] = true := zdecB_app (a := [(.aload_n 1, 1), (.aload_n 0, 1), (.iload 4, 2), (.iconst 1, 1), (.iadd, 1), (.iaload, 1)]) dL_law_475 (zdecB_app (a := [(.aload_n 0, 1), (.iload 4, 2), (.iconst 2, 1), (.iadd, 1), (.iaload, 1), (.aload_n 3, 1)]) dL_law_482 (zdecB_app (a := [(.invokestatic 131, 3), (.istore 5, 2), (.aload_n 2, 1), (.aload_n 0, 1), (.iload 4, 2), (.iconst 1, 1)]) dL_law_489 (zdecB_app (a := [(.iadd, 1), (.iaload, 1), (.aload_n 0, 1), (.iload 4, 2), (.iconst 2, 1), (.iadd, 1)]) dL_law_499 (zdecB_app (a := [(.iaload, 1), (.invokevirtual 133, 3), (.istore 6, 2), (.aload_n 2, 1), (.invokevirtual 134, 3), (.iload 5, 2)]) dL_law_506 (dL_law_518)))))
set_option maxRecDepth 100000 in
theorem dL_law_523 : zdecB cL_law 523 [(.iload 5, 2), (.ifCond .ne 15, 3), (.aload_n 3, 1), (.iconst 0, 1), (.laload, 1), (.iload 6, 2)] = true := by decide +kernel
set_option maxRecDepth 100000 in
theorem dL_law_533 : zdecB cL_law 533 [(.i2l, 1), (.lcmp, 1), (.ifCond .eq 5, 3), (.iconst 0, 1), (.ireturn, 1)] = true := by decide +kernel
set_option maxRecDepth 100000 in
theorem eL_law_523 : zdecB cL_law 523 [(.iload 5, 2), (.ifCond .ne 15, 3), (.aload_n 3, 1), (.iconst 0, 1), (.laload, 1), (.iload 6, 2), (.i2l, 1), (.lcmp, 1), (.ifCond .eq 5, 3), (.iconst 0, 1), (.ireturn, 1)] = true := zdecB_app (a := [(.iload 5, 2), (.ifCond .ne 15, 3), (.aload_n 3, 1), (.iconst 0, 1), (.laload, 1), (.iload 6, 2)]) dL_law_523 (dL_law_533)
set_option maxRecDepth 100000 in
theorem dL_law_540 : zdecB cL_law 540 [(.goto 734, 3)] = true := by decide +kernel
set_option maxRecDepth 100000 in
theorem dL_law_543 : zdecB cL_law 543 [(.aload_n 1, 1), (.aload_n 0, 1), (.iload 4, 2), (.iconst 1, 1), (.iadd, 1), (.iaload, 1)] = true := by decide +kernel
set_option maxRecDepth 100000 in
theorem dL_law_550 : zdecB cL_law 550 [(.aload_n 0, 1), (.iload 4, 2), (.iconst 2, 1), (.iadd, 1), (.iaload, 1), (.aload_n 3, 1)] = true := by decide +kernel
set_option maxRecDepth 100000 in
theorem dL_law_557 : zdecB cL_law 557 [(.invokestatic 137, 3), (.istore 5, 2), (.aload_n 2, 1), (.aload_n 0, 1), (.iload 4, 2), (.iconst 1, 1)] = true := by decide +kernel
set_option maxRecDepth 100000 in
theorem dL_law_567 : zdecB cL_law 567 [(.iadd, 1), (.iaload, 1), (.aload_n 0, 1), (.iload 4, 2), (.iconst 2, 1), (.iadd, 1)] = true := by decide +kernel
set_option maxRecDepth 100000 in
theorem dL_law_574 : zdecB cL_law 574 [(.iaload, 1), (.invokevirtual 139, 3), (.istore 6, 2), (.goto 694, 3)] = true := by decide +kernel
set_option maxRecDepth 100000 in
theorem eL_law_543 : zdecB cL_law 543 [(.aload_n 1, 1), (.aload_n 0, 1), (.iload 4, 2), (.iconst 1, 1), (.iadd, 1), (.iaload, 1), (.aload_n 0, 1), (.iload 4, 2), (.iconst 2, 1), (.iadd, 1), (.iaload, 1), (.aload_n 3, 1), (.invokestatic 137, 3), (.istore 5, 2), (.aload_n 2, 1), (.aload_n 0, 1), (.iload 4, 2), (.iconst 1, 1), (.iadd, 1), (.iaload, 1), (.aload_n 0, 1), (.iload 4, 2), (.iconst 2, 1), (.iadd, 1), (.iaload, 1), (.invokevirtual 139, 3), (.istore 6, 2), (.goto 694, 3)] = true := zdecB_app (a := [(.aload_n 1, 1), (.aload_n 0, 1), (.iload 4, 2), (.iconst 1, 1), (.iadd, 1), (.iaload, 1)]) dL_law_543 (zdecB_app (a := [(.aload_n 0, 1), (.iload 4, 2), (.iconst 2, 1), (.iadd, 1), (.iaload, 1), (.aload_n 3, 1)]) dL_law_550 (zdecB_app (a := [(.invokestatic 137, 3), (.istore 5, 2), (.aload_n 2, 1), (.aload_n 0, 1), (.iload 4, 2), (.iconst 1, 1)]) dL_law_557 (zdecB_app (a := [(.iadd, 1), (.iaload, 1), (.aload_n 0, 1), (.iload 4, 2), (.iconst 2, 1), (.iadd, 1)]) dL_law_567 (dL_law_574))))
set_option maxRecDepth 100000 in
theorem dL_law_583 : zdecB cL_law 583 [(.aload_n 1, 1), (.aload_n 0, 1), (.iload 4, 2), (.iconst 1, 1), (.iadd, 1), (.iaload, 1)] = true := by decide +kernel
set_option maxRecDepth 100000 in
theorem dL_law_590 : zdecB cL_law 590 [(.aload_n 0, 1), (.iload 4, 2), (.iconst 2, 1), (.iadd, 1), (.iaload, 1), (.aload_n 0, 1)] = true := by decide +kernel
set_option maxRecDepth 100000 in
theorem dL_law_597 : zdecB cL_law 597 [(.iload 4, 2), (.iconst 3, 1), (.iadd, 1), (.iaload, 1), (.aload_n 3, 1), (.invokestatic 140, 3)] = true := by decide +kernel
set_option maxRecDepth 100000 in
theorem dL_law_606 : zdecB cL_law 606 [(.istore 5, 2), (.aload_n 2, 1), (.aload_n 0, 1), (.iload 4, 2), (.iconst 1, 1), (.iadd, 1)] = true := by decide +kernel
set_option maxRecDepth 100000 in
theorem dL_law_614 : zdecB cL_law 614 [(.iaload, 1), (.aload_n 0, 1), (.iload 4, 2), (.iconst 2, 1), (.iadd, 1), (.iaload, 1)] = true := by decide +kernel
set_option maxRecDepth 100000 in
theorem dL_law_621 : zdecB cL_law 621 [(.aload_n 0, 1), (.iload 4, 2), (.iconst 3, 1), (.iadd, 1), (.iaload, 1), (.invokevirtual 142, 3)] = true := by decide +kernel
set_option maxRecDepth 100000 in
theorem dL_law_630 : zdecB cL_law 630 [(.istore 6, 2), (.goto 642, 3)] = true := by decide +kernel
set_option maxRecDepth 100000 in
theorem eL_law_583 : zdecB cL_law 583 [(.aload_n 1, 1), (.aload_n 0, 1), (.iload 4, 2), (.iconst 1, 1), (.iadd, 1), (.iaload, 1), (.aload_n 0, 1), (.iload 4, 2), (.iconst 2, 1), (.iadd, 1), (.iaload, 1), (.aload_n 0, 1), (.iload 4, 2), (.iconst 3, 1), (.iadd, 1), (.iaload, 1), (.aload_n 3, 1), (.invokestatic 140, 3), (.istore 5, 2), (.aload_n 2, 1), (.aload_n 0, 1), (.iload 4, 2), (.iconst 1, 1), (.iadd, 1), (.iaload, 1), (.aload_n 0, 1), (.iload 4, 2), (.iconst 2, 1), (.iadd, 1), (.iaload, 1), (.aload_n 0, 1), (.iload 4, 2), (.iconst 3, 1), (.iadd, 1), (.iaload, 1), (.invokevirtual 142, 3), (.istore 6, 2), (.goto 642, 3)] = true := zdecB_app (a := [(.aload_n 1, 1), (.aload_n 0, 1), (.iload 4, 2), (.iconst 1, 1), (.iadd, 1), (.iaload, 1)]) dL_law_583 (zdecB_app (a := [(.aload_n 0, 1), (.iload 4, 2), (.iconst 2, 1), (.iadd, 1), (.iaload, 1), (.aload_n 0, 1)]) dL_law_590 (zdecB_app (a := [(.iload 4, 2), (.iconst 3, 1), (.iadd, 1), (.iaload, 1), (.aload_n 3, 1), (.invokestatic 140, 3)]) dL_law_597 (zdecB_app (a := [(.istore 5, 2), (.aload_n 2, 1), (.aload_n 0, 1), (.iload 4, 2), (.iconst 1, 1), (.iadd, 1)]) dL_law_606 (zdecB_app (a := [(.iaload, 1), (.aload_n 0, 1), (.iload 4, 2), (.iconst 2, 1), (.iadd, 1), (.iaload, 1)]) dL_law_614 (zdecB_app (a := [(.aload_n 0, 1), (.iload 4, 2), (.iconst 3, 1), (.iadd, 1), (.iaload, 1), (.invokevirtual 142, 3)]) dL_law_621 (dL_law_630))))))
set_option maxRecDepth 100000 in
theorem dL_law_635 : zdecB cL_law 635 [(.aload_n 1, 1), (.aload_n 3, 1), (.invokestatic 143, 3), (.istore 5, 2), (.aload_n 2, 1), (.invokevirtual 145, 3)] = true := by decide +kernel
set_option maxRecDepth 100000 in
theorem dL_law_646 : zdecB cL_law 646 [(.istore 6, 2), (.goto 626, 3)] = true := by decide +kernel
set_option maxRecDepth 100000 in
theorem eL_law_635 : zdecB cL_law 635 [(.aload_n 1, 1), (.aload_n 3, 1), (.invokestatic 143, 3), (.istore 5, 2), (.aload_n 2, 1), (.invokevirtual 145, 3), (.istore 6, 2), (.goto 626, 3)] = true := zdecB_app (a := [(.aload_n 1, 1), (.aload_n 3, 1), (.invokestatic 143, 3), (.istore 5, 2), (.aload_n 2, 1), (.invokevirtual 145, 3)]) dL_law_635 (dL_law_646)
set_option maxRecDepth 100000 in
theorem dL_law_651 : zdecB cL_law 651 [(.aload_n 1, 1), (.aload_n 0, 1), (.iload 4, 2), (.iconst 1, 1), (.iadd, 1), (.iaload, 1)] = true := by decide +kernel
set_option maxRecDepth 100000 in
theorem dL_law_658 : zdecB cL_law 658 [(.aload_n 3, 1), (.invokestatic 146, 3), (.istore 5, 2), (.aload_n 2, 1), (.aload_n 0, 1), (.iload 4, 2)] = true := by decide +kernel
set_option maxRecDepth 100000 in
theorem dL_law_668 : zdecB cL_law 668 [(.iconst 1, 1), (.iadd, 1), (.iaload, 1), (.invokevirtual 148, 3), (.istore 6, 2), (.goto 598, 3)] = true := by decide +kernel
set_option maxRecDepth 100000 in
theorem eL_law_651 : zdecB cL_law 651 [(.aload_n 1, 1), (.aload_n 0, 1), (.iload 4, 2), (.iconst 1, 1), (.iadd, 1), (.iaload, 1), (.aload_n 3, 1), (.invokestatic 146, 3), (.istore 5, 2), (.aload_n 2, 1), (.aload_n 0, 1), (.iload 4, 2), (.iconst 1, 1), (.iadd, 1), (.iaload, 1), (.invokevirtual 148, 3), (.istore 6, 2), (.goto 598, 3)] = true := zdecB_app (a := [(.aload_n 1, 1), (.aload_n 0, 1), (.iload 4, 2), (.iconst 1, 1), (.iadd, 1), (.iaload, 1)]) dL_law_651 (zdecB_app (a := [(.aload_n 3, 1), (.invokestatic 146, 3), (.istore 5, 2), (.aload_n 2, 1), (.aload_n 0, 1), (.iload 4, 2)]) dL_law_658 (dL_law_668))
set_option maxRecDepth 100000 in
theorem dL_law_679 : zdecB cL_law 679 [(.aload_n 1, 1), (.aload_n 0, 1), (.iload 4, 2), (.iconst 1, 1), (.iadd, 1), (.iaload, 1)] = true := by decide +kernel
set_option maxRecDepth 100000 in
theorem dL_law_686 : zdecB cL_law 686 [(.ifCond .eq 7, 3), (.iconst 1, 1), (.goto 4, 3)] = true := by decide +kernel
set_option maxRecDepth 100000 in
theorem eL_law_679 : zdecB cL_law 679 [(.aload_n 1, 1), (.aload_n 0, 1), (.iload 4, 2), (.iconst 1, 1), (.iadd, 1), (.iaload, 1), (.ifCond .eq 7, 3), (.iconst 1, 1), (.goto 4, 3)] = true := zdecB_app (a := [(.aload_n 1, 1), (.aload_n 0, 1), (.iload 4, 2), (.iconst 1, 1), (.iadd, 1), (.iaload, 1)]) dL_law_679 (dL_law_686)
set_option maxRecDepth 100000 in
theorem dL_law_693 : zdecB cL_law 693 [(.iconst 0, 1)] = true := by decide +kernel
set_option maxRecDepth 100000 in
theorem dL_law_694 : zdecB cL_law 694 [(.aload_n 3, 1), (.invokestatic 149, 3), (.istore 5, 2), (.aload_n 2, 1), (.aload_n 0, 1), (.iload 4, 2)] = true := by decide +kernel
set_option maxRecDepth 100000 in
theorem dL_law_704 : zdecB cL_law 704 [(.iconst 1, 1), (.iadd, 1), (.iaload, 1), (.ifCond .eq 7, 3), (.iconst 1, 1), (.goto 4, 3)] = true := by decide +kernel
set_option maxRecDepth 100000 in
theorem eL_law_694 : zdecB cL_law 694 [(.aload_n 3, 1), (.invokestatic 149, 3), (.istore 5, 2), (.aload_n 2, 1), (.aload_n 0, 1), (.iload 4, 2), (.iconst 1, 1), (.iadd, 1), (.iaload, 1), (.ifCond .eq 7, 3), (.iconst 1, 1), (.goto 4, 3)] = true := zdecB_app (a := [(.aload_n 3, 1), (.invokestatic 149, 3), (.istore 5, 2), (.aload_n 2, 1), (.aload_n 0, 1), (.iload 4, 2)]) dL_law_694 (dL_law_704)
set_option maxRecDepth 100000 in
theorem dL_law_714 : zdecB cL_law 714 [(.iconst 0, 1)] = true := by decide +kernel
set_option maxRecDepth 100000 in
theorem dL_law_715 : zdecB cL_law 715 [(.invokevirtual 152, 3), (.istore 6, 2), (.goto 554, 3)] = true := by decide +kernel
set_option maxRecDepth 100000 in
theorem dL_law_723 : zdecB cL_law 723 [(.aload_n 1, 1), (.aload_n 3, 1), (.invokestatic 153, 3), (.istore 5, 2), (.aload_n 2, 1), (.invokevirtual 155, 3)] = true := by decide +kernel
set_option maxRecDepth 100000 in
theorem dL_law_734 : zdecB cL_law 734 [(.istore 6, 2), (.goto 538, 3)] = true := by decide +kernel
set_option maxRecDepth 100000 in
theorem eL_law_723 : zdecB cL_law 723 [(.aload_n 1, 1), (.aload_n 3, 1), (.invokestatic 153, 3), (.istore 5, 2), (.aload_n 2, 1), (.invokevirtual 155, 3), (.istore 6, 2), (.goto 538, 3)] = true := zdecB_app (a := [(.aload_n 1, 1), (.aload_n 3, 1), (.invokestatic 153, 3), (.istore 5, 2), (.aload_n 2, 1), (.invokevirtual 155, 3)]) dL_law_723 (dL_law_734)
set_option maxRecDepth 100000 in
theorem dL_law_739 : zdecB cL_law 739 [(.aload_n 1, 1), (.aload_n 3, 1), (.invokestatic 156, 3), (.istore 5, 2), (.aload_n 2, 1), (.invokevirtual 158, 3)] = true := by decide +kernel
set_option maxRecDepth 100000 in
theorem dL_law_750 : zdecB cL_law 750 [(.istore 6, 2), (.goto 522, 3)] = true := by decide +kernel
set_option maxRecDepth 100000 in
theorem eL_law_739 : zdecB cL_law 739 [(.aload_n 1, 1), (.aload_n 3, 1), (.invokestatic 156, 3), (.istore 5, 2), (.aload_n 2, 1), (.invokevirtual 158, 3), (.istore 6, 2), (.goto 522, 3)] = true := zdecB_app (a := [(.aload_n 1, 1), (.aload_n 3, 1), (.invokestatic 156, 3), (.istore 5, 2), (.aload_n 2, 1), (.invokevirtual 158, 3)]) dL_law_739 (dL_law_750)
set_option maxRecDepth 100000 in
theorem dL_law_755 : zdecB cL_law 755 [(.aload_n 1, 1), (.aload_n 0, 1), (.iload 4, 2), (.iconst 1, 1), (.iadd, 1), (.iaload, 1)] = true := by decide +kernel
set_option maxRecDepth 100000 in
theorem dL_law_762 : zdecB cL_law 762 [(.aload_n 3, 1), (.invokestatic 159, 3), (.istore 5, 2), (.aload_n 2, 1), (.aload_n 0, 1), (.iload 4, 2)] = true := by decide +kernel
set_option maxRecDepth 100000 in
theorem dL_law_772 : zdecB cL_law 772 [(.iconst 1, 1), (.iadd, 1), (.iaload, 1), (.invokevirtual 161, 3), (.istore 6, 2), (.goto 494, 3)] = true := by decide +kernel
set_option maxRecDepth 100000 in
theorem eL_law_755 : zdecB cL_law 755 [(.aload_n 1, 1), (.aload_n 0, 1), (.iload 4, 2), (.iconst 1, 1), (.iadd, 1), (.iaload, 1), (.aload_n 3, 1), (.invokestatic 159, 3), (.istore 5, 2), (.aload_n 2, 1), (.aload_n 0, 1), (.iload 4, 2), (.iconst 1, 1), (.iadd, 1), (.iaload, 1), (.invokevirtual 161, 3), (.istore 6, 2), (.goto 494, 3)] = true := zdecB_app (a := [(.aload_n 1, 1), (.aload_n 0, 1), (.iload 4, 2), (.iconst 1, 1), (.iadd, 1), (.iaload, 1)]) dL_law_755 (zdecB_app (a := [(.aload_n 3, 1), (.invokestatic 159, 3), (.istore 5, 2), (.aload_n 2, 1), (.aload_n 0, 1), (.iload 4, 2)]) dL_law_762 (dL_law_772))
set_option maxRecDepth 100000 in
theorem dL_law_783 : zdecB cL_law 783 [(.aload_n 1, 1), (.aload_n 0, 1), (.iload 4, 2), (.iconst 1, 1), (.iadd, 1), (.iaload, 1)] = true := by decide +kernel
set_option maxRecDepth 100000 in
theorem dL_law_790 : zdecB cL_law 790 [(.aload_n 0, 1), (.iload 4, 2), (.iconst 2, 1), (.iadd, 1), (.iaload, 1), (.aload_n 3, 1)] = true := by decide +kernel
set_option maxRecDepth 100000 in
theorem dL_law_797 : zdecB cL_law 797 [(.invokestatic 162, 3), (.istore 5, 2), (.aload_n 2, 1), (.aload_n 0, 1), (.iload 4, 2), (.iconst 1, 1)] = true := by decide +kernel
set_option maxRecDepth 100000 in
theorem dL_law_807 : zdecB cL_law 807 [(.iadd, 1), (.iaload, 1), (.aload_n 0, 1), (.iload 4, 2), (.iconst 2, 1), (.iadd, 1)] = true := by decide +kernel
set_option maxRecDepth 100000 in
theorem dL_law_814 : zdecB cL_law 814 [(.iaload, 1), (.invokevirtual 164, 3), (.istore 6, 2), (.goto 454, 3)] = true := by decide +kernel
set_option maxRecDepth 100000 in
theorem eL_law_783 : zdecB cL_law 783 [(.aload_n 1, 1), (.aload_n 0, 1), (.iload 4, 2), (.iconst 1, 1), (.iadd, 1), (.iaload, 1), (.aload_n 0, 1), (.iload 4, 2), (.iconst 2, 1), (.iadd, 1), (.iaload, 1), (.aload_n 3, 1), (.invokestatic 162, 3), (.istore 5, 2), (.aload_n 2, 1), (.aload_n 0, 1), (.iload 4, 2), (.iconst 1, 1), (.iadd, 1), (.iaload, 1), (.aload_n 0, 1), (.iload 4, 2), (.iconst 2, 1), (.iadd, 1), (.iaload, 1), (.invokevirtual 164, 3), (.istore 6, 2), (.goto 454, 3)] = true := zdecB_app (a := [(.aload_n 1, 1), (.aload_n 0, 1), (.iload 4, 2), (.iconst 1, 1), (.iadd, 1), (.iaload, 1)]) dL_law_783 (zdecB_app (a := [(.aload_n 0, 1), (.iload 4, 2), (.iconst 2, 1), (.iadd, 1), (.iaload, 1), (.aload_n 3, 1)]) dL_law_790 (zdecB_app (a := [(.invokestatic 162, 3), (.istore 5, 2), (.aload_n 2, 1), (.aload_n 0, 1), (.iload 4, 2), (.iconst 1, 1)]) dL_law_797 (zdecB_app (a := [(.iadd, 1), (.iaload, 1), (.aload_n 0, 1), (.iload 4, 2), (.iconst 2, 1), (.iadd, 1)]) dL_law_807 (dL_law_814))))
set_option maxRecDepth 100000 in
theorem dL_law_823 : zdecB cL_law 823 [(.aload_n 1, 1), (.invokevirtual 165, 3), (.pop, 1), (.aload_n 2, 1), (.invokevirtual 168, 3), (.pop, 1)] = true := by decide +kernel
set_option maxRecDepth 100000 in
theorem dL_law_833 : zdecB cL_law 833 [(.goto 441, 3)] = true := by decide +kernel
set_option maxRecDepth 100000 in
theorem eL_law_823 : zdecB cL_law 823 [(.aload_n 1, 1), (.invokevirtual 165, 3), (.pop, 1), (.aload_n 2, 1), (.invokevirtual 168, 3), (.pop, 1), (.goto 441, 3)] = true := zdecB_app (a := [(.aload_n 1, 1), (.invokevirtual 165, 3), (.pop, 1), (.aload_n 2, 1), (.invokevirtual 168, 3), (.pop, 1)]) dL_law_823 (dL_law_833)
set_option maxRecDepth 100000 in
theorem dL_law_836 : zdecB cL_law 836 [(.aload_n 1, 1), (.aload_n 0, 1), (.iload 4, 2), (.iconst 1, 1), (.iadd, 1), (.iaload, 1)] = true := by decide +kernel
set_option maxRecDepth 100000 in
theorem dL_law_843 : zdecB cL_law 843 [(.aload_n 0, 1), (.iload 4, 2), (.iconst 2, 1), (.iadd, 1), (.iaload, 1), (.aload_n 3, 1)] = true := by decide +kernel
set_option maxRecDepth 100000 in
theorem dL_law_850 : zdecB cL_law 850 [(.invokestatic 169, 3), (.istore 5, 2), (.aload_n 2, 1), (.aload_n 0, 1), (.iload 4, 2), (.iconst 1, 1)] = true := by decide +kernel
set_option maxRecDepth 100000 in
theorem dL_law_860 : zdecB cL_law 860 [(.iadd, 1), (.iaload, 1), (.aload_n 0, 1), (.iload 4, 2), (.iconst 2, 1), (.iadd, 1)] = true := by decide +kernel
set_option maxRecDepth 100000 in
theorem dL_law_867 : zdecB cL_law 867 [(.iaload, 1), (.invokevirtual 171, 3), (.istore 6, 2), (.goto 401, 3)] = true := by decide +kernel
set_option maxRecDepth 100000 in
theorem eL_law_836 : zdecB cL_law 836 [(.aload_n 1, 1), (.aload_n 0, 1), (.iload 4, 2), (.iconst 1, 1), (.iadd, 1), (.iaload, 1), (.aload_n 0, 1), (.iload 4, 2), (.iconst 2, 1), (.iadd, 1), (.iaload, 1), (.aload_n 3, 1), (.invokestatic 169, 3), (.istore 5, 2), (.aload_n 2, 1), (.aload_n 0, 1), (.iload 4, 2), (.iconst 1, 1), (.iadd, 1), (.iaload, 1), (.aload_n 0, 1), (.iload 4, 2), (.iconst 2, 1), (.iadd, 1), (.iaload, 1), (.invokevirtual 171, 3), (.istore 6, 2), (.goto 401, 3)] = true := zdecB_app (a := [(.aload_n 1, 1), (.aload_n 0, 1), (.iload 4, 2), (.iconst 1, 1), (.iadd, 1), (.iaload, 1)]) dL_law_836 (zdecB_app (a := [(.aload_n 0, 1), (.iload 4, 2), (.iconst 2, 1), (.iadd, 1), (.iaload, 1), (.aload_n 3, 1)]) dL_law_843 (zdecB_app (a := [(.invokestatic 169, 3), (.istore 5, 2), (.aload_n 2, 1), (.aload_n 0, 1), (.iload 4, 2), (.iconst 1, 1)]) dL_law_850 (zdecB_app (a := [(.iadd, 1), (.iaload, 1), (.aload_n 0, 1), (.iload 4, 2), (.iconst 2, 1), (.iadd, 1)]) dL_law_860 (dL_law_867))))
set_option maxRecDepth 100000 in
theorem dL_law_876 : zdecB cL_law 876 [(.aload_n 1, 1), (.aload_n 0, 1), (.iload 4, 2), (.iconst 1, 1), (.iadd, 1), (.iaload, 1)] = true := by decide +kernel
set_option maxRecDepth 100000 in
theorem dL_law_883 : zdecB cL_law 883 [(.aload_n 0, 1), (.iload 4, 2), (.iconst 2, 1), (.iadd, 1), (.iaload, 1), (.ifCond .eq 7, 3)] = true := by decide +kernel
set_option maxRecDepth 100000 in
theorem dL_law_892 : zdecB cL_law 892 [(.iconst 1, 1), (.goto 4, 3)] = true := by decide +kernel
set_option maxRecDepth 100000 in
theorem eL_law_876 : zdecB cL_law 876 [(.aload_n 1, 1), (.aload_n 0, 1), (.iload 4, 2), (.iconst 1, 1), (.iadd, 1), (.iaload, 1), (.aload_n 0, 1), (.iload 4, 2), (.iconst 2, 1), (.iadd, 1), (.iaload, 1), (.ifCond .eq 7, 3), (.iconst 1, 1), (.goto 4, 3)] = true := zdecB_app (a := [(.aload_n 1, 1), (.aload_n 0, 1), (.iload 4, 2), (.iconst 1, 1), (.iadd, 1), (.iaload, 1)]) dL_law_876 (zdecB_app (a := [(.aload_n 0, 1), (.iload 4, 2), (.iconst 2, 1), (.iadd, 1), (.iaload, 1), (.ifCond .eq 7, 3)]) dL_law_883 (dL_law_892))
set_option maxRecDepth 100000 in
theorem dL_law_896 : zdecB cL_law 896 [(.iconst 0, 1)] = true := by decide +kernel
set_option maxRecDepth 100000 in
theorem dL_law_897 : zdecB cL_law 897 [(.invokevirtual 172, 3), (.pop, 1), (.aload_n 2, 1), (.aload_n 0, 1), (.iload 4, 2), (.iconst 1, 1)] = true := by decide +kernel
set_option maxRecDepth 100000 in
theorem dL_law_906 : zdecB cL_law 906 [(.iadd, 1), (.iaload, 1), (.aload_n 0, 1), (.iload 4, 2), (.iconst 2, 1), (.iadd, 1)] = true := by decide +kernel
set_option maxRecDepth 100000 in
theorem dL_law_913 : zdecB cL_law 913 [(.iaload, 1), (.ifCond .eq 7, 3), (.iconst 1, 1), (.goto 4, 3)] = true := by decide +kernel
set_option maxRecDepth 100000 in
theorem eL_law_897 : zdecB cL_law 897 [(.invokevirtual 172, 3), (.pop, 1), (.aload_n 2, 1), (.aload_n 0, 1), (.iload 4, 2), (.iconst 1, 1), (.iadd, 1), (.iaload, 1), (.aload_n 0, 1), (.iload 4, 2), (.iconst 2, 1), (.iadd, 1), (.iaload, 1), (.ifCond .eq 7, 3), (.iconst 1, 1), (.goto 4, 3)] = true := zdecB_app (a := [(.invokevirtual 172, 3), (.pop, 1), (.aload_n 2, 1), (.aload_n 0, 1), (.iload 4, 2), (.iconst 1, 1)]) dL_law_897 (zdecB_app (a := [(.iadd, 1), (.iaload, 1), (.aload_n 0, 1), (.iload 4, 2), (.iconst 2, 1), (.iadd, 1)]) dL_law_906 (dL_law_913))
set_option maxRecDepth 100000 in
theorem dL_law_921 : zdecB cL_law 921 [(.iconst 0, 1)] = true := by decide +kernel
set_option maxRecDepth 100000 in
theorem dL_law_922 : zdecB cL_law 922 [(.invokevirtual 175, 3), (.pop, 1), (.goto 348, 3)] = true := by decide +kernel
set_option maxRecDepth 100000 in
theorem dL_law_929 : zdecB cL_law 929 [(.aload_n 1, 1), (.aload_n 0, 1), (.iload 4, 2), (.iconst 1, 1), (.iadd, 1), (.iaload, 1)] = true := by decide +kernel
set_option maxRecDepth 100000 in
theorem dL_law_936 : zdecB cL_law 936 [(.aload_n 0, 1), (.iload 4, 2), (.iconst 2, 1), (.iadd, 1), (.iaload, 1), (.aload_n 3, 1)] = true := by decide +kernel
set_option maxRecDepth 100000 in
theorem dL_law_943 : zdecB cL_law 943 [(.invokestatic 176, 3), (.istore 5, 2), (.aload_n 2, 1), (.aload_n 0, 1), (.iload 4, 2), (.iconst 1, 1)] = true := by decide +kernel
set_option maxRecDepth 100000 in
theorem dL_law_953 : zdecB cL_law 953 [(.iadd, 1), (.iaload, 1), (.aload_n 0, 1), (.iload 4, 2), (.iconst 2, 1), (.iadd, 1)] = true := by decide +kernel
set_option maxRecDepth 100000 in
theorem dL_law_960 : zdecB cL_law 960 [(.iaload, 1), (.invokevirtual 178, 3), (.istore 6, 2), (.goto 308, 3)] = true := by decide +kernel
set_option maxRecDepth 100000 in
theorem eL_law_929 : zdecB cL_law 929 [(.aload_n 1, 1), (.aload_n 0, 1), (.iload 4, 2), (.iconst 1, 1), (.iadd, 1), (.iaload, 1), (.aload_n 0, 1), (.iload 4, 2), (.iconst 2, 1), (.iadd, 1), (.iaload, 1), (.aload_n 3, 1), (.invokestatic 176, 3), (.istore 5, 2), (.aload_n 2, 1), (.aload_n 0, 1), (.iload 4, 2), (.iconst 1, 1), (.iadd, 1), (.iaload, 1), (.aload_n 0, 1), (.iload 4, 2), (.iconst 2, 1), (.iadd, 1), (.iaload, 1), (.invokevirtual 178, 3), (.istore 6, 2), (.goto 308, 3)] = true := zdecB_app (a := [(.aload_n 1, 1), (.aload_n 0, 1), (.iload 4, 2), (.iconst 1, 1), (.iadd, 1), (.iaload, 1)]) dL_law_929 (zdecB_app (a := [(.aload_n 0, 1), (.iload 4, 2), (.iconst 2, 1), (.iadd, 1), (.iaload, 1), (.aload_n 3, 1)]) dL_law_936 (zdecB_app (a := [(.invokestatic 176, 3), (.istore 5, 2), (.aload_n 2, 1), (.aload_n 0, 1), (.iload 4, 2), (.iconst 1, 1)]) dL_law_943 (zdecB_app (a := [(.iadd, 1), (.iaload, 1), (.aload_n 0, 1), (.iload 4, 2), (.iconst 2, 1), (.iadd, 1)]) dL_law_953 (dL_law_960))))
set_option maxRecDepth 100000 in
theorem dL_law_969 : zdecB cL_law 969 [(.aload_n 1, 1), (.aload_n 0, 1), (.iload 4, 2), (.iconst 1, 1), (.iadd, 1), (.iaload, 1)] = true := by decide +kernel
set_option maxRecDepth 100000 in
theorem dL_law_976 : zdecB cL_law 976 [(.aload_n 0, 1), (.iload 4, 2), (.iconst 2, 1), (.iadd, 1), (.iaload, 1), (.aload_n 3, 1)] = true := by decide +kernel
set_option maxRecDepth 100000 in
theorem dL_law_983 : zdecB cL_law 983 [(.invokestatic 179, 3), (.istore 5, 2), (.aload_n 2, 1), (.aload_n 0, 1), (.iload 4, 2), (.iconst 1, 1)] = true := by decide +kernel
set_option maxRecDepth 100000 in
theorem dL_law_993 : zdecB cL_law 993 [(.iadd, 1), (.iaload, 1), (.aload_n 0, 1), (.iload 4, 2), (.iconst 2, 1), (.iadd, 1)] = true := by decide +kernel
set_option maxRecDepth 100000 in
theorem dL_law_1000 : zdecB cL_law 1000 [(.iaload, 1), (.invokevirtual 181, 3), (.istore 6, 2), (.goto 268, 3)] = true := by decide +kernel
set_option maxRecDepth 100000 in
theorem eL_law_969 : zdecB cL_law 969 [(.aload_n 1, 1), (.aload_n 0, 1), (.iload 4, 2), (.iconst 1, 1), (.iadd, 1), (.iaload, 1), (.aload_n 0, 1), (.iload 4, 2), (.iconst 2, 1), (.iadd, 1), (.iaload, 1), (.aload_n 3, 1), (.invokestatic 179, 3), (.istore 5, 2), (.aload_n 2, 1), (.aload_n 0, 1), (.iload 4, 2), (.iconst 1, 1), (.iadd, 1), (.iaload, 1), (.aload_n 0, 1), (.iload 4, 2), (.iconst 2, 1), (.iadd, 1), (.iaload, 1), (.invokevirtual 181, 3), (.istore 6, 2), (.goto 268, 3)] = true := zdecB_app (a := [(.aload_n 1, 1), (.aload_n 0, 1), (.iload 4, 2), (.iconst 1, 1), (.iadd, 1), (.iaload, 1)]) dL_law_969 (zdecB_app (a := [(.aload_n 0, 1), (.iload 4, 2), (.iconst 2, 1), (.iadd, 1), (.iaload, 1), (.aload_n 3, 1)]) dL_law_976 (zdecB_app (a := [(.invokestatic 179, 3), (.istore 5, 2), (.aload_n 2, 1), (.aload_n 0, 1), (.iload 4, 2), (.iconst 1, 1)]) dL_law_983 (zdecB_app (a := [(.iadd, 1), (.iaload, 1), (.aload_n 0, 1), (.iload 4, 2), (.iconst 2, 1), (.iadd, 1)]) dL_law_993 (dL_law_1000))))
set_option maxRecDepth 100000 in
theorem dL_law_1009 : zdecB cL_law 1009 [(.aload_n 1, 1), (.aload_n 0, 1), (.iload 4, 2), (.iconst 1, 1), (.iadd, 1), (.iaload, 1)] = true := by decide +kernel
set_option maxRecDepth 100000 in
theorem dL_law_1016 : zdecB cL_law 1016 [(.ifCond .eq 7, 3), (.iconst 1, 1), (.goto 4, 3)] = true := by decide +kernel
set_option maxRecDepth 100000 in
theorem eL_law_1009 : zdecB cL_law 1009 [(.aload_n 1, 1), (.aload_n 0, 1), (.iload 4, 2), (.iconst 1, 1), (.iadd, 1), (.iaload, 1), (.ifCond .eq 7, 3), (.iconst 1, 1), (.goto 4, 3)] = true := zdecB_app (a := [(.aload_n 1, 1), (.aload_n 0, 1), (.iload 4, 2), (.iconst 1, 1), (.iadd, 1), (.iaload, 1)]) dL_law_1009 (dL_law_1016)
set_option maxRecDepth 100000 in
theorem dL_law_1023 : zdecB cL_law 1023 [(.iconst 0, 1)] = true := by decide +kernel
set_option maxRecDepth 100000 in
theorem dL_law_1024 : zdecB cL_law 1024 [(.invokevirtual 182, 3), (.pop, 1), (.aload_n 2, 1), (.aload_n 0, 1), (.iload 4, 2), (.iconst 1, 1)] = true := by decide +kernel
set_option maxRecDepth 100000 in
theorem dL_law_1033 : zdecB cL_law 1033 [(.iadd, 1), (.iaload, 1), (.ifCond .eq 7, 3), (.iconst 1, 1), (.goto 4, 3)] = true := by decide +kernel
set_option maxRecDepth 100000 in
theorem eL_law_1024 : zdecB cL_law 1024 [(.invokevirtual 182, 3), (.pop, 1), (.aload_n 2, 1), (.aload_n 0, 1), (.iload 4, 2), (.iconst 1, 1), (.iadd, 1), (.iaload, 1), (.ifCond .eq 7, 3), (.iconst 1, 1), (.goto 4, 3)] = true := zdecB_app (a := [(.invokevirtual 182, 3), (.pop, 1), (.aload_n 2, 1), (.aload_n 0, 1), (.iload 4, 2), (.iconst 1, 1)]) dL_law_1024 (dL_law_1033)
set_option maxRecDepth 100000 in
theorem dL_law_1042 : zdecB cL_law 1042 [(.iconst 0, 1)] = true := by decide +kernel
set_option maxRecDepth 100000 in
theorem dL_law_1043 : zdecB cL_law 1043 [(.invokevirtual 186, 3), (.pop, 1), (.goto 227, 3)] = true := by decide +kernel
set_option maxRecDepth 100000 in
theorem dL_law_1050 : zdecB cL_law 1050 [(.aload_n 1, 1), (.invokevirtual 187, 3), (.pop, 1), (.aload_n 2, 1), (.invokevirtual 190, 3), (.pop, 1)] = true := by decide +kernel
set_option maxRecDepth 100000 in
theorem dL_law_1060 : zdecB cL_law 1060 [(.goto 214, 3)] = true := by decide +kernel
set_option maxRecDepth 100000 in
theorem eL_law_1050 : zdecB cL_law 1050 [(.aload_n 1, 1), (.invokevirtual 187, 3), (.pop, 1), (.aload_n 2, 1), (.invokevirtual 190, 3), (.pop, 1), (.goto 214, 3)] = true := zdecB_app (a := [(.aload_n 1, 1), (.invokevirtual 187, 3), (.pop, 1), (.aload_n 2, 1), (.invokevirtual 190, 3), (.pop, 1)]) dL_law_1050 (dL_law_1060)
set_option maxRecDepth 100000 in
theorem dL_law_1063 : zdecB cL_law 1063 [(.aload_n 1, 1), (.invokevirtual 191, 3), (.pop, 1), (.aload_n 2, 1), (.invokevirtual 195, 3), (.pop, 1)] = true := by decide +kernel
set_option maxRecDepth 100000 in
theorem dL_law_1073 : zdecB cL_law 1073 [(.goto 201, 3)] = true := by decide +kernel
set_option maxRecDepth 100000 in
theorem eL_law_1063 : zdecB cL_law 1063 [(.aload_n 1, 1), (.invokevirtual 191, 3), (.pop, 1), (.aload_n 2, 1), (.invokevirtual 195, 3), (.pop, 1), (.goto 201, 3)] = true := zdecB_app (a := [(.aload_n 1, 1), (.invokevirtual 191, 3), (.pop, 1), (.aload_n 2, 1), (.invokevirtual 195, 3), (.pop, 1)]) dL_law_1063 (dL_law_1073)
set_option maxRecDepth 100000 in
theorem dL_law_1076 : zdecB cL_law 1076 [(.aload_n 1, 1), (.aload_n 0, 1), (.iload 4, 2), (.iconst 1, 1), (.iadd, 1), (.iaload, 1)] = true := by decide +kernel
set_option maxRecDepth 100000 in
theorem dL_law_1083 : zdecB cL_law 1083 [(.aload_n 3, 1), (.invokestatic 196, 3), (.istore 5, 2), (.aload_n 2, 1), (.aload_n 0, 1), (.iload 4, 2)] = true := by decide +kernel
set_option maxRecDepth 100000 in
theorem dL_law_1093 : zdecB cL_law 1093 [(.iconst 1, 1), (.iadd, 1), (.iaload, 1), (.invokevirtual 198, 3), (.istore 6, 2), (.goto 173, 3)] = true := by decide +kernel
set_option maxRecDepth 100000 in
theorem eL_law_1076 : zdecB cL_law 1076 [(.aload_n 1, 1), (.aload_n 0, 1), (.iload 4, 2), (.iconst 1, 1), (.iadd, 1), (.iaload, 1), (.aload_n 3, 1), (.invokestatic 196, 3), (.istore 5, 2), (.aload_n 2, 1), (.aload_n 0, 1), (.iload 4, 2), (.iconst 1, 1), (.iadd, 1), (.iaload, 1), (.invokevirtual 198, 3), (.istore 6, 2), (.goto 173, 3)] = true := zdecB_app (a := [(.aload_n 1, 1), (.aload_n 0, 1), (.iload 4, 2), (.iconst 1, 1), (.iadd, 1), (.iaload, 1)]) dL_law_1076 (zdecB_app (a := [(.aload_n 3, 1), (.invokestatic 196, 3), (.istore 5, 2), (.aload_n 2, 1), (.aload_n 0, 1), (.iload 4, 2)]) dL_law_1083 (dL_law_1093))
set_option maxRecDepth 100000 in
theorem dL_law_1104 : zdecB cL_law 1104 [(.aload_n 1, 1), (.aload_n 0, 1), (.iload 4, 2), (.iconst 1, 1), (.iadd, 1), (.iaload, 1)] = true := by decide +kernel
set_option maxRecDepth 100000 in
theorem dL_law_1111 : zdecB cL_law 1111 [(.invokestatic 199, 3), (.istore 5, 2), (.aload_n 2, 1), (.aload_n 0, 1), (.iload 4, 2), (.iconst 1, 1)] = true := by decide +kernel
set_option maxRecDepth 100000 in
theorem dL_law_1121 : zdecB cL_law 1121 [(.iadd, 1), (.iaload, 1), (.invokevirtual 202, 3), (.goto 148, 3)] = true := by decide +kernel
set_option maxRecDepth 100000 in
theorem eL_law_1104 : zdecB cL_law 1104 [(.aload_n 1, 1), (.aload_n 0, 1), (.iload 4, 2), (.iconst 1, 1), (.iadd, 1), (.iaload, 1), (.invokestatic 199, 3), (.istore 5, 2), (.aload_n 2, 1), (.aload_n 0, 1), (.iload 4, 2), (.iconst 1, 1), (.iadd, 1), (.iaload, 1), (.invokevirtual 202, 3), (.goto 148, 3)] = true := zdecB_app (a := [(.aload_n 1, 1), (.aload_n 0, 1), (.iload 4, 2), (.iconst 1, 1), (.iadd, 1), (.iaload, 1)]) dL_law_1104 (zdecB_app (a := [(.invokestatic 199, 3), (.istore 5, 2), (.aload_n 2, 1), (.aload_n 0, 1), (.iload 4, 2), (.iconst 1, 1)]) dL_law_1111 (dL_law_1121))
set_option maxRecDepth 100000 in
theorem dL_law_1129 : zdecB cL_law 1129 [(.aload_n 1, 1), (.aload_n 0, 1), (.iload 4, 2), (.iconst 1, 1), (.iadd, 1), (.iaload, 1)] = true := by decide +kernel
set_option maxRecDepth 100000 in
theorem dL_law_1136 : zdecB cL_law 1136 [(.aload_n 0, 1), (.iload 4, 2), (.iconst 2, 1), (.iadd, 1), (.iaload, 1), (.aload_n 3, 1)] = true := by decide +kernel
set_option maxRecDepth 100000 in
theorem dL_law_1143 : zdecB cL_law 1143 [(.invokestatic 203, 3), (.istore 5, 2), (.aload_n 2, 1), (.aload_n 0, 1), (.iload 4, 2), (.iconst 1, 1)] = true := by decide +kernel
set_option maxRecDepth 100000 in
theorem dL_law_1153 : zdecB cL_law 1153 [(.iadd, 1), (.iaload, 1), (.aload_n 0, 1), (.iload 4, 2), (.iconst 2, 1), (.iadd, 1)] = true := by decide +kernel
set_option maxRecDepth 100000 in
theorem dL_law_1160 : zdecB cL_law 1160 [(.iaload, 1), (.invokevirtual 205, 3), (.istore 6, 2), (.goto 108, 3)] = true := by decide +kernel
set_option maxRecDepth 100000 in
theorem eL_law_1129 : zdecB cL_law 1129 [(.aload_n 1, 1), (.aload_n 0, 1), (.iload 4, 2), (.iconst 1, 1), (.iadd, 1), (.iaload, 1), (.aload_n 0, 1), (.iload 4, 2), (.iconst 2, 1), (.iadd, 1), (.iaload, 1), (.aload_n 3, 1), (.invokestatic 203, 3), (.istore 5, 2), (.aload_n 2, 1), (.aload_n 0, 1), (.iload 4, 2), (.iconst 1, 1), (.iadd, 1), (.iaload, 1), (.aload_n 0, 1), (.iload 4, 2), (.iconst 2, 1), (.iadd, 1), (.iaload, 1), (.invokevirtual 205, 3), (.istore 6, 2), (.goto 108, 3)] = true := zdecB_app (a := [(.aload_n 1, 1), (.aload_n 0, 1), (.iload 4, 2), (.iconst 1, 1), (.iadd, 1), (.iaload, 1)]) dL_law_1129 (zdecB_app (a := [(.aload_n 0, 1), (.iload 4, 2), (.iconst 2, 1), (.iadd, 1), (.iaload, 1), (.aload_n 3, 1)]) dL_law_1136 (zdecB_app (a := [(.invokestatic 203, 3), (.istore 5, 2), (.aload_n 2, 1), (.aload_n 0, 1), (.iload 4, 2), (.iconst 1, 1)]) dL_law_1143 (zdecB_app (a := [(.iadd, 1), (.iaload, 1), (.aload_n 0, 1), (.iload 4, 2), (.iconst 2, 1), (.iadd, 1)]) dL_law_1153 (dL_law_1160))))
set_option maxRecDepth 100000 in
theorem dL_law_1169 : zdecB cL_law 1169 [(.aload_n 1, 1), (.aload_n 0, 1), (.iload 4, 2), (.iconst 1, 1), (.iadd, 1), (.iaload, 1)] = true := by decide +kernel
set_option maxRecDepth 100000 in
theorem dL_law_1176 : zdecB cL_law 1176 [(.aload_n 0, 1), (.iload 4, 2), (.iconst 2, 1), (.iadd, 1), (.iaload, 1), (.ifCond .eq 7, 3)] = true := by decide +kernel
set_option maxRecDepth 100000 in
theorem dL_law_1185 : zdecB cL_law 1185 [(.iconst 1, 1), (.goto 4, 3)] = true := by decide +kernel
set_option maxRecDepth 100000 in
theorem eL_law_1169 : zdecB cL_law 1169 [(.aload_n 1, 1), (.aload_n 0, 1), (.iload 4, 2), (.iconst 1, 1), (.iadd, 1), (.iaload, 1), (.aload_n 0, 1), (.iload 4, 2), (.iconst 2, 1), (.iadd, 1), (.iaload, 1), (.ifCond .eq 7, 3), (.iconst 1, 1), (.goto 4, 3)] = true := zdecB_app (a := [(.aload_n 1, 1), (.aload_n 0, 1), (.iload 4, 2), (.iconst 1, 1), (.iadd, 1), (.iaload, 1)]) dL_law_1169 (zdecB_app (a := [(.aload_n 0, 1), (.iload 4, 2), (.iconst 2, 1), (.iadd, 1), (.iaload, 1), (.ifCond .eq 7, 3)]) dL_law_1176 (dL_law_1185))
set_option maxRecDepth 100000 in
theorem dL_law_1189 : zdecB cL_law 1189 [(.iconst 0, 1)] = true := by decide +kernel
set_option maxRecDepth 100000 in
theorem dL_law_1190 : zdecB cL_law 1190 [(.aload_n 3, 1), (.invokestatic 206, 3), (.istore 5, 2), (.aload_n 2, 1), (.aload_n 0, 1), (.iload 4, 2)] = true := by decide +kernel
set_option maxRecDepth 100000 in
theorem dL_law_1200 : zdecB cL_law 1200 [(.iconst 1, 1), (.iadd, 1), (.iaload, 1), (.aload_n 0, 1), (.iload 4, 2), (.iconst 2, 1)] = true := by decide +kernel
set_option maxRecDepth 100000 in
theorem dL_law_1207 : zdecB cL_law 1207 [(.iadd, 1), (.iaload, 1), (.ifCond .eq 7, 3), (.iconst 1, 1), (.goto 4, 3)] = true := by decide +kernel
set_option maxRecDepth 100000 in
theorem eL_law_1190 : zdecB cL_law 1190 [(.aload_n 3, 1), (.invokestatic 206, 3), (.istore 5, 2), (.aload_n 2, 1), (.aload_n 0, 1), (.iload 4, 2), (.iconst 1, 1), (.iadd, 1), (.iaload, 1), (.aload_n 0, 1), (.iload 4, 2), (.iconst 2, 1), (.iadd, 1), (.iaload, 1), (.ifCond .eq 7, 3), (.iconst 1, 1), (.goto 4, 3)] = true := zdecB_app (a := [(.aload_n 3, 1), (.invokestatic 206, 3), (.istore 5, 2), (.aload_n 2, 1), (.aload_n 0, 1), (.iload 4, 2)]) dL_law_1190 (zdecB_app (a := [(.iconst 1, 1), (.iadd, 1), (.iaload, 1), (.aload_n 0, 1), (.iload 4, 2), (.iconst 2, 1)]) dL_law_1200 (dL_law_1207))
set_option maxRecDepth 100000 in
theorem dL_law_1216 : zdecB cL_law 1216 [(.iconst 0, 1)] = true := by decide +kernel
set_option maxRecDepth 100000 in
theorem dL_law_1217 : zdecB cL_law 1217 [(.invokevirtual 209, 3), (.istore 6, 2), (.goto 52, 3)] = true := by decide +kernel
set_option maxRecDepth 100000 in
theorem dL_law_1225 : zdecB cL_law 1225 [(.aload_n 1, 1), (.invokevirtual 210, 3), (.aload_n 2, 1), (.invokevirtual 213, 3), (.goto 41, 3)] = true := by decide +kernel
set_option maxRecDepth 100000 in
theorem dL_law_1236 : zdecB cL_law 1236 [(.aload_n 1, 1), (.invokevirtual 214, 3), (.pop, 1), (.aload_n 2, 1), (.invokevirtual 217, 3), (.pop, 1)] = true := by decide +kernel
set_option maxRecDepth 100000 in
theorem dL_law_1246 : zdecB cL_law 1246 [(.goto 28, 3)] = true := by decide +kernel
set_option maxRecDepth 100000 in
theorem eL_law_1236 : zdecB cL_law 1236 [(.aload_n 1, 1), (.invokevirtual 214, 3), (.pop, 1), (.aload_n 2, 1), (.invokevirtual 217, 3), (.pop, 1), (.goto 28, 3)] = true := zdecB_app (a := [(.aload_n 1, 1), (.invokevirtual 214, 3), (.pop, 1), (.aload_n 2, 1), (.invokevirtual 217, 3), (.pop, 1)]) dL_law_1236 (dL_law_1246)
set_option maxRecDepth 100000 in
theorem dL_law_1249 : zdecB cL_law 1249 [(.aload_n 1, 1), (.aload_n 0, 1), (.iload 4, 2), (.iconst 1, 1), (.iadd, 1), (.iaload, 1)] = true := by decide +kernel
set_option maxRecDepth 100000 in
theorem dL_law_1256 : zdecB cL_law 1256 [(.invokevirtual 218, 3), (.pop, 1), (.aload_n 2, 1), (.aload_n 0, 1), (.iload 4, 2), (.iconst 1, 1)] = true := by decide +kernel
set_option maxRecDepth 100000 in
theorem dL_law_1265 : zdecB cL_law 1265 [(.iadd, 1), (.iaload, 1), (.invokevirtual 221, 3), (.pop, 1), (.goto 3, 3)] = true := by decide +kernel
set_option maxRecDepth 100000 in
theorem eL_law_1249 : zdecB cL_law 1249 [(.aload_n 1, 1), (.aload_n 0, 1), (.iload 4, 2), (.iconst 1, 1), (.iadd, 1), (.iaload, 1), (.invokevirtual 218, 3), (.pop, 1), (.aload_n 2, 1), (.aload_n 0, 1), (.iload 4, 2), (.iconst 1, 1), (.iadd, 1), (.iaload, 1), (.invokevirtual 221, 3), (.pop, 1), (.goto 3, 3)] = true := zdecB_app (a := [(.aload_n 1, 1), (.aload_n 0, 1), (.iload 4, 2), (.iconst 1, 1), (.iadd, 1), (.iaload, 1)]) dL_law_1249 (zdecB_app (a := [(.invokevirtual 218, 3), (.pop, 1), (.aload_n 2, 1), (.aload_n 0, 1), (.iload 4, 2), (.iconst 1, 1)]) dL_law_1256 (dL_law_1265))
set_option maxRecDepth 100000 in
theorem dL_law_1274 : zdecB cL_law 1274 [(.iinc 4 6, 3), (.goto (-1254), 3)] = true := by decide +kernel
set_option maxRecDepth 100000 in
theorem dL_law_1280 : zdecB cL_law 1280 [(.iconst 1, 1), (.ireturn, 1)] = true := by decide +kernel
theorem oL_law : ∀ pc, zdec cL_law pc (zBf BL_law pc) := zBf_ok (by
  unfold BL_law
  simp only [List.all_cons, List.all_nil, eL_law_23, eL_law_188, eL_law_261, eL_law_286, eL_law_302, eL_law_315, eL_law_367, eL_law_395, eL_law_435, eL_law_475, eL_law_523, dL_law_540, eL_law_543, eL_law_583, eL_law_635, eL_law_651, eL_law_679, dL_law_693, eL_law_694, dL_law_714, dL_law_715, eL_law_723, eL_law_739, eL_law_755, eL_law_783, eL_law_823, eL_law_836, eL_law_876, dL_law_896, eL_law_897, dL_law_921, dL_law_922, eL_law_929, eL_law_969, eL_law_1009, dL_law_1023, eL_law_1024, dL_law_1042, dL_law_1043, eL_law_1050, eL_law_1063, eL_law_1076, eL_law_1104, eL_law_1129, eL_law_1169, dL_law_1189, eL_law_1190, dL_law_1216, dL_law_1217, dL_law_1225, eL_law_1236, eL_law_1249, dL_law_1274, dL_law_1280, Bool.and_true])
set_option maxRecDepth 100000 in
theorem bL_law_23 : zBf BL_law 23 = [(.iload 4, 2), (.aload_n 0, 1), (.arraylength, 1), (.bipush 6, 2), (.isub, 1), (.if_icmp .gt 1250, 3), (.aload_n 0, 1), (.iload 4, 2), (.iaload, 1), (.bipush 63, 2), (.iand, 1), (.tableswitch 1234 0 32 #[148, 221, 246, 262, 275, 327, 355, 395, 435, 503, 543, 595, 611, 639, 683, 699, 715, 743, 783, 796, 836, 889, 929, 969, 1010, 1023, 1036, 1064, 1089, 1129, 1185, 1196, 1209], 148)] := rfl
set_option maxRecDepth 100000 in
theorem bL_law_188 : zBf BL_law 188 = [(.aload_n 1, 1), (.aload_n 0, 1), (.iload 4, 2), (.iconst 1, 1), (.iadd, 1), (.iaload, 1), (.aload_n 0, 1), (.iload 4, 2), (.iconst 2, 1), (.iadd, 1), (.iaload, 1), (.aload_n 0, 1), (.iload 4, 2), (.iconst 3, 1), (.iadd, 1), (.iaload, 1), (.aload_n 0, 1), (.iload 4, 2), (.iconst 4, 1), (.iadd, 1), (.iaload, 1), (.aload_n 0, 1), (.iload 4, 2), (.iconst 5, 1), (.iadd, 1), (.iaload, 1), (.invokevirtual 96, 3), (.pop, 1), (.aload_n 2, 1), (.aload_n 0, 1), (.iload 4, 2), (.iconst 1, 1), (.iadd, 1), (.iaload, 1), (.aload_n 0, 1), (.iload 4, 2), (.iconst 2, 1), (.iadd, 1), (.iaload, 1), (.aload_n 0, 1), (.iload 4, 2), (.iconst 3, 1), (.iadd, 1), (.iaload, 1), (.aload_n 0, 1), (.iload 4, 2), (.iconst 4, 1), (.iadd, 1), (.iaload, 1), (.aload_n 0, 1), (.iload 4, 2), (.iconst 5, 1), (.iadd, 1), (.iaload, 1), (.invokevirtual 100, 3), (.pop, 1), (.goto 1016, 3)] := rfl
set_option maxRecDepth 100000 in
theorem bL_law_261 : zBf BL_law 261 = [(.aload_n 1, 1), (.aload_n 0, 1), (.iload 4, 2), (.iconst 1, 1), (.iadd, 1), (.iaload, 1), (.invokevirtual 101, 3), (.pop, 1), (.aload_n 2, 1), (.aload_n 0, 1), (.iload 4, 2), (.iconst 1, 1), (.iadd, 1), (.iaload, 1), (.invokevirtual 105, 3), (.pop, 1), (.goto 991, 3)] := rfl
set_option maxRecDepth 100000 in
theorem bL_law_286 : zBf BL_law 286 = [(.aload_n 1, 1), (.aload_n 3, 1), (.invokestatic 106, 3), (.istore 5, 2), (.aload_n 2, 1), (.invokevirtual 111, 3), (.istore 6, 2), (.goto 975, 3)] := rfl
set_option maxRecDepth 100000 in
theorem bL_law_302 : zBf BL_law 302 = [(.aload_n 1, 1), (.invokevirtual 112, 3), (.pop, 1), (.aload_n 2, 1), (.invokevirtual 115, 3), (.pop, 1), (.goto 962, 3)] := rfl
set_option maxRecDepth 100000 in
theorem bL_law_315 : zBf BL_law 315 = [(.aload_n 1, 1), (.aload_n 0, 1), (.iload 4, 2), (.iconst 1, 1), (.iadd, 1), (.iaload, 1), (.aload_n 0, 1), (.iload 4, 2), (.iconst 2, 1), (.iadd, 1), (.iaload, 1), (.aload_n 0, 1), (.iload 4, 2), (.iconst 3, 1), (.iadd, 1), (.iaload, 1), (.aload_n 3, 1), (.invokestatic 116, 3), (.istore 5, 2), (.aload_n 2, 1), (.aload_n 0, 1), (.iload 4, 2), (.iconst 1, 1), (.iadd, 1), (.iaload, 1), (.aload_n 0, 1), (.iload 4, 2), (.iconst 2, 1), (.iadd, 1), (.iaload, 1), (.aload_n 0, 1), (.iload 4, 2), (.iconst 3, 1), (.iadd, 1), (.iaload, 1), (.invokevirtual 119, 3), (.istore 6, 2), (.goto 910, 3)] := rfl
set_option maxRecDepth 100000 in
theorem bL_law_367 : zBf BL_law 367 = [(.aload_n 1, 1), (.aload_n 0, 1), (.iload 4, 2), (.iconst 1, 1), (.iadd, 1), (.iaload, 1), (.aload_n 3, 1), (.invokestatic 120, 3), (.istore 5, 2), (.aload_n 2, 1), (.aload_n 0, 1), (.iload 4, 2), (.iconst 1, 1), (.iadd, 1), (.iaload, 1), (.invokevirtual 123, 3), (.istore 6, 2), (.goto 882, 3)] := rfl
set_option maxRecDepth 100000 in
theorem bL_law_395 : zBf BL_law 395 = [(.aload_n 1, 1), (.aload_n 0, 1), (.iload 4, 2), (.iconst 1, 1), (.iadd, 1), (.iaload, 1), (.aload_n 0, 1), (.iload 4, 2), (.iconst 2, 1), (.iadd, 1), (.iaload, 1), (.aload_n 3, 1), (.invokestatic 124, 3), (.istore 5, 2), (.aload_n 2, 1), (.aload_n 0, 1), (.iload 4, 2), (.iconst 1, 1), (.iadd, 1), (.iaload, 1), (.aload_n 0, 1), (.iload 4, 2), (.iconst 2, 1), (.iadd, 1), (.iaload, 1), (.invokevirtual 127, 3), (.istore 6, 2), (.goto 842, 3)] := rfl
set_option maxRecDepth 100000 in
theorem bL_law_435 : zBf BL_law 435 = [(.aload_n 1, 1), (.aload_n 0, 1), (.iload 4, 2), (.iconst 1, 1), (.iadd, 1), (.iaload, 1), (.aload_n 0, 1), (.iload 4, 2), (.iconst 2, 1), (.iadd, 1), (.iaload, 1), (.aload_n 3, 1), (.invokestatic 128, 3), (.istore 5, 2), (.aload_n 2, 1), (.aload_n 0, 1), (.iload 4, 2), (.iconst 1, 1), (.iadd, 1), (.iaload, 1), (.aload_n 0, 1), (.iload 4, 2), (.iconst 2, 1), (.iadd, 1), (.iaload, 1), (.invokevirtual 130, 3), (.istore 6, 2), (.goto 802, 3)] := rfl
set_option maxRecDepth 100000 in
theorem bL_law_475 : zBf BL_law 475 = [(.aload_n 1, 1), (.aload_n 0, 1), (.iload 4, 2), (.iconst 1, 1), (.iadd, 1), (.iaload, 1), (.aload_n 0, 1), (.iload 4, 2), (.iconst 2, 1), (.iadd, 1), (.iaload, 1), (.aload_n 3, 1), (.invokestatic 131, 3), (.istore 5, 2), (.aload_n 2, 1), (.aload_n 0, 1), (.iload 4, 2), (.iconst 1, 1), (.iadd, 1), (.iaload, 1), (.aload_n 0, 1), (.iload 4, 2), (.iconst 2, 1), (.iadd, 1), (.iaload, 1), (.invokevirtual 133, 3), (.istore 6, 2), (.aload_n 2, 1), (.invokevirtual 134, 3), (.iload 5, 2), (.if_icmp .eq 5, 3), (.iconst 0, 1), (.ireturn, 1)] := rfl
set_option maxRecDepth 100000 in
theorem bL_law_523 : zBf BL_law 523 = [(.iload 5, 2), (.ifCond .ne 15, 3), (.aload_n 3, 1), (.iconst 0, 1), (.laload, 1), (.iload 6, 2), (.i2l, 1), (.lcmp, 1), (.ifCond .eq 5, 3), (.iconst 0, 1), (.ireturn, 1)] := rfl
set_option maxRecDepth 100000 in
theorem bL_law_540 : zBf BL_law 540 = [(.goto 734, 3)] := rfl
set_option maxRecDepth 100000 in
theorem bL_law_543 : zBf BL_law 543 = [(.aload_n 1, 1), (.aload_n 0, 1), (.iload 4, 2), (.iconst 1, 1), (.iadd, 1), (.iaload, 1), (.aload_n 0, 1), (.iload 4, 2), (.iconst 2, 1), (.iadd, 1), (.iaload, 1), (.aload_n 3, 1), (.invokestatic 137, 3), (.istore 5, 2), (.aload_n 2, 1), (.aload_n 0, 1), (.iload 4, 2), (.iconst 1, 1), (.iadd, 1), (.iaload, 1), (.aload_n 0, 1), (.iload 4, 2), (.iconst 2, 1), (.iadd, 1), (.iaload, 1), (.invokevirtual 139, 3), (.istore 6, 2), (.goto 694, 3)] := rfl
set_option maxRecDepth 100000 in
theorem bL_law_583 : zBf BL_law 583 = [(.aload_n 1, 1), (.aload_n 0, 1), (.iload 4, 2), (.iconst 1, 1), (.iadd, 1), (.iaload, 1), (.aload_n 0, 1), (.iload 4, 2), (.iconst 2, 1), (.iadd, 1), (.iaload, 1), (.aload_n 0, 1), (.iload 4, 2), (.iconst 3, 1), (.iadd, 1), (.iaload, 1), (.aload_n 3, 1), (.invokestatic 140, 3), (.istore 5, 2), (.aload_n 2, 1), (.aload_n 0, 1), (.iload 4, 2), (.iconst 1, 1), (.iadd, 1), (.iaload, 1), (.aload_n 0, 1), (.iload 4, 2), (.iconst 2, 1), (.iadd, 1), (.iaload, 1), (.aload_n 0, 1), (.iload 4, 2), (.iconst 3, 1), (.iadd, 1), (.iaload, 1), (.invokevirtual 142, 3), (.istore 6, 2), (.goto 642, 3)] := rfl
set_option maxRecDepth 100000 in
theorem bL_law_635 : zBf BL_law 635 = [(.aload_n 1, 1), (.aload_n 3, 1), (.invokestatic 143, 3), (.istore 5, 2), (.aload_n 2, 1), (.invokevirtual 145, 3), (.istore 6, 2), (.goto 626, 3)] := rfl
set_option maxRecDepth 100000 in
theorem bL_law_651 : zBf BL_law 651 = [(.aload_n 1, 1), (.aload_n 0, 1), (.iload 4, 2), (.iconst 1, 1), (.iadd, 1), (.iaload, 1), (.aload_n 3, 1), (.invokestatic 146, 3), (.istore 5, 2), (.aload_n 2, 1), (.aload_n 0, 1), (.iload 4, 2), (.iconst 1, 1), (.iadd, 1), (.iaload, 1), (.invokevirtual 148, 3), (.istore 6, 2), (.goto 598, 3)] := rfl
set_option maxRecDepth 100000 in
theorem bL_law_679 : zBf BL_law 679 = [(.aload_n 1, 1), (.aload_n 0, 1), (.iload 4, 2), (.iconst 1, 1), (.iadd, 1), (.iaload, 1), (.ifCond .eq 7, 3), (.iconst 1, 1), (.goto 4, 3)] := rfl
set_option maxRecDepth 100000 in
theorem bL_law_693 : zBf BL_law 693 = [(.iconst 0, 1)] := rfl
set_option maxRecDepth 100000 in
theorem bL_law_694 : zBf BL_law 694 = [(.aload_n 3, 1), (.invokestatic 149, 3), (.istore 5, 2), (.aload_n 2, 1), (.aload_n 0, 1), (.iload 4, 2), (.iconst 1, 1), (.iadd, 1), (.iaload, 1), (.ifCond .eq 7, 3), (.iconst 1, 1), (.goto 4, 3)] := rfl
set_option maxRecDepth 100000 in
theorem bL_law_714 : zBf BL_law 714 = [(.iconst 0, 1)] := rfl
set_option maxRecDepth 100000 in
theorem bL_law_715 : zBf BL_law 715 = [(.invokevirtual 152, 3), (.istore 6, 2), (.goto 554, 3)] := rfl
set_option maxRecDepth 100000 in
theorem bL_law_723 : zBf BL_law 723 = [(.aload_n 1, 1), (.aload_n 3, 1), (.invokestatic 153, 3), (.istore 5, 2), (.aload_n 2, 1), (.invokevirtual 155, 3), (.istore 6, 2), (.goto 538, 3)] := rfl
set_option maxRecDepth 100000 in
theorem bL_law_739 : zBf BL_law 739 = [(.aload_n 1, 1), (.aload_n 3, 1), (.invokestatic 156, 3), (.istore 5, 2), (.aload_n 2, 1), (.invokevirtual 158, 3), (.istore 6, 2), (.goto 522, 3)] := rfl
set_option maxRecDepth 100000 in
theorem bL_law_755 : zBf BL_law 755 = [(.aload_n 1, 1), (.aload_n 0, 1), (.iload 4, 2), (.iconst 1, 1), (.iadd, 1), (.iaload, 1), (.aload_n 3, 1), (.invokestatic 159, 3), (.istore 5, 2), (.aload_n 2, 1), (.aload_n 0, 1), (.iload 4, 2), (.iconst 1, 1), (.iadd, 1), (.iaload, 1), (.invokevirtual 161, 3), (.istore 6, 2), (.goto 494, 3)] := rfl
set_option maxRecDepth 100000 in
theorem bL_law_783 : zBf BL_law 783 = [(.aload_n 1, 1), (.aload_n 0, 1), (.iload 4, 2), (.iconst 1, 1), (.iadd, 1), (.iaload, 1), (.aload_n 0, 1), (.iload 4, 2), (.iconst 2, 1), (.iadd, 1), (.iaload, 1), (.aload_n 3, 1), (.invokestatic 162, 3), (.istore 5, 2), (.aload_n 2, 1), (.aload_n 0, 1), (.iload 4, 2), (.iconst 1, 1), (.iadd, 1), (.iaload, 1), (.aload_n 0, 1), (.iload 4, 2), (.iconst 2, 1), (.iadd, 1), (.iaload, 1), (.invokevirtual 164, 3), (.istore 6, 2), (.goto 454, 3)] := rfl
set_option maxRecDepth 100000 in
theorem bL_law_823 : zBf BL_law 823 = [(.aload_n 1, 1), (.invokevirtual 165, 3), (.pop, 1), (.aload_n 2, 1), (.invokevirtual 168, 3), (.pop, 1), (.goto 441, 3)] := rfl
set_option maxRecDepth 100000 in
theorem bL_law_836 : zBf BL_law 836 = [(.aload_n 1, 1), (.aload_n 0, 1), (.iload 4, 2), (.iconst 1, 1), (.iadd, 1), (.iaload, 1), (.aload_n 0, 1), (.iload 4, 2), (.iconst 2, 1), (.iadd, 1), (.iaload, 1), (.aload_n 3, 1), (.invokestatic 169, 3), (.istore 5, 2), (.aload_n 2, 1), (.aload_n 0, 1), (.iload 4, 2), (.iconst 1, 1), (.iadd, 1), (.iaload, 1), (.aload_n 0, 1), (.iload 4, 2), (.iconst 2, 1), (.iadd, 1), (.iaload, 1), (.invokevirtual 171, 3), (.istore 6, 2), (.goto 401, 3)] := rfl
set_option maxRecDepth 100000 in
theorem bL_law_876 : zBf BL_law 876 = [(.aload_n 1, 1), (.aload_n 0, 1), (.iload 4, 2), (.iconst 1, 1), (.iadd, 1), (.iaload, 1), (.aload_n 0, 1), (.iload 4, 2), (.iconst 2, 1), (.iadd, 1), (.iaload, 1), (.ifCond .eq 7, 3), (.iconst 1, 1), (.goto 4, 3)] := rfl
set_option maxRecDepth 100000 in
theorem bL_law_896 : zBf BL_law 896 = [(.iconst 0, 1)] := rfl
set_option maxRecDepth 100000 in
theorem bL_law_897 : zBf BL_law 897 = [(.invokevirtual 172, 3), (.pop, 1), (.aload_n 2, 1), (.aload_n 0, 1), (.iload 4, 2), (.iconst 1, 1), (.iadd, 1), (.iaload, 1), (.aload_n 0, 1), (.iload 4, 2), (.iconst 2, 1), (.iadd, 1), (.iaload, 1), (.ifCond .eq 7, 3), (.iconst 1, 1), (.goto 4, 3)] := rfl
set_option maxRecDepth 100000 in
theorem bL_law_921 : zBf BL_law 921 = [(.iconst 0, 1)] := rfl
set_option maxRecDepth 100000 in
theorem bL_law_922 : zBf BL_law 922 = [(.invokevirtual 175, 3), (.pop, 1), (.goto 348, 3)] := rfl
set_option maxRecDepth 100000 in
theorem bL_law_929 : zBf BL_law 929 = [(.aload_n 1, 1), (.aload_n 0, 1), (.iload 4, 2), (.iconst 1, 1), (.iadd, 1), (.iaload, 1), (.aload_n 0, 1), (.iload 4, 2), (.iconst 2, 1), (.iadd, 1), (.iaload, 1), (.aload_n 3, 1), (.invokestatic 176, 3), (.istore 5, 2), (.aload_n 2, 1), (.aload_n 0, 1), (.iload 4, 2), (.iconst 1, 1), (.iadd, 1), (.iaload, 1), (.aload_n 0, 1), (.iload 4, 2), (.iconst 2, 1), (.iadd, 1), (.iaload, 1), (.invokevirtual 178, 3), (.istore 6, 2), (.goto 308, 3)] := rfl
set_option maxRecDepth 100000 in
theorem bL_law_969 : zBf BL_law 969 = [(.aload_n 1, 1), (.aload_n 0, 1), (.iload 4, 2), (.iconst 1, 1), (.iadd, 1), (.iaload, 1), (.aload_n 0, 1), (.iload 4, 2), (.iconst 2, 1), (.iadd, 1), (.iaload, 1), (.aload_n 3, 1), (.invokestatic 179, 3), (.istore 5, 2), (.aload_n 2, 1), (.aload_n 0, 1), (.iload 4, 2), (.iconst 1, 1), (.iadd, 1), (.iaload, 1), (.aload_n 0, 1), (.iload 4, 2), (.iconst 2, 1), (.iadd, 1), (.iaload, 1), (.invokevirtual 181, 3), (.istore 6, 2), (.goto 268, 3)] := rfl
set_option maxRecDepth 100000 in
theorem bL_law_1009 : zBf BL_law 1009 = [(.aload_n 1, 1), (.aload_n 0, 1), (.iload 4, 2), (.iconst 1, 1), (.iadd, 1), (.iaload, 1), (.ifCond .eq 7, 3), (.iconst 1, 1), (.goto 4, 3)] := rfl
set_option maxRecDepth 100000 in
theorem bL_law_1023 : zBf BL_law 1023 = [(.iconst 0, 1)] := rfl
set_option maxRecDepth 100000 in
theorem bL_law_1024 : zBf BL_law 1024 = [(.invokevirtual 182, 3), (.pop, 1), (.aload_n 2, 1), (.aload_n 0, 1), (.iload 4, 2), (.iconst 1, 1), (.iadd, 1), (.iaload, 1), (.ifCond .eq 7, 3), (.iconst 1, 1), (.goto 4, 3)] := rfl
set_option maxRecDepth 100000 in
theorem bL_law_1042 : zBf BL_law 1042 = [(.iconst 0, 1)] := rfl
set_option maxRecDepth 100000 in
theorem bL_law_1043 : zBf BL_law 1043 = [(.invokevirtual 186, 3), (.pop, 1), (.goto 227, 3)] := rfl
set_option maxRecDepth 100000 in
theorem bL_law_1050 : zBf BL_law 1050 = [(.aload_n 1, 1), (.invokevirtual 187, 3), (.pop, 1), (.aload_n 2, 1), (.invokevirtual 190, 3), (.pop, 1), (.goto 214, 3)] := rfl
set_option maxRecDepth 100000 in
theorem bL_law_1063 : zBf BL_law 1063 = [(.aload_n 1, 1), (.invokevirtual 191, 3), (.pop, 1), (.aload_n 2, 1), (.invokevirtual 195, 3), (.pop, 1), (.goto 201, 3)] := rfl
set_option maxRecDepth 100000 in
theorem bL_law_1076 : zBf BL_law 1076 = [(.aload_n 1, 1), (.aload_n 0, 1), (.iload 4, 2), (.iconst 1, 1), (.iadd, 1), (.iaload, 1), (.aload_n 3, 1), (.invokestatic 196, 3), (.istore 5, 2), (.aload_n 2, 1), (.aload_n 0, 1), (.iload 4, 2), (.iconst 1, 1), (.iadd, 1), (.iaload, 1), (.invokevirtual 198, 3), (.istore 6, 2), (.goto 173, 3)] := rfl
set_option maxRecDepth 100000 in
theorem bL_law_1104 : zBf BL_law 1104 = [(.aload_n 1, 1), (.aload_n 0, 1), (.iload 4, 2), (.iconst 1, 1), (.iadd, 1), (.iaload, 1), (.invokestatic 199, 3), (.istore 5, 2), (.aload_n 2, 1), (.aload_n 0, 1), (.iload 4, 2), (.iconst 1, 1), (.iadd, 1), (.iaload, 1), (.invokevirtual 202, 3), (.goto 148, 3)] := rfl
set_option maxRecDepth 100000 in
theorem bL_law_1129 : zBf BL_law 1129 = [(.aload_n 1, 1), (.aload_n 0, 1), (.iload 4, 2), (.iconst 1, 1), (.iadd, 1), (.iaload, 1), (.aload_n 0, 1), (.iload 4, 2), (.iconst 2, 1), (.iadd, 1), (.iaload, 1), (.aload_n 3, 1), (.invokestatic 203, 3), (.istore 5, 2), (.aload_n 2, 1), (.aload_n 0, 1), (.iload 4, 2), (.iconst 1, 1), (.iadd, 1), (.iaload, 1), (.aload_n 0, 1), (.iload 4, 2), (.iconst 2, 1), (.iadd, 1), (.iaload, 1), (.invokevirtual 205, 3), (.istore 6, 2), (.goto 108, 3)] := rfl
set_option maxRecDepth 100000 in
theorem bL_law_1169 : zBf BL_law 1169 = [(.aload_n 1, 1), (.aload_n 0, 1), (.iload 4, 2), (.iconst 1, 1), (.iadd, 1), (.iaload, 1), (.aload_n 0, 1), (.iload 4, 2), (.iconst 2, 1), (.iadd, 1), (.iaload, 1), (.ifCond .eq 7, 3), (.iconst 1, 1), (.goto 4, 3)] := rfl
set_option maxRecDepth 100000 in
theorem bL_law_1189 : zBf BL_law 1189 = [(.iconst 0, 1)] := rfl
set_option maxRecDepth 100000 in
theorem bL_law_1190 : zBf BL_law 1190 = [(.aload_n 3, 1), (.invokestatic 206, 3), (.istore 5, 2), (.aload_n 2, 1), (.aload_n 0, 1), (.iload 4, 2), (.iconst 1, 1), (.iadd, 1), (.iaload, 1), (.aload_n 0, 1), (.iload 4, 2), (.iconst 2, 1), (.iadd, 1), (.iaload, 1), (.ifCond .eq 7, 3), (.iconst 1, 1), (.goto 4, 3)] := rfl
set_option maxRecDepth 100000 in
theorem bL_law_1216 : zBf BL_law 1216 = [(.iconst 0, 1)] := rfl
set_option maxRecDepth 100000 in
theorem bL_law_1217 : zBf BL_law 1217 = [(.invokevirtual 209, 3), (.istore 6, 2), (.goto 52, 3)] := rfl
set_option maxRecDepth 100000 in
theorem bL_law_1225 : zBf BL_law 1225 = [(.aload_n 1, 1), (.invokevirtual 210, 3), (.aload_n 2, 1), (.invokevirtual 213, 3), (.goto 41, 3)] := rfl
set_option maxRecDepth 100000 in
theorem bL_law_1236 : zBf BL_law 1236 = [(.aload_n 1, 1), (.invokevirtual 214, 3), (.pop, 1), (.aload_n 2, 1), (.invokevirtual 217, 3), (.pop, 1), (.goto 28, 3)] := rfl
set_option maxRecDepth 100000 in
theorem bL_law_1249 : zBf BL_law 1249 = [(.aload_n 1, 1), (.aload_n 0, 1), (.iload 4, 2), (.iconst 1, 1), (.iadd, 1), (.iaload, 1), (.invokevirtual 218, 3), (.pop, 1), (.aload_n 2, 1), (.aload_n 0, 1), (.iload 4, 2), (.iconst 1, 1), (.iadd, 1), (.iaload, 1), (.invokevirtual 221, 3), (.pop, 1), (.goto 3, 3)] := rfl
set_option maxRecDepth 100000 in
theorem bL_law_1274 : zBf BL_law 1274 = [(.iinc 4 6, 3), (.goto (-1254), 3)] := rfl
set_option maxRecDepth 100000 in
theorem bL_law_1280 : zBf BL_law 1280 = [(.iconst 1, 1), (.ireturn, 1)] := rfl
def VL_law : List (Nat × zCt) := [(96, CX10_feed), (100, CX11_feed), (101, CX10_end), (105, CX11_end), (111, CX11_orders), (112, CX10_fault), (115, CX11_fault), (119, CX11_ground), (123, CX11_kind), (127, CX11_rail), (130, CX11_gang), (133, CX11_task), (134, CX11_thrown), (139, CX11_store), (142, CX11_set), (145, CX11_lift), (148, CX11_lay), (152, CX11_go), (155, CX11_fill), (158, CX11_dig), (161, CX11_rest), (164, CX11_run), (165, CX10_where), (168, CX11_where), (171, CX11_look), (172, CX10_line), (175, CX11_line), (178, CX11_route), (181, CX11_reach), (182, CX10_joints), (186, CX11_joints), (187, CX10_worn), (190, CX11_worn), (191, CX10_few), (195, CX11_few), (198, CX11_steal), (202, CX11_lose), (205, CX11_which), (209, CX11_ahead), (210, CX10_image), (213, CX11_image), (214, CX10_back), (217, CX11_back), (218, CX10_count), (221, CX11_count)]
def WL_law : List (Nat × zCt) := [(106, CL_orders), (116, CL_ground), (120, CL_kind), (124, CL_rail), (128, CL_gang), (131, CL_task), (137, CL_store), (140, CL_set), (143, CL_lift), (146, CL_lay), (149, CL_go), (153, CL_fill), (156, CL_dig), (159, CL_rest), (162, CL_run), (169, CL_look), (176, CL_route), (179, CL_reach), (196, CL_steal), (199, CL_lose), (203, CL_which), (206, CL_ahead)]
def zlJ (N : Nat) (a b c : Int) : Nat → Nat → zL → List zV → zM → Prop := fun n k ls st mem => ls 0 = (3, 60) ∧ ls 1 = (2, 0) ∧ ls 2 = (2, 80) ∧ ls 3 = (2, 94) ∧ (ls 4).1 = 0 ∧ st = [] ∧ zInv mem ∧ 0 ≤ (ls 4).2 ∧ (ls 4).2 + a ≤ N ∧ 6 * (k : Int) ≤ (ls 4).2 + b ∧ (4 * (4000 - (ls 4).2) + c).toNat ≤ n
def zLh (ls : zL) (x : Int) : Prop := ls 0 = (3, 60) ∧ ls 1 = (2, 0) ∧ ls 2 = (2, 80) ∧ ls 3 = (2, 94) ∧ ls 4 = (0, x)
theorem zLh_5 {ls : zL} {x : Int} {v : zV} (h : zLh ls x) : zLh (zst ls 5 v) x := by
  obtain ⟨h0, h1, h2, h3, h4⟩ := h
  refine ⟨?_, ?_, ?_, ?_, ?_⟩
  · rw [zst_e, if_neg (by omega), if_neg (by omega)]; exact h0
  · rw [zst_e, if_neg (by omega), if_neg (by omega)]; exact h1
  · rw [zst_e, if_neg (by omega), if_neg (by omega)]; exact h2
  · rw [zst_e, if_neg (by omega), if_neg (by omega)]; exact h3
  · rw [zst_e, if_neg (by omega), if_neg (fun z => by have z2 := z.2; rw [h4] at z2; exact absurd z2 (show ¬ (0 : Nat) = 1 by decide))]; exact h4
theorem zLh_6 {ls : zL} {x : Int} {v : zV} (h : zLh ls x) : zLh (zst ls 6 v) x := by
  obtain ⟨h0, h1, h2, h3, h4⟩ := h
  refine ⟨?_, ?_, ?_, ?_, ?_⟩
  · rw [zst_e, if_neg (by omega), if_neg (by omega)]; exact h0
  · rw [zst_e, if_neg (by omega), if_neg (by omega)]; exact h1
  · rw [zst_e, if_neg (by omega), if_neg (by omega)]; exact h2
  · rw [zst_e, if_neg (by omega), if_neg (by omega)]; exact h3
  · rw [zst_e, if_neg (by omega), if_neg (by omega)]; exact h4
theorem zLh_4 {ls : zL} {x y : Int} (h : zLh ls x) : zLh (zst ls 4 (0, y)) y := by
  obtain ⟨h0, h1, h2, h3, h4⟩ := h
  refine ⟨?_, ?_, ?_, ?_, ?_⟩
  · rw [zst_e, if_neg (by omega), if_neg (by omega)]; exact h0
  · rw [zst_e, if_neg (by omega), if_neg (by omega)]; exact h1
  · rw [zst_e, if_neg (by omega), if_neg (by omega)]; exact h2
  · rw [zst_e, if_neg (by omega), if_neg (by rw [h3]; decide)]; exact h3
  · rw [zst_e, if_pos rfl]
theorem zlJ_of {N n k : Nat} {a b c x : Int} {ls : zL} {mem : zM} (h : zLh ls x) (hI : zInv mem) (h0 : 0 ≤ x) (h1 : x + a ≤ N) (h2 : 6 * (k : Int) ≤ x + b) (h3 : (4 * (4000 - x) + c).toNat < n) : ∃ n', n' < n ∧ zlJ N a b c n' k ls [] mem := by
  obtain ⟨e0, e1, e2, e3, e4⟩ := h
  exact ⟨_, h3, e0, e1, e2, e3, by rw [e4], rfl, hI, by rw [e4]; exact h0, by rw [e4]; exact h1, by rw [e4]; exact h2, by rw [e4]; exact Nat.le_refl _⟩
theorem zlJ_end {N n k : Nat} {x : Int} {ls : zL} {mem : zM} (hN : N ≤ 3072) (h : zLh ls x) (hI : zInv mem) (h0 : 0 ≤ x) (h1 : x + 6 ≤ N) (h2 : 6 * (k : Int) ≤ x + 6) (h3 : (4 * (4000 - x) + 1).toNat ≤ n) : ∃ n', n' < n ∧ zlJ N 6 6 0 n' k ls [] mem := zlJ_of h hI h0 h1 h2 (by omega)
theorem zlv_g {N : Nat} {xs : Nat → Int} {Λ : List zC} {pl : zPo} {cv cw : Nat → Option zCt} {RP : Int → zM → Prop} {nL q : Nat} {tags : List Nat} {rt : Nat} {pre : List Int → zM → Prop} {post : List Int → zM → Int → zM → Prop} (h : cv q = some (tags, rt, pre, post)) (n pc k : Nat) (ls : zL) (st : List zV) (mem : zM) (J : Nat → zJ) (K : Nat → zL → List zV → zM → Prop) : zlI N xs Λ pl cv cw RP nL (.invokevirtual q) n pc k ls st mem J K = (n = 3 ∧ k < 3000 ∧ zIV Λ tags rt pre st mem (fun vs => ∀ (r : Int) (mem' : zM), zrt rt r → zokM Λ mem' → post vs mem r mem' → K k ls (zres rt r (st.drop tags.length)) mem')) := by
  rw [zl_invokevirtual, h, zinv_g]
theorem zlv_p {N : Nat} {xs : Nat → Int} {Λ : List zC} {pl : zPo} {cv cw : Nat → Option zCt} {RP : Int → zM → Prop} {nL q : Nat} {tags : List Nat} {rt : Nat} {pre : List Int → zM → Prop} {P : List Int → zM → Int → Prop} (h : cv q = some (tags, rt, pre, zpu P)) (n pc k : Nat) (ls : zL) (st : List zV) (mem : zM) (J : Nat → zJ) (K : Nat → zL → List zV → zM → Prop) : zlI N xs Λ pl cv cw RP nL (.invokevirtual q) n pc k ls st mem J K = (n = 3 ∧ k < 3000 ∧ zIV Λ tags rt pre st mem (fun vs => ∀ (r : Int), zrt rt r → zokM Λ mem → P vs mem r → K k ls (zres rt r (st.drop tags.length)) mem)) := by
  rw [zl_invokevirtual, h, zinv_p]
theorem zlw_g {N : Nat} {xs : Nat → Int} {Λ : List zC} {pl : zPo} {cv cw : Nat → Option zCt} {RP : Int → zM → Prop} {nL q : Nat} {tags : List Nat} {rt : Nat} {pre : List Int → zM → Prop} {post : List Int → zM → Int → zM → Prop} (h : cw q = some (tags, rt, pre, post)) (n pc k : Nat) (ls : zL) (st : List zV) (mem : zM) (J : Nat → zJ) (K : Nat → zL → List zV → zM → Prop) : zlI N xs Λ pl cv cw RP nL (.invokestatic q) n pc k ls st mem J K = (n = 3 ∧ k < 3000 ∧ zIV Λ tags rt pre st mem (fun vs => ∀ (r : Int) (mem' : zM), zrt rt r → zokM Λ mem' → post vs mem r mem' → K (k + 1) ls (zres rt r (st.drop tags.length)) mem')) := by
  rw [zl_invokestatic, h, zinv_g]
def HL_law (N : Nat) : List (Nat × (Nat → Nat → zL → List zV → zM → Prop)) := [(23, zlJ N 0 0 2), (188, zlJ N 6 0 1), (261, zlJ N 6 0 1), (286, zlJ N 6 0 1), (302, zlJ N 6 0 1), (315, zlJ N 6 0 1), (367, zlJ N 6 0 1), (395, zlJ N 6 0 1), (435, zlJ N 6 0 1), (475, zlJ N 6 0 1), (543, zlJ N 6 0 1), (583, zlJ N 6 0 1), (635, zlJ N 6 0 1), (651, zlJ N 6 0 1), (679, zlJ N 6 0 1), (723, zlJ N 6 0 1), (739, zlJ N 6 0 1), (755, zlJ N 6 0 1), (783, zlJ N 6 0 1), (823, zlJ N 6 0 1), (836, zlJ N 6 0 1), (876, zlJ N 6 0 1), (929, zlJ N 6 0 1), (969, zlJ N 6 0 1), (1009, zlJ N 6 0 1), (1050, zlJ N 6 0 1), (1063, zlJ N 6 0 1), (1076, zlJ N 6 0 1), (1104, zlJ N 6 0 1), (1129, zlJ N 6 0 1), (1169, zlJ N 6 0 1), (1225, zlJ N 6 0 1), (1236, zlJ N 6 0 1), (1249, zlJ N 6 0 1), (1274, zlJ N 6 6 0)]
set_option maxRecDepth 100000 in
theorem gL_law_23 (N : Nat) (xs : Nat → Int) (n f k : Nat) (ls : zL) (st : List zV) (mem : zM) : zlgo N xs zLay (fun _ => none) (zCf VL_law) (zCf WL_law) (fun v _ => v = 1) 7 (zBf BL_law) (zlBelow (zlHf (HL_law N)) n) f k 23 ls st mem = ∃ n', n' < n ∧ zlJ N 0 0 2 n' k ls st mem := rfl
set_option maxRecDepth 100000 in
theorem gL_law_188 (N : Nat) (xs : Nat → Int) (n f k : Nat) (ls : zL) (st : List zV) (mem : zM) : zlgo N xs zLay (fun _ => none) (zCf VL_law) (zCf WL_law) (fun v _ => v = 1) 7 (zBf BL_law) (zlBelow (zlHf (HL_law N)) n) f k 188 ls st mem = ∃ n', n' < n ∧ zlJ N 6 0 1 n' k ls st mem := rfl
set_option maxRecDepth 100000 in
theorem gL_law_261 (N : Nat) (xs : Nat → Int) (n f k : Nat) (ls : zL) (st : List zV) (mem : zM) : zlgo N xs zLay (fun _ => none) (zCf VL_law) (zCf WL_law) (fun v _ => v = 1) 7 (zBf BL_law) (zlBelow (zlHf (HL_law N)) n) f k 261 ls st mem = ∃ n', n' < n ∧ zlJ N 6 0 1 n' k ls st mem := rfl
set_option maxRecDepth 100000 in
theorem gL_law_286 (N : Nat) (xs : Nat → Int) (n f k : Nat) (ls : zL) (st : List zV) (mem : zM) : zlgo N xs zLay (fun _ => none) (zCf VL_law) (zCf WL_law) (fun v _ => v = 1) 7 (zBf BL_law) (zlBelow (zlHf (HL_law N)) n) f k 286 ls st mem = ∃ n', n' < n ∧ zlJ N 6 0 1 n' k ls st mem := rfl
set_option maxRecDepth 100000 in
theorem gL_law_302 (N : Nat) (xs : Nat → Int) (n f k : Nat) (ls : zL) (st : List zV) (mem : zM) : zlgo N xs zLay (fun _ => none) (zCf VL_law) (zCf WL_law) (fun v _ => v = 1) 7 (zBf BL_law) (zlBelow (zlHf (HL_law N)) n) f k 302 ls st mem = ∃ n', n' < n ∧ zlJ N 6 0 1 n' k ls st mem := rfl
set_option maxRecDepth 100000 in
theorem gL_law_315 (N : Nat) (xs : Nat → Int) (n f k : Nat) (ls : zL) (st : List zV) (mem : zM) : zlgo N xs zLay (fun _ => none) (zCf VL_law) (zCf WL_law) (fun v _ => v = 1) 7 (zBf BL_law) (zlBelow (zlHf (HL_law N)) n) f k 315 ls st mem = ∃ n', n' < n ∧ zlJ N 6 0 1 n' k ls st mem := rfl
set_option maxRecDepth 100000 in
theorem gL_law_367 (N : Nat) (xs : Nat → Int) (n f k : Nat) (ls : zL) (st : List zV) (mem : zM) : zlgo N xs zLay (fun _ => none) (zCf VL_law) (zCf WL_law) (fun v _ => v = 1) 7 (zBf BL_law) (zlBelow (zlHf (HL_law N)) n) f k 367 ls st mem = ∃ n', n' < n ∧ zlJ N 6 0 1 n' k ls st mem := rfl
set_option maxRecDepth 100000 in
theorem gL_law_395 (N : Nat) (xs : Nat → Int) (n f k : Nat) (ls : zL) (st : List zV) (mem : zM) : zlgo N xs zLay (fun _ => none) (zCf VL_law) (zCf WL_law) (fun v _ => v = 1) 7 (zBf BL_law) (zlBelow (zlHf (HL_law N)) n) f k 395 ls st mem = ∃ n', n' < n ∧ zlJ N 6 0 1 n' k ls st mem := rfl
set_option maxRecDepth 100000 in
theorem gL_law_435 (N : Nat) (xs : Nat → Int) (n f k : Nat) (ls : zL) (st : List zV) (mem : zM) : zlgo N xs zLay (fun _ => none) (zCf VL_law) (zCf WL_law) (fun v _ => v = 1) 7 (zBf BL_law) (zlBelow (zlHf (HL_law N)) n) f k 435 ls st mem = ∃ n', n' < n ∧ zlJ N 6 0 1 n' k ls st mem := rfl
set_option maxRecDepth 100000 in
theorem gL_law_475 (N : Nat) (xs : Nat → Int) (n f k : Nat) (ls : zL) (st : List zV) (mem : zM) : zlgo N xs zLay (fun _ => none) (zCf VL_law) (zCf WL_law) (fun v _ => v = 1) 7 (zBf BL_law) (zlBelow (zlHf (HL_law N)) n) f k 475 ls st mem = ∃ n', n' < n ∧ zlJ N 6 0 1 n' k ls st mem := rfl
set_option maxRecDepth 100000 in
theorem gL_law_523 (N : Nat) (xs : Nat → Int) (n f k : Nat) (ls : zL) (st : List zV) (mem : zM) : zlgo N xs zLay (fun _ => none) (zCf VL_law) (zCf WL_law) (fun v _ => v = 1) 7 (zBf BL_law) (zlBelow (zlHf (HL_law N)) n) f k 523 ls st mem = zlwp N xs zLay (fun _ => none) (zCf VL_law) (zCf WL_law) (fun v _ => v = 1) 7 (zBf BL_law) (zlBelow (zlHf (HL_law N)) n) f k 523 ls st mem := rfl
set_option maxRecDepth 100000 in
theorem gL_law_540 (N : Nat) (xs : Nat → Int) (n f k : Nat) (ls : zL) (st : List zV) (mem : zM) : zlgo N xs zLay (fun _ => none) (zCf VL_law) (zCf WL_law) (fun v _ => v = 1) 7 (zBf BL_law) (zlBelow (zlHf (HL_law N)) n) f k 540 ls st mem = zlwp N xs zLay (fun _ => none) (zCf VL_law) (zCf WL_law) (fun v _ => v = 1) 7 (zBf BL_law) (zlBelow (zlHf (HL_law N)) n) f k 540 ls st mem := rfl
set_option maxRecDepth 100000 in
theorem gL_law_543 (N : Nat) (xs : Nat → Int) (n f k : Nat) (ls : zL) (st : List zV) (mem : zM) : zlgo N xs zLay (fun _ => none) (zCf VL_law) (zCf WL_law) (fun v _ => v = 1) 7 (zBf BL_law) (zlBelow (zlHf (HL_law N)) n) f k 543 ls st mem = ∃ n', n' < n ∧ zlJ N 6 0 1 n' k ls st mem := rfl
set_option maxRecDepth 100000 in
theorem gL_law_583 (N : Nat) (xs : Nat → Int) (n f k : Nat) (ls : zL) (st : List zV) (mem : zM) : zlgo N xs zLay (fun _ => none) (zCf VL_law) (zCf WL_law) (fun v _ => v = 1) 7 (zBf BL_law) (zlBelow (zlHf (HL_law N)) n) f k 583 ls st mem = ∃ n', n' < n ∧ zlJ N 6 0 1 n' k ls st mem := rfl
set_option maxRecDepth 100000 in
theorem gL_law_635 (N : Nat) (xs : Nat → Int) (n f k : Nat) (ls : zL) (st : List zV) (mem : zM) : zlgo N xs zLay (fun _ => none) (zCf VL_law) (zCf WL_law) (fun v _ => v = 1) 7 (zBf BL_law) (zlBelow (zlHf (HL_law N)) n) f k 635 ls st mem = ∃ n', n' < n ∧ zlJ N 6 0 1 n' k ls st mem := rfl
set_option maxRecDepth 100000 in
theorem gL_law_651 (N : Nat) (xs : Nat → Int) (n f k : Nat) (ls : zL) (st : List zV) (mem : zM) : zlgo N xs zLay (fun _ => none) (zCf VL_law) (zCf WL_law) (fun v _ => v = 1) 7 (zBf BL_law) (zlBelow (zlHf (HL_law N)) n) f k 651 ls st mem = ∃ n', n' < n ∧ zlJ N 6 0 1 n' k ls st mem := rfl
set_option maxRecDepth 100000 in
theorem gL_law_679 (N : Nat) (xs : Nat → Int) (n f k : Nat) (ls : zL) (st : List zV) (mem : zM) : zlgo N xs zLay (fun _ => none) (zCf VL_law) (zCf WL_law) (fun v _ => v = 1) 7 (zBf BL_law) (zlBelow (zlHf (HL_law N)) n) f k 679 ls st mem = ∃ n', n' < n ∧ zlJ N 6 0 1 n' k ls st mem := rfl
set_option maxRecDepth 100000 in
theorem gL_law_693 (N : Nat) (xs : Nat → Int) (n f k : Nat) (ls : zL) (st : List zV) (mem : zM) : zlgo N xs zLay (fun _ => none) (zCf VL_law) (zCf WL_law) (fun v _ => v = 1) 7 (zBf BL_law) (zlBelow (zlHf (HL_law N)) n) f k 693 ls st mem = zlwp N xs zLay (fun _ => none) (zCf VL_law) (zCf WL_law) (fun v _ => v = 1) 7 (zBf BL_law) (zlBelow (zlHf (HL_law N)) n) f k 693 ls st mem := rfl
set_option maxRecDepth 100000 in
theorem gL_law_694 (N : Nat) (xs : Nat → Int) (n f k : Nat) (ls : zL) (st : List zV) (mem : zM) : zlgo N xs zLay (fun _ => none) (zCf VL_law) (zCf WL_law) (fun v _ => v = 1) 7 (zBf BL_law) (zlBelow (zlHf (HL_law N)) n) f k 694 ls st mem = zlwp N xs zLay (fun _ => none) (zCf VL_law) (zCf WL_law) (fun v _ => v = 1) 7 (zBf BL_law) (zlBelow (zlHf (HL_law N)) n) f k 694 ls st mem := rfl
set_option maxRecDepth 100000 in
theorem gL_law_714 (N : Nat) (xs : Nat → Int) (n f k : Nat) (ls : zL) (st : List zV) (mem : zM) : zlgo N xs zLay (fun _ => none) (zCf VL_law) (zCf WL_law) (fun v _ => v = 1) 7 (zBf BL_law) (zlBelow (zlHf (HL_law N)) n) f k 714 ls st mem = zlwp N xs zLay (fun _ => none) (zCf VL_law) (zCf WL_law) (fun v _ => v = 1) 7 (zBf BL_law) (zlBelow (zlHf (HL_law N)) n) f k 714 ls st mem := rfl
set_option maxRecDepth 100000 in
theorem gL_law_715 (N : Nat) (xs : Nat → Int) (n f k : Nat) (ls : zL) (st : List zV) (mem : zM) : zlgo N xs zLay (fun _ => none) (zCf VL_law) (zCf WL_law) (fun v _ => v = 1) 7 (zBf BL_law) (zlBelow (zlHf (HL_law N)) n) f k 715 ls st mem = zlwp N xs zLay (fun _ => none) (zCf VL_law) (zCf WL_law) (fun v _ => v = 1) 7 (zBf BL_law) (zlBelow (zlHf (HL_law N)) n) f k 715 ls st mem := rfl
set_option maxRecDepth 100000 in
theorem gL_law_723 (N : Nat) (xs : Nat → Int) (n f k : Nat) (ls : zL) (st : List zV) (mem : zM) : zlgo N xs zLay (fun _ => none) (zCf VL_law) (zCf WL_law) (fun v _ => v = 1) 7 (zBf BL_law) (zlBelow (zlHf (HL_law N)) n) f k 723 ls st mem = ∃ n', n' < n ∧ zlJ N 6 0 1 n' k ls st mem := rfl
set_option maxRecDepth 100000 in
theorem gL_law_739 (N : Nat) (xs : Nat → Int) (n f k : Nat) (ls : zL) (st : List zV) (mem : zM) : zlgo N xs zLay (fun _ => none) (zCf VL_law) (zCf WL_law) (fun v _ => v = 1) 7 (zBf BL_law) (zlBelow (zlHf (HL_law N)) n) f k 739 ls st mem = ∃ n', n' < n ∧ zlJ N 6 0 1 n' k ls st mem := rfl
set_option maxRecDepth 100000 in
theorem gL_law_755 (N : Nat) (xs : Nat → Int) (n f k : Nat) (ls : zL) (st : List zV) (mem : zM) : zlgo N xs zLay (fun _ => none) (zCf VL_law) (zCf WL_law) (fun v _ => v = 1) 7 (zBf BL_law) (zlBelow (zlHf (HL_law N)) n) f k 755 ls st mem = ∃ n', n' < n ∧ zlJ N 6 0 1 n' k ls st mem := rfl
set_option maxRecDepth 100000 in
theorem gL_law_783 (N : Nat) (xs : Nat → Int) (n f k : Nat) (ls : zL) (st : List zV) (mem : zM) : zlgo N xs zLay (fun _ => none) (zCf VL_law) (zCf WL_law) (fun v _ => v = 1) 7 (zBf BL_law) (zlBelow (zlHf (HL_law N)) n) f k 783 ls st mem = ∃ n', n' < n ∧ zlJ N 6 0 1 n' k ls st mem := rfl
set_option maxRecDepth 100000 in
theorem gL_law_823 (N : Nat) (xs : Nat → Int) (n f k : Nat) (ls : zL) (st : List zV) (mem : zM) : zlgo N xs zLay (fun _ => none) (zCf VL_law) (zCf WL_law) (fun v _ => v = 1) 7 (zBf BL_law) (zlBelow (zlHf (HL_law N)) n) f k 823 ls st mem = ∃ n', n' < n ∧ zlJ N 6 0 1 n' k ls st mem := rfl
set_option maxRecDepth 100000 in
theorem gL_law_836 (N : Nat) (xs : Nat → Int) (n f k : Nat) (ls : zL) (st : List zV) (mem : zM) : zlgo N xs zLay (fun _ => none) (zCf VL_law) (zCf WL_law) (fun v _ => v = 1) 7 (zBf BL_law) (zlBelow (zlHf (HL_law N)) n) f k 836 ls st mem = ∃ n', n' < n ∧ zlJ N 6 0 1 n' k ls st mem := rfl
set_option maxRecDepth 100000 in
theorem gL_law_876 (N : Nat) (xs : Nat → Int) (n f k : Nat) (ls : zL) (st : List zV) (mem : zM) : zlgo N xs zLay (fun _ => none) (zCf VL_law) (zCf WL_law) (fun v _ => v = 1) 7 (zBf BL_law) (zlBelow (zlHf (HL_law N)) n) f k 876 ls st mem = ∃ n', n' < n ∧ zlJ N 6 0 1 n' k ls st mem := rfl
set_option maxRecDepth 100000 in
theorem gL_law_896 (N : Nat) (xs : Nat → Int) (n f k : Nat) (ls : zL) (st : List zV) (mem : zM) : zlgo N xs zLay (fun _ => none) (zCf VL_law) (zCf WL_law) (fun v _ => v = 1) 7 (zBf BL_law) (zlBelow (zlHf (HL_law N)) n) f k 896 ls st mem = zlwp N xs zLay (fun _ => none) (zCf VL_law) (zCf WL_law) (fun v _ => v = 1) 7 (zBf BL_law) (zlBelow (zlHf (HL_law N)) n) f k 896 ls st mem := rfl
set_option maxRecDepth 100000 in
theorem gL_law_897 (N : Nat) (xs : Nat → Int) (n f k : Nat) (ls : zL) (st : List zV) (mem : zM) : zlgo N xs zLay (fun _ => none) (zCf VL_law) (zCf WL_law) (fun v _ => v = 1) 7 (zBf BL_law) (zlBelow (zlHf (HL_law N)) n) f k 897 ls st mem = zlwp N xs zLay (fun _ => none) (zCf VL_law) (zCf WL_law) (fun v _ => v = 1) 7 (zBf BL_law) (zlBelow (zlHf (HL_law N)) n) f k 897 ls st mem := rfl
set_option maxRecDepth 100000 in
theorem gL_law_921 (N : Nat) (xs : Nat → Int) (n f k : Nat) (ls : zL) (st : List zV) (mem : zM) : zlgo N xs zLay (fun _ => none) (zCf VL_law) (zCf WL_law) (fun v _ => v = 1) 7 (zBf BL_law) (zlBelow (zlHf (HL_law N)) n) f k 921 ls st mem = zlwp N xs zLay (fun _ => none) (zCf VL_law) (zCf WL_law) (fun v _ => v = 1) 7 (zBf BL_law) (zlBelow (zlHf (HL_law N)) n) f k 921 ls st mem := rfl
set_option maxRecDepth 100000 in
theorem gL_law_922 (N : Nat) (xs : Nat → Int) (n f k : Nat) (ls : zL) (st : List zV) (mem : zM) : zlgo N xs zLay (fun _ => none) (zCf VL_law) (zCf WL_law) (fun v _ => v = 1) 7 (zBf BL_law) (zlBelow (zlHf (HL_law N)) n) f k 922 ls st mem = zlwp N xs zLay (fun _ => none) (zCf VL_law) (zCf WL_law) (fun v _ => v = 1) 7 (zBf BL_law) (zlBelow (zlHf (HL_law N)) n) f k 922 ls st mem := rfl
set_option maxRecDepth 100000 in
theorem gL_law_929 (N : Nat) (xs : Nat → Int) (n f k : Nat) (ls : zL) (st : List zV) (mem : zM) : zlgo N xs zLay (fun _ => none) (zCf VL_law) (zCf WL_law) (fun v _ => v = 1) 7 (zBf BL_law) (zlBelow (zlHf (HL_law N)) n) f k 929 ls st mem = ∃ n', n' < n ∧ zlJ N 6 0 1 n' k ls st mem := rfl
set_option maxRecDepth 100000 in
theorem gL_law_969 (N : Nat) (xs : Nat → Int) (n f k : Nat) (ls : zL) (st : List zV) (mem : zM) : zlgo N xs zLay (fun _ => none) (zCf VL_law) (zCf WL_law) (fun v _ => v = 1) 7 (zBf BL_law) (zlBelow (zlHf (HL_law N)) n) f k 969 ls st mem = ∃ n', n' < n ∧ zlJ N 6 0 1 n' k ls st mem := rfl
set_option maxRecDepth 100000 in
theorem gL_law_1009 (N : Nat) (xs : Nat → Int) (n f k : Nat) (ls : zL) (st : List zV) (mem : zM) : zlgo N xs zLay (fun _ => none) (zCf VL_law) (zCf WL_law) (fun v _ => v = 1) 7 (zBf BL_law) (zlBelow (zlHf (HL_law N)) n) f k 1009 ls st mem = ∃ n', n' < n ∧ zlJ N 6 0 1 n' k ls st mem := rfl
set_option maxRecDepth 100000 in
theorem gL_law_1023 (N : Nat) (xs : Nat → Int) (n f k : Nat) (ls : zL) (st : List zV) (mem : zM) : zlgo N xs zLay (fun _ => none) (zCf VL_law) (zCf WL_law) (fun v _ => v = 1) 7 (zBf BL_law) (zlBelow (zlHf (HL_law N)) n) f k 1023 ls st mem = zlwp N xs zLay (fun _ => none) (zCf VL_law) (zCf WL_law) (fun v _ => v = 1) 7 (zBf BL_law) (zlBelow (zlHf (HL_law N)) n) f k 1023 ls st mem := rfl
set_option maxRecDepth 100000 in
theorem gL_law_1024 (N : Nat) (xs : Nat → Int) (n f k : Nat) (ls : zL) (st : List zV) (mem : zM) : zlgo N xs zLay (fun _ => none) (zCf VL_law) (zCf WL_law) (fun v _ => v = 1) 7 (zBf BL_law) (zlBelow (zlHf (HL_law N)) n) f k 1024 ls st mem = zlwp N xs zLay (fun _ => none) (zCf VL_law) (zCf WL_law) (fun v _ => v = 1) 7 (zBf BL_law) (zlBelow (zlHf (HL_law N)) n) f k 1024 ls st mem := rfl
set_option maxRecDepth 100000 in
theorem gL_law_1042 (N : Nat) (xs : Nat → Int) (n f k : Nat) (ls : zL) (st : List zV) (mem : zM) : zlgo N xs zLay (fun _ => none) (zCf VL_law) (zCf WL_law) (fun v _ => v = 1) 7 (zBf BL_law) (zlBelow (zlHf (HL_law N)) n) f k 1042 ls st mem = zlwp N xs zLay (fun _ => none) (zCf VL_law) (zCf WL_law) (fun v _ => v = 1) 7 (zBf BL_law) (zlBelow (zlHf (HL_law N)) n) f k 1042 ls st mem := rfl
set_option maxRecDepth 100000 in
theorem gL_law_1043 (N : Nat) (xs : Nat → Int) (n f k : Nat) (ls : zL) (st : List zV) (mem : zM) : zlgo N xs zLay (fun _ => none) (zCf VL_law) (zCf WL_law) (fun v _ => v = 1) 7 (zBf BL_law) (zlBelow (zlHf (HL_law N)) n) f k 1043 ls st mem = zlwp N xs zLay (fun _ => none) (zCf VL_law) (zCf WL_law) (fun v _ => v = 1) 7 (zBf BL_law) (zlBelow (zlHf (HL_law N)) n) f k 1043 ls st mem := rfl
set_option maxRecDepth 100000 in
theorem gL_law_1050 (N : Nat) (xs : Nat → Int) (n f k : Nat) (ls : zL) (st : List zV) (mem : zM) : zlgo N xs zLay (fun _ => none) (zCf VL_law) (zCf WL_law) (fun v _ => v = 1) 7 (zBf BL_law) (zlBelow (zlHf (HL_law N)) n) f k 1050 ls st mem = ∃ n', n' < n ∧ zlJ N 6 0 1 n' k ls st mem := rfl
set_option maxRecDepth 100000 in
theorem gL_law_1063 (N : Nat) (xs : Nat → Int) (n f k : Nat) (ls : zL) (st : List zV) (mem : zM) : zlgo N xs zLay (fun _ => none) (zCf VL_law) (zCf WL_law) (fun v _ => v = 1) 7 (zBf BL_law) (zlBelow (zlHf (HL_law N)) n) f k 1063 ls st mem = ∃ n', n' < n ∧ zlJ N 6 0 1 n' k ls st mem := rfl
set_option maxRecDepth 100000 in
theorem gL_law_1076 (N : Nat) (xs : Nat → Int) (n f k : Nat) (ls : zL) (st : List zV) (mem : zM) : zlgo N xs zLay (fun _ => none) (zCf VL_law) (zCf WL_law) (fun v _ => v = 1) 7 (zBf BL_law) (zlBelow (zlHf (HL_law N)) n) f k 1076 ls st mem = ∃ n', n' < n ∧ zlJ N 6 0 1 n' k ls st mem := rfl
set_option maxRecDepth 100000 in
theorem gL_law_1104 (N : Nat) (xs : Nat → Int) (n f k : Nat) (ls : zL) (st : List zV) (mem : zM) : zlgo N xs zLay (fun _ => none) (zCf VL_law) (zCf WL_law) (fun v _ => v = 1) 7 (zBf BL_law) (zlBelow (zlHf (HL_law N)) n) f k 1104 ls st mem = ∃ n', n' < n ∧ zlJ N 6 0 1 n' k ls st mem := rfl
set_option maxRecDepth 100000 in
theorem gL_law_1129 (N : Nat) (xs : Nat → Int) (n f k : Nat) (ls : zL) (st : List zV) (mem : zM) : zlgo N xs zLay (fun _ => none) (zCf VL_law) (zCf WL_law) (fun v _ => v = 1) 7 (zBf BL_law) (zlBelow (zlHf (HL_law N)) n) f k 1129 ls st mem = ∃ n', n' < n ∧ zlJ N 6 0 1 n' k ls st mem := rfl
set_option maxRecDepth 100000 in
theorem gL_law_1169 (N : Nat) (xs : Nat → Int) (n f k : Nat) (ls : zL) (st : List zV) (mem : zM) : zlgo N xs zLay (fun _ => none) (zCf VL_law) (zCf WL_law) (fun v _ => v = 1) 7 (zBf BL_law) (zlBelow (zlHf (HL_law N)) n) f k 1169 ls st mem = ∃ n', n' < n ∧ zlJ N 6 0 1 n' k ls st mem := rfl
set_option maxRecDepth 100000 in
theorem gL_law_1189 (N : Nat) (xs : Nat → Int) (n f k : Nat) (ls : zL) (st : List zV) (mem : zM) : zlgo N xs zLay (fun _ => none) (zCf VL_law) (zCf WL_law) (fun v _ => v = 1) 7 (zBf BL_law) (zlBelow (zlHf (HL_law N)) n) f k 1189 ls st mem = zlwp N xs zLay (fun _ => none) (zCf VL_law) (zCf WL_law) (fun v _ => v = 1) 7 (zBf BL_law) (zlBelow (zlHf (HL_law N)) n) f k 1189 ls st mem := rfl
set_option maxRecDepth 100000 in
theorem gL_law_1190 (N : Nat) (xs : Nat → Int) (n f k : Nat) (ls : zL) (st : List zV) (mem : zM) : zlgo N xs zLay (fun _ => none) (zCf VL_law) (zCf WL_law) (fun v _ => v = 1) 7 (zBf BL_law) (zlBelow (zlHf (HL_law N)) n) f k 1190 ls st mem = zlwp N xs zLay (fun _ => none) (zCf VL_law) (zCf WL_law) (fun v _ => v = 1) 7 (zBf BL_law) (zlBelow (zlHf (HL_law N)) n) f k 1190 ls st mem := rfl
set_option maxRecDepth 100000 in
theorem gL_law_1216 (N : Nat) (xs : Nat → Int) (n f k : Nat) (ls : zL) (st : List zV) (mem : zM) : zlgo N xs zLay (fun _ => none) (zCf VL_law) (zCf WL_law) (fun v _ => v = 1) 7 (zBf BL_law) (zlBelow (zlHf (HL_law N)) n) f k 1216 ls st mem = zlwp N xs zLay (fun _ => none) (zCf VL_law) (zCf WL_law) (fun v _ => v = 1) 7 (zBf BL_law) (zlBelow (zlHf (HL_law N)) n) f k 1216 ls st mem := rfl
set_option maxRecDepth 100000 in
theorem gL_law_1217 (N : Nat) (xs : Nat → Int) (n f k : Nat) (ls : zL) (st : List zV) (mem : zM) : zlgo N xs zLay (fun _ => none) (zCf VL_law) (zCf WL_law) (fun v _ => v = 1) 7 (zBf BL_law) (zlBelow (zlHf (HL_law N)) n) f k 1217 ls st mem = zlwp N xs zLay (fun _ => none) (zCf VL_law) (zCf WL_law) (fun v _ => v = 1) 7 (zBf BL_law) (zlBelow (zlHf (HL_law N)) n) f k 1217 ls st mem := rfl
set_option maxRecDepth 100000 in
theorem gL_law_1225 (N : Nat) (xs : Nat → Int) (n f k : Nat) (ls : zL) (st : List zV) (mem : zM) : zlgo N xs zLay (fun _ => none) (zCf VL_law) (zCf WL_law) (fun v _ => v = 1) 7 (zBf BL_law) (zlBelow (zlHf (HL_law N)) n) f k 1225 ls st mem = ∃ n', n' < n ∧ zlJ N 6 0 1 n' k ls st mem := rfl
set_option maxRecDepth 100000 in
theorem gL_law_1236 (N : Nat) (xs : Nat → Int) (n f k : Nat) (ls : zL) (st : List zV) (mem : zM) : zlgo N xs zLay (fun _ => none) (zCf VL_law) (zCf WL_law) (fun v _ => v = 1) 7 (zBf BL_law) (zlBelow (zlHf (HL_law N)) n) f k 1236 ls st mem = ∃ n', n' < n ∧ zlJ N 6 0 1 n' k ls st mem := rfl
set_option maxRecDepth 100000 in
theorem gL_law_1249 (N : Nat) (xs : Nat → Int) (n f k : Nat) (ls : zL) (st : List zV) (mem : zM) : zlgo N xs zLay (fun _ => none) (zCf VL_law) (zCf WL_law) (fun v _ => v = 1) 7 (zBf BL_law) (zlBelow (zlHf (HL_law N)) n) f k 1249 ls st mem = ∃ n', n' < n ∧ zlJ N 6 0 1 n' k ls st mem := rfl
set_option maxRecDepth 100000 in
theorem gL_law_1274 (N : Nat) (xs : Nat → Int) (n f k : Nat) (ls : zL) (st : List zV) (mem : zM) : zlgo N xs zLay (fun _ => none) (zCf VL_law) (zCf WL_law) (fun v _ => v = 1) 7 (zBf BL_law) (zlBelow (zlHf (HL_law N)) n) f k 1274 ls st mem = ∃ n', n' < n ∧ zlJ N 6 6 0 n' k ls st mem := rfl
set_option maxRecDepth 100000 in
theorem gL_law_1280 (N : Nat) (xs : Nat → Int) (n f k : Nat) (ls : zL) (st : List zV) (mem : zM) : zlgo N xs zLay (fun _ => none) (zCf VL_law) (zCf WL_law) (fun v _ => v = 1) 7 (zBf BL_law) (zlBelow (zlHf (HL_law N)) n) f k 1280 ls st mem = zlwp N xs zLay (fun _ => none) (zCf VL_law) (zCf WL_law) (fun v _ => v = 1) 7 (zBf BL_law) (zlBelow (zlHf (HL_law N)) n) f k 1280 ls st mem := rfl
