/-- a block's decoding, out of its cuts -/
def zlen (b : List (Instr × Nat)) : Nat := (b.map (·.2)).sum
theorem zdecB_app {cc : ByteArray} {a b : List (Instr × Nat)} {pc q : Nat} (h1 : zdecB cc pc a = true) (h2 : zdecB cc q b = true) (hq : pc + zlen a = q := by decide) : zdecB cc pc (a ++ b) = true := by
  subst hq
  induction a generalizing pc with
  | nil => exact h2
  | cons x r ih =>
    unfold zdecB at h1
    rw [List.cons_append]
    unfold zdecB
    rw [Bool.and_eq_true] at h1 ⊢
    refine ⟨h1.1, ih h1.2 ?_⟩
    rw [show pc + x.2 + zlen r = pc + zlen (x :: r) by unfold zlen; rw [List.map_cons, List.sum_cons]; omega]
    exact h2
/-! ===== the law: blocks, calls, heads ===== -/
def BL_law : List (Nat × List (Instr × Nat)) := [(23, [(.iload 4, 2), (.aload_n 0, 1), (.arraylength, 1), (.bipush 6, 2), (.isub, 1), (.if_icmp .gt 1222, 3), (.aload_n 0, 1), (.iload 4, 2), (.iaload, 1), (.bipush 63, 2), (.iand, 1), (.tableswitch 1206 0 32 #[148, 221, 246, 262, 275, 327, 355, 395, 435, 475, 515, 567, 583, 611, 655, 671, 687, 715, 755, 768, 808, 861, 901, 941, 982, 995, 1008, 1036, 1061, 1101, 1157, 1168, 1181], 148)]), (188, [(.aload_n 1, 1), (.aload_n 0, 1), (.iload 4, 2), (.iconst 1, 1), (.iadd, 1), (.iaload, 1), (.aload_n 0, 1), (.iload 4, 2), (.iconst 2, 1), (.iadd, 1), (.iaload, 1), (.aload_n 0, 1), (.iload 4, 2), (.iconst 3, 1), (.iadd, 1), (.iaload, 1), (.aload_n 0, 1), (.iload 4, 2), (.iconst 4, 1), (.iadd, 1), (.iaload, 1), (.aload_n 0, 1), (.iload 4, 2), (.iconst 5, 1), (.iadd, 1), (.iaload, 1), (.invokevirtual 96, 3), (.pop, 1), (.aload_n 2, 1), (.aload_n 0, 1), (.iload 4, 2), (.iconst 1, 1), (.iadd, 1), (.iaload, 1), (.aload_n 0, 1), (.iload 4, 2), (.iconst 2, 1), (.iadd, 1), (.iaload, 1), (.aload_n 0, 1), (.iload 4, 2), (.iconst 3, 1), (.iadd, 1), (.iaload, 1), (.aload_n 0, 1), (.iload 4, 2), (.iconst 4, 1), (.iadd, 1), (.iaload, 1), (.aload_n 0, 1), (.iload 4, 2), (.iconst 5, 1), (.iadd, 1), (.iaload, 1), (.invokevirtual 100, 3), (.pop, 1), (.goto 988, 3)]), (261, [(.aload_n 1, 1), (.aload_n 0, 1), (.iload 4, 2), (.iconst 1, 1), (.iadd, 1), (.iaload, 1), (.invokevirtual 101, 3), (.pop, 1), (.aload_n 2, 1), (.aload_n 0, 1), (.iload 4, 2), (.iconst 1, 1), (.iadd, 1), (.iaload, 1), (.invokevirtual 105, 3), (.pop, 1), (.goto 963, 3)]), (286, [(.aload_n 1, 1), (.aload_n 3, 1), (.invokestatic 106, 3), (.istore 5, 2), (.aload_n 2, 1), (.invokevirtual 111, 3), (.istore 6, 2), (.goto 947, 3)]), (302, [(.aload_n 1, 1), (.invokevirtual 112, 3), (.pop, 1), (.aload_n 2, 1), (.invokevirtual 115, 3), (.pop, 1), (.goto 934, 3)]), (315, [(.aload_n 1, 1), (.aload_n 0, 1), (.iload 4, 2), (.iconst 1, 1), (.iadd, 1), (.iaload, 1), (.aload_n 0, 1), (.iload 4, 2), (.iconst 2, 1), (.iadd, 1), (.iaload, 1), (.aload_n 0, 1), (.iload 4, 2), (.iconst 3, 1), (.iadd, 1), (.iaload, 1), (.aload_n 3, 1), (.invokestatic 116, 3), (.istore 5, 2), (.aload_n 2, 1), (.aload_n 0, 1), (.iload 4, 2), (.iconst 1, 1), (.iadd, 1), (.iaload, 1), (.aload_n 0, 1), (.iload 4, 2), (.iconst 2, 1), (.iadd, 1), (.iaload, 1), (.aload_n 0, 1), (.iload 4, 2), (.iconst 3, 1), (.iadd, 1), (.iaload, 1), (.invokevirtual 119, 3), (.istore 6, 2), (.goto 882, 3)]), (367, [(.aload_n 1, 1), (.aload_n 0, 1), (.iload 4, 2), (.iconst 1, 1), (.iadd, 1), (.iaload, 1), (.aload_n 3, 1), (.invokestatic 120, 3), (.istore 5, 2), (.aload_n 2, 1), (.aload_n 0, 1), (.iload 4, 2), (.iconst 1, 1), (.iadd, 1), (.iaload, 1), (.invokevirtual 123, 3), (.istore 6, 2), (.goto 854, 3)]), (395, [(.aload_n 1, 1), (.aload_n 0, 1), (.iload 4, 2), (.iconst 1, 1), (.iadd, 1), (.iaload, 1), (.aload_n 0, 1), (.iload 4, 2), (.iconst 2, 1), (.iadd, 1), (.iaload, 1), (.aload_n 3, 1), (.invokestatic 124, 3), (.istore 5, 2), (.aload_n 2, 1), (.aload_n 0, 1), (.iload 4, 2), (.iconst 1, 1), (.iadd, 1), (.iaload, 1), (.aload_n 0, 1), (.iload 4, 2), (.iconst 2, 1), (.iadd, 1), (.iaload, 1), (.invokevirtual 127, 3), (.istore 6, 2), (.goto 814, 3)]), (435, [(.aload_n 1, 1), (.aload_n 0, 1), (.iload 4, 2), (.iconst 1, 1), (.iadd, 1), (.iaload, 1), (.aload_n 0, 1), (.iload 4, 2), (.iconst 2, 1), (.iadd, 1), (.iaload, 1), (.aload_n 3, 1), (.invokestatic 128, 3), (.istore 5, 2), (.aload_n 2, 1), (.aload_n 0, 1), (.iload 4, 2), (.iconst 1, 1), (.iadd, 1), (.iaload, 1), (.aload_n 0, 1), (.iload 4, 2), (.iconst 2, 1), (.iadd, 1), (.iaload, 1), (.invokevirtual 130, 3), (.istore 6, 2), (.goto 774, 3)]), (475, [(.aload_n 1, 1), (.aload_n 0, 1), (.iload 4, 2), (.iconst 1, 1), (.iadd, 1), (.iaload, 1), (.aload_n 0, 1), (.iload 4, 2), (.iconst 2, 1), (.iadd, 1), (.iaload, 1), (.aload_n 3, 1), (.invokestatic 131, 3), (.istore 5, 2), (.aload_n 2, 1), (.aload_n 0, 1), (.iload 4, 2), (.iconst 1, 1), (.iadd, 1), (.iaload, 1), (.aload_n 0, 1), (.iload 4, 2), (.iconst 2, 1), (.iadd, 1), (.iaload, 1), (.invokevirtual 133, 3), (.istore 6, 2), (.goto 734, 3)]), (515, [(.aload_n 1, 1), (.aload_n 0, 1), (.iload 4, 2), (.iconst 1, 1), (.iadd, 1), (.iaload, 1), (.aload_n 0, 1), (.iload 4, 2), (.iconst 2, 1), (.iadd, 1), (.iaload, 1), (.aload_n 3, 1), (.invokestatic 134, 3), (.istore 5, 2), (.aload_n 2, 1), (.aload_n 0, 1), (.iload 4, 2), (.iconst 1, 1), (.iadd, 1), (.iaload, 1), (.aload_n 0, 1), (.iload 4, 2), (.iconst 2, 1), (.iadd, 1), (.iaload, 1), (.invokevirtual 136, 3), (.istore 6, 2), (.goto 694, 3)]), (555, [(.aload_n 1, 1), (.aload_n 0, 1), (.iload 4, 2), (.iconst 1, 1), (.iadd, 1), (.iaload, 1), (.aload_n 0, 1), (.iload 4, 2), (.iconst 2, 1), (.iadd, 1), (.iaload, 1), (.aload_n 0, 1), (.iload 4, 2), (.iconst 3, 1), (.iadd, 1), (.iaload, 1), (.aload_n 3, 1), (.invokestatic 137, 3), (.istore 5, 2), (.aload_n 2, 1), (.aload_n 0, 1), (.iload 4, 2), (.iconst 1, 1), (.iadd, 1), (.iaload, 1), (.aload_n 0, 1), (.iload 4, 2), (.iconst 2, 1), (.iadd, 1), (.iaload, 1), (.aload_n 0, 1), (.iload 4, 2), (.iconst 3, 1), (.iadd, 1), (.iaload, 1), (.invokevirtual 139, 3), (.istore 6, 2), (.goto 642, 3)]), (607, [(.aload_n 1, 1), (.aload_n 3, 1), (.invokestatic 140, 3), (.istore 5, 2), (.aload_n 2, 1), (.invokevirtual 142, 3), (.istore 6, 2), (.goto 626, 3)]), (623, [(.aload_n 1, 1), (.aload_n 0, 1), (.iload 4, 2), (.iconst 1, 1), (.iadd, 1), (.iaload, 1), (.aload_n 3, 1), (.invokestatic 143, 3), (.istore 5, 2), (.aload_n 2, 1), (.aload_n 0, 1), (.iload 4, 2), (.iconst 1, 1), (.iadd, 1), (.iaload, 1), (.invokevirtual 145, 3), (.istore 6, 2), (.goto 598, 3)]), (651, [(.aload_n 1, 1), (.aload_n 0, 1), (.iload 4, 2), (.iconst 1, 1), (.iadd, 1), (.iaload, 1), (.ifCond .eq 7, 3), (.iconst 1, 1), (.goto 4, 3)]), (665, [(.iconst 0, 1)]), (666, [(.aload_n 3, 1), (.invokestatic 146, 3), (.istore 5, 2), (.aload_n 2, 1), (.aload_n 0, 1), (.iload 4, 2), (.iconst 1, 1), (.iadd, 1), (.iaload, 1), (.ifCond .eq 7, 3), (.iconst 1, 1), (.goto 4, 3)]), (686, [(.iconst 0, 1)]), (687, [(.invokevirtual 149, 3), (.istore 6, 2), (.goto 554, 3)]), (695, [(.aload_n 1, 1), (.aload_n 3, 1), (.invokestatic 150, 3), (.istore 5, 2), (.aload_n 2, 1), (.invokevirtual 152, 3), (.istore 6, 2), (.goto 538, 3)]), (711, [(.aload_n 1, 1), (.aload_n 3, 1), (.invokestatic 153, 3), (.istore 5, 2), (.aload_n 2, 1), (.invokevirtual 155, 3), (.istore 6, 2), (.goto 522, 3)]), (727, [(.aload_n 1, 1), (.aload_n 0, 1), (.iload 4, 2), (.iconst 1, 1), (.iadd, 1), (.iaload, 1), (.aload_n 3, 1), (.invokestatic 156, 3), (.istore 5, 2), (.aload_n 2, 1), (.aload_n 0, 1), (.iload 4, 2), (.iconst 1, 1), (.iadd, 1), (.iaload, 1), (.invokevirtual 158, 3), (.istore 6, 2), (.goto 494, 3)]), (755, [(.aload_n 1, 1), (.aload_n 0, 1), (.iload 4, 2), (.iconst 1, 1), (.iadd, 1), (.iaload, 1), (.aload_n 0, 1), (.iload 4, 2), (.iconst 2, 1), (.iadd, 1), (.iaload, 1), (.aload_n 3, 1), (.invokestatic 159, 3), (.istore 5, 2), (.aload_n 2, 1), (.aload_n 0, 1), (.iload 4, 2), (.iconst 1, 1), (.iadd, 1), (.iaload, 1), (.aload_n 0, 1), (.iload 4, 2), (.iconst 2, 1), (.iadd, 1), (.iaload, 1), (.invokevirtual 161, 3), (.istore 6, 2), (.goto 454, 3)]), (795, [(.aload_n 1, 1), (.invokevirtual 162, 3), (.pop, 1), (.aload_n 2, 1), (.invokevirtual 165, 3), (.pop, 1), (.goto 441, 3)]), (808, [(.aload_n 1, 1), (.aload_n 0, 1), (.iload 4, 2), (.iconst 1, 1), (.iadd, 1), (.iaload, 1), (.aload_n 0, 1), (.iload 4, 2), (.iconst 2, 1), (.iadd, 1), (.iaload, 1), (.aload_n 3, 1), (.invokestatic 166, 3), (.istore 5, 2), (.aload_n 2, 1), (.aload_n 0, 1), (.iload 4, 2), (.iconst 1, 1), (.iadd, 1), (.iaload, 1), (.aload_n 0, 1), (.iload 4, 2), (.iconst 2, 1), (.iadd, 1), (.iaload, 1), (.invokevirtual 168, 3), (.istore 6, 2), (.goto 401, 3)]), (848, [(.aload_n 1, 1), (.aload_n 0, 1), (.iload 4, 2), (.iconst 1, 1), (.iadd, 1), (.iaload, 1), (.aload_n 0, 1), (.iload 4, 2), (.iconst 2, 1), (.iadd, 1), (.iaload, 1), (.ifCond .eq 7, 3), (.iconst 1, 1), (.goto 4, 3)]), (868, [(.iconst 0, 1)]), (869, [(.invokevirtual 169, 3), (.pop, 1), (.aload_n 2, 1), (.aload_n 0, 1), (.iload 4, 2), (.iconst 1, 1), (.iadd, 1), (.iaload, 1), (.aload_n 0, 1), (.iload 4, 2), (.iconst 2, 1), (.iadd, 1), (.iaload, 1), (.ifCond .eq 7, 3), (.iconst 1, 1), (.goto 4, 3)]), (893, [(.iconst 0, 1)]), (894, [(.invokevirtual 172, 3), (.pop, 1), (.goto 348, 3)]), (901, [(.aload_n 1, 1), (.aload_n 0, 1), (.iload 4, 2), (.iconst 1, 1), (.iadd, 1), (.iaload, 1), (.aload_n 0, 1), (.iload 4, 2), (.iconst 2, 1), (.iadd, 1), (.iaload, 1), (.aload_n 3, 1), (.invokestatic 173, 3), (.istore 5, 2), (.aload_n 2, 1), (.aload_n 0, 1), (.iload 4, 2), (.iconst 1, 1), (.iadd, 1), (.iaload, 1), (.aload_n 0, 1), (.iload 4, 2), (.iconst 2, 1), (.iadd, 1), (.iaload, 1), (.invokevirtual 175, 3), (.istore 6, 2), (.goto 308, 3)]), (941, [(.aload_n 1, 1), (.aload_n 0, 1), (.iload 4, 2), (.iconst 1, 1), (.iadd, 1), (.iaload, 1), (.aload_n 0, 1), (.iload 4, 2), (.iconst 2, 1), (.iadd, 1), (.iaload, 1), (.aload_n 3, 1), (.invokestatic 176, 3), (.istore 5, 2), (.aload_n 2, 1), (.aload_n 0, 1), (.iload 4, 2), (.iconst 1, 1), (.iadd, 1), (.iaload, 1), (.aload_n 0, 1), (.iload 4, 2), (.iconst 2, 1), (.iadd, 1), (.iaload, 1), (.invokevirtual 178, 3), (.istore 6, 2), (.goto 268, 3)]), (981, [(.aload_n 1, 1), (.aload_n 0, 1), (.iload 4, 2), (.iconst 1, 1), (.iadd, 1), (.iaload, 1), (.ifCond .eq 7, 3), (.iconst 1, 1), (.goto 4, 3)]), (995, [(.iconst 0, 1)]), (996, [(.invokevirtual 179, 3), (.pop, 1), (.aload_n 2, 1), (.aload_n 0, 1), (.iload 4, 2), (.iconst 1, 1), (.iadd, 1), (.iaload, 1), (.ifCond .eq 7, 3), (.iconst 1, 1), (.goto 4, 3)]), (1014, [(.iconst 0, 1)]), (1015, [(.invokevirtual 183, 3), (.pop, 1), (.goto 227, 3)]), (1022, [(.aload_n 1, 1), (.invokevirtual 184, 3), (.pop, 1), (.aload_n 2, 1), (.invokevirtual 187, 3), (.pop, 1), (.goto 214, 3)]), (1035, [(.aload_n 1, 1), (.invokevirtual 188, 3), (.pop, 1), (.aload_n 2, 1), (.invokevirtual 192, 3), (.pop, 1), (.goto 201, 3)]), (1048, [(.aload_n 1, 1), (.aload_n 0, 1), (.iload 4, 2), (.iconst 1, 1), (.iadd, 1), (.iaload, 1), (.aload_n 3, 1), (.invokestatic 193, 3), (.istore 5, 2), (.aload_n 2, 1), (.aload_n 0, 1), (.iload 4, 2), (.iconst 1, 1), (.iadd, 1), (.iaload, 1), (.invokevirtual 195, 3), (.istore 6, 2), (.goto 173, 3)]), (1076, [(.aload_n 1, 1), (.aload_n 0, 1), (.iload 4, 2), (.iconst 1, 1), (.iadd, 1), (.iaload, 1), (.invokestatic 196, 3), (.istore 5, 2), (.aload_n 2, 1), (.aload_n 0, 1), (.iload 4, 2), (.iconst 1, 1), (.iadd, 1), (.iaload, 1), (.invokevirtual 199, 3), (.goto 148, 3)]), (1101, [(.aload_n 1, 1), (.aload_n 0, 1), (.iload 4, 2), (.iconst 1, 1), (.iadd, 1), (.iaload, 1), (.aload_n 0, 1), (.iload 4, 2), (.iconst 2, 1), (.iadd, 1), (.iaload, 1), (.aload_n 3, 1), (.invokestatic 200, 3), (.istore 5, 2), (.aload_n 2, 1), (.aload_n 0, 1), (.iload 4, 2), (.iconst 1, 1), (.iadd, 1), (.iaload, 1), (.aload_n 0, 1), (.iload 4, 2), (.iconst 2, 1), (.iadd, 1), (.iaload, 1), (.invokevirtual 202, 3), (.istore 6, 2), (.goto 108, 3)]), (1141, [(.aload_n 1, 1), (.aload_n 0, 1), (.iload 4, 2), (.iconst 1, 1), (.iadd, 1), (.iaload, 1), (.aload_n 0, 1), (.iload 4, 2), (.iconst 2, 1), (.iadd, 1), (.iaload, 1), (.ifCond .eq 7, 3), (.iconst 1, 1), (.goto 4, 3)]), (1161, [(.iconst 0, 1)]), (1162, [(.aload_n 3, 1), (.invokestatic 203, 3), (.istore 5, 2), (.aload_n 2, 1), (.aload_n 0, 1), (.iload 4, 2), (.iconst 1, 1), (.iadd, 1), (.iaload, 1), (.aload_n 0, 1), (.iload 4, 2), (.iconst 2, 1), (.iadd, 1), (.iaload, 1), (.ifCond .eq 7, 3), (.iconst 1, 1), (.goto 4, 3)]), (1188, [(.iconst 0, 1)]), (1189, [(.invokevirtual 206, 3), (.istore 6, 2), (.goto 52, 3)]), (1197, [(.aload_n 1, 1), (.invokevirtual 207, 3), (.aload_n 2, 1), (.invokevirtual 210, 3), (.goto 41, 3)]), (1208, [(.aload_n 1, 1), (.invokevirtual 211, 3), (.aload_n 2, 1), (.invokevirtual 214, 3), (.if_icmp .eq 30, 3), (.iconst 0, 1), (.ireturn, 1)]), (1221, [(.aload_n 1, 1), (.aload_n 0, 1), (.iload 4, 2), (.iconst 1, 1), (.iadd, 1), (.iaload, 1), (.invokevirtual 215, 3), (.pop, 1), (.aload_n 2, 1), (.aload_n 0, 1), (.iload 4, 2), (.iconst 1, 1), (.iadd, 1), (.iaload, 1), (.invokevirtual 218, 3), (.pop, 1), (.goto 3, 3)]), (1246, [(.iinc 4 6, 3), (.goto (-1226), 3)]), (1252, [(.iconst 1, 1), (.ireturn, 1)])]
set_option maxRecDepth 100000 in
theorem dL_law_23 : zdecB cL_law 23 [(.iload 4, 2), (.aload_n 0, 1), (.arraylength, 1), (.bipush 6, 2), (.isub, 1), (.if_icmp .gt 1222, 3)] = true := by decide +kernel
set_option maxRecDepth 100000 in
theorem dL_law_33 : zdecB cL_law 33 [(.aload_n 0, 1), (.iload 4, 2), (.iaload, 1), (.bipush 63, 2), (.iand, 1), (.tableswitch 1206 0 32 #[148, 221, 246, 262, 275, 327, 355, 395, 435, 475, 515, 567, 583, 611, 655, 671, 687, 715, 755, 768, 808, 861, 901, 941, 982, 995, 1008, 1036, 1061, 1101, 1157, 1168, 1181], 148)] = true := by decide +kernel
set_option maxRecDepth 100000 in
theorem eL_law_23 : zdecB cL_law 23 [(.iload 4, 2), (.aload_n 0, 1), (.arraylength, 1), (.bipush 6, 2), (.isub, 1), (.if_icmp .gt 1222, 3), (.aload_n 0, 1), (.iload 4, 2), (.iaload, 1), (.bipush 63, 2), (.iand, 1), (.tableswitch 1206 0 32 #[148, 221, 246, 262, 275, 327, 355, 395, 435, 475, 515, 567, 583, 611, 655, 671, 687, 715, 755, 768, 808, 861, 901, 941, 982, 995, 1008, 1036, 1061, 1101, 1157, 1168, 1181], 148)] = true := zdecB_app (a := [(.iload 4, 2), (.aload_n 0, 1), (.arraylength, 1), (.bipush 6, 2), (.isub, 1), (.if_icmp .gt 1222, 3)]) dL_law_23 (dL_law_33)
set_option maxRecDepth 100000 in
theorem dL_law_188 : zdecB cL_law 188 [(.aload_n 1, 1), (.aload_n 0, 1), (.iload 4, 2), (.iconst 1, 1), (.iadd, 1), (.iaload, 1)] = true := by decide +kernel
set_option maxRecDepth 100000 in
theorem dL_law_195 : zdecB cL_law 195 [(.aload_n 0, 1), (.iload 4, 2), (.iconst 2, 1), (.iadd, 1), (.iaload, 1), (.aload_n 0, 1)] = true := by decide +kernel
set_option maxRecDepth 100000 in
theorem dL_law_202 : zdecB cL_law 202 [(.iload 4, 2), (.iconst 3, 1), (.iadd, 1), (.iaload, 1), (.aload_n 0, 1), (.iload 4, 2)] = true := by decide +kernel
set_option maxRecDepth 100000 in
theorem dL_law_210 : zdecB cL_law 210 [(.iconst 4, 1), (.iadd, 1), (.iaload, 1), (.aload_n 0, 1), (.iload 4, 2), (.iconst 5, 1)] = true := by decide +kernel
set_option maxRecDepth 100000 in
theorem dL_law_217 : zdecB cL_law 217 [(.iadd, 1), (.iaload, 1), (.invokevirtual 96, 3), (.pop, 1), (.aload_n 2, 1), (.aload_n 0, 1)] = true := by decide +kernel
set_option maxRecDepth 100000 in
theorem dL_law_225 : zdecB cL_law 225 [(.iload 4, 2), (.iconst 1, 1), (.iadd, 1), (.iaload, 1), (.aload_n 0, 1), (.iload 4, 2)] = true := by decide +kernel
set_option maxRecDepth 100000 in
theorem dL_law_233 : zdecB cL_law 233 [(.iconst 2, 1), (.iadd, 1), (.iaload, 1), (.aload_n 0, 1), (.iload 4, 2), (.iconst 3, 1)] = true := by decide +kernel
set_option maxRecDepth 100000 in
theorem dL_law_240 : zdecB cL_law 240 [(.iadd, 1), (.iaload, 1), (.aload_n 0, 1), (.iload 4, 2), (.iconst 4, 1), (.iadd, 1)] = true := by decide +kernel
set_option maxRecDepth 100000 in
theorem dL_law_247 : zdecB cL_law 247 [(.iaload, 1), (.aload_n 0, 1), (.iload 4, 2), (.iconst 5, 1), (.iadd, 1), (.iaload, 1)] = true := by decide +kernel
set_option maxRecDepth 100000 in
theorem dL_law_254 : zdecB cL_law 254 [(.invokevirtual 100, 3), (.pop, 1), (.goto 988, 3)] = true := by decide +kernel
set_option maxRecDepth 100000 in
theorem eL_law_188 : zdecB cL_law 188 [(.aload_n 1, 1), (.aload_n 0, 1), (.iload 4, 2), (.iconst 1, 1), (.iadd, 1), (.iaload, 1), (.aload_n 0, 1), (.iload 4, 2), (.iconst 2, 1), (.iadd, 1), (.iaload, 1), (.aload_n 0, 1), (.iload 4, 2), (.iconst 3, 1), (.iadd, 1), (.iaload, 1), (.aload_n 0, 1), (.iload 4, 2), (.iconst 4, 1), (.iadd, 1), (.iaload, 1), (.aload_n 0, 1), (.iload 4, 2), (.iconst 5, 1), (.iadd, 1), (.iaload, 1), (.invokevirtual 96, 3), (.pop, 1), (.aload_n 2, 1), (.aload_n 0, 1), (.iload 4, 2), (.iconst 1, 1), (.iadd, 1), (.iaload, 1), (.aload_n 0, 1), (.iload 4, 2), (.iconst 2, 1), (.iadd, 1), (.iaload, 1), (.aload_n 0, 1), (.iload 4, 2), (.iconst 3, 1), (.iadd, 1), (.iaload, 1), (.aload_n 0, 1), (.iload 4, 2), (.iconst 4, 1), (.iadd, 1), (.iaload, 1), (.aload_n 0, 1), (.iload 4, 2), (.iconst 5, 1), (.iadd, 1), (.iaload, 1), (.invokevirtual 100, 3), (.pop, 1), (.goto 988, 3)] = true := zdecB_app (a := [(.aload_n 1, 1), (.aload_n 0, 1), (.iload 4, 2), (.iconst 1, 1), (.iadd, 1), (.iaload, 1)]) dL_law_188 (zdecB_app (a := [(.aload_n 0, 1), (.iload 4, 2), (.iconst 2, 1), (.iadd, 1), (.iaload, 1), (.aload_n 0, 1)]) dL_law_195 (zdecB_app (a := [(.iload 4, 2), (.iconst 3, 1), (.iadd, 1), (.iaload, 1), (.aload_n 0, 1), (.iload 4, 2)]) dL_law_202 (zdecB_app (a := [(.iconst 4, 1), (.iadd, 1), (.iaload, 1), (.aload_n 0, 1), (.iload 4, 2), (.iconst 5, 1)]) dL_law_210 (zdecB_app (a := [(.iadd, 1), (.iaload, 1), (.invokevirtual 96, 3), (.pop, 1), (.aload_n 2, 1), (.aload_n 0, 1)]) dL_law_217 (zdecB_app (a := [(.iload 4, 2), (.iconst 1, 1), (.iadd, 1), (.iaload, 1), (.aload_n 0, 1), (.iload 4, 2)]) dL_law_225 (zdecB_app (a := [(.iconst 2, 1), (.iadd, 1), (.iaload, 1), (.aload_n 0, 1), (.iload 4, 2), (.iconst 3, 1)]) dL_law_233 (zdecB_app (a := [(.iadd, 1), (.iaload, 1), (.aload_n 0, 1), (.iload 4, 2), (.iconst 4, 1), (.iadd, 1)]) dL_law_240 (zdecB_app (a := [(.iaload, 1), (.aload_n 0, 1), (.iload 4, 2), (.iconst 5, 1), (.iadd, 1), (.iaload, 1)]) dL_law_247 (dL_law_254)))))))))
set_option maxRecDepth 100000 in
theorem dL_law_261 : zdecB cL_law 261 [(.aload_n 1, 1), (.aload_n 0, 1), (.iload 4, 2), (.iconst 1, 1), (.iadd, 1), (.iaload, 1)] = true := by decide +kernel
set_option maxRecDepth 100000 in
theorem dL_law_268 : zdecB cL_law 268 [(.invokevirtual 101, 3), (.pop, 1), (.aload_n 2, 1), (.aload_n 0, 1), (.iload 4, 2), (.iconst 1, 1)] = true := by decide +kernel
set_option maxRecDepth 100000 in
theorem dL_law_277 : zdecB cL_law 277 [(.iadd, 1), (.iaload, 1), (.invokevirtual 105, 3), (.pop, 1), (.goto 963, 3)] = true := by decide +kernel
set_option maxRecDepth 100000 in
theorem eL_law_261 : zdecB cL_law 261 [(.aload_n 1, 1), (.aload_n 0, 1), (.iload 4, 2), (.iconst 1, 1), (.iadd, 1), (.iaload, 1), (.invokevirtual 101, 3), (.pop, 1), (.aload_n 2, 1), (.aload_n 0, 1), (.iload 4, 2), (.iconst 1, 1), (.iadd, 1), (.iaload, 1), (.invokevirtual 105, 3), (.pop, 1), (.goto 963, 3)] = true := zdecB_app (a := [(.aload_n 1, 1), (.aload_n 0, 1), (.iload 4, 2), (.iconst 1, 1), (.iadd, 1), (.iaload, 1)]) dL_law_261 (zdecB_app (a := [(.invokevirtual 101, 3), (.pop, 1), (.aload_n 2, 1), (.aload_n 0, 1), (.iload 4, 2), (.iconst 1, 1)]) dL_law_268 (dL_law_277))
set_option maxRecDepth 100000 in
theorem dL_law_286 : zdecB cL_law 286 [(.aload_n 1, 1), (.aload_n 3, 1), (.invokestatic 106, 3), (.istore 5, 2), (.aload_n 2, 1), (.invokevirtual 111, 3)] = true := by decide +kernel
set_option maxRecDepth 100000 in
theorem dL_law_297 : zdecB cL_law 297 [(.istore 6, 2), (.goto 947, 3)] = true := by decide +kernel
set_option maxRecDepth 100000 in
theorem eL_law_286 : zdecB cL_law 286 [(.aload_n 1, 1), (.aload_n 3, 1), (.invokestatic 106, 3), (.istore 5, 2), (.aload_n 2, 1), (.invokevirtual 111, 3), (.istore 6, 2), (.goto 947, 3)] = true := zdecB_app (a := [(.aload_n 1, 1), (.aload_n 3, 1), (.invokestatic 106, 3), (.istore 5, 2), (.aload_n 2, 1), (.invokevirtual 111, 3)]) dL_law_286 (dL_law_297)
set_option maxRecDepth 100000 in
theorem dL_law_302 : zdecB cL_law 302 [(.aload_n 1, 1), (.invokevirtual 112, 3), (.pop, 1), (.aload_n 2, 1), (.invokevirtual 115, 3), (.pop, 1)] = true := by decide +kernel
set_option maxRecDepth 100000 in
theorem dL_law_312 : zdecB cL_law 312 [(.goto 934, 3)] = true := by decide +kernel
set_option maxRecDepth 100000 in
theorem eL_law_302 : zdecB cL_law 302 [(.aload_n 1, 1), (.invokevirtual 112, 3), (.pop, 1), (.aload_n 2, 1), (.invokevirtual 115, 3), (.pop, 1), (.goto 934, 3)] = true := zdecB_app (a := [(.aload_n 1, 1), (.invokevirtual 112, 3), (.pop, 1), (.aload_n 2, 1), (.invokevirtual 115, 3), (.pop, 1)]) dL_law_302 (dL_law_312)
set_option maxRecDepth 100000 in
theorem dL_law_315 : zdecB cL_law 315 [(.aload_n 1, 1), (.aload_n 0, 1), (.iload 4, 2), (.iconst 1, 1), (.iadd, 1), (.iaload, 1)] = true := by decide +kernel
set_option maxRecDepth 100000 in
theorem dL_law_322 : zdecB cL_law 322 [(.aload_n 0, 1), (.iload 4, 2), (.iconst 2, 1), (.iadd, 1), (.iaload, 1), (.aload_n 0, 1)] = true := by decide +kernel
set_option maxRecDepth 100000 in
theorem dL_law_329 : zdecB cL_law 329 [(.iload 4, 2), (.iconst 3, 1), (.iadd, 1), (.iaload, 1), (.aload_n 3, 1), (.invokestatic 116, 3)] = true := by decide +kernel
set_option maxRecDepth 100000 in
theorem dL_law_338 : zdecB cL_law 338 [(.istore 5, 2), (.aload_n 2, 1), (.aload_n 0, 1), (.iload 4, 2), (.iconst 1, 1), (.iadd, 1)] = true := by decide +kernel
set_option maxRecDepth 100000 in
theorem dL_law_346 : zdecB cL_law 346 [(.iaload, 1), (.aload_n 0, 1), (.iload 4, 2), (.iconst 2, 1), (.iadd, 1), (.iaload, 1)] = true := by decide +kernel
set_option maxRecDepth 100000 in
theorem dL_law_353 : zdecB cL_law 353 [(.aload_n 0, 1), (.iload 4, 2), (.iconst 3, 1), (.iadd, 1), (.iaload, 1), (.invokevirtual 119, 3)] = true := by decide +kernel
set_option maxRecDepth 100000 in
theorem dL_law_362 : zdecB cL_law 362 [(.istore 6, 2), (.goto 882, 3)] = true := by decide +kernel
set_option maxRecDepth 100000 in
theorem eL_law_315 : zdecB cL_law 315 [(.aload_n 1, 1), (.aload_n 0, 1), (.iload 4, 2), (.iconst 1, 1), (.iadd, 1), (.iaload, 1), (.aload_n 0, 1), (.iload 4, 2), (.iconst 2, 1), (.iadd, 1), (.iaload, 1), (.aload_n 0, 1), (.iload 4, 2), (.iconst 3, 1), (.iadd, 1), (.iaload, 1), (.aload_n 3, 1), (.invokestatic 116, 3), (.istore 5, 2), (.aload_n 2, 1), (.aload_n 0, 1), (.iload 4, 2), (.iconst 1, 1), (.iadd, 1), (.iaload, 1), (.aload_n 0, 1), (.iload 4, 2), (.iconst 2, 1), (.iadd, 1), (.iaload, 1), (.aload_n 0, 1), (.iload 4, 2), (.iconst 3, 1), (.iadd, 1), (.iaload, 1), (.invokevirtual 119, 3), (.istore 6, 2), (.goto 882, 3)] = true := zdecB_app (a := [(.aload_n 1, 1), (.aload_n 0, 1), (.iload 4, 2), (.iconst 1, 1), (.iadd, 1), (.iaload, 1)]) dL_law_315 (zdecB_app (a := [(.aload_n 0, 1), (.iload 4, 2), (.iconst 2, 1), (.iadd, 1), (.iaload, 1), (.aload_n 0, 1)]) dL_law_322 (zdecB_app (a := [(.iload 4, 2), (.iconst 3, 1), (.iadd, 1), (.iaload, 1), (.aload_n 3, 1), (.invokestatic 116, 3)]) dL_law_329 (zdecB_app (a := [(.istore 5, 2), (.aload_n 2, 1), (.aload_n 0, 1), (.iload 4, 2), (.iconst 1, 1), (.iadd, 1)]) dL_law_338 (zdecB_app (a := [(.iaload, 1), (.aload_n 0, 1), (.iload 4, 2), (.iconst 2, 1), (.iadd, 1), (.iaload, 1)]) dL_law_346 (zdecB_app (a := [(.aload_n 0, 1), (.iload 4, 2), (.iconst 3, 1), (.iadd, 1), (.iaload, 1), (.invokevirtual 119, 3)]) dL_law_353 (dL_law_362))))))
set_option maxRecDepth 100000 in
theorem dL_law_367 : zdecB cL_law 367 [(.aload_n 1, 1), (.aload_n 0, 1), (.iload 4, 2), (.iconst 1, 1), (.iadd, 1), (.iaload, 1)] = true := by decide +kernel
set_option maxRecDepth 100000 in
theorem dL_law_374 : zdecB cL_law 374 [(.aload_n 3, 1), (.invokestatic 120, 3), (.istore 5, 2), (.aload_n 2, 1), (.aload_n 0, 1), (.iload 4, 2)] = true := by decide +kernel
set_option maxRecDepth 100000 in
theorem dL_law_384 : zdecB cL_law 384 [(.iconst 1, 1), (.iadd, 1), (.iaload, 1), (.invokevirtual 123, 3), (.istore 6, 2), (.goto 854, 3)] = true := by decide +kernel
set_option maxRecDepth 100000 in
theorem eL_law_367 : zdecB cL_law 367 [(.aload_n 1, 1), (.aload_n 0, 1), (.iload 4, 2), (.iconst 1, 1), (.iadd, 1), (.iaload, 1), (.aload_n 3, 1), (.invokestatic 120, 3), (.istore 5, 2), (.aload_n 2, 1), (.aload_n 0, 1), (.iload 4, 2), (.iconst 1, 1), (.iadd, 1), (.iaload, 1), (.invokevirtual 123, 3), (.istore 6, 2), (.goto 854, 3)] = true := zdecB_app (a := [(.aload_n 1, 1), (.aload_n 0, 1), (.iload 4, 2), (.iconst 1, 1), (.iadd, 1), (.iaload, 1)]) dL_law_367 (zdecB_app (a := [(.aload_n 3, 1), (.invokestatic 120, 3), (.istore 5, 2), (.aload_n 2, 1), (.aload_n 0, 1), (.iload 4, 2)]) dL_law_374 (dL_law_384))
set_option maxRecDepth 100000 in
theorem dL_law_395 : zdecB cL_law 395 [(.aload_n 1, 1), (.aload_n 0, 1), (.iload 4, 2), (.iconst 1, 1), (.iadd, 1), (.iaload, 1)] = true := by decide +kernel
set_option maxRecDepth 100000 in
theorem dL_law_402 : zdecB cL_law 402 [(.aload_n 0, 1), (.iload 4, 2), (.iconst 2, 1), (.iadd, 1), (.iaload, 1), (.aload_n 3, 1)] = true := by decide +kernel
set_option maxRecDepth 100000 in
theorem dL_law_409 : zdecB cL_law 409 [(.invokestatic 124, 3), (.istore 5, 2), (.aload_n 2, 1), (.aload_n 0, 1), (.iload 4, 2), (.iconst 1, 1)] = true := by decide +kernel
set_option maxRecDepth 100000 in
theorem dL_law_419 : zdecB cL_law 419 [(.iadd, 1), (.iaload, 1), (.aload_n 0, 1), (.iload 4, 2), (.iconst 2, 1), (.iadd, 1)] = true := by decide +kernel
set_option maxRecDepth 100000 in
theorem dL_law_426 : zdecB cL_law 426 [(.iaload, 1), (.invokevirtual 127, 3), (.istore 6, 2), (.goto 814, 3)] = true := by decide +kernel
set_option maxRecDepth 100000 in
theorem eL_law_395 : zdecB cL_law 395 [(.aload_n 1, 1), (.aload_n 0, 1), (.iload 4, 2), (.iconst 1, 1), (.iadd, 1), (.iaload, 1), (.aload_n 0, 1), (.iload 4, 2), (.iconst 2, 1), (.iadd, 1), (.iaload, 1), (.aload_n 3, 1), (.invokestatic 124, 3), (.istore 5, 2), (.aload_n 2, 1), (.aload_n 0, 1), (.iload 4, 2), (.iconst 1, 1), (.iadd, 1), (.iaload, 1), (.aload_n 0, 1), (.iload 4, 2), (.iconst 2, 1), (.iadd, 1), (.iaload, 1), (.invokevirtual 127, 3), (.istore 6, 2), (.goto 814, 3)] = true := zdecB_app (a := [(.aload_n 1, 1), (.aload_n 0, 1), (.iload 4, 2), (.iconst 1, 1), (.iadd, 1), (.iaload, 1)]) dL_law_395 (zdecB_app (a := [(.aload_n 0, 1), (.iload 4, 2), (.iconst 2, 1), (.iadd, 1), (.iaload, 1), (.aload_n 3, 1)]) dL_law_402 (zdecB_app (a := [(.invokestatic 124, 3), (.istore 5, 2), (.aload_n 2, 1), (.aload_n 0, 1), (.iload 4, 2), (.iconst 1, 1)]) dL_law_409 (zdecB_app (a := [(.iadd, 1), (.iaload, 1), (.aload_n 0, 1), (.iload 4, 2), (.iconst 2, 1), (.iadd, 1)]) dL_law_419 (dL_law_426))))
set_option maxRecDepth 100000 in
theorem dL_law_435 : zdecB cL_law 435 [(.aload_n 1, 1), (.aload_n 0, 1), (.iload 4, 2), (.iconst 1, 1), (.iadd, 1), (.iaload, 1)] = true := by decide +kernel
set_option maxRecDepth 100000 in
theorem dL_law_442 : zdecB cL_law 442 [(.aload_n 0, 1), (.iload 4, 2), (.iconst 2, 1), (.iadd, 1), (.iaload, 1), (.aload_n 3, 1)] = true := by decide +kernel
set_option maxRecDepth 100000 in
theorem dL_law_449 : zdecB cL_law 449 [(.invokestatic 128, 3), (.istore 5, 2), (.aload_n 2, 1), (.aload_n 0, 1), (.iload 4, 2), (.iconst 1, 1)] = true := by decide +kernel
set_option maxRecDepth 100000 in
theorem dL_law_459 : zdecB cL_law 459 [(.iadd, 1), (.iaload, 1), (.aload_n 0, 1), (.iload 4, 2), (.iconst 2, 1), (.iadd, 1)] = true := by decide +kernel
set_option maxRecDepth 100000 in
theorem dL_law_466 : zdecB cL_law 466 [(.iaload, 1), (.invokevirtual 130, 3), (.istore 6, 2), (.goto 774, 3)] = true := by decide +kernel
set_option maxRecDepth 100000 in
theorem eL_law_435 : zdecB cL_law 435 [(.aload_n 1, 1), (.aload_n 0, 1), (.iload 4, 2), (.iconst 1, 1), (.iadd, 1), (.iaload, 1), (.aload_n 0, 1), (.iload 4, 2), (.iconst 2, 1), (.iadd, 1), (.iaload, 1), (.aload_n 3, 1), (.invokestatic 128, 3), (.istore 5, 2), (.aload_n 2, 1), (.aload_n 0, 1), (.iload 4, 2), (.iconst 1, 1), (.iadd, 1), (.iaload, 1), (.aload_n 0, 1), (.iload 4, 2), (.iconst 2, 1), (.iadd, 1), (.iaload, 1), (.invokevirtual 130, 3), (.istore 6, 2), (.goto 774, 3)] = true := zdecB_app (a := [(.aload_n 1, 1), (.aload_n 0, 1), (.iload 4, 2), (.iconst 1, 1), (.iadd, 1), (.iaload, 1)]) dL_law_435 (zdecB_app (a := [(.aload_n 0, 1), (.iload 4, 2), (.iconst 2, 1), (.iadd, 1), (.iaload, 1), (.aload_n 3, 1)]) dL_law_442 (zdecB_app (a := [(.invokestatic 128, 3), (.istore 5, 2), (.aload_n 2, 1), (.aload_n 0, 1), (.iload 4, 2), (.iconst 1, 1)]) dL_law_449 (zdecB_app (a := [(.iadd, 1), (.iaload, 1), (.aload_n 0, 1), (.iload 4, 2), (.iconst 2, 1), (.iadd, 1)]) dL_law_459 (dL_law_466))))
set_option maxRecDepth 100000 in
theorem dL_law_475 : zdecB cL_law 475 [(.aload_n 1, 1), (.aload_n 0, 1), (.iload 4, 2), (.iconst 1, 1), (.iadd, 1), (.iaload, 1)] = true := by decide +kernel
set_option maxRecDepth 100000 in
theorem dL_law_482 : zdecB cL_law 482 [(.aload_n 0, 1), (.iload 4, 2), (.iconst 2, 1), (.iadd, 1), (.iaload, 1), (.aload_n 3, 1)] = true := by decide +kernel
set_option maxRecDepth 100000 in
theorem dL_law_489 : zdecB cL_law 489 [(.invokestatic 131, 3), (.istore 5, 2), (.aload_n 2, 1), (.aload_n 0, 1), (.iload 4, 2), (.iconst 1, 1)] = true := by decide +kernel
set_option maxRecDepth 100000 in
theorem dL_law_499 : zdecB cL_law 499 [(.iadd, 1), (.iaload, 1), (.aload_n 0, 1), (.iload 4, 2), (.iconst 2, 1), (.iadd, 1)] = true := by decide +kernel
set_option maxRecDepth 100000 in
theorem dL_law_506 : zdecB cL_law 506 [(.iaload, 1), (.invokevirtual 133, 3), (.istore 6, 2), (.goto 734, 3)] = true := by decide +kernel
set_option maxRecDepth 100000 in
theorem eL_law_475 : zdecB cL_law 475 [(.aload_n 1, 1), (.aload_n 0, 1), (.iload 4, 2), (.iconst 1, 1), (.iadd, 1), (.iaload, 1), (.aload_n 0, 1), (.iload 4, 2), (.iconst 2, 1), (.iadd, 1), (.iaload, 1), (.aload_n 3, 1), (.invokestatic 131, 3), (.istore 5, 2), (.aload_n 2, 1), (.aload_n 0, 1), (.iload 4, 2), (.iconst 1, 1), (.iadd, 1), (.iaload, 1), (.aload_n 0, 1), (.iload 4, 2), (.iconst 2, 1), (.iadd, 1), (.iaload, 1), (.invokevirtual 133, 3), (.istore 6, 2), (.goto 734, 3)] = true := zdecB_app (a := [(.aload_n 1, 1), (.aload_n 0, 1), (.iload 4, 2), (.iconst 1, 1), (.iadd, 1), (.iaload, 1)]) dL_law_475 (zdecB_app (a := [(.aload_n 0, 1), (.iload 4, 2), (.iconst 2, 1), (.iadd, 1), (.iaload, 1), (.aload_n 3, 1)]) dL_law_482 (zdecB_app (a := [(.invokestatic 131, 3), (.istore 5, 2), (.aload_n 2, 1), (.aload_n 0, 1), (.iload 4, 2), (.iconst 1, 1)]) dL_law_489 (zdecB_app (a := [(.iadd, 1), (.iaload, 1), (.aload_n 0, 1), (.iload 4, 2), (.iconst 2, 1), (.iadd, 1)]) dL_law_499 (dL_law_506))))
set_option maxRecDepth 100000 in
theorem dL_law_515 : zdecB cL_law 515 [(.aload_n 1, 1), (.aload_n 0, 1), (.iload 4, 2), (.iconst 1, 1), (.iadd, 1), (.iaload, 1)] = true := by decide +kernel
set_option maxRecDepth 100000 in
theorem dL_law_522 : zdecB cL_law 522 [(.aload_n 0, 1), (.iload 4, 2), (.iconst 2, 1), (.iadd, 1), (.iaload, 1), (.aload_n 3, 1)] = true := by decide +kernel
set_option maxRecDepth 100000 in
theorem dL_law_529 : zdecB cL_law 529 [(.invokestatic 134, 3), (.istore 5, 2), (.aload_n 2, 1), (.aload_n 0, 1), (.iload 4, 2), (.iconst 1, 1)] = true := by decide +kernel
set_option maxRecDepth 100000 in
theorem dL_law_539 : zdecB cL_law 539 [(.iadd, 1), (.iaload, 1), (.aload_n 0, 1), (.iload 4, 2), (.iconst 2, 1), (.iadd, 1)] = true := by decide +kernel
set_option maxRecDepth 100000 in
theorem dL_law_546 : zdecB cL_law 546 [(.iaload, 1), (.invokevirtual 136, 3), (.istore 6, 2), (.goto 694, 3)] = true := by decide +kernel
set_option maxRecDepth 100000 in
theorem eL_law_515 : zdecB cL_law 515 [(.aload_n 1, 1), (.aload_n 0, 1), (.iload 4, 2), (.iconst 1, 1), (.iadd, 1), (.iaload, 1), (.aload_n 0, 1), (.iload 4, 2), (.iconst 2, 1), (.iadd, 1), (.iaload, 1), (.aload_n 3, 1), (.invokestatic 134, 3), (.istore 5, 2), (.aload_n 2, 1), (.aload_n 0, 1), (.iload 4, 2), (.iconst 1, 1), (.iadd, 1), (.iaload, 1), (.aload_n 0, 1), (.iload 4, 2), (.iconst 2, 1), (.iadd, 1), (.iaload, 1), (.invokevirtual 136, 3), (.istore 6, 2), (.goto 694, 3)] = true := zdecB_app (a := [(.aload_n 1, 1), (.aload_n 0, 1), (.iload 4, 2), (.iconst 1, 1), (.iadd, 1), (.iaload, 1)]) dL_law_515 (zdecB_app (a := [(.aload_n 0, 1), (.iload 4, 2), (.iconst 2, 1), (.iadd, 1), (.iaload, 1), (.aload_n 3, 1)]) dL_law_522 (zdecB_app (a := [(.invokestatic 134, 3), (.istore 5, 2), (.aload_n 2, 1), (.aload_n 0, 1), (.iload 4, 2), (.iconst 1, 1)]) dL_law_529 (zdecB_app (a := [(.iadd, 1), (.iaload, 1), (.aload_n 0, 1), (.iload 4, 2), (.iconst 2, 1), (.iadd, 1)]) dL_law_539 (dL_law_546))))
set_option maxRecDepth 100000 in
theorem dL_law_555 : zdecB cL_law 555 [(.aload_n 1, 1), (.aload_n 0, 1), (.iload 4, 2), (.iconst 1, 1), (.iadd, 1), (.iaload, 1)] = true := by decide +kernel
set_option maxRecDepth 100000 in
theorem dL_law_562 : zdecB cL_law 562 [(.aload_n 0, 1), (.iload 4, 2), (.iconst 2, 1), (.iadd, 1), (.iaload, 1), (.aload_n 0, 1)] = true := by decide +kernel
set_option maxRecDepth 100000 in
theorem dL_law_569 : zdecB cL_law 569 [(.iload 4, 2), (.iconst 3, 1), (.iadd, 1), (.iaload, 1), (.aload_n 3, 1), (.invokestatic 137, 3)] = true := by decide +kernel
set_option maxRecDepth 100000 in
theorem dL_law_578 : zdecB cL_law 578 [(.istore 5, 2), (.aload_n 2, 1), (.aload_n 0, 1), (.iload 4, 2), (.iconst 1, 1), (.iadd, 1)] = true := by decide +kernel
set_option maxRecDepth 100000 in
theorem dL_law_586 : zdecB cL_law 586 [(.iaload, 1), (.aload_n 0, 1), (.iload 4, 2), (.iconst 2, 1), (.iadd, 1), (.iaload, 1)] = true := by decide +kernel
set_option maxRecDepth 100000 in
theorem dL_law_593 : zdecB cL_law 593 [(.aload_n 0, 1), (.iload 4, 2), (.iconst 3, 1), (.iadd, 1), (.iaload, 1), (.invokevirtual 139, 3)] = true := by decide +kernel
set_option maxRecDepth 100000 in
theorem dL_law_602 : zdecB cL_law 602 [(.istore 6, 2), (.goto 642, 3)] = true := by decide +kernel
set_option maxRecDepth 100000 in
theorem eL_law_555 : zdecB cL_law 555 [(.aload_n 1, 1), (.aload_n 0, 1), (.iload 4, 2), (.iconst 1, 1), (.iadd, 1), (.iaload, 1), (.aload_n 0, 1), (.iload 4, 2), (.iconst 2, 1), (.iadd, 1), (.iaload, 1), (.aload_n 0, 1), (.iload 4, 2), (.iconst 3, 1), (.iadd, 1), (.iaload, 1), (.aload_n 3, 1), (.invokestatic 137, 3), (.istore 5, 2), (.aload_n 2, 1), (.aload_n 0, 1), (.iload 4, 2), (.iconst 1, 1), (.iadd, 1), (.iaload, 1), (.aload_n 0, 1), (.iload 4, 2), (.iconst 2, 1), (.iadd, 1), (.iaload, 1), (.aload_n 0, 1), (.iload 4, 2), (.iconst 3, 1), (.iadd, 1), (.iaload, 1), (.invokevirtual 139, 3), (.istore 6, 2), (.goto 642, 3)] = true := zdecB_app (a := [(.aload_n 1, 1), (.aload_n 0, 1), (.iload 4, 2), (.iconst 1, 1), (.iadd, 1), (.iaload, 1)]) dL_law_555 (zdecB_app (a := [(.aload_n 0, 1), (.iload 4, 2), (.iconst 2, 1), (.iadd, 1), (.iaload, 1), (.aload_n 0, 1)]) dL_law_562 (zdecB_app (a := [(.iload 4, 2), (.iconst 3, 1), (.iadd, 1), (.iaload, 1), (.aload_n 3, 1), (.invokestatic 137, 3)]) dL_law_569 (zdecB_app (a := [(.istore 5, 2), (.aload_n 2, 1), (.aload_n 0, 1), (.iload 4, 2), (.iconst 1, 1), (.iadd, 1)]) dL_law_578 (zdecB_app (a := [(.iaload, 1), (.aload_n 0, 1), (.iload 4, 2), (.iconst 2, 1), (.iadd, 1), (.iaload, 1)]) dL_law_586 (zdecB_app (a := [(.aload_n 0, 1), (.iload 4, 2), (.iconst 3, 1), (.iadd, 1), (.iaload, 1), (.invokevirtual 139, 3)]) dL_law_593 (dL_law_602))))))
set_option maxRecDepth 100000 in
theorem dL_law_607 : zdecB cL_law 607 [(.aload_n 1, 1), (.aload_n 3, 1), (.invokestatic 140, 3), (.istore 5, 2), (.aload_n 2, 1), (.invokevirtual 142, 3)] = true := by decide +kernel
set_option maxRecDepth 100000 in
theorem dL_law_618 : zdecB cL_law 618 [(.istore 6, 2), (.goto 626, 3)] = true := by decide +kernel
set_option maxRecDepth 100000 in
theorem eL_law_607 : zdecB cL_law 607 [(.aload_n 1, 1), (.aload_n 3, 1), (.invokestatic 140, 3), (.istore 5, 2), (.aload_n 2, 1), (.invokevirtual 142, 3), (.istore 6, 2), (.goto 626, 3)] = true := zdecB_app (a := [(.aload_n 1, 1), (.aload_n 3, 1), (.invokestatic 140, 3), (.istore 5, 2), (.aload_n 2, 1), (.invokevirtual 142, 3)]) dL_law_607 (dL_law_618)
set_option maxRecDepth 100000 in
theorem dL_law_623 : zdecB cL_law 623 [(.aload_n 1, 1), (.aload_n 0, 1), (.iload 4, 2), (.iconst 1, 1), (.iadd, 1), (.iaload, 1)] = true := by decide +kernel
set_option maxRecDepth 100000 in
theorem dL_law_630 : zdecB cL_law 630 [(.aload_n 3, 1), (.invokestatic 143, 3), (.istore 5, 2), (.aload_n 2, 1), (.aload_n 0, 1), (.iload 4, 2)] = true := by decide +kernel
set_option maxRecDepth 100000 in
theorem dL_law_640 : zdecB cL_law 640 [(.iconst 1, 1), (.iadd, 1), (.iaload, 1), (.invokevirtual 145, 3), (.istore 6, 2), (.goto 598, 3)] = true := by decide +kernel
set_option maxRecDepth 100000 in
theorem eL_law_623 : zdecB cL_law 623 [(.aload_n 1, 1), (.aload_n 0, 1), (.iload 4, 2), (.iconst 1, 1), (.iadd, 1), (.iaload, 1), (.aload_n 3, 1), (.invokestatic 143, 3), (.istore 5, 2), (.aload_n 2, 1), (.aload_n 0, 1), (.iload 4, 2), (.iconst 1, 1), (.iadd, 1), (.iaload, 1), (.invokevirtual 145, 3), (.istore 6, 2), (.goto 598, 3)] = true := zdecB_app (a := [(.aload_n 1, 1), (.aload_n 0, 1), (.iload 4, 2), (.iconst 1, 1), (.iadd, 1), (.iaload, 1)]) dL_law_623 (zdecB_app (a := [(.aload_n 3, 1), (.invokestatic 143, 3), (.istore 5, 2), (.aload_n 2, 1), (.aload_n 0, 1), (.iload 4, 2)]) dL_law_630 (dL_law_640))
set_option maxRecDepth 100000 in
theorem dL_law_651 : zdecB cL_law 651 [(.aload_n 1, 1), (.aload_n 0, 1), (.iload 4, 2), (.iconst 1, 1), (.iadd, 1), (.iaload, 1)] = true := by decide +kernel
set_option maxRecDepth 100000 in
theorem dL_law_658 : zdecB cL_law 658 [(.ifCond .eq 7, 3), (.iconst 1, 1), (.goto 4, 3)] = true := by decide +kernel
set_option maxRecDepth 100000 in
theorem eL_law_651 : zdecB cL_law 651 [(.aload_n 1, 1), (.aload_n 0, 1), (.iload 4, 2), (.iconst 1, 1), (.iadd, 1), (.iaload, 1), (.ifCond .eq 7, 3), (.iconst 1, 1), (.goto 4, 3)] = true := zdecB_app (a := [(.aload_n 1, 1), (.aload_n 0, 1), (.iload 4, 2), (.iconst 1, 1), (.iadd, 1), (.iaload, 1)]) dL_law_651 (dL_law_658)
set_option maxRecDepth 100000 in
theorem dL_law_665 : zdecB cL_law 665 [(.iconst 0, 1)] = true := by decide +kernel
set_option maxRecDepth 100000 in
theorem dL_law_666 : zdecB cL_law 666 [(.aload_n 3, 1), (.invokestatic 146, 3), (.istore 5, 2), (.aload_n 2, 1), (.aload_n 0, 1), (.iload 4, 2)] = true := by decide +kernel
set_option maxRecDepth 100000 in
theorem dL_law_676 : zdecB cL_law 676 [(.iconst 1, 1), (.iadd, 1), (.iaload, 1), (.ifCond .eq 7, 3), (.iconst 1, 1), (.goto 4, 3)] = true := by decide +kernel
set_option maxRecDepth 100000 in
theorem eL_law_666 : zdecB cL_law 666 [(.aload_n 3, 1), (.invokestatic 146, 3), (.istore 5, 2), (.aload_n 2, 1), (.aload_n 0, 1), (.iload 4, 2), (.iconst 1, 1), (.iadd, 1), (.iaload, 1), (.ifCond .eq 7, 3), (.iconst 1, 1), (.goto 4, 3)] = true := zdecB_app (a := [(.aload_n 3, 1), (.invokestatic 146, 3), (.istore 5, 2), (.aload_n 2, 1), (.aload_n 0, 1), (.iload 4, 2)]) dL_law_666 (dL_law_676)
set_option maxRecDepth 100000 in
theorem dL_law_686 : zdecB cL_law 686 [(.iconst 0, 1)] = true := by decide +kernel
set_option maxRecDepth 100000 in
theorem dL_law_687 : zdecB cL_law 687 [(.invokevirtual 149, 3), (.istore 6, 2), (.goto 554, 3)] = true := by decide +kernel
set_option maxRecDepth 100000 in
theorem dL_law_695 : zdecB cL_law 695 [(.aload_n 1, 1), (.aload_n 3, 1), (.invokestatic 150, 3), (.istore 5, 2), (.aload_n 2, 1), (.invokevirtual 152, 3)] = true := by decide +kernel
set_option maxRecDepth 100000 in
theorem dL_law_706 : zdecB cL_law 706 [(.istore 6, 2), (.goto 538, 3)] = true := by decide +kernel
set_option maxRecDepth 100000 in
theorem eL_law_695 : zdecB cL_law 695 [(.aload_n 1, 1), (.aload_n 3, 1), (.invokestatic 150, 3), (.istore 5, 2), (.aload_n 2, 1), (.invokevirtual 152, 3), (.istore 6, 2), (.goto 538, 3)] = true := zdecB_app (a := [(.aload_n 1, 1), (.aload_n 3, 1), (.invokestatic 150, 3), (.istore 5, 2), (.aload_n 2, 1), (.invokevirtual 152, 3)]) dL_law_695 (dL_law_706)
set_option maxRecDepth 100000 in
theorem dL_law_711 : zdecB cL_law 711 [(.aload_n 1, 1), (.aload_n 3, 1), (.invokestatic 153, 3), (.istore 5, 2), (.aload_n 2, 1), (.invokevirtual 155, 3)] = true := by decide +kernel
set_option maxRecDepth 100000 in
theorem dL_law_722 : zdecB cL_law 722 [(.istore 6, 2), (.goto 522, 3)] = true := by decide +kernel
set_option maxRecDepth 100000 in
theorem eL_law_711 : zdecB cL_law 711 [(.aload_n 1, 1), (.aload_n 3, 1), (.invokestatic 153, 3), (.istore 5, 2), (.aload_n 2, 1), (.invokevirtual 155, 3), (.istore 6, 2), (.goto 522, 3)] = true := zdecB_app (a := [(.aload_n 1, 1), (.aload_n 3, 1), (.invokestatic 153, 3), (.istore 5, 2), (.aload_n 2, 1), (.invokevirtual 155, 3)]) dL_law_711 (dL_law_722)
set_option maxRecDepth 100000 in
theorem dL_law_727 : zdecB cL_law 727 [(.aload_n 1, 1), (.aload_n 0, 1), (.iload 4, 2), (.iconst 1, 1), (.iadd, 1), (.iaload, 1)] = true := by decide +kernel
set_option maxRecDepth 100000 in
theorem dL_law_734 : zdecB cL_law 734 [(.aload_n 3, 1), (.invokestatic 156, 3), (.istore 5, 2), (.aload_n 2, 1), (.aload_n 0, 1), (.iload 4, 2)] = true := by decide +kernel
set_option maxRecDepth 100000 in
theorem dL_law_744 : zdecB cL_law 744 [(.iconst 1, 1), (.iadd, 1), (.iaload, 1), (.invokevirtual 158, 3), (.istore 6, 2), (.goto 494, 3)] = true := by decide +kernel
set_option maxRecDepth 100000 in
theorem eL_law_727 : zdecB cL_law 727 [(.aload_n 1, 1), (.aload_n 0, 1), (.iload 4, 2), (.iconst 1, 1), (.iadd, 1), (.iaload, 1), (.aload_n 3, 1), (.invokestatic 156, 3), (.istore 5, 2), (.aload_n 2, 1), (.aload_n 0, 1), (.iload 4, 2), (.iconst 1, 1), (.iadd, 1), (.iaload, 1), (.invokevirtual 158, 3), (.istore 6, 2), (.goto 494, 3)] = true := zdecB_app (a := [(.aload_n 1, 1), (.aload_n 0, 1), (.iload 4, 2), (.iconst 1, 1), (.iadd, 1), (.iaload, 1)]) dL_law_727 (zdecB_app (a := [(.aload_n 3, 1), (.invokestatic 156, 3), (.istore 5, 2), (.aload_n 2, 1), (.aload_n 0, 1), (.iload 4, 2)]) dL_law_734 (dL_law_744))
set_option maxRecDepth 100000 in
theorem dL_law_755 : zdecB cL_law 755 [(.aload_n 1, 1), (.aload_n 0, 1), (.iload 4, 2), (.iconst 1, 1), (.iadd, 1), (.iaload, 1)] = true := by decide +kernel
set_option maxRecDepth 100000 in
theorem dL_law_762 : zdecB cL_law 762 [(.aload_n 0, 1), (.iload 4, 2), (.iconst 2, 1), (.iadd, 1), (.iaload, 1), (.aload_n 3, 1)] = true := by decide +kernel
set_option maxRecDepth 100000 in
theorem dL_law_769 : zdecB cL_law 769 [(.invokestatic 159, 3), (.istore 5, 2), (.aload_n 2, 1), (.aload_n 0, 1), (.iload 4, 2), (.iconst 1, 1)] = true := by decide +kernel
set_option maxRecDepth 100000 in
theorem dL_law_779 : zdecB cL_law 779 [(.iadd, 1), (.iaload, 1), (.aload_n 0, 1), (.iload 4, 2), (.iconst 2, 1), (.iadd, 1)] = true := by decide +kernel
set_option maxRecDepth 100000 in
theorem dL_law_786 : zdecB cL_law 786 [(.iaload, 1), (.invokevirtual 161, 3), (.istore 6, 2), (.goto 454, 3)] = true := by decide +kernel
set_option maxRecDepth 100000 in
theorem eL_law_755 : zdecB cL_law 755 [(.aload_n 1, 1), (.aload_n 0, 1), (.iload 4, 2), (.iconst 1, 1), (.iadd, 1), (.iaload, 1), (.aload_n 0, 1), (.iload 4, 2), (.iconst 2, 1), (.iadd, 1), (.iaload, 1), (.aload_n 3, 1), (.invokestatic 159, 3), (.istore 5, 2), (.aload_n 2, 1), (.aload_n 0, 1), (.iload 4, 2), (.iconst 1, 1), (.iadd, 1), (.iaload, 1), (.aload_n 0, 1), (.iload 4, 2), (.iconst 2, 1), (.iadd, 1), (.iaload, 1), (.invokevirtual 161, 3), (.istore 6, 2), (.goto 454, 3)] = true := zdecB_app (a := [(.aload_n 1, 1), (.aload_n 0, 1), (.iload 4, 2), (.iconst 1, 1), (.iadd, 1), (.iaload, 1)]) dL_law_755 (zdecB_app (a := [(.aload_n 0, 1), (.iload 4, 2), (.iconst 2, 1), (.iadd, 1), (.iaload, 1), (.aload_n 3, 1)]) dL_law_762 (zdecB_app (a := [(.invokestatic 159, 3), (.istore 5, 2), (.aload_n 2, 1), (.aload_n 0, 1), (.iload 4, 2), (.iconst 1, 1)]) dL_law_769 (zdecB_app (a := [(.iadd, 1), (.iaload, 1), (.aload_n 0, 1), (.iload 4, 2), (.iconst 2, 1), (.iadd, 1)]) dL_law_779 (dL_law_786))))
set_option maxRecDepth 100000 in
theorem dL_law_795 : zdecB cL_law 795 [(.aload_n 1, 1), (.invokevirtual 162, 3), (.pop, 1), (.aload_n 2, 1), (.invokevirtual 165, 3), (.pop, 1)] = true := by decide +kernel
set_option maxRecDepth 100000 in
theorem dL_law_805 : zdecB cL_law 805 [(.goto 441, 3)] = true := by decide +kernel
set_option maxRecDepth 100000 in
theorem eL_law_795 : zdecB cL_law 795 [(.aload_n 1, 1), (.invokevirtual 162, 3), (.pop, 1), (.aload_n 2, 1), (.invokevirtual 165, 3), (.pop, 1), (.goto 441, 3)] = true := zdecB_app (a := [(.aload_n 1, 1), (.invokevirtual 162, 3), (.pop, 1), (.aload_n 2, 1), (.invokevirtual 165, 3), (.pop, 1)]) dL_law_795 (dL_law_805)
set_option maxRecDepth 100000 in
theorem dL_law_808 : zdecB cL_law 808 [(.aload_n 1, 1), (.aload_n 0, 1), (.iload 4, 2), (.iconst 1, 1), (.iadd, 1), (.iaload, 1)] = true := by decide +kernel
set_option maxRecDepth 100000 in
theorem dL_law_815 : zdecB cL_law 815 [(.aload_n 0, 1), (.iload 4, 2), (.iconst 2, 1), (.iadd, 1), (.iaload, 1), (.aload_n 3, 1)] = true := by decide +kernel
set_option maxRecDepth 100000 in
theorem dL_law_822 : zdecB cL_law 822 [(.invokestatic 166, 3), (.istore 5, 2), (.aload_n 2, 1), (.aload_n 0, 1), (.iload 4, 2), (.iconst 1, 1)] = true := by decide +kernel
set_option maxRecDepth 100000 in
theorem dL_law_832 : zdecB cL_law 832 [(.iadd, 1), (.iaload, 1), (.aload_n 0, 1), (.iload 4, 2), (.iconst 2, 1), (.iadd, 1)] = true := by decide +kernel
set_option maxRecDepth 100000 in
theorem dL_law_839 : zdecB cL_law 839 [(.iaload, 1), (.invokevirtual 168, 3), (.istore 6, 2), (.goto 401, 3)] = true := by decide +kernel
set_option maxRecDepth 100000 in
theorem eL_law_808 : zdecB cL_law 808 [(.aload_n 1, 1), (.aload_n 0, 1), (.iload 4, 2), (.iconst 1, 1), (.iadd, 1), (.iaload, 1), (.aload_n 0, 1), (.iload 4, 2), (.iconst 2, 1), (.iadd, 1), (.iaload, 1), (.aload_n 3, 1), (.invokestatic 166, 3), (.istore 5, 2), (.aload_n 2, 1), (.aload_n 0, 1), (.iload 4, 2), (.iconst 1, 1), (.iadd, 1), (.iaload, 1), (.aload_n 0, 1), (.iload 4, 2), (.iconst 2, 1), (.iadd, 1), (.iaload, 1), (.invokevirtual 168, 3), (.istore 6, 2), (.goto 401, 3)] = true := zdecB_app (a := [(.aload_n 1, 1), (.aload_n 0, 1), (.iload 4, 2), (.iconst 1, 1), (.iadd, 1), (.iaload, 1)]) dL_law_808 (zdecB_app (a := [(.aload_n 0, 1), (.iload 4, 2), (.iconst 2, 1), (.iadd, 1), (.iaload, 1), (.aload_n 3, 1)]) dL_law_815 (zdecB_app (a := [(.invokestatic 166, 3), (.istore 5, 2), (.aload_n 2, 1), (.aload_n 0, 1), (.iload 4, 2), (.iconst 1, 1)]) dL_law_822 (zdecB_app (a := [(.iadd, 1), (.iaload, 1), (.aload_n 0, 1), (.iload 4, 2), (.iconst 2, 1), (.iadd, 1)]) dL_law_832 (dL_law_839))))
set_option maxRecDepth 100000 in
theorem dL_law_848 : zdecB cL_law 848 [(.aload_n 1, 1), (.aload_n 0, 1), (.iload 4, 2), (.iconst 1, 1), (.iadd, 1), (.iaload, 1)] = true := by decide +kernel
set_option maxRecDepth 100000 in
theorem dL_law_855 : zdecB cL_law 855 [(.aload_n 0, 1), (.iload 4, 2), (.iconst 2, 1), (.iadd, 1), (.iaload, 1), (.ifCond .eq 7, 3)] = true := by decide +kernel
set_option maxRecDepth 100000 in
theorem dL_law_864 : zdecB cL_law 864 [(.iconst 1, 1), (.goto 4, 3)] = true := by decide +kernel
set_option maxRecDepth 100000 in
theorem eL_law_848 : zdecB cL_law 848 [(.aload_n 1, 1), (.aload_n 0, 1), (.iload 4, 2), (.iconst 1, 1), (.iadd, 1), (.iaload, 1), (.aload_n 0, 1), (.iload 4, 2), (.iconst 2, 1), (.iadd, 1), (.iaload, 1), (.ifCond .eq 7, 3), (.iconst 1, 1), (.goto 4, 3)] = true := zdecB_app (a := [(.aload_n 1, 1), (.aload_n 0, 1), (.iload 4, 2), (.iconst 1, 1), (.iadd, 1), (.iaload, 1)]) dL_law_848 (zdecB_app (a := [(.aload_n 0, 1), (.iload 4, 2), (.iconst 2, 1), (.iadd, 1), (.iaload, 1), (.ifCond .eq 7, 3)]) dL_law_855 (dL_law_864))
set_option maxRecDepth 100000 in
theorem dL_law_868 : zdecB cL_law 868 [(.iconst 0, 1)] = true := by decide +kernel
set_option maxRecDepth 100000 in
theorem dL_law_869 : zdecB cL_law 869 [(.invokevirtual 169, 3), (.pop, 1), (.aload_n 2, 1), (.aload_n 0, 1), (.iload 4, 2), (.iconst 1, 1)] = true := by decide +kernel
set_option maxRecDepth 100000 in
theorem dL_law_878 : zdecB cL_law 878 [(.iadd, 1), (.iaload, 1), (.aload_n 0, 1), (.iload 4, 2), (.iconst 2, 1), (.iadd, 1)] = true := by decide +kernel
set_option maxRecDepth 100000 in
theorem dL_law_885 : zdecB cL_law 885 [(.iaload, 1), (.ifCond .eq 7, 3), (.iconst 1, 1), (.goto 4, 3)] = true := by decide +kernel
set_option maxRecDepth 100000 in
theorem eL_law_869 : zdecB cL_law 869 [(.invokevirtual 169, 3), (.pop, 1), (.aload_n 2, 1), (.aload_n 0, 1), (.iload 4, 2), (.iconst 1, 1), (.iadd, 1), (.iaload, 1), (.aload_n 0, 1), (.iload 4, 2), (.iconst 2, 1), (.iadd, 1), (.iaload, 1), (.ifCond .eq 7, 3), (.iconst 1, 1), (.goto 4, 3)] = true := zdecB_app (a := [(.invokevirtual 169, 3), (.pop, 1), (.aload_n 2, 1), (.aload_n 0, 1), (.iload 4, 2), (.iconst 1, 1)]) dL_law_869 (zdecB_app (a := [(.iadd, 1), (.iaload, 1), (.aload_n 0, 1), (.iload 4, 2), (.iconst 2, 1), (.iadd, 1)]) dL_law_878 (dL_law_885))
set_option maxRecDepth 100000 in
theorem dL_law_893 : zdecB cL_law 893 [(.iconst 0, 1)] = true := by decide +kernel
set_option maxRecDepth 100000 in
theorem dL_law_894 : zdecB cL_law 894 [(.invokevirtual 172, 3), (.pop, 1), (.goto 348, 3)] = true := by decide +kernel
set_option maxRecDepth 100000 in
theorem dL_law_901 : zdecB cL_law 901 [(.aload_n 1, 1), (.aload_n 0, 1), (.iload 4, 2), (.iconst 1, 1), (.iadd, 1), (.iaload, 1)] = true := by decide +kernel
set_option maxRecDepth 100000 in
theorem dL_law_908 : zdecB cL_law 908 [(.aload_n 0, 1), (.iload 4, 2), (.iconst 2, 1), (.iadd, 1), (.iaload, 1), (.aload_n 3, 1)] = true := by decide +kernel
set_option maxRecDepth 100000 in
theorem dL_law_915 : zdecB cL_law 915 [(.invokestatic 173, 3), (.istore 5, 2), (.aload_n 2, 1), (.aload_n 0, 1), (.iload 4, 2), (.iconst 1, 1)] = true := by decide +kernel
set_option maxRecDepth 100000 in
theorem dL_law_925 : zdecB cL_law 925 [(.iadd, 1), (.iaload, 1), (.aload_n 0, 1), (.iload 4, 2), (.iconst 2, 1), (.iadd, 1)] = true := by decide +kernel
set_option maxRecDepth 100000 in
theorem dL_law_932 : zdecB cL_law 932 [(.iaload, 1), (.invokevirtual 175, 3), (.istore 6, 2), (.goto 308, 3)] = true := by decide +kernel
set_option maxRecDepth 100000 in
theorem eL_law_901 : zdecB cL_law 901 [(.aload_n 1, 1), (.aload_n 0, 1), (.iload 4, 2), (.iconst 1, 1), (.iadd, 1), (.iaload, 1), (.aload_n 0, 1), (.iload 4, 2), (.iconst 2, 1), (.iadd, 1), (.iaload, 1), (.aload_n 3, 1), (.invokestatic 173, 3), (.istore 5, 2), (.aload_n 2, 1), (.aload_n 0, 1), (.iload 4, 2), (.iconst 1, 1), (.iadd, 1), (.iaload, 1), (.aload_n 0, 1), (.iload 4, 2), (.iconst 2, 1), (.iadd, 1), (.iaload, 1), (.invokevirtual 175, 3), (.istore 6, 2), (.goto 308, 3)] = true := zdecB_app (a := [(.aload_n 1, 1), (.aload_n 0, 1), (.iload 4, 2), (.iconst 1, 1), (.iadd, 1), (.iaload, 1)]) dL_law_901 (zdecB_app (a := [(.aload_n 0, 1), (.iload 4, 2), (.iconst 2, 1), (.iadd, 1), (.iaload, 1), (.aload_n 3, 1)]) dL_law_908 (zdecB_app (a := [(.invokestatic 173, 3), (.istore 5, 2), (.aload_n 2, 1), (.aload_n 0, 1), (.iload 4, 2), (.iconst 1, 1)]) dL_law_915 (zdecB_app (a := [(.iadd, 1), (.iaload, 1), (.aload_n 0, 1), (.iload 4, 2), (.iconst 2, 1), (.iadd, 1)]) dL_law_925 (dL_law_932))))
set_option maxRecDepth 100000 in
theorem dL_law_941 : zdecB cL_law 941 [(.aload_n 1, 1), (.aload_n 0, 1), (.iload 4, 2), (.iconst 1, 1), (.iadd, 1), (.iaload, 1)] = true := by decide +kernel
set_option maxRecDepth 100000 in
theorem dL_law_948 : zdecB cL_law 948 [(.aload_n 0, 1), (.iload 4, 2), (.iconst 2, 1), (.iadd, 1), (.iaload, 1), (.aload_n 3, 1)] = true := by decide +kernel
set_option maxRecDepth 100000 in
theorem dL_law_955 : zdecB cL_law 955 [(.invokestatic 176, 3), (.istore 5, 2), (.aload_n 2, 1), (.aload_n 0, 1), (.iload 4, 2), (.iconst 1, 1)] = true := by decide +kernel
set_option maxRecDepth 100000 in
theorem dL_law_965 : zdecB cL_law 965 [(.iadd, 1), (.iaload, 1), (.aload_n 0, 1), (.iload 4, 2), (.iconst 2, 1), (.iadd, 1)] = true := by decide +kernel
set_option maxRecDepth 100000 in
theorem dL_law_972 : zdecB cL_law 972 [(.iaload, 1), (.invokevirtual 178, 3), (.istore 6, 2), (.goto 268, 3)] = true := by decide +kernel
set_option maxRecDepth 100000 in
theorem eL_law_941 : zdecB cL_law 941 [(.aload_n 1, 1), (.aload_n 0, 1), (.iload 4, 2), (.iconst 1, 1), (.iadd, 1), (.iaload, 1), (.aload_n 0, 1), (.iload 4, 2), (.iconst 2, 1), (.iadd, 1), (.iaload, 1), (.aload_n 3, 1), (.invokestatic 176, 3), (.istore 5, 2), (.aload_n 2, 1), (.aload_n 0, 1), (.iload 4, 2), (.iconst 1, 1), (.iadd, 1), (.iaload, 1), (.aload_n 0, 1), (.iload 4, 2), (.iconst 2, 1), (.iadd, 1), (.iaload, 1), (.invokevirtual 178, 3), (.istore 6, 2), (.goto 268, 3)] = true := zdecB_app (a := [(.aload_n 1, 1), (.aload_n 0, 1), (.iload 4, 2), (.iconst 1, 1), (.iadd, 1), (.iaload, 1)]) dL_law_941 (zdecB_app (a := [(.aload_n 0, 1), (.iload 4, 2), (.iconst 2, 1), (.iadd, 1), (.iaload, 1), (.aload_n 3, 1)]) dL_law_948 (zdecB_app (a := [(.invokestatic 176, 3), (.istore 5, 2), (.aload_n 2, 1), (.aload_n 0, 1), (.iload 4, 2), (.iconst 1, 1)]) dL_law_955 (zdecB_app (a := [(.iadd, 1), (.iaload, 1), (.aload_n 0, 1), (.iload 4, 2), (.iconst 2, 1), (.iadd, 1)]) dL_law_965 (dL_law_972))))
set_option maxRecDepth 100000 in
theorem dL_law_981 : zdecB cL_law 981 [(.aload_n 1, 1), (.aload_n 0, 1), (.iload 4, 2), (.iconst 1, 1), (.iadd, 1), (.iaload, 1)] = true := by decide +kernel
set_option maxRecDepth 100000 in
theorem dL_law_988 : zdecB cL_law 988 [(.ifCond .eq 7, 3), (.iconst 1, 1), (.goto 4, 3)] = true := by decide +kernel
set_option maxRecDepth 100000 in
theorem eL_law_981 : zdecB cL_law 981 [(.aload_n 1, 1), (.aload_n 0, 1), (.iload 4, 2), (.iconst 1, 1), (.iadd, 1), (.iaload, 1), (.ifCond .eq 7, 3), (.iconst 1, 1), (.goto 4, 3)] = true := zdecB_app (a := [(.aload_n 1, 1), (.aload_n 0, 1), (.iload 4, 2), (.iconst 1, 1), (.iadd, 1), (.iaload, 1)]) dL_law_981 (dL_law_988)
set_option maxRecDepth 100000 in
theorem dL_law_995 : zdecB cL_law 995 [(.iconst 0, 1)] = true := by decide +kernel
set_option maxRecDepth 100000 in
theorem dL_law_996 : zdecB cL_law 996 [(.invokevirtual 179, 3), (.pop, 1), (.aload_n 2, 1), (.aload_n 0, 1), (.iload 4, 2), (.iconst 1, 1)] = true := by decide +kernel
set_option maxRecDepth 100000 in
theorem dL_law_1005 : zdecB cL_law 1005 [(.iadd, 1), (.iaload, 1), (.ifCond .eq 7, 3), (.iconst 1, 1), (.goto 4, 3)] = true := by decide +kernel
set_option maxRecDepth 100000 in
theorem eL_law_996 : zdecB cL_law 996 [(.invokevirtual 179, 3), (.pop, 1), (.aload_n 2, 1), (.aload_n 0, 1), (.iload 4, 2), (.iconst 1, 1), (.iadd, 1), (.iaload, 1), (.ifCond .eq 7, 3), (.iconst 1, 1), (.goto 4, 3)] = true := zdecB_app (a := [(.invokevirtual 179, 3), (.pop, 1), (.aload_n 2, 1), (.aload_n 0, 1), (.iload 4, 2), (.iconst 1, 1)]) dL_law_996 (dL_law_1005)
set_option maxRecDepth 100000 in
theorem dL_law_1014 : zdecB cL_law 1014 [(.iconst 0, 1)] = true := by decide +kernel
set_option maxRecDepth 100000 in
theorem dL_law_1015 : zdecB cL_law 1015 [(.invokevirtual 183, 3), (.pop, 1), (.goto 227, 3)] = true := by decide +kernel
set_option maxRecDepth 100000 in
theorem dL_law_1022 : zdecB cL_law 1022 [(.aload_n 1, 1), (.invokevirtual 184, 3), (.pop, 1), (.aload_n 2, 1), (.invokevirtual 187, 3), (.pop, 1)] = true := by decide +kernel
set_option maxRecDepth 100000 in
theorem dL_law_1032 : zdecB cL_law 1032 [(.goto 214, 3)] = true := by decide +kernel
set_option maxRecDepth 100000 in
theorem eL_law_1022 : zdecB cL_law 1022 [(.aload_n 1, 1), (.invokevirtual 184, 3), (.pop, 1), (.aload_n 2, 1), (.invokevirtual 187, 3), (.pop, 1), (.goto 214, 3)] = true := zdecB_app (a := [(.aload_n 1, 1), (.invokevirtual 184, 3), (.pop, 1), (.aload_n 2, 1), (.invokevirtual 187, 3), (.pop, 1)]) dL_law_1022 (dL_law_1032)
set_option maxRecDepth 100000 in
theorem dL_law_1035 : zdecB cL_law 1035 [(.aload_n 1, 1), (.invokevirtual 188, 3), (.pop, 1), (.aload_n 2, 1), (.invokevirtual 192, 3), (.pop, 1)] = true := by decide +kernel
set_option maxRecDepth 100000 in
theorem dL_law_1045 : zdecB cL_law 1045 [(.goto 201, 3)] = true := by decide +kernel
set_option maxRecDepth 100000 in
theorem eL_law_1035 : zdecB cL_law 1035 [(.aload_n 1, 1), (.invokevirtual 188, 3), (.pop, 1), (.aload_n 2, 1), (.invokevirtual 192, 3), (.pop, 1), (.goto 201, 3)] = true := zdecB_app (a := [(.aload_n 1, 1), (.invokevirtual 188, 3), (.pop, 1), (.aload_n 2, 1), (.invokevirtual 192, 3), (.pop, 1)]) dL_law_1035 (dL_law_1045)
set_option maxRecDepth 100000 in
theorem dL_law_1048 : zdecB cL_law 1048 [(.aload_n 1, 1), (.aload_n 0, 1), (.iload 4, 2), (.iconst 1, 1), (.iadd, 1), (.iaload, 1)] = true := by decide +kernel
set_option maxRecDepth 100000 in
theorem dL_law_1055 : zdecB cL_law 1055 [(.aload_n 3, 1), (.invokestatic 193, 3), (.istore 5, 2), (.aload_n 2, 1), (.aload_n 0, 1), (.iload 4, 2)] = true := by decide +kernel
set_option maxRecDepth 100000 in
theorem dL_law_1065 : zdecB cL_law 1065 [(.iconst 1, 1), (.iadd, 1), (.iaload, 1), (.invokevirtual 195, 3), (.istore 6, 2), (.goto 173, 3)] = true := by decide +kernel
set_option maxRecDepth 100000 in
theorem eL_law_1048 : zdecB cL_law 1048 [(.aload_n 1, 1), (.aload_n 0, 1), (.iload 4, 2), (.iconst 1, 1), (.iadd, 1), (.iaload, 1), (.aload_n 3, 1), (.invokestatic 193, 3), (.istore 5, 2), (.aload_n 2, 1), (.aload_n 0, 1), (.iload 4, 2), (.iconst 1, 1), (.iadd, 1), (.iaload, 1), (.invokevirtual 195, 3), (.istore 6, 2), (.goto 173, 3)] = true := zdecB_app (a := [(.aload_n 1, 1), (.aload_n 0, 1), (.iload 4, 2), (.iconst 1, 1), (.iadd, 1), (.iaload, 1)]) dL_law_1048 (zdecB_app (a := [(.aload_n 3, 1), (.invokestatic 193, 3), (.istore 5, 2), (.aload_n 2, 1), (.aload_n 0, 1), (.iload 4, 2)]) dL_law_1055 (dL_law_1065))
set_option maxRecDepth 100000 in
theorem dL_law_1076 : zdecB cL_law 1076 [(.aload_n 1, 1), (.aload_n 0, 1), (.iload 4, 2), (.iconst 1, 1), (.iadd, 1), (.iaload, 1)] = true := by decide +kernel
set_option maxRecDepth 100000 in
theorem dL_law_1083 : zdecB cL_law 1083 [(.invokestatic 196, 3), (.istore 5, 2), (.aload_n 2, 1), (.aload_n 0, 1), (.iload 4, 2), (.iconst 1, 1)] = true := by decide +kernel
set_option maxRecDepth 100000 in
theorem dL_law_1093 : zdecB cL_law 1093 [(.iadd, 1), (.iaload, 1), (.invokevirtual 199, 3), (.goto 148, 3)] = true := by decide +kernel
set_option maxRecDepth 100000 in
theorem eL_law_1076 : zdecB cL_law 1076 [(.aload_n 1, 1), (.aload_n 0, 1), (.iload 4, 2), (.iconst 1, 1), (.iadd, 1), (.iaload, 1), (.invokestatic 196, 3), (.istore 5, 2), (.aload_n 2, 1), (.aload_n 0, 1), (.iload 4, 2), (.iconst 1, 1), (.iadd, 1), (.iaload, 1), (.invokevirtual 199, 3), (.goto 148, 3)] = true := zdecB_app (a := [(.aload_n 1, 1), (.aload_n 0, 1), (.iload 4, 2), (.iconst 1, 1), (.iadd, 1), (.iaload, 1)]) dL_law_1076 (zdecB_app (a := [(.invokestatic 196, 3), (.istore 5, 2), (.aload_n 2, 1), (.aload_n 0, 1), (.iload 4, 2), (.iconst 1, 1)]) dL_law_1083 (dL_law_1093))
set_option maxRecDepth 100000 in
theorem dL_law_1101 : zdecB cL_law 1101 [(.aload_n 1, 1), (.aload_n 0, 1), (.iload 4, 2), (.iconst 1, 1), (.iadd, 1), (.iaload, 1)] = true := by decide +kernel
set_option maxRecDepth 100000 in
theorem dL_law_1108 : zdecB cL_law 1108 [(.aload_n 0, 1), (.iload 4, 2), (.iconst 2, 1), (.iadd, 1), (.iaload, 1), (.aload_n 3, 1)] = true := by decide +kernel
set_option maxRecDepth 100000 in
theorem dL_law_1115 : zdecB cL_law 1115 [(.invokestatic 200, 3), (.istore 5, 2), (.aload_n 2, 1), (.aload_n 0, 1), (.iload 4, 2), (.iconst 1, 1)] = true := by decide +kernel
set_option maxRecDepth 100000 in
theorem dL_law_1125 : zdecB cL_law 1125 [(.iadd, 1), (.iaload, 1), (.aload_n 0, 1), (.iload 4, 2), (.iconst 2, 1), (.iadd, 1)] = true := by decide +kernel
set_option maxRecDepth 100000 in
theorem dL_law_1132 : zdecB cL_law 1132 [(.iaload, 1), (.invokevirtual 202, 3), (.istore 6, 2), (.goto 108, 3)] = true := by decide +kernel
set_option maxRecDepth 100000 in
theorem eL_law_1101 : zdecB cL_law 1101 [(.aload_n 1, 1), (.aload_n 0, 1), (.iload 4, 2), (.iconst 1, 1), (.iadd, 1), (.iaload, 1), (.aload_n 0, 1), (.iload 4, 2), (.iconst 2, 1), (.iadd, 1), (.iaload, 1), (.aload_n 3, 1), (.invokestatic 200, 3), (.istore 5, 2), (.aload_n 2, 1), (.aload_n 0, 1), (.iload 4, 2), (.iconst 1, 1), (.iadd, 1), (.iaload, 1), (.aload_n 0, 1), (.iload 4, 2), (.iconst 2, 1), (.iadd, 1), (.iaload, 1), (.invokevirtual 202, 3), (.istore 6, 2), (.goto 108, 3)] = true := zdecB_app (a := [(.aload_n 1, 1), (.aload_n 0, 1), (.iload 4, 2), (.iconst 1, 1), (.iadd, 1), (.iaload, 1)]) dL_law_1101 (zdecB_app (a := [(.aload_n 0, 1), (.iload 4, 2), (.iconst 2, 1), (.iadd, 1), (.iaload, 1), (.aload_n 3, 1)]) dL_law_1108 (zdecB_app (a := [(.invokestatic 200, 3), (.istore 5, 2), (.aload_n 2, 1), (.aload_n 0, 1), (.iload 4, 2), (.iconst 1, 1)]) dL_law_1115 (zdecB_app (a := [(.iadd, 1), (.iaload, 1), (.aload_n 0, 1), (.iload 4, 2), (.iconst 2, 1), (.iadd, 1)]) dL_law_1125 (dL_law_1132))))
set_option maxRecDepth 100000 in
theorem dL_law_1141 : zdecB cL_law 1141 [(.aload_n 1, 1), (.aload_n 0, 1), (.iload 4, 2), (.iconst 1, 1), (.iadd, 1), (.iaload, 1)] = true := by decide +kernel
set_option maxRecDepth 100000 in
theorem dL_law_1148 : zdecB cL_law 1148 [(.aload_n 0, 1), (.iload 4, 2), (.iconst 2, 1), (.iadd, 1), (.iaload, 1), (.ifCond .eq 7, 3)] = true := by decide +kernel
set_option maxRecDepth 100000 in
theorem dL_law_1157 : zdecB cL_law 1157 [(.iconst 1, 1), (.goto 4, 3)] = true := by decide +kernel
set_option maxRecDepth 100000 in
theorem eL_law_1141 : zdecB cL_law 1141 [(.aload_n 1, 1), (.aload_n 0, 1), (.iload 4, 2), (.iconst 1, 1), (.iadd, 1), (.iaload, 1), (.aload_n 0, 1), (.iload 4, 2), (.iconst 2, 1), (.iadd, 1), (.iaload, 1), (.ifCond .eq 7, 3), (.iconst 1, 1), (.goto 4, 3)] = true := zdecB_app (a := [(.aload_n 1, 1), (.aload_n 0, 1), (.iload 4, 2), (.iconst 1, 1), (.iadd, 1), (.iaload, 1)]) dL_law_1141 (zdecB_app (a := [(.aload_n 0, 1), (.iload 4, 2), (.iconst 2, 1), (.iadd, 1), (.iaload, 1), (.ifCond .eq 7, 3)]) dL_law_1148 (dL_law_1157))
set_option maxRecDepth 100000 in
theorem dL_law_1161 : zdecB cL_law 1161 [(.iconst 0, 1)] = true := by decide +kernel
set_option maxRecDepth 100000 in
theorem dL_law_1162 : zdecB cL_law 1162 [(.aload_n 3, 1), (.invokestatic 203, 3), (.istore 5, 2), (.aload_n 2, 1), (.aload_n 0, 1), (.iload 4, 2)] = true := by decide +kernel
set_option maxRecDepth 100000 in
theorem dL_law_1172 : zdecB cL_law 1172 [(.iconst 1, 1), (.iadd, 1), (.iaload, 1), (.aload_n 0, 1), (.iload 4, 2), (.iconst 2, 1)] = true := by decide +kernel
set_option maxRecDepth 100000 in
theorem dL_law_1179 : zdecB cL_law 1179 [(.iadd, 1), (.iaload, 1), (.ifCond .eq 7, 3), (.iconst 1, 1), (.goto 4, 3)] = true := by decide +kernel
set_option maxRecDepth 100000 in
theorem eL_law_1162 : zdecB cL_law 1162 [(.aload_n 3, 1), (.invokestatic 203, 3), (.istore 5, 2), (.aload_n 2, 1), (.aload_n 0, 1), (.iload 4, 2), (.iconst 1, 1), (.iadd, 1), (.iaload, 1), (.aload_n 0, 1), (.iload 4, 2), (.iconst 2, 1), (.iadd, 1), (.iaload, 1), (.ifCond .eq 7, 3), (.iconst 1, 1), (.goto 4, 3)] = true := zdecB_app (a := [(.aload_n 3, 1), (.invokestatic 203, 3), (.istore 5, 2), (.aload_n 2, 1), (.aload_n 0, 1), (.iload 4, 2)]) dL_law_1162 (zdecB_app (a := [(.iconst 1, 1), (.iadd, 1), (.iaload, 1), (.aload_n 0, 1), (.iload 4, 2), (.iconst 2, 1)]) dL_law_1172 (dL_law_1179))
set_option maxRecDepth 100000 in
theorem dL_law_1188 : zdecB cL_law 1188 [(.iconst 0, 1)] = true := by decide +kernel
set_option maxRecDepth 100000 in
theorem dL_law_1189 : zdecB cL_law 1189 [(.invokevirtual 206, 3), (.istore 6, 2), (.goto 52, 3)] = true := by decide +kernel
set_option maxRecDepth 100000 in
theorem dL_law_1197 : zdecB cL_law 1197 [(.aload_n 1, 1), (.invokevirtual 207, 3), (.aload_n 2, 1), (.invokevirtual 210, 3), (.goto 41, 3)] = true := by decide +kernel
set_option maxRecDepth 100000 in
theorem dL_law_1208 : zdecB cL_law 1208 [(.aload_n 1, 1), (.invokevirtual 211, 3), (.aload_n 2, 1), (.invokevirtual 214, 3), (.if_icmp .eq 30, 3), (.iconst 0, 1)] = true := by decide +kernel
set_option maxRecDepth 100000 in
theorem dL_law_1220 : zdecB cL_law 1220 [(.ireturn, 1)] = true := by decide +kernel
set_option maxRecDepth 100000 in
theorem eL_law_1208 : zdecB cL_law 1208 [(.aload_n 1, 1), (.invokevirtual 211, 3), (.aload_n 2, 1), (.invokevirtual 214, 3), (.if_icmp .eq 30, 3), (.iconst 0, 1), (.ireturn, 1)] = true := zdecB_app (a := [(.aload_n 1, 1), (.invokevirtual 211, 3), (.aload_n 2, 1), (.invokevirtual 214, 3), (.if_icmp .eq 30, 3), (.iconst 0, 1)]) dL_law_1208 (dL_law_1220)
set_option maxRecDepth 100000 in
theorem dL_law_1221 : zdecB cL_law 1221 [(.aload_n 1, 1), (.aload_n 0, 1), (.iload 4, 2), (.iconst 1, 1), (.iadd, 1), (.iaload, 1)] = true := by decide +kernel
set_option maxRecDepth 100000 in
theorem dL_law_1228 : zdecB cL_law 1228 [(.invokevirtual 215, 3), (.pop, 1), (.aload_n 2, 1), (.aload_n 0, 1), (.iload 4, 2), (.iconst 1, 1)] = true := by decide +kernel
set_option maxRecDepth 100000 in
theorem dL_law_1237 : zdecB cL_law 1237 [(.iadd, 1), (.iaload, 1), (.invokevirtual 218, 3), (.pop, 1), (.goto 3, 3)] = true := by decide +kernel
set_option maxRecDepth 100000 in
theorem eL_law_1221 : zdecB cL_law 1221 [(.aload_n 1, 1), (.aload_n 0, 1), (.iload 4, 2), (.iconst 1, 1), (.iadd, 1), (.iaload, 1), (.invokevirtual 215, 3), (.pop, 1), (.aload_n 2, 1), (.aload_n 0, 1), (.iload 4, 2), (.iconst 1, 1), (.iadd, 1), (.iaload, 1), (.invokevirtual 218, 3), (.pop, 1), (.goto 3, 3)] = true := zdecB_app (a := [(.aload_n 1, 1), (.aload_n 0, 1), (.iload 4, 2), (.iconst 1, 1), (.iadd, 1), (.iaload, 1)]) dL_law_1221 (zdecB_app (a := [(.invokevirtual 215, 3), (.pop, 1), (.aload_n 2, 1), (.aload_n 0, 1), (.iload 4, 2), (.iconst 1, 1)]) dL_law_1228 (dL_law_1237))
set_option maxRecDepth 100000 in
theorem dL_law_1246 : zdecB cL_law 1246 [(.iinc 4 6, 3), (.goto (-1226), 3)] = true := by decide +kernel
set_option maxRecDepth 100000 in
theorem dL_law_1252 : zdecB cL_law 1252 [(.iconst 1, 1), (.ireturn, 1)] = true := by decide +kernel
theorem oL_law : ∀ pc, zdec cL_law pc (zBf BL_law pc) := zBf_ok (by
  unfold BL_law
  simp only [List.all_cons, List.all_nil, eL_law_23, eL_law_188, eL_law_261, eL_law_286, eL_law_302, eL_law_315, eL_law_367, eL_law_395, eL_law_435, eL_law_475, eL_law_515, eL_law_555, eL_law_607, eL_law_623, eL_law_651, dL_law_665, eL_law_666, dL_law_686, dL_law_687, eL_law_695, eL_law_711, eL_law_727, eL_law_755, eL_law_795, eL_law_808, eL_law_848, dL_law_868, eL_law_869, dL_law_893, dL_law_894, eL_law_901, eL_law_941, eL_law_981, dL_law_995, eL_law_996, dL_law_1014, dL_law_1015, eL_law_1022, eL_law_1035, eL_law_1048, eL_law_1076, eL_law_1101, eL_law_1141, dL_law_1161, eL_law_1162, dL_law_1188, dL_law_1189, dL_law_1197, eL_law_1208, eL_law_1221, dL_law_1246, dL_law_1252, Bool.and_true])
set_option maxRecDepth 100000 in
theorem bL_law_23 : zBf BL_law 23 = [(.iload 4, 2), (.aload_n 0, 1), (.arraylength, 1), (.bipush 6, 2), (.isub, 1), (.if_icmp .gt 1222, 3), (.aload_n 0, 1), (.iload 4, 2), (.iaload, 1), (.bipush 63, 2), (.iand, 1), (.tableswitch 1206 0 32 #[148, 221, 246, 262, 275, 327, 355, 395, 435, 475, 515, 567, 583, 611, 655, 671, 687, 715, 755, 768, 808, 861, 901, 941, 982, 995, 1008, 1036, 1061, 1101, 1157, 1168, 1181], 148)] := rfl
set_option maxRecDepth 100000 in
theorem bL_law_188 : zBf BL_law 188 = [(.aload_n 1, 1), (.aload_n 0, 1), (.iload 4, 2), (.iconst 1, 1), (.iadd, 1), (.iaload, 1), (.aload_n 0, 1), (.iload 4, 2), (.iconst 2, 1), (.iadd, 1), (.iaload, 1), (.aload_n 0, 1), (.iload 4, 2), (.iconst 3, 1), (.iadd, 1), (.iaload, 1), (.aload_n 0, 1), (.iload 4, 2), (.iconst 4, 1), (.iadd, 1), (.iaload, 1), (.aload_n 0, 1), (.iload 4, 2), (.iconst 5, 1), (.iadd, 1), (.iaload, 1), (.invokevirtual 96, 3), (.pop, 1), (.aload_n 2, 1), (.aload_n 0, 1), (.iload 4, 2), (.iconst 1, 1), (.iadd, 1), (.iaload, 1), (.aload_n 0, 1), (.iload 4, 2), (.iconst 2, 1), (.iadd, 1), (.iaload, 1), (.aload_n 0, 1), (.iload 4, 2), (.iconst 3, 1), (.iadd, 1), (.iaload, 1), (.aload_n 0, 1), (.iload 4, 2), (.iconst 4, 1), (.iadd, 1), (.iaload, 1), (.aload_n 0, 1), (.iload 4, 2), (.iconst 5, 1), (.iadd, 1), (.iaload, 1), (.invokevirtual 100, 3), (.pop, 1), (.goto 988, 3)] := rfl
set_option maxRecDepth 100000 in
theorem bL_law_261 : zBf BL_law 261 = [(.aload_n 1, 1), (.aload_n 0, 1), (.iload 4, 2), (.iconst 1, 1), (.iadd, 1), (.iaload, 1), (.invokevirtual 101, 3), (.pop, 1), (.aload_n 2, 1), (.aload_n 0, 1), (.iload 4, 2), (.iconst 1, 1), (.iadd, 1), (.iaload, 1), (.invokevirtual 105, 3), (.pop, 1), (.goto 963, 3)] := rfl
set_option maxRecDepth 100000 in
theorem bL_law_286 : zBf BL_law 286 = [(.aload_n 1, 1), (.aload_n 3, 1), (.invokestatic 106, 3), (.istore 5, 2), (.aload_n 2, 1), (.invokevirtual 111, 3), (.istore 6, 2), (.goto 947, 3)] := rfl
set_option maxRecDepth 100000 in
theorem bL_law_302 : zBf BL_law 302 = [(.aload_n 1, 1), (.invokevirtual 112, 3), (.pop, 1), (.aload_n 2, 1), (.invokevirtual 115, 3), (.pop, 1), (.goto 934, 3)] := rfl
set_option maxRecDepth 100000 in
theorem bL_law_315 : zBf BL_law 315 = [(.aload_n 1, 1), (.aload_n 0, 1), (.iload 4, 2), (.iconst 1, 1), (.iadd, 1), (.iaload, 1), (.aload_n 0, 1), (.iload 4, 2), (.iconst 2, 1), (.iadd, 1), (.iaload, 1), (.aload_n 0, 1), (.iload 4, 2), (.iconst 3, 1), (.iadd, 1), (.iaload, 1), (.aload_n 3, 1), (.invokestatic 116, 3), (.istore 5, 2), (.aload_n 2, 1), (.aload_n 0, 1), (.iload 4, 2), (.iconst 1, 1), (.iadd, 1), (.iaload, 1), (.aload_n 0, 1), (.iload 4, 2), (.iconst 2, 1), (.iadd, 1), (.iaload, 1), (.aload_n 0, 1), (.iload 4, 2), (.iconst 3, 1), (.iadd, 1), (.iaload, 1), (.invokevirtual 119, 3), (.istore 6, 2), (.goto 882, 3)] := rfl
set_option maxRecDepth 100000 in
theorem bL_law_367 : zBf BL_law 367 = [(.aload_n 1, 1), (.aload_n 0, 1), (.iload 4, 2), (.iconst 1, 1), (.iadd, 1), (.iaload, 1), (.aload_n 3, 1), (.invokestatic 120, 3), (.istore 5, 2), (.aload_n 2, 1), (.aload_n 0, 1), (.iload 4, 2), (.iconst 1, 1), (.iadd, 1), (.iaload, 1), (.invokevirtual 123, 3), (.istore 6, 2), (.goto 854, 3)] := rfl
set_option maxRecDepth 100000 in
theorem bL_law_395 : zBf BL_law 395 = [(.aload_n 1, 1), (.aload_n 0, 1), (.iload 4, 2), (.iconst 1, 1), (.iadd, 1), (.iaload, 1), (.aload_n 0, 1), (.iload 4, 2), (.iconst 2, 1), (.iadd, 1), (.iaload, 1), (.aload_n 3, 1), (.invokestatic 124, 3), (.istore 5, 2), (.aload_n 2, 1), (.aload_n 0, 1), (.iload 4, 2), (.iconst 1, 1), (.iadd, 1), (.iaload, 1), (.aload_n 0, 1), (.iload 4, 2), (.iconst 2, 1), (.iadd, 1), (.iaload, 1), (.invokevirtual 127, 3), (.istore 6, 2), (.goto 814, 3)] := rfl
set_option maxRecDepth 100000 in
theorem bL_law_435 : zBf BL_law 435 = [(.aload_n 1, 1), (.aload_n 0, 1), (.iload 4, 2), (.iconst 1, 1), (.iadd, 1), (.iaload, 1), (.aload_n 0, 1), (.iload 4, 2), (.iconst 2, 1), (.iadd, 1), (.iaload, 1), (.aload_n 3, 1), (.invokestatic 128, 3), (.istore 5, 2), (.aload_n 2, 1), (.aload_n 0, 1), (.iload 4, 2), (.iconst 1, 1), (.iadd, 1), (.iaload, 1), (.aload_n 0, 1), (.iload 4, 2), (.iconst 2, 1), (.iadd, 1), (.iaload, 1), (.invokevirtual 130, 3), (.istore 6, 2), (.goto 774, 3)] := rfl
set_option maxRecDepth 100000 in
theorem bL_law_475 : zBf BL_law 475 = [(.aload_n 1, 1), (.aload_n 0, 1), (.iload 4, 2), (.iconst 1, 1), (.iadd, 1), (.iaload, 1), (.aload_n 0, 1), (.iload 4, 2), (.iconst 2, 1), (.iadd, 1), (.iaload, 1), (.aload_n 3, 1), (.invokestatic 131, 3), (.istore 5, 2), (.aload_n 2, 1), (.aload_n 0, 1), (.iload 4, 2), (.iconst 1, 1), (.iadd, 1), (.iaload, 1), (.aload_n 0, 1), (.iload 4, 2), (.iconst 2, 1), (.iadd, 1), (.iaload, 1), (.invokevirtual 133, 3), (.istore 6, 2), (.goto 734, 3)] := rfl
set_option maxRecDepth 100000 in
theorem bL_law_515 : zBf BL_law 515 = [(.aload_n 1, 1), (.aload_n 0, 1), (.iload 4, 2), (.iconst 1, 1), (.iadd, 1), (.iaload, 1), (.aload_n 0, 1), (.iload 4, 2), (.iconst 2, 1), (.iadd, 1), (.iaload, 1), (.aload_n 3, 1), (.invokestatic 134, 3), (.istore 5, 2), (.aload_n 2, 1), (.aload_n 0, 1), (.iload 4, 2), (.iconst 1, 1), (.iadd, 1), (.iaload, 1), (.aload_n 0, 1), (.iload 4, 2), (.iconst 2, 1), (.iadd, 1), (.iaload, 1), (.invokevirtual 136, 3), (.istore 6, 2), (.goto 694, 3)] := rfl
set_option maxRecDepth 100000 in
theorem bL_law_555 : zBf BL_law 555 = [(.aload_n 1, 1), (.aload_n 0, 1), (.iload 4, 2), (.iconst 1, 1), (.iadd, 1), (.iaload, 1), (.aload_n 0, 1), (.iload 4, 2), (.iconst 2, 1), (.iadd, 1), (.iaload, 1), (.aload_n 0, 1), (.iload 4, 2), (.iconst 3, 1), (.iadd, 1), (.iaload, 1), (.aload_n 3, 1), (.invokestatic 137, 3), (.istore 5, 2), (.aload_n 2, 1), (.aload_n 0, 1), (.iload 4, 2), (.iconst 1, 1), (.iadd, 1), (.iaload, 1), (.aload_n 0, 1), (.iload 4, 2), (.iconst 2, 1), (.iadd, 1), (.iaload, 1), (.aload_n 0, 1), (.iload 4, 2), (.iconst 3, 1), (.iadd, 1), (.iaload, 1), (.invokevirtual 139, 3), (.istore 6, 2), (.goto 642, 3)] := rfl
set_option maxRecDepth 100000 in
theorem bL_law_607 : zBf BL_law 607 = [(.aload_n 1, 1), (.aload_n 3, 1), (.invokestatic 140, 3), (.istore 5, 2), (.aload_n 2, 1), (.invokevirtual 142, 3), (.istore 6, 2), (.goto 626, 3)] := rfl
set_option maxRecDepth 100000 in
theorem bL_law_623 : zBf BL_law 623 = [(.aload_n 1, 1), (.aload_n 0, 1), (.iload 4, 2), (.iconst 1, 1), (.iadd, 1), (.iaload, 1), (.aload_n 3, 1), (.invokestatic 143, 3), (.istore 5, 2), (.aload_n 2, 1), (.aload_n 0, 1), (.iload 4, 2), (.iconst 1, 1), (.iadd, 1), (.iaload, 1), (.invokevirtual 145, 3), (.istore 6, 2), (.goto 598, 3)] := rfl
set_option maxRecDepth 100000 in
theorem bL_law_651 : zBf BL_law 651 = [(.aload_n 1, 1), (.aload_n 0, 1), (.iload 4, 2), (.iconst 1, 1), (.iadd, 1), (.iaload, 1), (.ifCond .eq 7, 3), (.iconst 1, 1), (.goto 4, 3)] := rfl
set_option maxRecDepth 100000 in
theorem bL_law_665 : zBf BL_law 665 = [(.iconst 0, 1)] := rfl
set_option maxRecDepth 100000 in
theorem bL_law_666 : zBf BL_law 666 = [(.aload_n 3, 1), (.invokestatic 146, 3), (.istore 5, 2), (.aload_n 2, 1), (.aload_n 0, 1), (.iload 4, 2), (.iconst 1, 1), (.iadd, 1), (.iaload, 1), (.ifCond .eq 7, 3), (.iconst 1, 1), (.goto 4, 3)] := rfl
set_option maxRecDepth 100000 in
theorem bL_law_686 : zBf BL_law 686 = [(.iconst 0, 1)] := rfl
set_option maxRecDepth 100000 in
theorem bL_law_687 : zBf BL_law 687 = [(.invokevirtual 149, 3), (.istore 6, 2), (.goto 554, 3)] := rfl
set_option maxRecDepth 100000 in
theorem bL_law_695 : zBf BL_law 695 = [(.aload_n 1, 1), (.aload_n 3, 1), (.invokestatic 150, 3), (.istore 5, 2), (.aload_n 2, 1), (.invokevirtual 152, 3), (.istore 6, 2), (.goto 538, 3)] := rfl
set_option maxRecDepth 100000 in
theorem bL_law_711 : zBf BL_law 711 = [(.aload_n 1, 1), (.aload_n 3, 1), (.invokestatic 153, 3), (.istore 5, 2), (.aload_n 2, 1), (.invokevirtual 155, 3), (.istore 6, 2), (.goto 522, 3)] := rfl
set_option maxRecDepth 100000 in
theorem bL_law_727 : zBf BL_law 727 = [(.aload_n 1, 1), (.aload_n 0, 1), (.iload 4, 2), (.iconst 1, 1), (.iadd, 1), (.iaload, 1), (.aload_n 3, 1), (.invokestatic 156, 3), (.istore 5, 2), (.aload_n 2, 1), (.aload_n 0, 1), (.iload 4, 2), (.iconst 1, 1), (.iadd, 1), (.iaload, 1), (.invokevirtual 158, 3), (.istore 6, 2), (.goto 494, 3)] := rfl
set_option maxRecDepth 100000 in
theorem bL_law_755 : zBf BL_law 755 = [(.aload_n 1, 1), (.aload_n 0, 1), (.iload 4, 2), (.iconst 1, 1), (.iadd, 1), (.iaload, 1), (.aload_n 0, 1), (.iload 4, 2), (.iconst 2, 1), (.iadd, 1), (.iaload, 1), (.aload_n 3, 1), (.invokestatic 159, 3), (.istore 5, 2), (.aload_n 2, 1), (.aload_n 0, 1), (.iload 4, 2), (.iconst 1, 1), (.iadd, 1), (.iaload, 1), (.aload_n 0, 1), (.iload 4, 2), (.iconst 2, 1), (.iadd, 1), (.iaload, 1), (.invokevirtual 161, 3), (.istore 6, 2), (.goto 454, 3)] := rfl
set_option maxRecDepth 100000 in
theorem bL_law_795 : zBf BL_law 795 = [(.aload_n 1, 1), (.invokevirtual 162, 3), (.pop, 1), (.aload_n 2, 1), (.invokevirtual 165, 3), (.pop, 1), (.goto 441, 3)] := rfl
set_option maxRecDepth 100000 in
theorem bL_law_808 : zBf BL_law 808 = [(.aload_n 1, 1), (.aload_n 0, 1), (.iload 4, 2), (.iconst 1, 1), (.iadd, 1), (.iaload, 1), (.aload_n 0, 1), (.iload 4, 2), (.iconst 2, 1), (.iadd, 1), (.iaload, 1), (.aload_n 3, 1), (.invokestatic 166, 3), (.istore 5, 2), (.aload_n 2, 1), (.aload_n 0, 1), (.iload 4, 2), (.iconst 1, 1), (.iadd, 1), (.iaload, 1), (.aload_n 0, 1), (.iload 4, 2), (.iconst 2, 1), (.iadd, 1), (.iaload, 1), (.invokevirtual 168, 3), (.istore 6, 2), (.goto 401, 3)] := rfl
set_option maxRecDepth 100000 in
theorem bL_law_848 : zBf BL_law 848 = [(.aload_n 1, 1), (.aload_n 0, 1), (.iload 4, 2), (.iconst 1, 1), (.iadd, 1), (.iaload, 1), (.aload_n 0, 1), (.iload 4, 2), (.iconst 2, 1), (.iadd, 1), (.iaload, 1), (.ifCond .eq 7, 3), (.iconst 1, 1), (.goto 4, 3)] := rfl
set_option maxRecDepth 100000 in
theorem bL_law_868 : zBf BL_law 868 = [(.iconst 0, 1)] := rfl
set_option maxRecDepth 100000 in
theorem bL_law_869 : zBf BL_law 869 = [(.invokevirtual 169, 3), (.pop, 1), (.aload_n 2, 1), (.aload_n 0, 1), (.iload 4, 2), (.iconst 1, 1), (.iadd, 1), (.iaload, 1), (.aload_n 0, 1), (.iload 4, 2), (.iconst 2, 1), (.iadd, 1), (.iaload, 1), (.ifCond .eq 7, 3), (.iconst 1, 1), (.goto 4, 3)] := rfl
set_option maxRecDepth 100000 in
theorem bL_law_893 : zBf BL_law 893 = [(.iconst 0, 1)] := rfl
set_option maxRecDepth 100000 in
theorem bL_law_894 : zBf BL_law 894 = [(.invokevirtual 172, 3), (.pop, 1), (.goto 348, 3)] := rfl
set_option maxRecDepth 100000 in
theorem bL_law_901 : zBf BL_law 901 = [(.aload_n 1, 1), (.aload_n 0, 1), (.iload 4, 2), (.iconst 1, 1), (.iadd, 1), (.iaload, 1), (.aload_n 0, 1), (.iload 4, 2), (.iconst 2, 1), (.iadd, 1), (.iaload, 1), (.aload_n 3, 1), (.invokestatic 173, 3), (.istore 5, 2), (.aload_n 2, 1), (.aload_n 0, 1), (.iload 4, 2), (.iconst 1, 1), (.iadd, 1), (.iaload, 1), (.aload_n 0, 1), (.iload 4, 2), (.iconst 2, 1), (.iadd, 1), (.iaload, 1), (.invokevirtual 175, 3), (.istore 6, 2), (.goto 308, 3)] := rfl
set_option maxRecDepth 100000 in
theorem bL_law_941 : zBf BL_law 941 = [(.aload_n 1, 1), (.aload_n 0, 1), (.iload 4, 2), (.iconst 1, 1), (.iadd, 1), (.iaload, 1), (.aload_n 0, 1), (.iload 4, 2), (.iconst 2, 1), (.iadd, 1), (.iaload, 1), (.aload_n 3, 1), (.invokestatic 176, 3), (.istore 5, 2), (.aload_n 2, 1), (.aload_n 0, 1), (.iload 4, 2), (.iconst 1, 1), (.iadd, 1), (.iaload, 1), (.aload_n 0, 1), (.iload 4, 2), (.iconst 2, 1), (.iadd, 1), (.iaload, 1), (.invokevirtual 178, 3), (.istore 6, 2), (.goto 268, 3)] := rfl
set_option maxRecDepth 100000 in
theorem bL_law_981 : zBf BL_law 981 = [(.aload_n 1, 1), (.aload_n 0, 1), (.iload 4, 2), (.iconst 1, 1), (.iadd, 1), (.iaload, 1), (.ifCond .eq 7, 3), (.iconst 1, 1), (.goto 4, 3)] := rfl
set_option maxRecDepth 100000 in
theorem bL_law_995 : zBf BL_law 995 = [(.iconst 0, 1)] := rfl
set_option maxRecDepth 100000 in
theorem bL_law_996 : zBf BL_law 996 = [(.invokevirtual 179, 3), (.pop, 1), (.aload_n 2, 1), (.aload_n 0, 1), (.iload 4, 2), (.iconst 1, 1), (.iadd, 1), (.iaload, 1), (.ifCond .eq 7, 3), (.iconst 1, 1), (.goto 4, 3)] := rfl
set_option maxRecDepth 100000 in
theorem bL_law_1014 : zBf BL_law 1014 = [(.iconst 0, 1)] := rfl
set_option maxRecDepth 100000 in
theorem bL_law_1015 : zBf BL_law 1015 = [(.invokevirtual 183, 3), (.pop, 1), (.goto 227, 3)] := rfl
set_option maxRecDepth 100000 in
theorem bL_law_1022 : zBf BL_law 1022 = [(.aload_n 1, 1), (.invokevirtual 184, 3), (.pop, 1), (.aload_n 2, 1), (.invokevirtual 187, 3), (.pop, 1), (.goto 214, 3)] := rfl
set_option maxRecDepth 100000 in
theorem bL_law_1035 : zBf BL_law 1035 = [(.aload_n 1, 1), (.invokevirtual 188, 3), (.pop, 1), (.aload_n 2, 1), (.invokevirtual 192, 3), (.pop, 1), (.goto 201, 3)] := rfl
set_option maxRecDepth 100000 in
theorem bL_law_1048 : zBf BL_law 1048 = [(.aload_n 1, 1), (.aload_n 0, 1), (.iload 4, 2), (.iconst 1, 1), (.iadd, 1), (.iaload, 1), (.aload_n 3, 1), (.invokestatic 193, 3), (.istore 5, 2), (.aload_n 2, 1), (.aload_n 0, 1), (.iload 4, 2), (.iconst 1, 1), (.iadd, 1), (.iaload, 1), (.invokevirtual 195, 3), (.istore 6, 2), (.goto 173, 3)] := rfl
set_option maxRecDepth 100000 in
theorem bL_law_1076 : zBf BL_law 1076 = [(.aload_n 1, 1), (.aload_n 0, 1), (.iload 4, 2), (.iconst 1, 1), (.iadd, 1), (.iaload, 1), (.invokestatic 196, 3), (.istore 5, 2), (.aload_n 2, 1), (.aload_n 0, 1), (.iload 4, 2), (.iconst 1, 1), (.iadd, 1), (.iaload, 1), (.invokevirtual 199, 3), (.goto 148, 3)] := rfl
set_option maxRecDepth 100000 in
theorem bL_law_1101 : zBf BL_law 1101 = [(.aload_n 1, 1), (.aload_n 0, 1), (.iload 4, 2), (.iconst 1, 1), (.iadd, 1), (.iaload, 1), (.aload_n 0, 1), (.iload 4, 2), (.iconst 2, 1), (.iadd, 1), (.iaload, 1), (.aload_n 3, 1), (.invokestatic 200, 3), (.istore 5, 2), (.aload_n 2, 1), (.aload_n 0, 1), (.iload 4, 2), (.iconst 1, 1), (.iadd, 1), (.iaload, 1), (.aload_n 0, 1), (.iload 4, 2), (.iconst 2, 1), (.iadd, 1), (.iaload, 1), (.invokevirtual 202, 3), (.istore 6, 2), (.goto 108, 3)] := rfl
set_option maxRecDepth 100000 in
theorem bL_law_1141 : zBf BL_law 1141 = [(.aload_n 1, 1), (.aload_n 0, 1), (.iload 4, 2), (.iconst 1, 1), (.iadd, 1), (.iaload, 1), (.aload_n 0, 1), (.iload 4, 2), (.iconst 2, 1), (.iadd, 1), (.iaload, 1), (.ifCond .eq 7, 3), (.iconst 1, 1), (.goto 4, 3)] := rfl
set_option maxRecDepth 100000 in
theorem bL_law_1161 : zBf BL_law 1161 = [(.iconst 0, 1)] := rfl
set_option maxRecDepth 100000 in
theorem bL_law_1162 : zBf BL_law 1162 = [(.aload_n 3, 1), (.invokestatic 203, 3), (.istore 5, 2), (.aload_n 2, 1), (.aload_n 0, 1), (.iload 4, 2), (.iconst 1, 1), (.iadd, 1), (.iaload, 1), (.aload_n 0, 1), (.iload 4, 2), (.iconst 2, 1), (.iadd, 1), (.iaload, 1), (.ifCond .eq 7, 3), (.iconst 1, 1), (.goto 4, 3)] := rfl
set_option maxRecDepth 100000 in
theorem bL_law_1188 : zBf BL_law 1188 = [(.iconst 0, 1)] := rfl
set_option maxRecDepth 100000 in
theorem bL_law_1189 : zBf BL_law 1189 = [(.invokevirtual 206, 3), (.istore 6, 2), (.goto 52, 3)] := rfl
set_option maxRecDepth 100000 in
theorem bL_law_1197 : zBf BL_law 1197 = [(.aload_n 1, 1), (.invokevirtual 207, 3), (.aload_n 2, 1), (.invokevirtual 210, 3), (.goto 41, 3)] := rfl
set_option maxRecDepth 100000 in
theorem bL_law_1208 : zBf BL_law 1208 = [(.aload_n 1, 1), (.invokevirtual 211, 3), (.aload_n 2, 1), (.invokevirtual 214, 3), (.if_icmp .eq 30, 3), (.iconst 0, 1), (.ireturn, 1)] := rfl
set_option maxRecDepth 100000 in
theorem bL_law_1221 : zBf BL_law 1221 = [(.aload_n 1, 1), (.aload_n 0, 1), (.iload 4, 2), (.iconst 1, 1), (.iadd, 1), (.iaload, 1), (.invokevirtual 215, 3), (.pop, 1), (.aload_n 2, 1), (.aload_n 0, 1), (.iload 4, 2), (.iconst 1, 1), (.iadd, 1), (.iaload, 1), (.invokevirtual 218, 3), (.pop, 1), (.goto 3, 3)] := rfl
set_option maxRecDepth 100000 in
theorem bL_law_1246 : zBf BL_law 1246 = [(.iinc 4 6, 3), (.goto (-1226), 3)] := rfl
set_option maxRecDepth 100000 in
theorem bL_law_1252 : zBf BL_law 1252 = [(.iconst 1, 1), (.ireturn, 1)] := rfl
def VL_law : List (Nat × zCt) := [(96, CX10_feed), (100, CX11_feed), (101, CX10_end), (105, CX11_end), (111, CX11_orders), (112, CX10_fault), (115, CX11_fault), (119, CX11_ground), (123, CX11_kind), (127, CX11_rail), (130, CX11_gang), (133, CX11_task), (136, CX11_store), (139, CX11_set), (142, CX11_lift), (145, CX11_lay), (149, CX11_go), (152, CX11_fill), (155, CX11_dig), (158, CX11_rest), (161, CX11_run), (162, CX10_where), (165, CX11_where), (168, CX11_look), (169, CX10_line), (172, CX11_line), (175, CX11_route), (178, CX11_reach), (179, CX10_joints), (183, CX11_joints), (184, CX10_worn), (187, CX11_worn), (188, CX10_few), (192, CX11_few), (195, CX11_steal), (199, CX11_lose), (202, CX11_which), (206, CX11_ahead), (207, CX10_image), (210, CX11_image), (211, CX10_back), (214, CX11_back), (215, CX10_count), (218, CX11_count)]
def WL_law : List (Nat × zCt) := [(106, CL_orders), (116, CL_ground), (120, CL_kind), (124, CL_rail), (128, CL_gang), (131, CL_task), (134, CL_store), (137, CL_set), (140, CL_lift), (143, CL_lay), (146, CL_go), (150, CL_fill), (153, CL_dig), (156, CL_rest), (159, CL_run), (166, CL_look), (173, CL_route), (176, CL_reach), (193, CL_steal), (196, CL_lose), (200, CL_which), (203, CL_ahead)]
def zlJ (N : Nat) (a b c : Int) : Nat → Nat → zL → List zV → zM → Prop := fun n k ls st mem => ls 0 = (3, 60) ∧ ls 1 = (2, 0) ∧ ls 2 = (2, 80) ∧ ls 3 = (2, 94) ∧ (ls 4).1 = 0 ∧ st = [] ∧ zInv mem ∧ 0 ≤ (ls 4).2 ∧ (ls 4).2 + a ≤ N ∧ 6 * (k : Int) ≤ (ls 4).2 + b ∧ (4 * (4000 - (ls 4).2) + c).toNat ≤ n
def zLh (ls : zL) (x : Int) : Prop := ls 0 = (3, 60) ∧ ls 1 = (2, 0) ∧ ls 2 = (2, 80) ∧ ls 3 = (2, 94) ∧ ls 4 = (0, x)
theorem zLh_5 {ls : zL} {x : Int} {v : zV} (h : zLh ls x) : zLh (zst ls 5 v) x := by
  obtain ⟨h0, h1, h2, h3, h4⟩ := h
  refine ⟨?_, ?_, ?_, ?_, ?_⟩
  · rw [zst_e, if_neg (by omega), if_neg (by omega)]; exact h0
  · rw [zst_e, if_neg (by omega), if_neg (by omega)]; exact h1
  · rw [zst_e, if_neg (by omega), if_neg (by omega)]; exact h2
  · rw [zst_e, if_neg (by omega), if_neg (by omega)]; exact h3
  · rw [zst_e, if_neg (by omega), if_neg (fun z => by have z2 := z.2; rw [h4] at z2; exact absurd z2 (show ¬ (0 : Nat) = 1 by decide))]; exact h4
theorem zLh_6 {ls : zL} {x : Int} {v : zV} (h : zLh ls x) : zLh (zst ls 6 v) x := by
  obtain ⟨h0, h1, h2, h3, h4⟩ := h
  refine ⟨?_, ?_, ?_, ?_, ?_⟩
  · rw [zst_e, if_neg (by omega), if_neg (by omega)]; exact h0
  · rw [zst_e, if_neg (by omega), if_neg (by omega)]; exact h1
  · rw [zst_e, if_neg (by omega), if_neg (by omega)]; exact h2
  · rw [zst_e, if_neg (by omega), if_neg (by omega)]; exact h3
  · rw [zst_e, if_neg (by omega), if_neg (by omega)]; exact h4
theorem zLh_4 {ls : zL} {x y : Int} (h : zLh ls x) : zLh (zst ls 4 (0, y)) y := by
  obtain ⟨h0, h1, h2, h3, h4⟩ := h
  refine ⟨?_, ?_, ?_, ?_, ?_⟩
  · rw [zst_e, if_neg (by omega), if_neg (by omega)]; exact h0
  · rw [zst_e, if_neg (by omega), if_neg (by omega)]; exact h1
  · rw [zst_e, if_neg (by omega), if_neg (by omega)]; exact h2
  · rw [zst_e, if_neg (by omega), if_neg (by rw [h3]; decide)]; exact h3
  · rw [zst_e, if_pos rfl]
theorem zlJ_of {N n k : Nat} {a b c x : Int} {ls : zL} {mem : zM} (h : zLh ls x) (hI : zInv mem) (h0 : 0 ≤ x) (h1 : x + a ≤ N) (h2 : 6 * (k : Int) ≤ x + b) (h3 : (4 * (4000 - x) + c).toNat < n) : ∃ n', n' < n ∧ zlJ N a b c n' k ls [] mem := by
  obtain ⟨e0, e1, e2, e3, e4⟩ := h
  exact ⟨_, h3, e0, e1, e2, e3, by rw [e4], rfl, hI, by rw [e4]; exact h0, by rw [e4]; exact h1, by rw [e4]; exact h2, by rw [e4]; exact Nat.le_refl _⟩
theorem zlJ_end {N n k : Nat} {x : Int} {ls : zL} {mem : zM} (hN : N ≤ 3072) (h : zLh ls x) (hI : zInv mem) (h0 : 0 ≤ x) (h1 : x + 6 ≤ N) (h2 : 6 * (k : Int) ≤ x + 6) (h3 : (4 * (4000 - x) + 1).toNat ≤ n) : ∃ n', n' < n ∧ zlJ N 6 6 0 n' k ls [] mem := zlJ_of h hI h0 h1 h2 (by omega)
theorem zlv_g {N : Nat} {xs : Nat → Int} {Λ : List zC} {pl : zPo} {cv cw : Nat → Option zCt} {RP : Int → zM → Prop} {nL q : Nat} {tags : List Nat} {rt : Nat} {pre : List Int → zM → Prop} {post : List Int → zM → Int → zM → Prop} (h : cv q = some (tags, rt, pre, post)) (n pc k : Nat) (ls : zL) (st : List zV) (mem : zM) (J : Nat → zJ) (K : Nat → zL → List zV → zM → Prop) : zlI N xs Λ pl cv cw RP nL (.invokevirtual q) n pc k ls st mem J K = (n = 3 ∧ k < 3000 ∧ zIV Λ tags rt pre st mem (fun vs => ∀ (r : Int) (mem' : zM), zrt rt r → zokM Λ mem' → post vs mem r mem' → K k ls (zres rt r (st.drop tags.length)) mem')) := by
  rw [zl_invokevirtual, h, zinv_g]
theorem zlv_p {N : Nat} {xs : Nat → Int} {Λ : List zC} {pl : zPo} {cv cw : Nat → Option zCt} {RP : Int → zM → Prop} {nL q : Nat} {tags : List Nat} {rt : Nat} {pre : List Int → zM → Prop} {P : List Int → zM → Int → Prop} (h : cv q = some (tags, rt, pre, zpu P)) (n pc k : Nat) (ls : zL) (st : List zV) (mem : zM) (J : Nat → zJ) (K : Nat → zL → List zV → zM → Prop) : zlI N xs Λ pl cv cw RP nL (.invokevirtual q) n pc k ls st mem J K = (n = 3 ∧ k < 3000 ∧ zIV Λ tags rt pre st mem (fun vs => ∀ (r : Int), zrt rt r → zokM Λ mem → P vs mem r → K k ls (zres rt r (st.drop tags.length)) mem)) := by
  rw [zl_invokevirtual, h, zinv_p]
theorem zlw_g {N : Nat} {xs : Nat → Int} {Λ : List zC} {pl : zPo} {cv cw : Nat → Option zCt} {RP : Int → zM → Prop} {nL q : Nat} {tags : List Nat} {rt : Nat} {pre : List Int → zM → Prop} {post : List Int → zM → Int → zM → Prop} (h : cw q = some (tags, rt, pre, post)) (n pc k : Nat) (ls : zL) (st : List zV) (mem : zM) (J : Nat → zJ) (K : Nat → zL → List zV → zM → Prop) : zlI N xs Λ pl cv cw RP nL (.invokestatic q) n pc k ls st mem J K = (n = 3 ∧ k < 3000 ∧ zIV Λ tags rt pre st mem (fun vs => ∀ (r : Int) (mem' : zM), zrt rt r → zokM Λ mem' → post vs mem r mem' → K (k + 1) ls (zres rt r (st.drop tags.length)) mem')) := by
  rw [zl_invokestatic, h, zinv_g]
def HL_law (N : Nat) : List (Nat × (Nat → Nat → zL → List zV → zM → Prop)) := [(23, zlJ N 0 0 2), (188, zlJ N 6 0 1), (261, zlJ N 6 0 1), (286, zlJ N 6 0 1), (302, zlJ N 6 0 1), (315, zlJ N 6 0 1), (367, zlJ N 6 0 1), (395, zlJ N 6 0 1), (435, zlJ N 6 0 1), (475, zlJ N 6 0 1), (515, zlJ N 6 0 1), (555, zlJ N 6 0 1), (607, zlJ N 6 0 1), (623, zlJ N 6 0 1), (651, zlJ N 6 0 1), (695, zlJ N 6 0 1), (711, zlJ N 6 0 1), (727, zlJ N 6 0 1), (755, zlJ N 6 0 1), (795, zlJ N 6 0 1), (808, zlJ N 6 0 1), (848, zlJ N 6 0 1), (901, zlJ N 6 0 1), (941, zlJ N 6 0 1), (981, zlJ N 6 0 1), (1022, zlJ N 6 0 1), (1035, zlJ N 6 0 1), (1048, zlJ N 6 0 1), (1076, zlJ N 6 0 1), (1101, zlJ N 6 0 1), (1141, zlJ N 6 0 1), (1197, zlJ N 6 0 1), (1208, zlJ N 6 0 1), (1221, zlJ N 6 0 1), (1246, zlJ N 6 6 0)]
set_option maxRecDepth 100000 in
theorem gL_law_23 (N : Nat) (xs : Nat → Int) (n f k : Nat) (ls : zL) (st : List zV) (mem : zM) : zlgo N xs zLay (fun _ => none) (zCf VL_law) (zCf WL_law) (fun v _ => v = 1) 7 (zBf BL_law) (zlBelow (zlHf (HL_law N)) n) f k 23 ls st mem = ∃ n', n' < n ∧ zlJ N 0 0 2 n' k ls st mem := rfl
set_option maxRecDepth 100000 in
theorem gL_law_188 (N : Nat) (xs : Nat → Int) (n f k : Nat) (ls : zL) (st : List zV) (mem : zM) : zlgo N xs zLay (fun _ => none) (zCf VL_law) (zCf WL_law) (fun v _ => v = 1) 7 (zBf BL_law) (zlBelow (zlHf (HL_law N)) n) f k 188 ls st mem = ∃ n', n' < n ∧ zlJ N 6 0 1 n' k ls st mem := rfl
set_option maxRecDepth 100000 in
theorem gL_law_261 (N : Nat) (xs : Nat → Int) (n f k : Nat) (ls : zL) (st : List zV) (mem : zM) : zlgo N xs zLay (fun _ => none) (zCf VL_law) (zCf WL_law) (fun v _ => v = 1) 7 (zBf BL_law) (zlBelow (zlHf (HL_law N)) n) f k 261 ls st mem = ∃ n', n' < n ∧ zlJ N 6 0 1 n' k ls st mem := rfl
set_option maxRecDepth 100000 in
theorem gL_law_286 (N : Nat) (xs : Nat → Int) (n f k : Nat) (ls : zL) (st : List zV) (mem : zM) : zlgo N xs zLay (fun _ => none) (zCf VL_law) (zCf WL_law) (fun v _ => v = 1) 7 (zBf BL_law) (zlBelow (zlHf (HL_law N)) n) f k 286 ls st mem = ∃ n', n' < n ∧ zlJ N 6 0 1 n' k ls st mem := rfl
set_option maxRecDepth 100000 in
theorem gL_law_302 (N : Nat) (xs : Nat → Int) (n f k : Nat) (ls : zL) (st : List zV) (mem : zM) : zlgo N xs zLay (fun _ => none) (zCf VL_law) (zCf WL_law) (fun v _ => v = 1) 7 (zBf BL_law) (zlBelow (zlHf (HL_law N)) n) f k 302 ls st mem = ∃ n', n' < n ∧ zlJ N 6 0 1 n' k ls st mem := rfl
set_option maxRecDepth 100000 in
theorem gL_law_315 (N : Nat) (xs : Nat → Int) (n f k : Nat) (ls : zL) (st : List zV) (mem : zM) : zlgo N xs zLay (fun _ => none) (zCf VL_law) (zCf WL_law) (fun v _ => v = 1) 7 (zBf BL_law) (zlBelow (zlHf (HL_law N)) n) f k 315 ls st mem = ∃ n', n' < n ∧ zlJ N 6 0 1 n' k ls st mem := rfl
set_option maxRecDepth 100000 in
theorem gL_law_367 (N : Nat) (xs : Nat → Int) (n f k : Nat) (ls : zL) (st : List zV) (mem : zM) : zlgo N xs zLay (fun _ => none) (zCf VL_law) (zCf WL_law) (fun v _ => v = 1) 7 (zBf BL_law) (zlBelow (zlHf (HL_law N)) n) f k 367 ls st mem = ∃ n', n' < n ∧ zlJ N 6 0 1 n' k ls st mem := rfl
set_option maxRecDepth 100000 in
theorem gL_law_395 (N : Nat) (xs : Nat → Int) (n f k : Nat) (ls : zL) (st : List zV) (mem : zM) : zlgo N xs zLay (fun _ => none) (zCf VL_law) (zCf WL_law) (fun v _ => v = 1) 7 (zBf BL_law) (zlBelow (zlHf (HL_law N)) n) f k 395 ls st mem = ∃ n', n' < n ∧ zlJ N 6 0 1 n' k ls st mem := rfl
set_option maxRecDepth 100000 in
theorem gL_law_435 (N : Nat) (xs : Nat → Int) (n f k : Nat) (ls : zL) (st : List zV) (mem : zM) : zlgo N xs zLay (fun _ => none) (zCf VL_law) (zCf WL_law) (fun v _ => v = 1) 7 (zBf BL_law) (zlBelow (zlHf (HL_law N)) n) f k 435 ls st mem = ∃ n', n' < n ∧ zlJ N 6 0 1 n' k ls st mem := rfl
set_option maxRecDepth 100000 in
theorem gL_law_475 (N : Nat) (xs : Nat → Int) (n f k : Nat) (ls : zL) (st : List zV) (mem : zM) : zlgo N xs zLay (fun _ => none) (zCf VL_law) (zCf WL_law) (fun v _ => v = 1) 7 (zBf BL_law) (zlBelow (zlHf (HL_law N)) n) f k 475 ls st mem = ∃ n', n' < n ∧ zlJ N 6 0 1 n' k ls st mem := rfl
set_option maxRecDepth 100000 in
theorem gL_law_515 (N : Nat) (xs : Nat → Int) (n f k : Nat) (ls : zL) (st : List zV) (mem : zM) : zlgo N xs zLay (fun _ => none) (zCf VL_law) (zCf WL_law) (fun v _ => v = 1) 7 (zBf BL_law) (zlBelow (zlHf (HL_law N)) n) f k 515 ls st mem = ∃ n', n' < n ∧ zlJ N 6 0 1 n' k ls st mem := rfl
set_option maxRecDepth 100000 in
theorem gL_law_555 (N : Nat) (xs : Nat → Int) (n f k : Nat) (ls : zL) (st : List zV) (mem : zM) : zlgo N xs zLay (fun _ => none) (zCf VL_law) (zCf WL_law) (fun v _ => v = 1) 7 (zBf BL_law) (zlBelow (zlHf (HL_law N)) n) f k 555 ls st mem = ∃ n', n' < n ∧ zlJ N 6 0 1 n' k ls st mem := rfl
set_option maxRecDepth 100000 in
theorem gL_law_607 (N : Nat) (xs : Nat → Int) (n f k : Nat) (ls : zL) (st : List zV) (mem : zM) : zlgo N xs zLay (fun _ => none) (zCf VL_law) (zCf WL_law) (fun v _ => v = 1) 7 (zBf BL_law) (zlBelow (zlHf (HL_law N)) n) f k 607 ls st mem = ∃ n', n' < n ∧ zlJ N 6 0 1 n' k ls st mem := rfl
set_option maxRecDepth 100000 in
theorem gL_law_623 (N : Nat) (xs : Nat → Int) (n f k : Nat) (ls : zL) (st : List zV) (mem : zM) : zlgo N xs zLay (fun _ => none) (zCf VL_law) (zCf WL_law) (fun v _ => v = 1) 7 (zBf BL_law) (zlBelow (zlHf (HL_law N)) n) f k 623 ls st mem = ∃ n', n' < n ∧ zlJ N 6 0 1 n' k ls st mem := rfl
set_option maxRecDepth 100000 in
theorem gL_law_651 (N : Nat) (xs : Nat → Int) (n f k : Nat) (ls : zL) (st : List zV) (mem : zM) : zlgo N xs zLay (fun _ => none) (zCf VL_law) (zCf WL_law) (fun v _ => v = 1) 7 (zBf BL_law) (zlBelow (zlHf (HL_law N)) n) f k 651 ls st mem = ∃ n', n' < n ∧ zlJ N 6 0 1 n' k ls st mem := rfl
set_option maxRecDepth 100000 in
theorem gL_law_665 (N : Nat) (xs : Nat → Int) (n f k : Nat) (ls : zL) (st : List zV) (mem : zM) : zlgo N xs zLay (fun _ => none) (zCf VL_law) (zCf WL_law) (fun v _ => v = 1) 7 (zBf BL_law) (zlBelow (zlHf (HL_law N)) n) f k 665 ls st mem = zlwp N xs zLay (fun _ => none) (zCf VL_law) (zCf WL_law) (fun v _ => v = 1) 7 (zBf BL_law) (zlBelow (zlHf (HL_law N)) n) f k 665 ls st mem := rfl
set_option maxRecDepth 100000 in
theorem gL_law_666 (N : Nat) (xs : Nat → Int) (n f k : Nat) (ls : zL) (st : List zV) (mem : zM) : zlgo N xs zLay (fun _ => none) (zCf VL_law) (zCf WL_law) (fun v _ => v = 1) 7 (zBf BL_law) (zlBelow (zlHf (HL_law N)) n) f k 666 ls st mem = zlwp N xs zLay (fun _ => none) (zCf VL_law) (zCf WL_law) (fun v _ => v = 1) 7 (zBf BL_law) (zlBelow (zlHf (HL_law N)) n) f k 666 ls st mem := rfl
set_option maxRecDepth 100000 in
theorem gL_law_686 (N : Nat) (xs : Nat → Int) (n f k : Nat) (ls : zL) (st : List zV) (mem : zM) : zlgo N xs zLay (fun _ => none) (zCf VL_law) (zCf WL_law) (fun v _ => v = 1) 7 (zBf BL_law) (zlBelow (zlHf (HL_law N)) n) f k 686 ls st mem = zlwp N xs zLay (fun _ => none) (zCf VL_law) (zCf WL_law) (fun v _ => v = 1) 7 (zBf BL_law) (zlBelow (zlHf (HL_law N)) n) f k 686 ls st mem := rfl
set_option maxRecDepth 100000 in
theorem gL_law_687 (N : Nat) (xs : Nat → Int) (n f k : Nat) (ls : zL) (st : List zV) (mem : zM) : zlgo N xs zLay (fun _ => none) (zCf VL_law) (zCf WL_law) (fun v _ => v = 1) 7 (zBf BL_law) (zlBelow (zlHf (HL_law N)) n) f k 687 ls st mem = zlwp N xs zLay (fun _ => none) (zCf VL_law) (zCf WL_law) (fun v _ => v = 1) 7 (zBf BL_law) (zlBelow (zlHf (HL_law N)) n) f k 687 ls st mem := rfl
set_option maxRecDepth 100000 in
theorem gL_law_695 (N : Nat) (xs : Nat → Int) (n f k : Nat) (ls : zL) (st : List zV) (mem : zM) : zlgo N xs zLay (fun _ => none) (zCf VL_law) (zCf WL_law) (fun v _ => v = 1) 7 (zBf BL_law) (zlBelow (zlHf (HL_law N)) n) f k 695 ls st mem = ∃ n', n' < n ∧ zlJ N 6 0 1 n' k ls st mem := rfl
set_option maxRecDepth 100000 in
theorem gL_law_711 (N : Nat) (xs : Nat → Int) (n f k : Nat) (ls : zL) (st : List zV) (mem : zM) : zlgo N xs zLay (fun _ => none) (zCf VL_law) (zCf WL_law) (fun v _ => v = 1) 7 (zBf BL_law) (zlBelow (zlHf (HL_law N)) n) f k 711 ls st mem = ∃ n', n' < n ∧ zlJ N 6 0 1 n' k ls st mem := rfl
set_option maxRecDepth 100000 in
theorem gL_law_727 (N : Nat) (xs : Nat → Int) (n f k : Nat) (ls : zL) (st : List zV) (mem : zM) : zlgo N xs zLay (fun _ => none) (zCf VL_law) (zCf WL_law) (fun v _ => v = 1) 7 (zBf BL_law) (zlBelow (zlHf (HL_law N)) n) f k 727 ls st mem = ∃ n', n' < n ∧ zlJ N 6 0 1 n' k ls st mem := rfl
set_option maxRecDepth 100000 in
theorem gL_law_755 (N : Nat) (xs : Nat → Int) (n f k : Nat) (ls : zL) (st : List zV) (mem : zM) : zlgo N xs zLay (fun _ => none) (zCf VL_law) (zCf WL_law) (fun v _ => v = 1) 7 (zBf BL_law) (zlBelow (zlHf (HL_law N)) n) f k 755 ls st mem = ∃ n', n' < n ∧ zlJ N 6 0 1 n' k ls st mem := rfl
set_option maxRecDepth 100000 in
theorem gL_law_795 (N : Nat) (xs : Nat → Int) (n f k : Nat) (ls : zL) (st : List zV) (mem : zM) : zlgo N xs zLay (fun _ => none) (zCf VL_law) (zCf WL_law) (fun v _ => v = 1) 7 (zBf BL_law) (zlBelow (zlHf (HL_law N)) n) f k 795 ls st mem = ∃ n', n' < n ∧ zlJ N 6 0 1 n' k ls st mem := rfl
set_option maxRecDepth 100000 in
theorem gL_law_808 (N : Nat) (xs : Nat → Int) (n f k : Nat) (ls : zL) (st : List zV) (mem : zM) : zlgo N xs zLay (fun _ => none) (zCf VL_law) (zCf WL_law) (fun v _ => v = 1) 7 (zBf BL_law) (zlBelow (zlHf (HL_law N)) n) f k 808 ls st mem = ∃ n', n' < n ∧ zlJ N 6 0 1 n' k ls st mem := rfl
set_option maxRecDepth 100000 in
theorem gL_law_848 (N : Nat) (xs : Nat → Int) (n f k : Nat) (ls : zL) (st : List zV) (mem : zM) : zlgo N xs zLay (fun _ => none) (zCf VL_law) (zCf WL_law) (fun v _ => v = 1) 7 (zBf BL_law) (zlBelow (zlHf (HL_law N)) n) f k 848 ls st mem = ∃ n', n' < n ∧ zlJ N 6 0 1 n' k ls st mem := rfl
set_option maxRecDepth 100000 in
theorem gL_law_868 (N : Nat) (xs : Nat → Int) (n f k : Nat) (ls : zL) (st : List zV) (mem : zM) : zlgo N xs zLay (fun _ => none) (zCf VL_law) (zCf WL_law) (fun v _ => v = 1) 7 (zBf BL_law) (zlBelow (zlHf (HL_law N)) n) f k 868 ls st mem = zlwp N xs zLay (fun _ => none) (zCf VL_law) (zCf WL_law) (fun v _ => v = 1) 7 (zBf BL_law) (zlBelow (zlHf (HL_law N)) n) f k 868 ls st mem := rfl
set_option maxRecDepth 100000 in
theorem gL_law_869 (N : Nat) (xs : Nat → Int) (n f k : Nat) (ls : zL) (st : List zV) (mem : zM) : zlgo N xs zLay (fun _ => none) (zCf VL_law) (zCf WL_law) (fun v _ => v = 1) 7 (zBf BL_law) (zlBelow (zlHf (HL_law N)) n) f k 869 ls st mem = zlwp N xs zLay (fun _ => none) (zCf VL_law) (zCf WL_law) (fun v _ => v = 1) 7 (zBf BL_law) (zlBelow (zlHf (HL_law N)) n) f k 869 ls st mem := rfl
set_option maxRecDepth 100000 in
theorem gL_law_893 (N : Nat) (xs : Nat → Int) (n f k : Nat) (ls : zL) (st : List zV) (mem : zM) : zlgo N xs zLay (fun _ => none) (zCf VL_law) (zCf WL_law) (fun v _ => v = 1) 7 (zBf BL_law) (zlBelow (zlHf (HL_law N)) n) f k 893 ls st mem = zlwp N xs zLay (fun _ => none) (zCf VL_law) (zCf WL_law) (fun v _ => v = 1) 7 (zBf BL_law) (zlBelow (zlHf (HL_law N)) n) f k 893 ls st mem := rfl
set_option maxRecDepth 100000 in
theorem gL_law_894 (N : Nat) (xs : Nat → Int) (n f k : Nat) (ls : zL) (st : List zV) (mem : zM) : zlgo N xs zLay (fun _ => none) (zCf VL_law) (zCf WL_law) (fun v _ => v = 1) 7 (zBf BL_law) (zlBelow (zlHf (HL_law N)) n) f k 894 ls st mem = zlwp N xs zLay (fun _ => none) (zCf VL_law) (zCf WL_law) (fun v _ => v = 1) 7 (zBf BL_law) (zlBelow (zlHf (HL_law N)) n) f k 894 ls st mem := rfl
set_option maxRecDepth 100000 in
theorem gL_law_901 (N : Nat) (xs : Nat → Int) (n f k : Nat) (ls : zL) (st : List zV) (mem : zM) : zlgo N xs zLay (fun _ => none) (zCf VL_law) (zCf WL_law) (fun v _ => v = 1) 7 (zBf BL_law) (zlBelow (zlHf (HL_law N)) n) f k 901 ls st mem = ∃ n', n' < n ∧ zlJ N 6 0 1 n' k ls st mem := rfl
set_option maxRecDepth 100000 in
theorem gL_law_941 (N : Nat) (xs : Nat → Int) (n f k : Nat) (ls : zL) (st : List zV) (mem : zM) : zlgo N xs zLay (fun _ => none) (zCf VL_law) (zCf WL_law) (fun v _ => v = 1) 7 (zBf BL_law) (zlBelow (zlHf (HL_law N)) n) f k 941 ls st mem = ∃ n', n' < n ∧ zlJ N 6 0 1 n' k ls st mem := rfl
set_option maxRecDepth 100000 in
theorem gL_law_981 (N : Nat) (xs : Nat → Int) (n f k : Nat) (ls : zL) (st : List zV) (mem : zM) : zlgo N xs zLay (fun _ => none) (zCf VL_law) (zCf WL_law) (fun v _ => v = 1) 7 (zBf BL_law) (zlBelow (zlHf (HL_law N)) n) f k 981 ls st mem = ∃ n', n' < n ∧ zlJ N 6 0 1 n' k ls st mem := rfl
set_option maxRecDepth 100000 in
theorem gL_law_995 (N : Nat) (xs : Nat → Int) (n f k : Nat) (ls : zL) (st : List zV) (mem : zM) : zlgo N xs zLay (fun _ => none) (zCf VL_law) (zCf WL_law) (fun v _ => v = 1) 7 (zBf BL_law) (zlBelow (zlHf (HL_law N)) n) f k 995 ls st mem = zlwp N xs zLay (fun _ => none) (zCf VL_law) (zCf WL_law) (fun v _ => v = 1) 7 (zBf BL_law) (zlBelow (zlHf (HL_law N)) n) f k 995 ls st mem := rfl
set_option maxRecDepth 100000 in
theorem gL_law_996 (N : Nat) (xs : Nat → Int) (n f k : Nat) (ls : zL) (st : List zV) (mem : zM) : zlgo N xs zLay (fun _ => none) (zCf VL_law) (zCf WL_law) (fun v _ => v = 1) 7 (zBf BL_law) (zlBelow (zlHf (HL_law N)) n) f k 996 ls st mem = zlwp N xs zLay (fun _ => none) (zCf VL_law) (zCf WL_law) (fun v _ => v = 1) 7 (zBf BL_law) (zlBelow (zlHf (HL_law N)) n) f k 996 ls st mem := rfl
set_option maxRecDepth 100000 in
theorem gL_law_1014 (N : Nat) (xs : Nat → Int) (n f k : Nat) (ls : zL) (st : List zV) (mem : zM) : zlgo N xs zLay (fun _ => none) (zCf VL_law) (zCf WL_law) (fun v _ => v = 1) 7 (zBf BL_law) (zlBelow (zlHf (HL_law N)) n) f k 1014 ls st mem = zlwp N xs zLay (fun _ => none) (zCf VL_law) (zCf WL_law) (fun v _ => v = 1) 7 (zBf BL_law) (zlBelow (zlHf (HL_law N)) n) f k 1014 ls st mem := rfl
set_option maxRecDepth 100000 in
theorem gL_law_1015 (N : Nat) (xs : Nat → Int) (n f k : Nat) (ls : zL) (st : List zV) (mem : zM) : zlgo N xs zLay (fun _ => none) (zCf VL_law) (zCf WL_law) (fun v _ => v = 1) 7 (zBf BL_law) (zlBelow (zlHf (HL_law N)) n) f k 1015 ls st mem = zlwp N xs zLay (fun _ => none) (zCf VL_law) (zCf WL_law) (fun v _ => v = 1) 7 (zBf BL_law) (zlBelow (zlHf (HL_law N)) n) f k 1015 ls st mem := rfl
set_option maxRecDepth 100000 in
theorem gL_law_1022 (N : Nat) (xs : Nat → Int) (n f k : Nat) (ls : zL) (st : List zV) (mem : zM) : zlgo N xs zLay (fun _ => none) (zCf VL_law) (zCf WL_law) (fun v _ => v = 1) 7 (zBf BL_law) (zlBelow (zlHf (HL_law N)) n) f k 1022 ls st mem = ∃ n', n' < n ∧ zlJ N 6 0 1 n' k ls st mem := rfl
set_option maxRecDepth 100000 in
theorem gL_law_1035 (N : Nat) (xs : Nat → Int) (n f k : Nat) (ls : zL) (st : List zV) (mem : zM) : zlgo N xs zLay (fun _ => none) (zCf VL_law) (zCf WL_law) (fun v _ => v = 1) 7 (zBf BL_law) (zlBelow (zlHf (HL_law N)) n) f k 1035 ls st mem = ∃ n', n' < n ∧ zlJ N 6 0 1 n' k ls st mem := rfl
set_option maxRecDepth 100000 in
theorem gL_law_1048 (N : Nat) (xs : Nat → Int) (n f k : Nat) (ls : zL) (st : List zV) (mem : zM) : zlgo N xs zLay (fun _ => none) (zCf VL_law) (zCf WL_law) (fun v _ => v = 1) 7 (zBf BL_law) (zlBelow (zlHf (HL_law N)) n) f k 1048 ls st mem = ∃ n', n' < n ∧ zlJ N 6 0 1 n' k ls st mem := rfl
set_option maxRecDepth 100000 in
theorem gL_law_1076 (N : Nat) (xs : Nat → Int) (n f k : Nat) (ls : zL) (st : List zV) (mem : zM) : zlgo N xs zLay (fun _ => none) (zCf VL_law) (zCf WL_law) (fun v _ => v = 1) 7 (zBf BL_law) (zlBelow (zlHf (HL_law N)) n) f k 1076 ls st mem = ∃ n', n' < n ∧ zlJ N 6 0 1 n' k ls st mem := rfl
set_option maxRecDepth 100000 in
theorem gL_law_1101 (N : Nat) (xs : Nat → Int) (n f k : Nat) (ls : zL) (st : List zV) (mem : zM) : zlgo N xs zLay (fun _ => none) (zCf VL_law) (zCf WL_law) (fun v _ => v = 1) 7 (zBf BL_law) (zlBelow (zlHf (HL_law N)) n) f k 1101 ls st mem = ∃ n', n' < n ∧ zlJ N 6 0 1 n' k ls st mem := rfl
set_option maxRecDepth 100000 in
theorem gL_law_1141 (N : Nat) (xs : Nat → Int) (n f k : Nat) (ls : zL) (st : List zV) (mem : zM) : zlgo N xs zLay (fun _ => none) (zCf VL_law) (zCf WL_law) (fun v _ => v = 1) 7 (zBf BL_law) (zlBelow (zlHf (HL_law N)) n) f k 1141 ls st mem = ∃ n', n' < n ∧ zlJ N 6 0 1 n' k ls st mem := rfl
set_option maxRecDepth 100000 in
theorem gL_law_1161 (N : Nat) (xs : Nat → Int) (n f k : Nat) (ls : zL) (st : List zV) (mem : zM) : zlgo N xs zLay (fun _ => none) (zCf VL_law) (zCf WL_law) (fun v _ => v = 1) 7 (zBf BL_law) (zlBelow (zlHf (HL_law N)) n) f k 1161 ls st mem = zlwp N xs zLay (fun _ => none) (zCf VL_law) (zCf WL_law) (fun v _ => v = 1) 7 (zBf BL_law) (zlBelow (zlHf (HL_law N)) n) f k 1161 ls st mem := rfl
set_option maxRecDepth 100000 in
theorem gL_law_1162 (N : Nat) (xs : Nat → Int) (n f k : Nat) (ls : zL) (st : List zV) (mem : zM) : zlgo N xs zLay (fun _ => none) (zCf VL_law) (zCf WL_law) (fun v _ => v = 1) 7 (zBf BL_law) (zlBelow (zlHf (HL_law N)) n) f k 1162 ls st mem = zlwp N xs zLay (fun _ => none) (zCf VL_law) (zCf WL_law) (fun v _ => v = 1) 7 (zBf BL_law) (zlBelow (zlHf (HL_law N)) n) f k 1162 ls st mem := rfl
set_option maxRecDepth 100000 in
theorem gL_law_1188 (N : Nat) (xs : Nat → Int) (n f k : Nat) (ls : zL) (st : List zV) (mem : zM) : zlgo N xs zLay (fun _ => none) (zCf VL_law) (zCf WL_law) (fun v _ => v = 1) 7 (zBf BL_law) (zlBelow (zlHf (HL_law N)) n) f k 1188 ls st mem = zlwp N xs zLay (fun _ => none) (zCf VL_law) (zCf WL_law) (fun v _ => v = 1) 7 (zBf BL_law) (zlBelow (zlHf (HL_law N)) n) f k 1188 ls st mem := rfl
set_option maxRecDepth 100000 in
theorem gL_law_1189 (N : Nat) (xs : Nat → Int) (n f k : Nat) (ls : zL) (st : List zV) (mem : zM) : zlgo N xs zLay (fun _ => none) (zCf VL_law) (zCf WL_law) (fun v _ => v = 1) 7 (zBf BL_law) (zlBelow (zlHf (HL_law N)) n) f k 1189 ls st mem = zlwp N xs zLay (fun _ => none) (zCf VL_law) (zCf WL_law) (fun v _ => v = 1) 7 (zBf BL_law) (zlBelow (zlHf (HL_law N)) n) f k 1189 ls st mem := rfl
set_option maxRecDepth 100000 in
theorem gL_law_1197 (N : Nat) (xs : Nat → Int) (n f k : Nat) (ls : zL) (st : List zV) (mem : zM) : zlgo N xs zLay (fun _ => none) (zCf VL_law) (zCf WL_law) (fun v _ => v = 1) 7 (zBf BL_law) (zlBelow (zlHf (HL_law N)) n) f k 1197 ls st mem = ∃ n', n' < n ∧ zlJ N 6 0 1 n' k ls st mem := rfl
set_option maxRecDepth 100000 in
theorem gL_law_1208 (N : Nat) (xs : Nat → Int) (n f k : Nat) (ls : zL) (st : List zV) (mem : zM) : zlgo N xs zLay (fun _ => none) (zCf VL_law) (zCf WL_law) (fun v _ => v = 1) 7 (zBf BL_law) (zlBelow (zlHf (HL_law N)) n) f k 1208 ls st mem = ∃ n', n' < n ∧ zlJ N 6 0 1 n' k ls st mem := rfl
set_option maxRecDepth 100000 in
theorem gL_law_1221 (N : Nat) (xs : Nat → Int) (n f k : Nat) (ls : zL) (st : List zV) (mem : zM) : zlgo N xs zLay (fun _ => none) (zCf VL_law) (zCf WL_law) (fun v _ => v = 1) 7 (zBf BL_law) (zlBelow (zlHf (HL_law N)) n) f k 1221 ls st mem = ∃ n', n' < n ∧ zlJ N 6 0 1 n' k ls st mem := rfl
set_option maxRecDepth 100000 in
theorem gL_law_1246 (N : Nat) (xs : Nat → Int) (n f k : Nat) (ls : zL) (st : List zV) (mem : zM) : zlgo N xs zLay (fun _ => none) (zCf VL_law) (zCf WL_law) (fun v _ => v = 1) 7 (zBf BL_law) (zlBelow (zlHf (HL_law N)) n) f k 1246 ls st mem = ∃ n', n' < n ∧ zlJ N 6 6 0 n' k ls st mem := rfl
set_option maxRecDepth 100000 in
theorem gL_law_1252 (N : Nat) (xs : Nat → Int) (n f k : Nat) (ls : zL) (st : List zV) (mem : zM) : zlgo N xs zLay (fun _ => none) (zCf VL_law) (zCf WL_law) (fun v _ => v = 1) 7 (zBf BL_law) (zlBelow (zlHf (HL_law N)) n) f k 1252 ls st mem = zlwp N xs zLay (fun _ => none) (zCf VL_law) (zCf WL_law) (fun v _ => v = 1) 7 (zBf BL_law) (zlBelow (zlHf (HL_law N)) n) f k 1252 ls st mem := rfl
