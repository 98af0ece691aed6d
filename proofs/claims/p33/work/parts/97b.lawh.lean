set_option maxHeartbeats 2000000 in
set_option maxRecDepth 100000 in
theorem lL_law_23 (N : Nat) (hN : N ≤ 3072) (xs : Nat → Int) (n k : Nat) (ls : zL) (st : List zV) (mem : zM) (hJ : zlJ N 0 0 2 n k ls st mem) : zlwp N xs zLay (fun _ => none) (zCf VL_law) (zCf WL_law) (fun v _ => v = 1) 7 (zBf BL_law) (zlBelow (zlHf (HL_law N)) n) 20 k 23 ls st mem := by
  obtain ⟨h0, h1, h2, h3, ht4, rfl, hI, hc0, hc1, hc2, hc3⟩ := hJ
  obtain ⟨x4, h4⟩ : ∃ x, ls 4 = (0, x) := ⟨_, Prod.ext ht4 rfl⟩
  simp only [h4] at hc0 hc1 hc2 hc3
  have hL : zLh ls x4 := ⟨h0, h1, h2, h3, h4⟩
  have e1 : zw (x4 + 1) = x4 + 1 := zw_id (by omega) (by omega)
  have e2 : zw (x4 + 2) = x4 + 2 := zw_id (by omega) (by omega)
  have e3 : zw (x4 + 3) = x4 + 3 := zw_id (by omega) (by omega)
  have e4 : zw (x4 + 4) = x4 + 4 := zw_id (by omega) (by omega)
  have e5 : zw (x4 + 5) = x4 + 5 := zw_id (by omega) (by omega)
  have e6 : zw (x4 + 6) = x4 + 6 := zw_id (by omega) (by omega)
  have e7 : zw ((N : Int) - 6) = (N : Int) - 6 := zw_id (by omega) (by omega)
  simp (maxSteps := 3000000) only [↓zlwp_s, zlrun_n, zlrun_c, ↓gL_law_188, ↓gL_law_261, ↓gL_law_286, ↓gL_law_302, ↓gL_law_315, ↓gL_law_367, ↓gL_law_395, ↓gL_law_435, ↓gL_law_475, ↓gL_law_515, ↓gL_law_555, ↓gL_law_607, ↓gL_law_623, ↓gL_law_651, ↓gL_law_695, ↓gL_law_711, ↓gL_law_727, ↓gL_law_755, ↓gL_law_795, ↓gL_law_808, ↓gL_law_848, ↓gL_law_901, ↓gL_law_941, ↓gL_law_981, ↓gL_law_1022, ↓gL_law_1035, ↓gL_law_1048, ↓gL_law_1076, ↓gL_law_1101, ↓gL_law_1141, ↓gL_law_1197, ↓gL_law_1208, ↓gL_law_1221, ↓gL_law_1246, ↓gL_law_1252, ↓zp1_c, ↓zpv_c, ↓ztg_e, ↓reduceIte, ↓zl_aload_n, ↓zl_arraylength, ↓zl_bipush, ↓zl_iaload, ↓zl_iand, ↓zl_iconst, ↓zl_if_icmp, ↓zl_iload, ↓zl_ireturn, ↓zl_isub, ↓zl_tableswitch, ↓zi_aload_n, ↓zi_bipush, ↓zi_iand, ↓zi_iconst, ↓zi_if_icmp, ↓zi_iload, ↓zi_ireturn, ↓zi_isub, ↓zi_tableswitch, zcmp_eq, zcmp_ne, zcmp_gt, bL_law_23, bL_law_1252, zswT_n, zswT_c, List.size_toArray, zent_n, zent_c, zst_e, zfi0, zfi1, zfi2, zfi3, zcast, Nat.reduceAdd, Nat.reduceSub, Nat.reduceEqDiff, Nat.reduceLT, Nat.reduceLeDiff, Int.reduceAdd, Int.reduceSub, Int.reduceMul, Int.reduceToNat, Int.reduceLE, Int.reduceLT, Int.reduceEq, Int.reduceNeg, Int.reduceNegSucc, Nat.reduceMul, List.zip_cons_cons, List.zip_nil_left, List.zip_nil_right, Int.toNat_natCast, true_and, and_true, eq_self, ne_eq, not_false_eq_true, not_true_eq_false, forall_const, implies_true, false_and, true_or, or_true, false_or, or_false, imp_self, and_imp, exists_eq_left, exists_eq_left', exists_eq_right, exists_eq_right', exists_and_left, exists_and_right, Prod.mk.injEq, zAdd_e, zSub_e, zMul_e, zres_0, zres_4, zres_1, zres_9, zrt_0, zrt_4, zrt_1, zrt_9, List.take_succ_cons, List.take_zero, List.drop_succ_cons, List.drop_zero, List.map_cons, List.map_nil, List.reverse_cons, List.reverse_nil, List.nil_append, List.cons_append, List.length_cons, List.length_nil, zPr_c, List.mem_cons, List.not_mem_nil, ↓zIV_e, zcats, List.sum_cons, List.sum_nil, zpu, zfu, zset_e, h0, h1, h2, h3, h4, e1, e2, e3, e4, e5, e6, e7]
  repeat' (first | (with_reducible refine And.intro ?_ ?_) | (with_reducible intro _))
  all_goals (first | trivial | omega | (refine zlJ_of hL hI (by omega) (by omega) (by omega) (by omega)) | skip)
set_option maxHeartbeats 2000000 in
set_option maxRecDepth 100000 in
theorem lL_law_1246 (N : Nat) (hN : N ≤ 3072) (xs : Nat → Int) (n k : Nat) (ls : zL) (st : List zV) (mem : zM) (hJ : zlJ N 6 6 0 n k ls st mem) : zlwp N xs zLay (fun _ => none) (zCf VL_law) (zCf WL_law) (fun v _ => v = 1) 7 (zBf BL_law) (zlBelow (zlHf (HL_law N)) n) 20 k 1246 ls st mem := by
  obtain ⟨h0, h1, h2, h3, ht4, rfl, hI, hc0, hc1, hc2, hc3⟩ := hJ
  obtain ⟨x4, h4⟩ : ∃ x, ls 4 = (0, x) := ⟨_, Prod.ext ht4 rfl⟩
  simp only [h4] at hc0 hc1 hc2 hc3
  have hL : zLh ls x4 := ⟨h0, h1, h2, h3, h4⟩
  have e1 : zw (x4 + 1) = x4 + 1 := zw_id (by omega) (by omega)
  have e2 : zw (x4 + 2) = x4 + 2 := zw_id (by omega) (by omega)
  have e3 : zw (x4 + 3) = x4 + 3 := zw_id (by omega) (by omega)
  have e4 : zw (x4 + 4) = x4 + 4 := zw_id (by omega) (by omega)
  have e5 : zw (x4 + 5) = x4 + 5 := zw_id (by omega) (by omega)
  have e6 : zw (x4 + 6) = x4 + 6 := zw_id (by omega) (by omega)
  have e7 : zw ((N : Int) - 6) = (N : Int) - 6 := zw_id (by omega) (by omega)
  simp (maxSteps := 3000000) only [↓zlwp_s, zlrun_n, zlrun_c, ↓gL_law_23, ↓gL_law_1252, ↓zp1_c, ↓zpv_c, ↓ztg_e, ↓reduceIte, ↓zl_goto, ↓zl_iinc, ↓zi_goto, ↓zi_iinc, zcmp_eq, zcmp_ne, zcmp_gt, bL_law_1246, List.size_toArray, zent_n, zent_c, zst_e, zfi0, zfi1, zfi2, zfi3, zcast, Nat.reduceAdd, Nat.reduceSub, Nat.reduceEqDiff, Nat.reduceLT, Nat.reduceLeDiff, Int.reduceAdd, Int.reduceSub, Int.reduceMul, Int.reduceToNat, Int.reduceLE, Int.reduceLT, Int.reduceEq, Int.reduceNeg, Int.reduceNegSucc, Nat.reduceMul, List.zip_cons_cons, List.zip_nil_left, List.zip_nil_right, Int.toNat_natCast, true_and, and_true, eq_self, ne_eq, not_false_eq_true, not_true_eq_false, forall_const, implies_true, false_and, true_or, or_true, false_or, or_false, imp_self, and_imp, exists_eq_left, exists_eq_left', exists_eq_right, exists_eq_right', exists_and_left, exists_and_right, Prod.mk.injEq, zAdd_e, zSub_e, zMul_e, zres_0, zres_4, zres_1, zres_9, zrt_0, zrt_4, zrt_1, zrt_9, List.take_succ_cons, List.take_zero, List.drop_succ_cons, List.drop_zero, List.map_cons, List.map_nil, List.reverse_cons, List.reverse_nil, List.nil_append, List.cons_append, List.length_cons, List.length_nil, zPr_c, List.mem_cons, List.not_mem_nil, ↓zIV_e, zcats, List.sum_cons, List.sum_nil, zpu, zfu, zset_e, h0, h1, h2, h3, h4, e1, e2, e3, e4, e5, e6, e7]
  repeat' (first | (with_reducible refine And.intro ?_ ?_) | (with_reducible intro _))
  all_goals (first | trivial | omega | (refine zlJ_of (zLh_4 hL) hI (by omega) (by omega) (by omega) (by omega)) | skip)
set_option maxHeartbeats 2000000 in
set_option maxRecDepth 100000 in
theorem lL_law_188 (N : Nat) (hN : N ≤ 3072) (xs : Nat → Int) (n k : Nat) (ls : zL) (st : List zV) (mem : zM) (hJ : zlJ N 6 0 1 n k ls st mem) : zlwp N xs zLay (fun _ => none) (zCf VL_law) (zCf WL_law) (fun v _ => v = 1) 7 (zBf BL_law) (zlBelow (zlHf (HL_law N)) n) 20 k 188 ls st mem := by
  obtain ⟨h0, h1, h2, h3, ht4, rfl, hI, hc0, hc1, hc2, hc3⟩ := hJ
  obtain ⟨x4, h4⟩ : ∃ x, ls 4 = (0, x) := ⟨_, Prod.ext ht4 rfl⟩
  simp only [h4] at hc0 hc1 hc2 hc3
  have hL : zLh ls x4 := ⟨h0, h1, h2, h3, h4⟩
  have e1 : zw (x4 + 1) = x4 + 1 := zw_id (by omega) (by omega)
  have e2 : zw (x4 + 2) = x4 + 2 := zw_id (by omega) (by omega)
  have e3 : zw (x4 + 3) = x4 + 3 := zw_id (by omega) (by omega)
  have e4 : zw (x4 + 4) = x4 + 4 := zw_id (by omega) (by omega)
  have e5 : zw (x4 + 5) = x4 + 5 := zw_id (by omega) (by omega)
  have e6 : zw (x4 + 6) = x4 + 6 := zw_id (by omega) (by omega)
  have e7 : zw ((N : Int) - 6) = (N : Int) - 6 := zw_id (by omega) (by omega)
  simp (maxSteps := 3000000) only [↓zlwp_s, zlrun_n, zlrun_c, ↓gL_law_261, ↓gL_law_1246, ↓zp1_c, ↓zpv_c, ↓ztg_e, ↓reduceIte, ↓zl_aload_n, ↓zl_goto, ↓zl_iadd, ↓zl_iaload, ↓zl_iconst, ↓zl_iload, ↓zl_pop, ↓zi_aload_n, ↓zi_goto, ↓zi_iadd, ↓zi_iconst, ↓zi_iload, ↓zi_pop, zcmp_eq, zcmp_ne, zcmp_gt, bL_law_188, ↓zlv_g (cv := zCf VL_law) (q := 96) (h := (rfl : zCf VL_law 96 = some CX10_feed)), ↓zlv_g (cv := zCf VL_law) (q := 100) (h := (rfl : zCf VL_law 100 = some CX11_feed)), List.size_toArray, zent_n, zent_c, zst_e, zfi0, zfi1, zfi2, zfi3, zcast, Nat.reduceAdd, Nat.reduceSub, Nat.reduceEqDiff, Nat.reduceLT, Nat.reduceLeDiff, Int.reduceAdd, Int.reduceSub, Int.reduceMul, Int.reduceToNat, Int.reduceLE, Int.reduceLT, Int.reduceEq, Int.reduceNeg, Int.reduceNegSucc, Nat.reduceMul, List.zip_cons_cons, List.zip_nil_left, List.zip_nil_right, Int.toNat_natCast, true_and, and_true, eq_self, ne_eq, not_false_eq_true, not_true_eq_false, forall_const, implies_true, false_and, true_or, or_true, false_or, or_false, imp_self, and_imp, exists_eq_left, exists_eq_left', exists_eq_right, exists_eq_right', exists_and_left, exists_and_right, Prod.mk.injEq, zAdd_e, zSub_e, zMul_e, zres_0, zres_4, zres_1, zres_9, zrt_0, zrt_4, zrt_1, zrt_9, List.take_succ_cons, List.take_zero, List.drop_succ_cons, List.drop_zero, List.map_cons, List.map_nil, List.reverse_cons, List.reverse_nil, List.nil_append, List.cons_append, List.length_cons, List.length_nil, zPr_c, List.mem_cons, List.not_mem_nil, ↓zIV_e, zcats, List.sum_cons, List.sum_nil, zpu, zfu, zset_e, h0, h1, h2, h3, h4, e1, e2, e3, e4, e5, e6, e7]
  repeat' (first | (with_reducible refine And.intro ?_ ?_) | (with_reducible intro _))
  all_goals (first | trivial | omega | exact (zInv_t hI).1 | exact (zInv_t hI).2 | exact (zInv_feed1 hI (by assumption)).1 | exact (zInv_feed1 hI (by assumption)).2 | exact absurd (zInv_feed hI (by assumption) ⟨by assumption, by assumption⟩).1 (by assumption) | (refine zlJ_end hN (by first | exact hL | exact zLh_6 (zLh_5 hL) | exact zLh_5 hL) ((zInv_feed hI (by assumption) ⟨by assumption, by assumption⟩).2) hc0 hc1 (by omega) hc3) | skip)
set_option maxHeartbeats 2000000 in
set_option maxRecDepth 100000 in
theorem lL_law_261 (N : Nat) (hN : N ≤ 3072) (xs : Nat → Int) (n k : Nat) (ls : zL) (st : List zV) (mem : zM) (hJ : zlJ N 6 0 1 n k ls st mem) : zlwp N xs zLay (fun _ => none) (zCf VL_law) (zCf WL_law) (fun v _ => v = 1) 7 (zBf BL_law) (zlBelow (zlHf (HL_law N)) n) 20 k 261 ls st mem := by
  obtain ⟨h0, h1, h2, h3, ht4, rfl, hI, hc0, hc1, hc2, hc3⟩ := hJ
  obtain ⟨x4, h4⟩ : ∃ x, ls 4 = (0, x) := ⟨_, Prod.ext ht4 rfl⟩
  simp only [h4] at hc0 hc1 hc2 hc3
  have hL : zLh ls x4 := ⟨h0, h1, h2, h3, h4⟩
  have e1 : zw (x4 + 1) = x4 + 1 := zw_id (by omega) (by omega)
  have e2 : zw (x4 + 2) = x4 + 2 := zw_id (by omega) (by omega)
  have e3 : zw (x4 + 3) = x4 + 3 := zw_id (by omega) (by omega)
  have e4 : zw (x4 + 4) = x4 + 4 := zw_id (by omega) (by omega)
  have e5 : zw (x4 + 5) = x4 + 5 := zw_id (by omega) (by omega)
  have e6 : zw (x4 + 6) = x4 + 6 := zw_id (by omega) (by omega)
  have e7 : zw ((N : Int) - 6) = (N : Int) - 6 := zw_id (by omega) (by omega)
  simp (maxSteps := 3000000) only [↓zlwp_s, zlrun_n, zlrun_c, ↓gL_law_286, ↓gL_law_1246, ↓zp1_c, ↓zpv_c, ↓ztg_e, ↓reduceIte, ↓zl_aload_n, ↓zl_goto, ↓zl_iadd, ↓zl_iaload, ↓zl_iconst, ↓zl_iload, ↓zl_pop, ↓zi_aload_n, ↓zi_goto, ↓zi_iadd, ↓zi_iconst, ↓zi_iload, ↓zi_pop, zcmp_eq, zcmp_ne, zcmp_gt, bL_law_261, ↓zlv_g (cv := zCf VL_law) (q := 101) (h := (rfl : zCf VL_law 101 = some CX10_end)), ↓zlv_g (cv := zCf VL_law) (q := 105) (h := (rfl : zCf VL_law 105 = some CX11_end)), List.size_toArray, zent_n, zent_c, zst_e, zfi0, zfi1, zfi2, zfi3, zcast, Nat.reduceAdd, Nat.reduceSub, Nat.reduceEqDiff, Nat.reduceLT, Nat.reduceLeDiff, Int.reduceAdd, Int.reduceSub, Int.reduceMul, Int.reduceToNat, Int.reduceLE, Int.reduceLT, Int.reduceEq, Int.reduceNeg, Int.reduceNegSucc, Nat.reduceMul, List.zip_cons_cons, List.zip_nil_left, List.zip_nil_right, Int.toNat_natCast, true_and, and_true, eq_self, ne_eq, not_false_eq_true, not_true_eq_false, forall_const, implies_true, false_and, true_or, or_true, false_or, or_false, imp_self, and_imp, exists_eq_left, exists_eq_left', exists_eq_right, exists_eq_right', exists_and_left, exists_and_right, Prod.mk.injEq, zAdd_e, zSub_e, zMul_e, zres_0, zres_4, zres_1, zres_9, zrt_0, zrt_4, zrt_1, zrt_9, List.take_succ_cons, List.take_zero, List.drop_succ_cons, List.drop_zero, List.map_cons, List.map_nil, List.reverse_cons, List.reverse_nil, List.nil_append, List.cons_append, List.length_cons, List.length_nil, zPr_c, List.mem_cons, List.not_mem_nil, ↓zIV_e, zcats, List.sum_cons, List.sum_nil, zpu, zfu, zset_e, h0, h1, h2, h3, h4, e1, e2, e3, e4, e5, e6, e7]
  repeat' (first | (with_reducible refine And.intro ?_ ?_) | (with_reducible intro _))
  all_goals (first | trivial | omega | exact (zInv_end1 hI (by assumption)).1 | exact (zInv_end1 hI (by assumption)).2 | exact absurd (zInv_end hI (by assumption) ⟨by assumption, by assumption⟩).1 (by assumption) | (refine zlJ_end hN (by first | exact hL | exact zLh_6 (zLh_5 hL) | exact zLh_5 hL) ((zInv_end hI (by assumption) ⟨by assumption, by assumption⟩).2) hc0 hc1 (by omega) hc3) | skip)
set_option maxHeartbeats 2000000 in
set_option maxRecDepth 100000 in
theorem lL_law_286 (N : Nat) (hN : N ≤ 3072) (xs : Nat → Int) (n k : Nat) (ls : zL) (st : List zV) (mem : zM) (hJ : zlJ N 6 0 1 n k ls st mem) : zlwp N xs zLay (fun _ => none) (zCf VL_law) (zCf WL_law) (fun v _ => v = 1) 7 (zBf BL_law) (zlBelow (zlHf (HL_law N)) n) 20 k 286 ls st mem := by
  obtain ⟨h0, h1, h2, h3, ht4, rfl, hI, hc0, hc1, hc2, hc3⟩ := hJ
  obtain ⟨x4, h4⟩ : ∃ x, ls 4 = (0, x) := ⟨_, Prod.ext ht4 rfl⟩
  simp only [h4] at hc0 hc1 hc2 hc3
  have hL : zLh ls x4 := ⟨h0, h1, h2, h3, h4⟩
  have e1 : zw (x4 + 1) = x4 + 1 := zw_id (by omega) (by omega)
  have e2 : zw (x4 + 2) = x4 + 2 := zw_id (by omega) (by omega)
  have e3 : zw (x4 + 3) = x4 + 3 := zw_id (by omega) (by omega)
  have e4 : zw (x4 + 4) = x4 + 4 := zw_id (by omega) (by omega)
  have e5 : zw (x4 + 5) = x4 + 5 := zw_id (by omega) (by omega)
  have e6 : zw (x4 + 6) = x4 + 6 := zw_id (by omega) (by omega)
  have e7 : zw ((N : Int) - 6) = (N : Int) - 6 := zw_id (by omega) (by omega)
  simp (maxSteps := 3000000) only [↓zlwp_s, zlrun_n, zlrun_c, ↓gL_law_302, ↓gL_law_1246, ↓zp1_c, ↓zpv_c, ↓ztg_e, ↓reduceIte, ↓zl_aload_n, ↓zl_goto, ↓zl_istore, ↓zi_aload_n, ↓zi_goto, ↓zi_istore, zcmp_eq, zcmp_ne, zcmp_gt, bL_law_286, ↓zlw_g (cw := zCf WL_law) (q := 106) (h := (rfl : zCf WL_law 106 = some CL_orders)), ↓zlv_g (cv := zCf VL_law) (q := 111) (h := (rfl : zCf VL_law 111 = some CX11_orders)), List.size_toArray, zent_n, zent_c, zst_e, zfi0, zfi1, zfi2, zfi3, zcast, Nat.reduceAdd, Nat.reduceSub, Nat.reduceEqDiff, Nat.reduceLT, Nat.reduceLeDiff, Int.reduceAdd, Int.reduceSub, Int.reduceMul, Int.reduceToNat, Int.reduceLE, Int.reduceLT, Int.reduceEq, Int.reduceNeg, Int.reduceNegSucc, Nat.reduceMul, List.zip_cons_cons, List.zip_nil_left, List.zip_nil_right, Int.toNat_natCast, true_and, and_true, eq_self, ne_eq, not_false_eq_true, not_true_eq_false, forall_const, implies_true, false_and, true_or, or_true, false_or, or_false, imp_self, and_imp, exists_eq_left, exists_eq_left', exists_eq_right, exists_eq_right', exists_and_left, exists_and_right, Prod.mk.injEq, zAdd_e, zSub_e, zMul_e, zres_0, zres_4, zres_1, zres_9, zrt_0, zrt_4, zrt_1, zrt_9, List.take_succ_cons, List.take_zero, List.drop_succ_cons, List.drop_zero, List.map_cons, List.map_nil, List.reverse_cons, List.reverse_nil, List.nil_append, List.cons_append, List.length_cons, List.length_nil, zPr_c, List.mem_cons, List.not_mem_nil, ↓zIV_e, zcats, List.sum_cons, List.sum_nil, zpu, zfu, zset_e, h0, h1, h2, h3, h4, e1, e2, e3, e4, e5, e6, e7]
  repeat' (first | (with_reducible refine And.intro ?_ ?_) | (with_reducible intro _))
  all_goals (first | trivial | omega | exact hI.1 | exact (zInv_t hI).1 | exact (zInv_V1 hI (by assumption)).1 | exact (zInv_V1 hI (by assumption)).2.1 | exact (zInv_V1 hI (by assumption)).2.2.1 | exact (zInv_V1 hI (by assumption)).2.2.2 | (refine zlJ_end hN (by first | exact hL | exact zLh_6 (zLh_5 hL) | exact zLh_5 hL) (zInv_orders hI (by assumption) ⟨by assumption, by assumption, by assumption, by assumption⟩) hc0 hc1 (by omega) hc3) | skip)
set_option maxHeartbeats 2000000 in
set_option maxRecDepth 100000 in
theorem lL_law_302 (N : Nat) (hN : N ≤ 3072) (xs : Nat → Int) (n k : Nat) (ls : zL) (st : List zV) (mem : zM) (hJ : zlJ N 6 0 1 n k ls st mem) : zlwp N xs zLay (fun _ => none) (zCf VL_law) (zCf WL_law) (fun v _ => v = 1) 7 (zBf BL_law) (zlBelow (zlHf (HL_law N)) n) 20 k 302 ls st mem := by
  obtain ⟨h0, h1, h2, h3, ht4, rfl, hI, hc0, hc1, hc2, hc3⟩ := hJ
  obtain ⟨x4, h4⟩ : ∃ x, ls 4 = (0, x) := ⟨_, Prod.ext ht4 rfl⟩
  simp only [h4] at hc0 hc1 hc2 hc3
  have hL : zLh ls x4 := ⟨h0, h1, h2, h3, h4⟩
  have e1 : zw (x4 + 1) = x4 + 1 := zw_id (by omega) (by omega)
  have e2 : zw (x4 + 2) = x4 + 2 := zw_id (by omega) (by omega)
  have e3 : zw (x4 + 3) = x4 + 3 := zw_id (by omega) (by omega)
  have e4 : zw (x4 + 4) = x4 + 4 := zw_id (by omega) (by omega)
  have e5 : zw (x4 + 5) = x4 + 5 := zw_id (by omega) (by omega)
  have e6 : zw (x4 + 6) = x4 + 6 := zw_id (by omega) (by omega)
  have e7 : zw ((N : Int) - 6) = (N : Int) - 6 := zw_id (by omega) (by omega)
  simp (maxSteps := 3000000) only [↓zlwp_s, zlrun_n, zlrun_c, ↓gL_law_315, ↓gL_law_1246, ↓zp1_c, ↓zpv_c, ↓ztg_e, ↓reduceIte, ↓zl_aload_n, ↓zl_goto, ↓zl_pop, ↓zi_aload_n, ↓zi_goto, ↓zi_pop, zcmp_eq, zcmp_ne, zcmp_gt, bL_law_302, ↓zlv_p (cv := zCf VL_law) (q := 112) (h := (rfl : zCf VL_law 112 = some CX10_fault)), ↓zlv_g (cv := zCf VL_law) (q := 115) (h := (rfl : zCf VL_law 115 = some CX11_fault)), List.size_toArray, zent_n, zent_c, zst_e, zfi0, zfi1, zfi2, zfi3, zcast, Nat.reduceAdd, Nat.reduceSub, Nat.reduceEqDiff, Nat.reduceLT, Nat.reduceLeDiff, Int.reduceAdd, Int.reduceSub, Int.reduceMul, Int.reduceToNat, Int.reduceLE, Int.reduceLT, Int.reduceEq, Int.reduceNeg, Int.reduceNegSucc, Nat.reduceMul, List.zip_cons_cons, List.zip_nil_left, List.zip_nil_right, Int.toNat_natCast, true_and, and_true, eq_self, ne_eq, not_false_eq_true, not_true_eq_false, forall_const, implies_true, false_and, true_or, or_true, false_or, or_false, imp_self, and_imp, exists_eq_left, exists_eq_left', exists_eq_right, exists_eq_right', exists_and_left, exists_and_right, Prod.mk.injEq, zAdd_e, zSub_e, zMul_e, zres_0, zres_4, zres_1, zres_9, zrt_0, zrt_4, zrt_1, zrt_9, List.take_succ_cons, List.take_zero, List.drop_succ_cons, List.drop_zero, List.map_cons, List.map_nil, List.reverse_cons, List.reverse_nil, List.nil_append, List.cons_append, List.length_cons, List.length_nil, zPr_c, List.mem_cons, List.not_mem_nil, ↓zIV_e, zcats, List.sum_cons, List.sum_nil, zpu, zfu, zset_e, h0, h1, h2, h3, h4, e1, e2, e3, e4, e5, e6, e7]
  repeat' (first | (with_reducible refine And.intro ?_ ?_) | (with_reducible intro _))
  all_goals (first | trivial | omega | exact hI.1 | exact zInv_i hI | exact zInv_z hI | exact zInv_i (zInv_W hI (by assumption)) | exact zInv_z (zInv_W hI (by assumption)) | (refine zlJ_end hN (by first | exact hL | exact zLh_6 (zLh_5 hL) | exact zLh_5 hL) (zInv_M (zInv_W hI (by assumption)) (by assumption)) hc0 hc1 (by omega) hc3) | (refine zlJ_end hN (by first | exact hL | exact zLh_6 (zLh_5 hL) | exact zLh_5 hL) (zInv_M (zInv_W hI (by assumption)) ⟨by assumption, by assumption⟩) hc0 hc1 (by omega) hc3) | (refine zlJ_end hN (by first | exact hL | exact zLh_6 (zLh_5 hL) | exact zLh_5 hL) (zInv_M hI (by assumption)) hc0 hc1 (by omega) hc3) | skip)
set_option maxHeartbeats 2000000 in
set_option maxRecDepth 100000 in
theorem lL_law_315 (N : Nat) (hN : N ≤ 3072) (xs : Nat → Int) (n k : Nat) (ls : zL) (st : List zV) (mem : zM) (hJ : zlJ N 6 0 1 n k ls st mem) : zlwp N xs zLay (fun _ => none) (zCf VL_law) (zCf WL_law) (fun v _ => v = 1) 7 (zBf BL_law) (zlBelow (zlHf (HL_law N)) n) 20 k 315 ls st mem := by
  obtain ⟨h0, h1, h2, h3, ht4, rfl, hI, hc0, hc1, hc2, hc3⟩ := hJ
  obtain ⟨x4, h4⟩ : ∃ x, ls 4 = (0, x) := ⟨_, Prod.ext ht4 rfl⟩
  simp only [h4] at hc0 hc1 hc2 hc3
  have hL : zLh ls x4 := ⟨h0, h1, h2, h3, h4⟩
  have e1 : zw (x4 + 1) = x4 + 1 := zw_id (by omega) (by omega)
  have e2 : zw (x4 + 2) = x4 + 2 := zw_id (by omega) (by omega)
  have e3 : zw (x4 + 3) = x4 + 3 := zw_id (by omega) (by omega)
  have e4 : zw (x4 + 4) = x4 + 4 := zw_id (by omega) (by omega)
  have e5 : zw (x4 + 5) = x4 + 5 := zw_id (by omega) (by omega)
  have e6 : zw (x4 + 6) = x4 + 6 := zw_id (by omega) (by omega)
  have e7 : zw ((N : Int) - 6) = (N : Int) - 6 := zw_id (by omega) (by omega)
  simp (maxSteps := 3000000) only [↓zlwp_s, zlrun_n, zlrun_c, ↓gL_law_367, ↓gL_law_1246, ↓zp1_c, ↓zpv_c, ↓ztg_e, ↓reduceIte, ↓zl_aload_n, ↓zl_goto, ↓zl_iadd, ↓zl_iaload, ↓zl_iconst, ↓zl_iload, ↓zl_istore, ↓zi_aload_n, ↓zi_goto, ↓zi_iadd, ↓zi_iconst, ↓zi_iload, ↓zi_istore, zcmp_eq, zcmp_ne, zcmp_gt, bL_law_315, ↓zlw_g (cw := zCf WL_law) (q := 116) (h := (rfl : zCf WL_law 116 = some CL_ground)), ↓zlv_g (cv := zCf VL_law) (q := 119) (h := (rfl : zCf VL_law 119 = some CX11_ground)), List.size_toArray, zent_n, zent_c, zst_e, zfi0, zfi1, zfi2, zfi3, zcast, Nat.reduceAdd, Nat.reduceSub, Nat.reduceEqDiff, Nat.reduceLT, Nat.reduceLeDiff, Int.reduceAdd, Int.reduceSub, Int.reduceMul, Int.reduceToNat, Int.reduceLE, Int.reduceLT, Int.reduceEq, Int.reduceNeg, Int.reduceNegSucc, Nat.reduceMul, List.zip_cons_cons, List.zip_nil_left, List.zip_nil_right, Int.toNat_natCast, true_and, and_true, eq_self, ne_eq, not_false_eq_true, not_true_eq_false, forall_const, implies_true, false_and, true_or, or_true, false_or, or_false, imp_self, and_imp, exists_eq_left, exists_eq_left', exists_eq_right, exists_eq_right', exists_and_left, exists_and_right, Prod.mk.injEq, zAdd_e, zSub_e, zMul_e, zres_0, zres_4, zres_1, zres_9, zrt_0, zrt_4, zrt_1, zrt_9, List.take_succ_cons, List.take_zero, List.drop_succ_cons, List.drop_zero, List.map_cons, List.map_nil, List.reverse_cons, List.reverse_nil, List.nil_append, List.cons_append, List.length_cons, List.length_nil, zPr_c, List.mem_cons, List.not_mem_nil, ↓zIV_e, zcats, List.sum_cons, List.sum_nil, zpu, zfu, zset_e, h0, h1, h2, h3, h4, e1, e2, e3, e4, e5, e6, e7]
  repeat' (first | (with_reducible refine And.intro ?_ ?_) | (with_reducible intro _))
  all_goals (first | trivial | omega | exact hI.1 | exact zInv_i hI | exact zInv_z hI | exact zInv_i (zInv_W hI (by assumption)) | exact zInv_z (zInv_W hI (by assumption)) | (refine zlJ_end hN (by first | exact hL | exact zLh_6 (zLh_5 hL) | exact zLh_5 hL) (zInv_M (zInv_W hI (by assumption)) (by assumption)) hc0 hc1 (by omega) hc3) | (refine zlJ_end hN (by first | exact hL | exact zLh_6 (zLh_5 hL) | exact zLh_5 hL) (zInv_M (zInv_W hI (by assumption)) ⟨by assumption, by assumption⟩) hc0 hc1 (by omega) hc3) | (refine zlJ_end hN (by first | exact hL | exact zLh_6 (zLh_5 hL) | exact zLh_5 hL) (zInv_M hI (by assumption)) hc0 hc1 (by omega) hc3) | skip)
set_option maxHeartbeats 2000000 in
set_option maxRecDepth 100000 in
theorem lL_law_367 (N : Nat) (hN : N ≤ 3072) (xs : Nat → Int) (n k : Nat) (ls : zL) (st : List zV) (mem : zM) (hJ : zlJ N 6 0 1 n k ls st mem) : zlwp N xs zLay (fun _ => none) (zCf VL_law) (zCf WL_law) (fun v _ => v = 1) 7 (zBf BL_law) (zlBelow (zlHf (HL_law N)) n) 20 k 367 ls st mem := by
  obtain ⟨h0, h1, h2, h3, ht4, rfl, hI, hc0, hc1, hc2, hc3⟩ := hJ
  obtain ⟨x4, h4⟩ : ∃ x, ls 4 = (0, x) := ⟨_, Prod.ext ht4 rfl⟩
  simp only [h4] at hc0 hc1 hc2 hc3
  have hL : zLh ls x4 := ⟨h0, h1, h2, h3, h4⟩
  have e1 : zw (x4 + 1) = x4 + 1 := zw_id (by omega) (by omega)
  have e2 : zw (x4 + 2) = x4 + 2 := zw_id (by omega) (by omega)
  have e3 : zw (x4 + 3) = x4 + 3 := zw_id (by omega) (by omega)
  have e4 : zw (x4 + 4) = x4 + 4 := zw_id (by omega) (by omega)
  have e5 : zw (x4 + 5) = x4 + 5 := zw_id (by omega) (by omega)
  have e6 : zw (x4 + 6) = x4 + 6 := zw_id (by omega) (by omega)
  have e7 : zw ((N : Int) - 6) = (N : Int) - 6 := zw_id (by omega) (by omega)
  simp (maxSteps := 3000000) only [↓zlwp_s, zlrun_n, zlrun_c, ↓gL_law_395, ↓gL_law_1246, ↓zp1_c, ↓zpv_c, ↓ztg_e, ↓reduceIte, ↓zl_aload_n, ↓zl_goto, ↓zl_iadd, ↓zl_iaload, ↓zl_iconst, ↓zl_iload, ↓zl_istore, ↓zi_aload_n, ↓zi_goto, ↓zi_iadd, ↓zi_iconst, ↓zi_iload, ↓zi_istore, zcmp_eq, zcmp_ne, zcmp_gt, bL_law_367, ↓zlw_g (cw := zCf WL_law) (q := 120) (h := (rfl : zCf WL_law 120 = some CL_kind)), ↓zlv_g (cv := zCf VL_law) (q := 123) (h := (rfl : zCf VL_law 123 = some CX11_kind)), List.size_toArray, zent_n, zent_c, zst_e, zfi0, zfi1, zfi2, zfi3, zcast, Nat.reduceAdd, Nat.reduceSub, Nat.reduceEqDiff, Nat.reduceLT, Nat.reduceLeDiff, Int.reduceAdd, Int.reduceSub, Int.reduceMul, Int.reduceToNat, Int.reduceLE, Int.reduceLT, Int.reduceEq, Int.reduceNeg, Int.reduceNegSucc, Nat.reduceMul, List.zip_cons_cons, List.zip_nil_left, List.zip_nil_right, Int.toNat_natCast, true_and, and_true, eq_self, ne_eq, not_false_eq_true, not_true_eq_false, forall_const, implies_true, false_and, true_or, or_true, false_or, or_false, imp_self, and_imp, exists_eq_left, exists_eq_left', exists_eq_right, exists_eq_right', exists_and_left, exists_and_right, Prod.mk.injEq, zAdd_e, zSub_e, zMul_e, zres_0, zres_4, zres_1, zres_9, zrt_0, zrt_4, zrt_1, zrt_9, List.take_succ_cons, List.take_zero, List.drop_succ_cons, List.drop_zero, List.map_cons, List.map_nil, List.reverse_cons, List.reverse_nil, List.nil_append, List.cons_append, List.length_cons, List.length_nil, zPr_c, List.mem_cons, List.not_mem_nil, ↓zIV_e, zcats, List.sum_cons, List.sum_nil, zpu, zfu, zset_e, h0, h1, h2, h3, h4, e1, e2, e3, e4, e5, e6, e7]
  repeat' (first | (with_reducible refine And.intro ?_ ?_) | (with_reducible intro _))
  all_goals (first | trivial | omega | exact hI.1 | exact zInv_i hI | exact zInv_z hI | exact zInv_i (zInv_W hI (by assumption)) | exact zInv_z (zInv_W hI (by assumption)) | (refine zlJ_end hN (by first | exact hL | exact zLh_6 (zLh_5 hL) | exact zLh_5 hL) (zInv_M (zInv_W hI (by assumption)) (by assumption)) hc0 hc1 (by omega) hc3) | (refine zlJ_end hN (by first | exact hL | exact zLh_6 (zLh_5 hL) | exact zLh_5 hL) (zInv_M (zInv_W hI (by assumption)) ⟨by assumption, by assumption⟩) hc0 hc1 (by omega) hc3) | (refine zlJ_end hN (by first | exact hL | exact zLh_6 (zLh_5 hL) | exact zLh_5 hL) (zInv_M hI (by assumption)) hc0 hc1 (by omega) hc3) | skip)
