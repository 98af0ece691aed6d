set_option maxHeartbeats 2000000 in
set_option maxRecDepth 100000 in
theorem lL_law_395 (N : Nat) (hN : N ≤ 3072) (xs : Nat → Int) (n k : Nat) (ls : zL) (st : List zV) (mem : zM) (hJ : zlJ N 6 0 1 n k ls st mem) : zlwp N xs zLay (fun _ => none) (zCf VL_law) (zCf WL_law) (fun v _ => v = 1) 7 (zBf BL_law) (zlBelow (zlHf (HL_law N)) n) 20 k 395 ls st mem := by
  obtain ⟨h0, h1, h2, h3, ht4, rfl, hI, hc0, hc1, hc2, hc3⟩ := hJ
  obtain ⟨x4, h4⟩ : ∃ x, ls 4 = (0, x) := ⟨_, Prod.ext ht4 rfl⟩
  simp only [h4] at hc0 hc1 hc2 hc3
  have hL : zLh ls x4 := ⟨h0, h1, h2, h3, h4⟩
  have e1 : zw (x4 + 1) = x4 + 1 := zw_id (by omega) (by omega)
  have e2 : zw (x4 + 2) = x4 + 2 := zw_id (by omega) (by omega)
  have e3 : zw (x4 + 3) = x4 + 3 := zw_id (by omega) (by omega)
  have e4 : zw (x4 + 4) = x4 + 4 := zw_id (by omega) (by omega)
  have e5 : zw (x4 + 5) = x4 + 5 := zw_id (by omega) (by omega)
  have e6 : zw (x4 + 6) = x4 + 6 := zw_id (by omega) (by omega)
  have e7 : zw ((N : Int) - 6) = (N : Int) - 6 := zw_id (by omega) (by omega)
  simp (maxSteps := 3000000) only [↓zlwp_s, zlrun_n, zlrun_c, ↓gL_law_435, ↓gL_law_1246, ↓zp1_c, ↓zpv_c, ↓ztg_e, ↓reduceIte, ↓zl_aload_n, ↓zl_goto, ↓zl_iadd, ↓zl_iaload, ↓zl_iconst, ↓zl_iload, ↓zl_istore, ↓zi_aload_n, ↓zi_goto, ↓zi_iadd, ↓zi_iconst, ↓zi_iload, ↓zi_istore, zcmp_eq, zcmp_ne, zcmp_gt, bL_law_395, ↓zlw_g (cw := zCf WL_law) (q := 124) (h := (rfl : zCf WL_law 124 = some CL_rail)), ↓zlv_g (cv := zCf VL_law) (q := 127) (h := (rfl : zCf VL_law 127 = some CX11_rail)), List.size_toArray, zent_n, zent_c, zst_e, zfi0, zfi1, zfi2, zfi3, zcast, Nat.reduceAdd, Nat.reduceSub, Nat.reduceEqDiff, Nat.reduceLT, Nat.reduceLeDiff, Int.reduceAdd, Int.reduceSub, Int.reduceMul, Int.reduceToNat, Int.reduceLE, Int.reduceLT, Int.reduceEq, Int.reduceNeg, Int.reduceNegSucc, Nat.reduceMul, List.zip_cons_cons, List.zip_nil_left, List.zip_nil_right, Int.toNat_natCast, true_and, and_true, eq_self, ne_eq, not_false_eq_true, not_true_eq_false, forall_const, implies_true, false_and, true_or, or_true, false_or, or_false, imp_self, and_imp, exists_eq_left, exists_eq_left', exists_eq_right, exists_eq_right', exists_and_left, exists_and_right, Prod.mk.injEq, zAdd_e, zSub_e, zMul_e, zres_0, zres_4, zres_1, zres_9, zrt_0, zrt_4, zrt_1, zrt_9, List.take_succ_cons, List.take_zero, List.drop_succ_cons, List.drop_zero, List.map_cons, List.map_nil, List.reverse_cons, List.reverse_nil, List.nil_append, List.cons_append, List.length_cons, List.length_nil, zPr_c, List.mem_cons, List.not_mem_nil, ↓zIV_e, zcats, List.sum_cons, List.sum_nil, zpu, zfu, zset_e, h0, h1, h2, h3, h4, e1, e2, e3, e4, e5, e6, e7]
  repeat' (first | (with_reducible refine And.intro ?_ ?_) | (with_reducible intro _))
  all_goals (first | trivial | omega | exact hI.1 | exact (zInv_n hI).1 | exact zInv_rail1 hI (by assumption) | (have hF := (zInv_rail hI (by assumption) ⟨by assumption, by assumption, by assumption⟩).1; omega) | (refine zlJ_end hN (by first | exact hL | exact zLh_6 (zLh_5 hL) | exact zLh_5 hL) ((zInv_rail hI (by assumption) ⟨by assumption, by assumption, by assumption⟩).2) hc0 hc1 (by omega) hc3) | skip)
set_option maxHeartbeats 2000000 in
set_option maxRecDepth 100000 in
theorem lL_law_435 (N : Nat) (hN : N ≤ 3072) (xs : Nat → Int) (n k : Nat) (ls : zL) (st : List zV) (mem : zM) (hJ : zlJ N 6 0 1 n k ls st mem) : zlwp N xs zLay (fun _ => none) (zCf VL_law) (zCf WL_law) (fun v _ => v = 1) 7 (zBf BL_law) (zlBelow (zlHf (HL_law N)) n) 20 k 435 ls st mem := by
  obtain ⟨h0, h1, h2, h3, ht4, rfl, hI, hc0, hc1, hc2, hc3⟩ := hJ
  obtain ⟨x4, h4⟩ : ∃ x, ls 4 = (0, x) := ⟨_, Prod.ext ht4 rfl⟩
  simp only [h4] at hc0 hc1 hc2 hc3
  have hL : zLh ls x4 := ⟨h0, h1, h2, h3, h4⟩
  have e1 : zw (x4 + 1) = x4 + 1 := zw_id (by omega) (by omega)
  have e2 : zw (x4 + 2) = x4 + 2 := zw_id (by omega) (by omega)
  have e3 : zw (x4 + 3) = x4 + 3 := zw_id (by omega) (by omega)
  have e4 : zw (x4 + 4) = x4 + 4 := zw_id (by omega) (by omega)
  have e5 : zw (x4 + 5) = x4 + 5 := zw_id (by omega) (by omega)
  have e6 : zw (x4 + 6) = x4 + 6 := zw_id (by omega) (by omega)
  have e7 : zw ((N : Int) - 6) = (N : Int) - 6 := zw_id (by omega) (by omega)
  simp (maxSteps := 3000000) only [↓zlwp_s, zlrun_n, zlrun_c, ↓gL_law_475, ↓gL_law_1246, ↓zp1_c, ↓zpv_c, ↓ztg_e, ↓reduceIte, ↓zl_aload_n, ↓zl_goto, ↓zl_iadd, ↓zl_iaload, ↓zl_iconst, ↓zl_iload, ↓zl_istore, ↓zi_aload_n, ↓zi_goto, ↓zi_iadd, ↓zi_iconst, ↓zi_iload, ↓zi_istore, zcmp_eq, zcmp_ne, zcmp_gt, bL_law_435, ↓zlw_g (cw := zCf WL_law) (q := 128) (h := (rfl : zCf WL_law 128 = some CL_gang)), ↓zlv_g (cv := zCf VL_law) (q := 130) (h := (rfl : zCf VL_law 130 = some CX11_gang)), List.size_toArray, zent_n, zent_c, zst_e, zfi0, zfi1, zfi2, zfi3, zcast, Nat.reduceAdd, Nat.reduceSub, Nat.reduceEqDiff, Nat.reduceLT, Nat.reduceLeDiff, Int.reduceAdd, Int.reduceSub, Int.reduceMul, Int.reduceToNat, Int.reduceLE, Int.reduceLT, Int.reduceEq, Int.reduceNeg, Int.reduceNegSucc, Nat.reduceMul, List.zip_cons_cons, List.zip_nil_left, List.zip_nil_right, Int.toNat_natCast, true_and, and_true, eq_self, ne_eq, not_false_eq_true, not_true_eq_false, forall_const, implies_true, false_and, true_or, or_true, false_or, or_false, imp_self, and_imp, exists_eq_left, exists_eq_left', exists_eq_right, exists_eq_right', exists_and_left, exists_and_right, Prod.mk.injEq, zAdd_e, zSub_e, zMul_e, zres_0, zres_4, zres_1, zres_9, zrt_0, zrt_4, zrt_1, zrt_9, List.take_succ_cons, List.take_zero, List.drop_succ_cons, List.drop_zero, List.map_cons, List.map_nil, List.reverse_cons, List.reverse_nil, List.nil_append, List.cons_append, List.length_cons, List.length_nil, zPr_c, List.mem_cons, List.not_mem_nil, ↓zIV_e, zcats, List.sum_cons, List.sum_nil, zpu, zfu, zset_e, h0, h1, h2, h3, h4, e1, e2, e3, e4, e5, e6, e7]
  repeat' (first | (with_reducible refine And.intro ?_ ?_) | (with_reducible intro _))
  all_goals (first | trivial | omega | exact hI.1 | exact (zInv_n hI).2.1 | exact zInv_gang1 hI (by assumption) | (have hF := (zInv_gang hI (by assumption) ⟨by assumption, by assumption, by assumption, by assumption⟩).1; omega) | (refine zlJ_end hN (by first | exact hL | exact zLh_6 (zLh_5 hL) | exact zLh_5 hL) ((zInv_gang hI (by assumption) ⟨by assumption, by assumption, by assumption, by assumption⟩).2) hc0 hc1 (by omega) hc3) | skip)
set_option maxHeartbeats 2000000 in
set_option maxRecDepth 100000 in
theorem lL_law_475 (N : Nat) (hN : N ≤ 3072) (xs : Nat → Int) (n k : Nat) (ls : zL) (st : List zV) (mem : zM) (hJ : zlJ N 6 0 1 n k ls st mem) : zlwp N xs zLay (fun _ => none) (zCf VL_law) (zCf WL_law) (fun v _ => v = 1) 7 (zBf BL_law) (zlBelow (zlHf (HL_law N)) n) 20 k 475 ls st mem := by
  obtain ⟨h0, h1, h2, h3, ht4, rfl, hI, hc0, hc1, hc2, hc3⟩ := hJ
  obtain ⟨x4, h4⟩ : ∃ x, ls 4 = (0, x) := ⟨_, Prod.ext ht4 rfl⟩
  simp only [h4] at hc0 hc1 hc2 hc3
  have hL : zLh ls x4 := ⟨h0, h1, h2, h3, h4⟩
  have e1 : zw (x4 + 1) = x4 + 1 := zw_id (by omega) (by omega)
  have e2 : zw (x4 + 2) = x4 + 2 := zw_id (by omega) (by omega)
  have e3 : zw (x4 + 3) = x4 + 3 := zw_id (by omega) (by omega)
  have e4 : zw (x4 + 4) = x4 + 4 := zw_id (by omega) (by omega)
  have e5 : zw (x4 + 5) = x4 + 5 := zw_id (by omega) (by omega)
  have e6 : zw (x4 + 6) = x4 + 6 := zw_id (by omega) (by omega)
  have e7 : zw ((N : Int) - 6) = (N : Int) - 6 := zw_id (by omega) (by omega)
  simp (maxSteps := 3000000) only [↓zlwp_s, zlrun_n, zlrun_c, ↓gL_law_515, ↓gL_law_1246, ↓zp1_c, ↓zpv_c, ↓ztg_e, ↓reduceIte, ↓zl_aload_n, ↓zl_goto, ↓zl_iadd, ↓zl_iaload, ↓zl_iconst, ↓zl_iload, ↓zl_istore, ↓zi_aload_n, ↓zi_goto, ↓zi_iadd, ↓zi_iconst, ↓zi_iload, ↓zi_istore, zcmp_eq, zcmp_ne, zcmp_gt, bL_law_475, ↓zlw_g (cw := zCf WL_law) (q := 131) (h := (rfl : zCf WL_law 131 = some CL_task)), ↓zlv_g (cv := zCf VL_law) (q := 133) (h := (rfl : zCf VL_law 133 = some CX11_task)), List.size_toArray, zent_n, zent_c, zst_e, zfi0, zfi1, zfi2, zfi3, zcast, Nat.reduceAdd, Nat.reduceSub, Nat.reduceEqDiff, Nat.reduceLT, Nat.reduceLeDiff, Int.reduceAdd, Int.reduceSub, Int.reduceMul, Int.reduceToNat, Int.reduceLE, Int.reduceLT, Int.reduceEq, Int.reduceNeg, Int.reduceNegSucc, Nat.reduceMul, List.zip_cons_cons, List.zip_nil_left, List.zip_nil_right, Int.toNat_natCast, true_and, and_true, eq_self, ne_eq, not_false_eq_true, not_true_eq_false, forall_const, implies_true, false_and, true_or, or_true, false_or, or_false, imp_self, and_imp, exists_eq_left, exists_eq_left', exists_eq_right, exists_eq_right', exists_and_left, exists_and_right, Prod.mk.injEq, zAdd_e, zSub_e, zMul_e, zres_0, zres_4, zres_1, zres_9, zrt_0, zrt_4, zrt_1, zrt_9, List.take_succ_cons, List.take_zero, List.drop_succ_cons, List.drop_zero, List.map_cons, List.map_nil, List.reverse_cons, List.reverse_nil, List.nil_append, List.cons_append, List.length_cons, List.length_nil, zPr_c, List.mem_cons, List.not_mem_nil, ↓zIV_e, zcats, List.sum_cons, List.sum_nil, zpu, zfu, zset_e, h0, h1, h2, h3, h4, e1, e2, e3, e4, e5, e6, e7]
  repeat' (first | (with_reducible refine And.intro ?_ ?_) | (with_reducible intro _))
  all_goals (first | trivial | omega | exact hI.1 | exact (zInv_n hI).2.2 | exact zInv_task1 hI (by assumption) | (have hF := (zInv_task hI (by assumption) ⟨by assumption, by assumption, by assumption⟩).1; omega) | (refine zlJ_end hN (by first | exact hL | exact zLh_6 (zLh_5 hL) | exact zLh_5 hL) ((zInv_task hI (by assumption) ⟨by assumption, by assumption, by assumption⟩).2) hc0 hc1 (by omega) hc3) | skip)
set_option maxHeartbeats 2000000 in
set_option maxRecDepth 100000 in
theorem lL_law_515 (N : Nat) (hN : N ≤ 3072) (xs : Nat → Int) (n k : Nat) (ls : zL) (st : List zV) (mem : zM) (hJ : zlJ N 6 0 1 n k ls st mem) : zlwp N xs zLay (fun _ => none) (zCf VL_law) (zCf WL_law) (fun v _ => v = 1) 7 (zBf BL_law) (zlBelow (zlHf (HL_law N)) n) 20 k 515 ls st mem := by
  obtain ⟨h0, h1, h2, h3, ht4, rfl, hI, hc0, hc1, hc2, hc3⟩ := hJ
  obtain ⟨x4, h4⟩ : ∃ x, ls 4 = (0, x) := ⟨_, Prod.ext ht4 rfl⟩
  simp only [h4] at hc0 hc1 hc2 hc3
  have hL : zLh ls x4 := ⟨h0, h1, h2, h3, h4⟩
  have e1 : zw (x4 + 1) = x4 + 1 := zw_id (by omega) (by omega)
  have e2 : zw (x4 + 2) = x4 + 2 := zw_id (by omega) (by omega)
  have e3 : zw (x4 + 3) = x4 + 3 := zw_id (by omega) (by omega)
  have e4 : zw (x4 + 4) = x4 + 4 := zw_id (by omega) (by omega)
  have e5 : zw (x4 + 5) = x4 + 5 := zw_id (by omega) (by omega)
  have e6 : zw (x4 + 6) = x4 + 6 := zw_id (by omega) (by omega)
  have e7 : zw ((N : Int) - 6) = (N : Int) - 6 := zw_id (by omega) (by omega)
  simp (maxSteps := 3000000) only [↓zlwp_s, zlrun_n, zlrun_c, ↓gL_law_555, ↓gL_law_1246, ↓zp1_c, ↓zpv_c, ↓ztg_e, ↓reduceIte, ↓zl_aload_n, ↓zl_goto, ↓zl_iadd, ↓zl_iaload, ↓zl_iconst, ↓zl_iload, ↓zl_istore, ↓zi_aload_n, ↓zi_goto, ↓zi_iadd, ↓zi_iconst, ↓zi_iload, ↓zi_istore, zcmp_eq, zcmp_ne, zcmp_gt, bL_law_515, ↓zlw_g (cw := zCf WL_law) (q := 134) (h := (rfl : zCf WL_law 134 = some CL_store)), ↓zlv_g (cv := zCf VL_law) (q := 136) (h := (rfl : zCf VL_law 136 = some CX11_store)), List.size_toArray, zent_n, zent_c, zst_e, zfi0, zfi1, zfi2, zfi3, zcast, Nat.reduceAdd, Nat.reduceSub, Nat.reduceEqDiff, Nat.reduceLT, Nat.reduceLeDiff, Int.reduceAdd, Int.reduceSub, Int.reduceMul, Int.reduceToNat, Int.reduceLE, Int.reduceLT, Int.reduceEq, Int.reduceNeg, Int.reduceNegSucc, Nat.reduceMul, List.zip_cons_cons, List.zip_nil_left, List.zip_nil_right, Int.toNat_natCast, true_and, and_true, eq_self, ne_eq, not_false_eq_true, not_true_eq_false, forall_const, implies_true, false_and, true_or, or_true, false_or, or_false, imp_self, and_imp, exists_eq_left, exists_eq_left', exists_eq_right, exists_eq_right', exists_and_left, exists_and_right, Prod.mk.injEq, zAdd_e, zSub_e, zMul_e, zres_0, zres_4, zres_1, zres_9, zrt_0, zrt_4, zrt_1, zrt_9, List.take_succ_cons, List.take_zero, List.drop_succ_cons, List.drop_zero, List.map_cons, List.map_nil, List.reverse_cons, List.reverse_nil, List.nil_append, List.cons_append, List.length_cons, List.length_nil, zPr_c, List.mem_cons, List.not_mem_nil, ↓zIV_e, zcats, List.sum_cons, List.sum_nil, zpu, zfu, zset_e, h0, h1, h2, h3, h4, e1, e2, e3, e4, e5, e6, e7]
  repeat' (first | (with_reducible refine And.intro ?_ ?_) | (with_reducible intro _))
  all_goals (first | trivial | omega | exact hI.1 | exact zInv_i hI | exact zInv_z hI | exact zInv_i (zInv_W hI (by assumption)) | exact zInv_z (zInv_W hI (by assumption)) | (refine zlJ_end hN (by first | exact hL | exact zLh_6 (zLh_5 hL) | exact zLh_5 hL) (zInv_M (zInv_W hI (by assumption)) (by assumption)) hc0 hc1 (by omega) hc3) | (refine zlJ_end hN (by first | exact hL | exact zLh_6 (zLh_5 hL) | exact zLh_5 hL) (zInv_M (zInv_W hI (by assumption)) ⟨by assumption, by assumption⟩) hc0 hc1 (by omega) hc3) | (refine zlJ_end hN (by first | exact hL | exact zLh_6 (zLh_5 hL) | exact zLh_5 hL) (zInv_M hI (by assumption)) hc0 hc1 (by omega) hc3) | skip)
set_option maxHeartbeats 2000000 in
set_option maxRecDepth 100000 in
theorem lL_law_555 (N : Nat) (hN : N ≤ 3072) (xs : Nat → Int) (n k : Nat) (ls : zL) (st : List zV) (mem : zM) (hJ : zlJ N 6 0 1 n k ls st mem) : zlwp N xs zLay (fun _ => none) (zCf VL_law) (zCf WL_law) (fun v _ => v = 1) 7 (zBf BL_law) (zlBelow (zlHf (HL_law N)) n) 20 k 555 ls st mem := by
  obtain ⟨h0, h1, h2, h3, ht4, rfl, hI, hc0, hc1, hc2, hc3⟩ := hJ
  obtain ⟨x4, h4⟩ : ∃ x, ls 4 = (0, x) := ⟨_, Prod.ext ht4 rfl⟩
  simp only [h4] at hc0 hc1 hc2 hc3
  have hL : zLh ls x4 := ⟨h0, h1, h2, h3, h4⟩
  have e1 : zw (x4 + 1) = x4 + 1 := zw_id (by omega) (by omega)
  have e2 : zw (x4 + 2) = x4 + 2 := zw_id (by omega) (by omega)
  have e3 : zw (x4 + 3) = x4 + 3 := zw_id (by omega) (by omega)
  have e4 : zw (x4 + 4) = x4 + 4 := zw_id (by omega) (by omega)
  have e5 : zw (x4 + 5) = x4 + 5 := zw_id (by omega) (by omega)
  have e6 : zw (x4 + 6) = x4 + 6 := zw_id (by omega) (by omega)
  have e7 : zw ((N : Int) - 6) = (N : Int) - 6 := zw_id (by omega) (by omega)
  simp (maxSteps := 3000000) only [↓zlwp_s, zlrun_n, zlrun_c, ↓gL_law_607, ↓gL_law_1246, ↓zp1_c, ↓zpv_c, ↓ztg_e, ↓reduceIte, ↓zl_aload_n, ↓zl_goto, ↓zl_iadd, ↓zl_iaload, ↓zl_iconst, ↓zl_iload, ↓zl_istore, ↓zi_aload_n, ↓zi_goto, ↓zi_iadd, ↓zi_iconst, ↓zi_iload, ↓zi_istore, zcmp_eq, zcmp_ne, zcmp_gt, bL_law_555, ↓zlw_g (cw := zCf WL_law) (q := 137) (h := (rfl : zCf WL_law 137 = some CL_set)), ↓zlv_g (cv := zCf VL_law) (q := 139) (h := (rfl : zCf VL_law 139 = some CX11_set)), List.size_toArray, zent_n, zent_c, zst_e, zfi0, zfi1, zfi2, zfi3, zcast, Nat.reduceAdd, Nat.reduceSub, Nat.reduceEqDiff, Nat.reduceLT, Nat.reduceLeDiff, Int.reduceAdd, Int.reduceSub, Int.reduceMul, Int.reduceToNat, Int.reduceLE, Int.reduceLT, Int.reduceEq, Int.reduceNeg, Int.reduceNegSucc, Nat.reduceMul, List.zip_cons_cons, List.zip_nil_left, List.zip_nil_right, Int.toNat_natCast, true_and, and_true, eq_self, ne_eq, not_false_eq_true, not_true_eq_false, forall_const, implies_true, false_and, true_or, or_true, false_or, or_false, imp_self, and_imp, exists_eq_left, exists_eq_left', exists_eq_right, exists_eq_right', exists_and_left, exists_and_right, Prod.mk.injEq, zAdd_e, zSub_e, zMul_e, zres_0, zres_4, zres_1, zres_9, zrt_0, zrt_4, zrt_1, zrt_9, List.take_succ_cons, List.take_zero, List.drop_succ_cons, List.drop_zero, List.map_cons, List.map_nil, List.reverse_cons, List.reverse_nil, List.nil_append, List.cons_append, List.length_cons, List.length_nil, zPr_c, List.mem_cons, List.not_mem_nil, ↓zIV_e, zcats, List.sum_cons, List.sum_nil, zpu, zfu, zset_e, h0, h1, h2, h3, h4, e1, e2, e3, e4, e5, e6, e7]
  repeat' (first | (with_reducible refine And.intro ?_ ?_) | (with_reducible intro _))
  all_goals (first | trivial | omega | exact hI.1 | exact zInv_i hI | exact zInv_z hI | exact zInv_i (zInv_W hI (by assumption)) | exact zInv_z (zInv_W hI (by assumption)) | (refine zlJ_end hN (by first | exact hL | exact zLh_6 (zLh_5 hL) | exact zLh_5 hL) (zInv_M (zInv_W hI (by assumption)) (by assumption)) hc0 hc1 (by omega) hc3) | (refine zlJ_end hN (by first | exact hL | exact zLh_6 (zLh_5 hL) | exact zLh_5 hL) (zInv_M (zInv_W hI (by assumption)) ⟨by assumption, by assumption⟩) hc0 hc1 (by omega) hc3) | (refine zlJ_end hN (by first | exact hL | exact zLh_6 (zLh_5 hL) | exact zLh_5 hL) (zInv_M hI (by assumption)) hc0 hc1 (by omega) hc3) | skip)
set_option maxHeartbeats 2000000 in
set_option maxRecDepth 100000 in
theorem lL_law_607 (N : Nat) (hN : N ≤ 3072) (xs : Nat → Int) (n k : Nat) (ls : zL) (st : List zV) (mem : zM) (hJ : zlJ N 6 0 1 n k ls st mem) : zlwp N xs zLay (fun _ => none) (zCf VL_law) (zCf WL_law) (fun v _ => v = 1) 7 (zBf BL_law) (zlBelow (zlHf (HL_law N)) n) 20 k 607 ls st mem := by
  obtain ⟨h0, h1, h2, h3, ht4, rfl, hI, hc0, hc1, hc2, hc3⟩ := hJ
  obtain ⟨x4, h4⟩ : ∃ x, ls 4 = (0, x) := ⟨_, Prod.ext ht4 rfl⟩
  simp only [h4] at hc0 hc1 hc2 hc3
  have hL : zLh ls x4 := ⟨h0, h1, h2, h3, h4⟩
  have e1 : zw (x4 + 1) = x4 + 1 := zw_id (by omega) (by omega)
  have e2 : zw (x4 + 2) = x4 + 2 := zw_id (by omega) (by omega)
  have e3 : zw (x4 + 3) = x4 + 3 := zw_id (by omega) (by omega)
  have e4 : zw (x4 + 4) = x4 + 4 := zw_id (by omega) (by omega)
  have e5 : zw (x4 + 5) = x4 + 5 := zw_id (by omega) (by omega)
  have e6 : zw (x4 + 6) = x4 + 6 := zw_id (by omega) (by omega)
  have e7 : zw ((N : Int) - 6) = (N : Int) - 6 := zw_id (by omega) (by omega)
  simp (maxSteps := 3000000) only [↓zlwp_s, zlrun_n, zlrun_c, ↓gL_law_623, ↓gL_law_1246, ↓zp1_c, ↓zpv_c, ↓ztg_e, ↓reduceIte, ↓zl_aload_n, ↓zl_goto, ↓zl_istore, ↓zi_aload_n, ↓zi_goto, ↓zi_istore, zcmp_eq, zcmp_ne, zcmp_gt, bL_law_607, ↓zlw_g (cw := zCf WL_law) (q := 140) (h := (rfl : zCf WL_law 140 = some CL_lift)), ↓zlv_g (cv := zCf VL_law) (q := 142) (h := (rfl : zCf VL_law 142 = some CX11_lift)), List.size_toArray, zent_n, zent_c, zst_e, zfi0, zfi1, zfi2, zfi3, zcast, Nat.reduceAdd, Nat.reduceSub, Nat.reduceEqDiff, Nat.reduceLT, Nat.reduceLeDiff, Int.reduceAdd, Int.reduceSub, Int.reduceMul, Int.reduceToNat, Int.reduceLE, Int.reduceLT, Int.reduceEq, Int.reduceNeg, Int.reduceNegSucc, Nat.reduceMul, List.zip_cons_cons, List.zip_nil_left, List.zip_nil_right, Int.toNat_natCast, true_and, and_true, eq_self, ne_eq, not_false_eq_true, not_true_eq_false, forall_const, implies_true, false_and, true_or, or_true, false_or, or_false, imp_self, and_imp, exists_eq_left, exists_eq_left', exists_eq_right, exists_eq_right', exists_and_left, exists_and_right, Prod.mk.injEq, zAdd_e, zSub_e, zMul_e, zres_0, zres_4, zres_1, zres_9, zrt_0, zrt_4, zrt_1, zrt_9, List.take_succ_cons, List.take_zero, List.drop_succ_cons, List.drop_zero, List.map_cons, List.map_nil, List.reverse_cons, List.reverse_nil, List.nil_append, List.cons_append, List.length_cons, List.length_nil, zPr_c, List.mem_cons, List.not_mem_nil, ↓zIV_e, zcats, List.sum_cons, List.sum_nil, zpu, zfu, zset_e, h0, h1, h2, h3, h4, e1, e2, e3, e4, e5, e6, e7]
  repeat' (first | (with_reducible refine And.intro ?_ ?_) | (with_reducible intro _))
  all_goals (first | trivial | omega | exact hI.1 | exact zInv_i hI | exact zInv_z hI | exact zInv_i (zInv_W hI (by assumption)) | exact zInv_z (zInv_W hI (by assumption)) | (refine zlJ_end hN (by first | exact hL | exact zLh_6 (zLh_5 hL) | exact zLh_5 hL) (zInv_M (zInv_W hI (by assumption)) (by assumption)) hc0 hc1 (by omega) hc3) | (refine zlJ_end hN (by first | exact hL | exact zLh_6 (zLh_5 hL) | exact zLh_5 hL) (zInv_M (zInv_W hI (by assumption)) ⟨by assumption, by assumption⟩) hc0 hc1 (by omega) hc3) | (refine zlJ_end hN (by first | exact hL | exact zLh_6 (zLh_5 hL) | exact zLh_5 hL) (zInv_M hI (by assumption)) hc0 hc1 (by omega) hc3) | skip)
set_option maxHeartbeats 2000000 in
set_option maxRecDepth 100000 in
theorem lL_law_623 (N : Nat) (hN : N ≤ 3072) (xs : Nat → Int) (n k : Nat) (ls : zL) (st : List zV) (mem : zM) (hJ : zlJ N 6 0 1 n k ls st mem) : zlwp N xs zLay (fun _ => none) (zCf VL_law) (zCf WL_law) (fun v _ => v = 1) 7 (zBf BL_law) (zlBelow (zlHf (HL_law N)) n) 20 k 623 ls st mem := by
  obtain ⟨h0, h1, h2, h3, ht4, rfl, hI, hc0, hc1, hc2, hc3⟩ := hJ
  obtain ⟨x4, h4⟩ : ∃ x, ls 4 = (0, x) := ⟨_, Prod.ext ht4 rfl⟩
  simp only [h4] at hc0 hc1 hc2 hc3
  have hL : zLh ls x4 := ⟨h0, h1, h2, h3, h4⟩
  have e1 : zw (x4 + 1) = x4 + 1 := zw_id (by omega) (by omega)
  have e2 : zw (x4 + 2) = x4 + 2 := zw_id (by omega) (by omega)
  have e3 : zw (x4 + 3) = x4 + 3 := zw_id (by omega) (by omega)
  have e4 : zw (x4 + 4) = x4 + 4 := zw_id (by omega) (by omega)
  have e5 : zw (x4 + 5) = x4 + 5 := zw_id (by omega) (by omega)
  have e6 : zw (x4 + 6) = x4 + 6 := zw_id (by omega) (by omega)
  have e7 : zw ((N : Int) - 6) = (N : Int) - 6 := zw_id (by omega) (by omega)
  simp (maxSteps := 3000000) only [↓zlwp_s, zlrun_n, zlrun_c, ↓gL_law_651, ↓gL_law_1246, ↓zp1_c, ↓zpv_c, ↓ztg_e, ↓reduceIte, ↓zl_aload_n, ↓zl_goto, ↓zl_iadd, ↓zl_iaload, ↓zl_iconst, ↓zl_iload, ↓zl_istore, ↓zi_aload_n, ↓zi_goto, ↓zi_iadd, ↓zi_iconst, ↓zi_iload, ↓zi_istore, zcmp_eq, zcmp_ne, zcmp_gt, bL_law_623, ↓zlw_g (cw := zCf WL_law) (q := 143) (h := (rfl : zCf WL_law 143 = some CL_lay)), ↓zlv_g (cv := zCf VL_law) (q := 145) (h := (rfl : zCf VL_law 145 = some CX11_lay)), List.size_toArray, zent_n, zent_c, zst_e, zfi0, zfi1, zfi2, zfi3, zcast, Nat.reduceAdd, Nat.reduceSub, Nat.reduceEqDiff, Nat.reduceLT, Nat.reduceLeDiff, Int.reduceAdd, Int.reduceSub, Int.reduceMul, Int.reduceToNat, Int.reduceLE, Int.reduceLT, Int.reduceEq, Int.reduceNeg, Int.reduceNegSucc, Nat.reduceMul, List.zip_cons_cons, List.zip_nil_left, List.zip_nil_right, Int.toNat_natCast, true_and, and_true, eq_self, ne_eq, not_false_eq_true, not_true_eq_false, forall_const, implies_true, false_and, true_or, or_true, false_or, or_false, imp_self, and_imp, exists_eq_left, exists_eq_left', exists_eq_right, exists_eq_right', exists_and_left, exists_and_right, Prod.mk.injEq, zAdd_e, zSub_e, zMul_e, zres_0, zres_4, zres_1, zres_9, zrt_0, zrt_4, zrt_1, zrt_9, List.take_succ_cons, List.take_zero, List.drop_succ_cons, List.drop_zero, List.map_cons, List.map_nil, List.reverse_cons, List.reverse_nil, List.nil_append, List.cons_append, List.length_cons, List.length_nil, zPr_c, List.mem_cons, List.not_mem_nil, ↓zIV_e, zcats, List.sum_cons, List.sum_nil, zpu, zfu, zset_e, h0, h1, h2, h3, h4, e1, e2, e3, e4, e5, e6, e7]
  repeat' (first | (with_reducible refine And.intro ?_ ?_) | (with_reducible intro _))
  all_goals (first | trivial | omega | exact hI.1 | exact zInv_i hI | exact zInv_z hI | exact zInv_i (zInv_W hI (by assumption)) | exact zInv_z (zInv_W hI (by assumption)) | (refine zlJ_end hN (by first | exact hL | exact zLh_6 (zLh_5 hL) | exact zLh_5 hL) (zInv_M (zInv_W hI (by assumption)) (by assumption)) hc0 hc1 (by omega) hc3) | (refine zlJ_end hN (by first | exact hL | exact zLh_6 (zLh_5 hL) | exact zLh_5 hL) (zInv_M (zInv_W hI (by assumption)) ⟨by assumption, by assumption⟩) hc0 hc1 (by omega) hc3) | (refine zlJ_end hN (by first | exact hL | exact zLh_6 (zLh_5 hL) | exact zLh_5 hL) (zInv_M hI (by assumption)) hc0 hc1 (by omega) hc3) | skip)
set_option maxHeartbeats 2000000 in
set_option maxRecDepth 100000 in
theorem lL_law_651 (N : Nat) (hN : N ≤ 3072) (xs : Nat → Int) (n k : Nat) (ls : zL) (st : List zV) (mem : zM) (hJ : zlJ N 6 0 1 n k ls st mem) : zlwp N xs zLay (fun _ => none) (zCf VL_law) (zCf WL_law) (fun v _ => v = 1) 7 (zBf BL_law) (zlBelow (zlHf (HL_law N)) n) 20 k 651 ls st mem := by
  obtain ⟨h0, h1, h2, h3, ht4, rfl, hI, hc0, hc1, hc2, hc3⟩ := hJ
  obtain ⟨x4, h4⟩ : ∃ x, ls 4 = (0, x) := ⟨_, Prod.ext ht4 rfl⟩
  simp only [h4] at hc0 hc1 hc2 hc3
  have hL : zLh ls x4 := ⟨h0, h1, h2, h3, h4⟩
  have e1 : zw (x4 + 1) = x4 + 1 := zw_id (by omega) (by omega)
  have e2 : zw (x4 + 2) = x4 + 2 := zw_id (by omega) (by omega)
  have e3 : zw (x4 + 3) = x4 + 3 := zw_id (by omega) (by omega)
  have e4 : zw (x4 + 4) = x4 + 4 := zw_id (by omega) (by omega)
  have e5 : zw (x4 + 5) = x4 + 5 := zw_id (by omega) (by omega)
  have e6 : zw (x4 + 6) = x4 + 6 := zw_id (by omega) (by omega)
  have e7 : zw ((N : Int) - 6) = (N : Int) - 6 := zw_id (by omega) (by omega)
  simp (maxSteps := 3000000) only [↓zlwp_s, zlrun_n, zlrun_c, ↓gL_law_665, ↓gL_law_666, ↓gL_law_686, ↓gL_law_687, ↓gL_law_695, ↓gL_law_1246, ↓zp1_c, ↓zpv_c, ↓ztg_e, ↓reduceIte, ↓zl_aload_n, ↓zl_goto, ↓zl_iadd, ↓zl_iaload, ↓zl_iconst, ↓zl_ifCond, ↓zl_iload, ↓zl_istore, ↓zi_aload_n, ↓zi_goto, ↓zi_iadd, ↓zi_iconst, ↓zi_ifCond, ↓zi_iload, ↓zi_istore, zcmp_eq, zcmp_ne, zcmp_gt, bL_law_651, bL_law_665, bL_law_666, bL_law_686, bL_law_687, ↓zlw_g (cw := zCf WL_law) (q := 146) (h := (rfl : zCf WL_law 146 = some CL_go)), ↓zlv_g (cv := zCf VL_law) (q := 149) (h := (rfl : zCf VL_law 149 = some CX11_go)), List.size_toArray, zent_n, zent_c, zst_e, zfi0, zfi1, zfi2, zfi3, zcast, Nat.reduceAdd, Nat.reduceSub, Nat.reduceEqDiff, Nat.reduceLT, Nat.reduceLeDiff, Int.reduceAdd, Int.reduceSub, Int.reduceMul, Int.reduceToNat, Int.reduceLE, Int.reduceLT, Int.reduceEq, Int.reduceNeg, Int.reduceNegSucc, Nat.reduceMul, List.zip_cons_cons, List.zip_nil_left, List.zip_nil_right, Int.toNat_natCast, true_and, and_true, eq_self, ne_eq, not_false_eq_true, not_true_eq_false, forall_const, implies_true, false_and, true_or, or_true, false_or, or_false, imp_self, and_imp, exists_eq_left, exists_eq_left', exists_eq_right, exists_eq_right', exists_and_left, exists_and_right, Prod.mk.injEq, zAdd_e, zSub_e, zMul_e, zres_0, zres_4, zres_1, zres_9, zrt_0, zrt_4, zrt_1, zrt_9, List.take_succ_cons, List.take_zero, List.drop_succ_cons, List.drop_zero, List.map_cons, List.map_nil, List.reverse_cons, List.reverse_nil, List.nil_append, List.cons_append, List.length_cons, List.length_nil, zPr_c, List.mem_cons, List.not_mem_nil, ↓zIV_e, zcats, List.sum_cons, List.sum_nil, zpu, zfu, zset_e, h0, h1, h2, h3, h4, e1, e2, e3, e4, e5, e6, e7]
  repeat' (first | (with_reducible refine And.intro ?_ ?_) | (with_reducible intro _))
  all_goals (first | trivial | omega | exact hI.1 | exact zInv_i hI | exact zInv_z hI | exact zInv_i (zInv_W hI (by assumption)) | exact zInv_z (zInv_W hI (by assumption)) | (refine zlJ_end hN (by first | exact hL | exact zLh_6 (zLh_5 hL) | exact zLh_5 hL) (zInv_M (zInv_W hI (by assumption)) (by assumption)) hc0 hc1 (by omega) hc3) | (refine zlJ_end hN (by first | exact hL | exact zLh_6 (zLh_5 hL) | exact zLh_5 hL) (zInv_M (zInv_W hI (by assumption)) ⟨by assumption, by assumption⟩) hc0 hc1 (by omega) hc3) | (refine zlJ_end hN (by first | exact hL | exact zLh_6 (zLh_5 hL) | exact zLh_5 hL) (zInv_M hI (by assumption)) hc0 hc1 (by omega) hc3) | skip)
set_option maxHeartbeats 2000000 in
set_option maxRecDepth 100000 in
theorem lL_law_695 (N : Nat) (hN : N ≤ 3072) (xs : Nat → Int) (n k : Nat) (ls : zL) (st : List zV) (mem : zM) (hJ : zlJ N 6 0 1 n k ls st mem) : zlwp N xs zLay (fun _ => none) (zCf VL_law) (zCf WL_law) (fun v _ => v = 1) 7 (zBf BL_law) (zlBelow (zlHf (HL_law N)) n) 20 k 695 ls st mem := by
  obtain ⟨h0, h1, h2, h3, ht4, rfl, hI, hc0, hc1, hc2, hc3⟩ := hJ
  obtain ⟨x4, h4⟩ : ∃ x, ls 4 = (0, x) := ⟨_, Prod.ext ht4 rfl⟩
  simp only [h4] at hc0 hc1 hc2 hc3
  have hL : zLh ls x4 := ⟨h0, h1, h2, h3, h4⟩
  have e1 : zw (x4 + 1) = x4 + 1 := zw_id (by omega) (by omega)
  have e2 : zw (x4 + 2) = x4 + 2 := zw_id (by omega) (by omega)
  have e3 : zw (x4 + 3) = x4 + 3 := zw_id (by omega) (by omega)
  have e4 : zw (x4 + 4) = x4 + 4 := zw_id (by omega) (by omega)
  have e5 : zw (x4 + 5) = x4 + 5 := zw_id (by omega) (by omega)
  have e6 : zw (x4 + 6) = x4 + 6 := zw_id (by omega) (by omega)
  have e7 : zw ((N : Int) - 6) = (N : Int) - 6 := zw_id (by omega) (by omega)
  simp (maxSteps := 3000000) only [↓zlwp_s, zlrun_n, zlrun_c, ↓gL_law_711, ↓gL_law_1246, ↓zp1_c, ↓zpv_c, ↓ztg_e, ↓reduceIte, ↓zl_aload_n, ↓zl_goto, ↓zl_istore, ↓zi_aload_n, ↓zi_goto, ↓zi_istore, zcmp_eq, zcmp_ne, zcmp_gt, bL_law_695, ↓zlw_g (cw := zCf WL_law) (q := 150) (h := (rfl : zCf WL_law 150 = some CL_fill)), ↓zlv_g (cv := zCf VL_law) (q := 152) (h := (rfl : zCf VL_law 152 = some CX11_fill)), List.size_toArray, zent_n, zent_c, zst_e, zfi0, zfi1, zfi2, zfi3, zcast, Nat.reduceAdd, Nat.reduceSub, Nat.reduceEqDiff, Nat.reduceLT, Nat.reduceLeDiff, Int.reduceAdd, Int.reduceSub, Int.reduceMul, Int.reduceToNat, Int.reduceLE, Int.reduceLT, Int.reduceEq, Int.reduceNeg, Int.reduceNegSucc, Nat.reduceMul, List.zip_cons_cons, List.zip_nil_left, List.zip_nil_right, Int.toNat_natCast, true_and, and_true, eq_self, ne_eq, not_false_eq_true, not_true_eq_false, forall_const, implies_true, false_and, true_or, or_true, false_or, or_false, imp_self, and_imp, exists_eq_left, exists_eq_left', exists_eq_right, exists_eq_right', exists_and_left, exists_and_right, Prod.mk.injEq, zAdd_e, zSub_e, zMul_e, zres_0, zres_4, zres_1, zres_9, zrt_0, zrt_4, zrt_1, zrt_9, List.take_succ_cons, List.take_zero, List.drop_succ_cons, List.drop_zero, List.map_cons, List.map_nil, List.reverse_cons, List.reverse_nil, List.nil_append, List.cons_append, List.length_cons, List.length_nil, zPr_c, List.mem_cons, List.not_mem_nil, ↓zIV_e, zcats, List.sum_cons, List.sum_nil, zpu, zfu, zset_e, h0, h1, h2, h3, h4, e1, e2, e3, e4, e5, e6, e7]
  repeat' (first | (with_reducible refine And.intro ?_ ?_) | (with_reducible intro _))
  all_goals (first | trivial | omega | exact hI.1 | exact zInv_i hI | exact zInv_z hI | exact zInv_i (zInv_W hI (by assumption)) | exact zInv_z (zInv_W hI (by assumption)) | (refine zlJ_end hN (by first | exact hL | exact zLh_6 (zLh_5 hL) | exact zLh_5 hL) (zInv_M (zInv_W hI (by assumption)) (by assumption)) hc0 hc1 (by omega) hc3) | (refine zlJ_end hN (by first | exact hL | exact zLh_6 (zLh_5 hL) | exact zLh_5 hL) (zInv_M (zInv_W hI (by assumption)) ⟨by assumption, by assumption⟩) hc0 hc1 (by omega) hc3) | (refine zlJ_end hN (by first | exact hL | exact zLh_6 (zLh_5 hL) | exact zLh_5 hL) (zInv_M hI (by assumption)) hc0 hc1 (by omega) hc3) | skip)
set_option maxHeartbeats 2000000 in
set_option maxRecDepth 100000 in
theorem lL_law_711 (N : Nat) (hN : N ≤ 3072) (xs : Nat → Int) (n k : Nat) (ls : zL) (st : List zV) (mem : zM) (hJ : zlJ N 6 0 1 n k ls st mem) : zlwp N xs zLay (fun _ => none) (zCf VL_law) (zCf WL_law) (fun v _ => v = 1) 7 (zBf BL_law) (zlBelow (zlHf (HL_law N)) n) 20 k 711 ls st mem := by
  obtain ⟨h0, h1, h2, h3, ht4, rfl, hI, hc0, hc1, hc2, hc3⟩ := hJ
  obtain ⟨x4, h4⟩ : ∃ x, ls 4 = (0, x) := ⟨_, Prod.ext ht4 rfl⟩
  simp only [h4] at hc0 hc1 hc2 hc3
  have hL : zLh ls x4 := ⟨h0, h1, h2, h3, h4⟩
  have e1 : zw (x4 + 1) = x4 + 1 := zw_id (by omega) (by omega)
  have e2 : zw (x4 + 2) = x4 + 2 := zw_id (by omega) (by omega)
  have e3 : zw (x4 + 3) = x4 + 3 := zw_id (by omega) (by omega)
  have e4 : zw (x4 + 4) = x4 + 4 := zw_id (by omega) (by omega)
  have e5 : zw (x4 + 5) = x4 + 5 := zw_id (by omega) (by omega)
  have e6 : zw (x4 + 6) = x4 + 6 := zw_id (by omega) (by omega)
  have e7 : zw ((N : Int) - 6) = (N : Int) - 6 := zw_id (by omega) (by omega)
  simp (maxSteps := 3000000) only [↓zlwp_s, zlrun_n, zlrun_c, ↓gL_law_727, ↓gL_law_1246, ↓zp1_c, ↓zpv_c, ↓ztg_e, ↓reduceIte, ↓zl_aload_n, ↓zl_goto, ↓zl_istore, ↓zi_aload_n, ↓zi_goto, ↓zi_istore, zcmp_eq, zcmp_ne, zcmp_gt, bL_law_711, ↓zlw_g (cw := zCf WL_law) (q := 153) (h := (rfl : zCf WL_law 153 = some CL_dig)), ↓zlv_g (cv := zCf VL_law) (q := 155) (h := (rfl : zCf VL_law 155 = some CX11_dig)), List.size_toArray, zent_n, zent_c, zst_e, zfi0, zfi1, zfi2, zfi3, zcast, Nat.reduceAdd, Nat.reduceSub, Nat.reduceEqDiff, Nat.reduceLT, Nat.reduceLeDiff, Int.reduceAdd, Int.reduceSub, Int.reduceMul, Int.reduceToNat, Int.reduceLE, Int.reduceLT, Int.reduceEq, Int.reduceNeg, Int.reduceNegSucc, Nat.reduceMul, List.zip_cons_cons, List.zip_nil_left, List.zip_nil_right, Int.toNat_natCast, true_and, and_true, eq_self, ne_eq, not_false_eq_true, not_true_eq_false, forall_const, implies_true, false_and, true_or, or_true, false_or, or_false, imp_self, and_imp, exists_eq_left, exists_eq_left', exists_eq_right, exists_eq_right', exists_and_left, exists_and_right, Prod.mk.injEq, zAdd_e, zSub_e, zMul_e, zres_0, zres_4, zres_1, zres_9, zrt_0, zrt_4, zrt_1, zrt_9, List.take_succ_cons, List.take_zero, List.drop_succ_cons, List.drop_zero, List.map_cons, List.map_nil, List.reverse_cons, List.reverse_nil, List.nil_append, List.cons_append, List.length_cons, List.length_nil, zPr_c, List.mem_cons, List.not_mem_nil, ↓zIV_e, zcats, List.sum_cons, List.sum_nil, zpu, zfu, zset_e, h0, h1, h2, h3, h4, e1, e2, e3, e4, e5, e6, e7]
  repeat' (first | (with_reducible refine And.intro ?_ ?_) | (with_reducible intro _))
  all_goals (first | trivial | omega | exact hI.1 | exact zInv_i hI | exact zInv_z hI | exact zInv_i (zInv_W hI (by assumption)) | exact zInv_z (zInv_W hI (by assumption)) | (refine zlJ_end hN (by first | exact hL | exact zLh_6 (zLh_5 hL) | exact zLh_5 hL) (zInv_M (zInv_W hI (by assumption)) (by assumption)) hc0 hc1 (by omega) hc3) | (refine zlJ_end hN (by first | exact hL | exact zLh_6 (zLh_5 hL) | exact zLh_5 hL) (zInv_M (zInv_W hI (by assumption)) ⟨by assumption, by assumption⟩) hc0 hc1 (by omega) hc3) | (refine zlJ_end hN (by first | exact hL | exact zLh_6 (zLh_5 hL) | exact zLh_5 hL) (zInv_M hI (by assumption)) hc0 hc1 (by omega) hc3) | skip)
set_option maxHeartbeats 2000000 in
set_option maxRecDepth 100000 in
theorem lL_law_727 (N : Nat) (hN : N ≤ 3072) (xs : Nat → Int) (n k : Nat) (ls : zL) (st : List zV) (mem : zM) (hJ : zlJ N 6 0 1 n k ls st mem) : zlwp N xs zLay (fun _ => none) (zCf VL_law) (zCf WL_law) (fun v _ => v = 1) 7 (zBf BL_law) (zlBelow (zlHf (HL_law N)) n) 20 k 727 ls st mem := by
  obtain ⟨h0, h1, h2, h3, ht4, rfl, hI, hc0, hc1, hc2, hc3⟩ := hJ
  obtain ⟨x4, h4⟩ : ∃ x, ls 4 = (0, x) := ⟨_, Prod.ext ht4 rfl⟩
  simp only [h4] at hc0 hc1 hc2 hc3
  have hL : zLh ls x4 := ⟨h0, h1, h2, h3, h4⟩
  have e1 : zw (x4 + 1) = x4 + 1 := zw_id (by omega) (by omega)
  have e2 : zw (x4 + 2) = x4 + 2 := zw_id (by omega) (by omega)
  have e3 : zw (x4 + 3) = x4 + 3 := zw_id (by omega) (by omega)
  have e4 : zw (x4 + 4) = x4 + 4 := zw_id (by omega) (by omega)
  have e5 : zw (x4 + 5) = x4 + 5 := zw_id (by omega) (by omega)
  have e6 : zw (x4 + 6) = x4 + 6 := zw_id (by omega) (by omega)
  have e7 : zw ((N : Int) - 6) = (N : Int) - 6 := zw_id (by omega) (by omega)
  simp (maxSteps := 3000000) only [↓zlwp_s, zlrun_n, zlrun_c, ↓gL_law_755, ↓gL_law_1246, ↓zp1_c, ↓zpv_c, ↓ztg_e, ↓reduceIte, ↓zl_aload_n, ↓zl_goto, ↓zl_iadd, ↓zl_iaload, ↓zl_iconst, ↓zl_iload, ↓zl_istore, ↓zi_aload_n, ↓zi_goto, ↓zi_iadd, ↓zi_iconst, ↓zi_iload, ↓zi_istore, zcmp_eq, zcmp_ne, zcmp_gt, bL_law_727, ↓zlw_g (cw := zCf WL_law) (q := 156) (h := (rfl : zCf WL_law 156 = some CL_rest)), ↓zlv_g (cv := zCf VL_law) (q := 158) (h := (rfl : zCf VL_law 158 = some CX11_rest)), List.size_toArray, zent_n, zent_c, zst_e, zfi0, zfi1, zfi2, zfi3, zcast, Nat.reduceAdd, Nat.reduceSub, Nat.reduceEqDiff, Nat.reduceLT, Nat.reduceLeDiff, Int.reduceAdd, Int.reduceSub, Int.reduceMul, Int.reduceToNat, Int.reduceLE, Int.reduceLT, Int.reduceEq, Int.reduceNeg, Int.reduceNegSucc, Nat.reduceMul, List.zip_cons_cons, List.zip_nil_left, List.zip_nil_right, Int.toNat_natCast, true_and, and_true, eq_self, ne_eq, not_false_eq_true, not_true_eq_false, forall_const, implies_true, false_and, true_or, or_true, false_or, or_false, imp_self, and_imp, exists_eq_left, exists_eq_left', exists_eq_right, exists_eq_right', exists_and_left, exists_and_right, Prod.mk.injEq, zAdd_e, zSub_e, zMul_e, zres_0, zres_4, zres_1, zres_9, zrt_0, zrt_4, zrt_1, zrt_9, List.take_succ_cons, List.take_zero, List.drop_succ_cons, List.drop_zero, List.map_cons, List.map_nil, List.reverse_cons, List.reverse_nil, List.nil_append, List.cons_append, List.length_cons, List.length_nil, zPr_c, List.mem_cons, List.not_mem_nil, ↓zIV_e, zcats, List.sum_cons, List.sum_nil, zpu, zfu, zset_e, h0, h1, h2, h3, h4, e1, e2, e3, e4, e5, e6, e7]
  repeat' (first | (with_reducible refine And.intro ?_ ?_) | (with_reducible intro _))
  all_goals (first | trivial | omega | exact hI.1 | exact zInv_i hI | exact zInv_z hI | exact zInv_i (zInv_W hI (by assumption)) | exact zInv_z (zInv_W hI (by assumption)) | (refine zlJ_end hN (by first | exact hL | exact zLh_6 (zLh_5 hL) | exact zLh_5 hL) (zInv_M (zInv_W hI (by assumption)) (by assumption)) hc0 hc1 (by omega) hc3) | (refine zlJ_end hN (by first | exact hL | exact zLh_6 (zLh_5 hL) | exact zLh_5 hL) (zInv_M (zInv_W hI (by assumption)) ⟨by assumption, by assumption⟩) hc0 hc1 (by omega) hc3) | (refine zlJ_end hN (by first | exact hL | exact zLh_6 (zLh_5 hL) | exact zLh_5 hL) (zInv_M hI (by assumption)) hc0 hc1 (by omega) hc3) | skip)
set_option maxHeartbeats 2000000 in
set_option maxRecDepth 100000 in
theorem lL_law_755 (N : Nat) (hN : N ≤ 3072) (xs : Nat → Int) (n k : Nat) (ls : zL) (st : List zV) (mem : zM) (hJ : zlJ N 6 0 1 n k ls st mem) : zlwp N xs zLay (fun _ => none) (zCf VL_law) (zCf WL_law) (fun v _ => v = 1) 7 (zBf BL_law) (zlBelow (zlHf (HL_law N)) n) 20 k 755 ls st mem := by
  obtain ⟨h0, h1, h2, h3, ht4, rfl, hI, hc0, hc1, hc2, hc3⟩ := hJ
  obtain ⟨x4, h4⟩ : ∃ x, ls 4 = (0, x) := ⟨_, Prod.ext ht4 rfl⟩
  simp only [h4] at hc0 hc1 hc2 hc3
  have hL : zLh ls x4 := ⟨h0, h1, h2, h3, h4⟩
  have e1 : zw (x4 + 1) = x4 + 1 := zw_id (by omega) (by omega)
  have e2 : zw (x4 + 2) = x4 + 2 := zw_id (by omega) (by omega)
  have e3 : zw (x4 + 3) = x4 + 3 := zw_id (by omega) (by omega)
  have e4 : zw (x4 + 4) = x4 + 4 := zw_id (by omega) (by omega)
  have e5 : zw (x4 + 5) = x4 + 5 := zw_id (by omega) (by omega)
  have e6 : zw (x4 + 6) = x4 + 6 := zw_id (by omega) (by omega)
  have e7 : zw ((N : Int) - 6) = (N : Int) - 6 := zw_id (by omega) (by omega)
  simp (maxSteps := 3000000) only [↓zlwp_s, zlrun_n, zlrun_c, ↓gL_law_795, ↓gL_law_1246, ↓zp1_c, ↓zpv_c, ↓ztg_e, ↓reduceIte, ↓zl_aload_n, ↓zl_goto, ↓zl_iadd, ↓zl_iaload, ↓zl_iconst, ↓zl_iload, ↓zl_istore, ↓zi_aload_n, ↓zi_goto, ↓zi_iadd, ↓zi_iconst, ↓zi_iload, ↓zi_istore, zcmp_eq, zcmp_ne, zcmp_gt, bL_law_755, ↓zlw_g (cw := zCf WL_law) (q := 159) (h := (rfl : zCf WL_law 159 = some CL_run)), ↓zlv_g (cv := zCf VL_law) (q := 161) (h := (rfl : zCf VL_law 161 = some CX11_run)), List.size_toArray, zent_n, zent_c, zst_e, zfi0, zfi1, zfi2, zfi3, zcast, Nat.reduceAdd, Nat.reduceSub, Nat.reduceEqDiff, Nat.reduceLT, Nat.reduceLeDiff, Int.reduceAdd, Int.reduceSub, Int.reduceMul, Int.reduceToNat, Int.reduceLE, Int.reduceLT, Int.reduceEq, Int.reduceNeg, Int.reduceNegSucc, Nat.reduceMul, List.zip_cons_cons, List.zip_nil_left, List.zip_nil_right, Int.toNat_natCast, true_and, and_true, eq_self, ne_eq, not_false_eq_true, not_true_eq_false, forall_const, implies_true, false_and, true_or, or_true, false_or, or_false, imp_self, and_imp, exists_eq_left, exists_eq_left', exists_eq_right, exists_eq_right', exists_and_left, exists_and_right, Prod.mk.injEq, zAdd_e, zSub_e, zMul_e, zres_0, zres_4, zres_1, zres_9, zrt_0, zrt_4, zrt_1, zrt_9, List.take_succ_cons, List.take_zero, List.drop_succ_cons, List.drop_zero, List.map_cons, List.map_nil, List.reverse_cons, List.reverse_nil, List.nil_append, List.cons_append, List.length_cons, List.length_nil, zPr_c, List.mem_cons, List.not_mem_nil, ↓zIV_e, zcats, List.sum_cons, List.sum_nil, zpu, zfu, zset_e, h0, h1, h2, h3, h4, e1, e2, e3, e4, e5, e6, e7]
  repeat' (first | (with_reducible refine And.intro ?_ ?_) | (with_reducible intro _))
  all_goals (first | trivial | omega | exact hI.1 | exact zInv_i hI | exact zInv_z hI | exact zInv_i (zInv_W hI (by assumption)) | exact zInv_z (zInv_W hI (by assumption)) | (refine zlJ_end hN (by first | exact hL | exact zLh_6 (zLh_5 hL) | exact zLh_5 hL) (zInv_M (zInv_W hI (by assumption)) (by assumption)) hc0 hc1 (by omega) hc3) | (refine zlJ_end hN (by first | exact hL | exact zLh_6 (zLh_5 hL) | exact zLh_5 hL) (zInv_M (zInv_W hI (by assumption)) ⟨by assumption, by assumption⟩) hc0 hc1 (by omega) hc3) | (refine zlJ_end hN (by first | exact hL | exact zLh_6 (zLh_5 hL) | exact zLh_5 hL) (zInv_M hI (by assumption)) hc0 hc1 (by omega) hc3) | skip)
set_option maxHeartbeats 2000000 in
set_option maxRecDepth 100000 in
theorem lL_law_795 (N : Nat) (hN : N ≤ 3072) (xs : Nat → Int) (n k : Nat) (ls : zL) (st : List zV) (mem : zM) (hJ : zlJ N 6 0 1 n k ls st mem) : zlwp N xs zLay (fun _ => none) (zCf VL_law) (zCf WL_law) (fun v _ => v = 1) 7 (zBf BL_law) (zlBelow (zlHf (HL_law N)) n) 20 k 795 ls st mem := by
  obtain ⟨h0, h1, h2, h3, ht4, rfl, hI, hc0, hc1, hc2, hc3⟩ := hJ
  obtain ⟨x4, h4⟩ : ∃ x, ls 4 = (0, x) := ⟨_, Prod.ext ht4 rfl⟩
  simp only [h4] at hc0 hc1 hc2 hc3
  have hL : zLh ls x4 := ⟨h0, h1, h2, h3, h4⟩
  have e1 : zw (x4 + 1) = x4 + 1 := zw_id (by omega) (by omega)
  have e2 : zw (x4 + 2) = x4 + 2 := zw_id (by omega) (by omega)
  have e3 : zw (x4 + 3) = x4 + 3 := zw_id (by omega) (by omega)
  have e4 : zw (x4 + 4) = x4 + 4 := zw_id (by omega) (by omega)
  have e5 : zw (x4 + 5) = x4 + 5 := zw_id (by omega) (by omega)
  have e6 : zw (x4 + 6) = x4 + 6 := zw_id (by omega) (by omega)
  have e7 : zw ((N : Int) - 6) = (N : Int) - 6 := zw_id (by omega) (by omega)
  simp (maxSteps := 3000000) only [↓zlwp_s, zlrun_n, zlrun_c, ↓gL_law_808, ↓gL_law_1246, ↓zp1_c, ↓zpv_c, ↓ztg_e, ↓reduceIte, ↓zl_aload_n, ↓zl_goto, ↓zl_pop, ↓zi_aload_n, ↓zi_goto, ↓zi_pop, zcmp_eq, zcmp_ne, zcmp_gt, bL_law_795, ↓zlv_p (cv := zCf VL_law) (q := 162) (h := (rfl : zCf VL_law 162 = some CX10_where)), ↓zlv_g (cv := zCf VL_law) (q := 165) (h := (rfl : zCf VL_law 165 = some CX11_where)), List.size_toArray, zent_n, zent_c, zst_e, zfi0, zfi1, zfi2, zfi3, zcast, Nat.reduceAdd, Nat.reduceSub, Nat.reduceEqDiff, Nat.reduceLT, Nat.reduceLeDiff, Int.reduceAdd, Int.reduceSub, Int.reduceMul, Int.reduceToNat, Int.reduceLE, Int.reduceLT, Int.reduceEq, Int.reduceNeg, Int.reduceNegSucc, Nat.reduceMul, List.zip_cons_cons, List.zip_nil_left, List.zip_nil_right, Int.toNat_natCast, true_and, and_true, eq_self, ne_eq, not_false_eq_true, not_true_eq_false, forall_const, implies_true, false_and, true_or, or_true, false_or, or_false, imp_self, and_imp, exists_eq_left, exists_eq_left', exists_eq_right, exists_eq_right', exists_and_left, exists_and_right, Prod.mk.injEq, zAdd_e, zSub_e, zMul_e, zres_0, zres_4, zres_1, zres_9, zrt_0, zrt_4, zrt_1, zrt_9, List.take_succ_cons, List.take_zero, List.drop_succ_cons, List.drop_zero, List.map_cons, List.map_nil, List.reverse_cons, List.reverse_nil, List.nil_append, List.cons_append, List.length_cons, List.length_nil, zPr_c, List.mem_cons, List.not_mem_nil, ↓zIV_e, zcats, List.sum_cons, List.sum_nil, zpu, zfu, zset_e, h0, h1, h2, h3, h4, e1, e2, e3, e4, e5, e6, e7]
  repeat' (first | (with_reducible refine And.intro ?_ ?_) | (with_reducible intro _))
  all_goals (first | trivial | omega | exact hI.1 | exact zInv_i hI | exact zInv_z hI | exact zInv_i (zInv_W hI (by assumption)) | exact zInv_z (zInv_W hI (by assumption)) | (refine zlJ_end hN (by first | exact hL | exact zLh_6 (zLh_5 hL) | exact zLh_5 hL) (zInv_M (zInv_W hI (by assumption)) (by assumption)) hc0 hc1 (by omega) hc3) | (refine zlJ_end hN (by first | exact hL | exact zLh_6 (zLh_5 hL) | exact zLh_5 hL) (zInv_M (zInv_W hI (by assumption)) ⟨by assumption, by assumption⟩) hc0 hc1 (by omega) hc3) | (refine zlJ_end hN (by first | exact hL | exact zLh_6 (zLh_5 hL) | exact zLh_5 hL) (zInv_M hI (by assumption)) hc0 hc1 (by omega) hc3) | skip)
set_option maxHeartbeats 2000000 in
set_option maxRecDepth 100000 in
theorem lL_law_808 (N : Nat) (hN : N ≤ 3072) (xs : Nat → Int) (n k : Nat) (ls : zL) (st : List zV) (mem : zM) (hJ : zlJ N 6 0 1 n k ls st mem) : zlwp N xs zLay (fun _ => none) (zCf VL_law) (zCf WL_law) (fun v _ => v = 1) 7 (zBf BL_law) (zlBelow (zlHf (HL_law N)) n) 20 k 808 ls st mem := by
  obtain ⟨h0, h1, h2, h3, ht4, rfl, hI, hc0, hc1, hc2, hc3⟩ := hJ
  obtain ⟨x4, h4⟩ : ∃ x, ls 4 = (0, x) := ⟨_, Prod.ext ht4 rfl⟩
  simp only [h4] at hc0 hc1 hc2 hc3
  have hL : zLh ls x4 := ⟨h0, h1, h2, h3, h4⟩
  have e1 : zw (x4 + 1) = x4 + 1 := zw_id (by omega) (by omega)
  have e2 : zw (x4 + 2) = x4 + 2 := zw_id (by omega) (by omega)
  have e3 : zw (x4 + 3) = x4 + 3 := zw_id (by omega) (by omega)
  have e4 : zw (x4 + 4) = x4 + 4 := zw_id (by omega) (by omega)
  have e5 : zw (x4 + 5) = x4 + 5 := zw_id (by omega) (by omega)
  have e6 : zw (x4 + 6) = x4 + 6 := zw_id (by omega) (by omega)
  have e7 : zw ((N : Int) - 6) = (N : Int) - 6 := zw_id (by omega) (by omega)
  simp (maxSteps := 3000000) only [↓zlwp_s, zlrun_n, zlrun_c, ↓gL_law_848, ↓gL_law_1246, ↓zp1_c, ↓zpv_c, ↓ztg_e, ↓reduceIte, ↓zl_aload_n, ↓zl_goto, ↓zl_iadd, ↓zl_iaload, ↓zl_iconst, ↓zl_iload, ↓zl_istore, ↓zi_aload_n, ↓zi_goto, ↓zi_iadd, ↓zi_iconst, ↓zi_iload, ↓zi_istore, zcmp_eq, zcmp_ne, zcmp_gt, bL_law_808, ↓zlw_g (cw := zCf WL_law) (q := 166) (h := (rfl : zCf WL_law 166 = some CL_look)), ↓zlv_g (cv := zCf VL_law) (q := 168) (h := (rfl : zCf VL_law 168 = some CX11_look)), List.size_toArray, zent_n, zent_c, zst_e, zfi0, zfi1, zfi2, zfi3, zcast, Nat.reduceAdd, Nat.reduceSub, Nat.reduceEqDiff, Nat.reduceLT, Nat.reduceLeDiff, Int.reduceAdd, Int.reduceSub, Int.reduceMul, Int.reduceToNat, Int.reduceLE, Int.reduceLT, Int.reduceEq, Int.reduceNeg, Int.reduceNegSucc, Nat.reduceMul, List.zip_cons_cons, List.zip_nil_left, List.zip_nil_right, Int.toNat_natCast, true_and, and_true, eq_self, ne_eq, not_false_eq_true, not_true_eq_false, forall_const, implies_true, false_and, true_or, or_true, false_or, or_false, imp_self, and_imp, exists_eq_left, exists_eq_left', exists_eq_right, exists_eq_right', exists_and_left, exists_and_right, Prod.mk.injEq, zAdd_e, zSub_e, zMul_e, zres_0, zres_4, zres_1, zres_9, zrt_0, zrt_4, zrt_1, zrt_9, List.take_succ_cons, List.take_zero, List.drop_succ_cons, List.drop_zero, List.map_cons, List.map_nil, List.reverse_cons, List.reverse_nil, List.nil_append, List.cons_append, List.length_cons, List.length_nil, zPr_c, List.mem_cons, List.not_mem_nil, ↓zIV_e, zcats, List.sum_cons, List.sum_nil, zpu, zfu, zset_e, h0, h1, h2, h3, h4, e1, e2, e3, e4, e5, e6, e7]
  repeat' (first | (with_reducible refine And.intro ?_ ?_) | (with_reducible intro _))
  all_goals (first | trivial | omega | exact hI.1 | exact zInv_i hI | exact zInv_z hI | exact zInv_i (zInv_W hI (by assumption)) | exact zInv_z (zInv_W hI (by assumption)) | (refine zlJ_end hN (by first | exact hL | exact zLh_6 (zLh_5 hL) | exact zLh_5 hL) (zInv_M (zInv_W hI (by assumption)) (by assumption)) hc0 hc1 (by omega) hc3) | (refine zlJ_end hN (by first | exact hL | exact zLh_6 (zLh_5 hL) | exact zLh_5 hL) (zInv_M (zInv_W hI (by assumption)) ⟨by assumption, by assumption⟩) hc0 hc1 (by omega) hc3) | (refine zlJ_end hN (by first | exact hL | exact zLh_6 (zLh_5 hL) | exact zLh_5 hL) (zInv_M hI (by assumption)) hc0 hc1 (by omega) hc3) | skip)
set_option maxHeartbeats 2000000 in
set_option maxRecDepth 100000 in
theorem lL_law_848 (N : Nat) (hN : N ≤ 3072) (xs : Nat → Int) (n k : Nat) (ls : zL) (st : List zV) (mem : zM) (hJ : zlJ N 6 0 1 n k ls st mem) : zlwp N xs zLay (fun _ => none) (zCf VL_law) (zCf WL_law) (fun v _ => v = 1) 7 (zBf BL_law) (zlBelow (zlHf (HL_law N)) n) 20 k 848 ls st mem := by
  obtain ⟨h0, h1, h2, h3, ht4, rfl, hI, hc0, hc1, hc2, hc3⟩ := hJ
  obtain ⟨x4, h4⟩ : ∃ x, ls 4 = (0, x) := ⟨_, Prod.ext ht4 rfl⟩
  simp only [h4] at hc0 hc1 hc2 hc3
  have hL : zLh ls x4 := ⟨h0, h1, h2, h3, h4⟩
  have e1 : zw (x4 + 1) = x4 + 1 := zw_id (by omega) (by omega)
  have e2 : zw (x4 + 2) = x4 + 2 := zw_id (by omega) (by omega)
  have e3 : zw (x4 + 3) = x4 + 3 := zw_id (by omega) (by omega)
  have e4 : zw (x4 + 4) = x4 + 4 := zw_id (by omega) (by omega)
  have e5 : zw (x4 + 5) = x4 + 5 := zw_id (by omega) (by omega)
  have e6 : zw (x4 + 6) = x4 + 6 := zw_id (by omega) (by omega)
  have e7 : zw ((N : Int) - 6) = (N : Int) - 6 := zw_id (by omega) (by omega)
  simp (maxSteps := 3000000) only [↓zlwp_s, zlrun_n, zlrun_c, ↓gL_law_868, ↓gL_law_869, ↓gL_law_893, ↓gL_law_894, ↓gL_law_901, ↓gL_law_1246, ↓zp1_c, ↓zpv_c, ↓ztg_e, ↓reduceIte, ↓zl_aload_n, ↓zl_goto, ↓zl_iadd, ↓zl_iaload, ↓zl_iconst, ↓zl_ifCond, ↓zl_iload, ↓zl_pop, ↓zi_aload_n, ↓zi_goto, ↓zi_iadd, ↓zi_iconst, ↓zi_ifCond, ↓zi_iload, ↓zi_pop, zcmp_eq, zcmp_ne, zcmp_gt, bL_law_848, bL_law_868, bL_law_869, bL_law_893, bL_law_894, ↓zlv_p (cv := zCf VL_law) (q := 169) (h := (rfl : zCf VL_law 169 = some CX10_line)), ↓zlv_g (cv := zCf VL_law) (q := 172) (h := (rfl : zCf VL_law 172 = some CX11_line)), List.size_toArray, zent_n, zent_c, zst_e, zfi0, zfi1, zfi2, zfi3, zcast, Nat.reduceAdd, Nat.reduceSub, Nat.reduceEqDiff, Nat.reduceLT, Nat.reduceLeDiff, Int.reduceAdd, Int.reduceSub, Int.reduceMul, Int.reduceToNat, Int.reduceLE, Int.reduceLT, Int.reduceEq, Int.reduceNeg, Int.reduceNegSucc, Nat.reduceMul, List.zip_cons_cons, List.zip_nil_left, List.zip_nil_right, Int.toNat_natCast, true_and, and_true, eq_self, ne_eq, not_false_eq_true, not_true_eq_false, forall_const, implies_true, false_and, true_or, or_true, false_or, or_false, imp_self, and_imp, exists_eq_left, exists_eq_left', exists_eq_right, exists_eq_right', exists_and_left, exists_and_right, Prod.mk.injEq, zAdd_e, zSub_e, zMul_e, zres_0, zres_4, zres_1, zres_9, zrt_0, zrt_4, zrt_1, zrt_9, List.take_succ_cons, List.take_zero, List.drop_succ_cons, List.drop_zero, List.map_cons, List.map_nil, List.reverse_cons, List.reverse_nil, List.nil_append, List.cons_append, List.length_cons, List.length_nil, zPr_c, List.mem_cons, List.not_mem_nil, ↓zIV_e, zcats, List.sum_cons, List.sum_nil, zpu, zfu, zset_e, h0, h1, h2, h3, h4, e1, e2, e3, e4, e5, e6, e7]
  repeat' (first | (with_reducible refine And.intro ?_ ?_) | (with_reducible intro _))
  all_goals (first | trivial | omega | exact hI.1 | exact zInv_i hI | exact zInv_z hI | exact zInv_i (zInv_W hI (by assumption)) | exact zInv_z (zInv_W hI (by assumption)) | (refine zlJ_end hN (by first | exact hL | exact zLh_6 (zLh_5 hL) | exact zLh_5 hL) (zInv_M (zInv_W hI (by assumption)) (by assumption)) hc0 hc1 (by omega) hc3) | (refine zlJ_end hN (by first | exact hL | exact zLh_6 (zLh_5 hL) | exact zLh_5 hL) (zInv_M (zInv_W hI (by assumption)) ⟨by assumption, by assumption⟩) hc0 hc1 (by omega) hc3) | (refine zlJ_end hN (by first | exact hL | exact zLh_6 (zLh_5 hL) | exact zLh_5 hL) (zInv_M hI (by assumption)) hc0 hc1 (by omega) hc3) | skip)
set_option maxHeartbeats 2000000 in
set_option maxRecDepth 100000 in
theorem lL_law_901 (N : Nat) (hN : N ≤ 3072) (xs : Nat → Int) (n k : Nat) (ls : zL) (st : List zV) (mem : zM) (hJ : zlJ N 6 0 1 n k ls st mem) : zlwp N xs zLay (fun _ => none) (zCf VL_law) (zCf WL_law) (fun v _ => v = 1) 7 (zBf BL_law) (zlBelow (zlHf (HL_law N)) n) 20 k 901 ls st mem := by
  obtain ⟨h0, h1, h2, h3, ht4, rfl, hI, hc0, hc1, hc2, hc3⟩ := hJ
  obtain ⟨x4, h4⟩ : ∃ x, ls 4 = (0, x) := ⟨_, Prod.ext ht4 rfl⟩
  simp only [h4] at hc0 hc1 hc2 hc3
  have hL : zLh ls x4 := ⟨h0, h1, h2, h3, h4⟩
  have e1 : zw (x4 + 1) = x4 + 1 := zw_id (by omega) (by omega)
  have e2 : zw (x4 + 2) = x4 + 2 := zw_id (by omega) (by omega)
  have e3 : zw (x4 + 3) = x4 + 3 := zw_id (by omega) (by omega)
  have e4 : zw (x4 + 4) = x4 + 4 := zw_id (by omega) (by omega)
  have e5 : zw (x4 + 5) = x4 + 5 := zw_id (by omega) (by omega)
  have e6 : zw (x4 + 6) = x4 + 6 := zw_id (by omega) (by omega)
  have e7 : zw ((N : Int) - 6) = (N : Int) - 6 := zw_id (by omega) (by omega)
  simp (maxSteps := 3000000) only [↓zlwp_s, zlrun_n, zlrun_c, ↓gL_law_941, ↓gL_law_1246, ↓zp1_c, ↓zpv_c, ↓ztg_e, ↓reduceIte, ↓zl_aload_n, ↓zl_goto, ↓zl_iadd, ↓zl_iaload, ↓zl_iconst, ↓zl_iload, ↓zl_istore, ↓zi_aload_n, ↓zi_goto, ↓zi_iadd, ↓zi_iconst, ↓zi_iload, ↓zi_istore, zcmp_eq, zcmp_ne, zcmp_gt, bL_law_901, ↓zlw_g (cw := zCf WL_law) (q := 173) (h := (rfl : zCf WL_law 173 = some CL_route)), ↓zlv_g (cv := zCf VL_law) (q := 175) (h := (rfl : zCf VL_law 175 = some CX11_route)), List.size_toArray, zent_n, zent_c, zst_e, zfi0, zfi1, zfi2, zfi3, zcast, Nat.reduceAdd, Nat.reduceSub, Nat.reduceEqDiff, Nat.reduceLT, Nat.reduceLeDiff, Int.reduceAdd, Int.reduceSub, Int.reduceMul, Int.reduceToNat, Int.reduceLE, Int.reduceLT, Int.reduceEq, Int.reduceNeg, Int.reduceNegSucc, Nat.reduceMul, List.zip_cons_cons, List.zip_nil_left, List.zip_nil_right, Int.toNat_natCast, true_and, and_true, eq_self, ne_eq, not_false_eq_true, not_true_eq_false, forall_const, implies_true, false_and, true_or, or_true, false_or, or_false, imp_self, and_imp, exists_eq_left, exists_eq_left', exists_eq_right, exists_eq_right', exists_and_left, exists_and_right, Prod.mk.injEq, zAdd_e, zSub_e, zMul_e, zres_0, zres_4, zres_1, zres_9, zrt_0, zrt_4, zrt_1, zrt_9, List.take_succ_cons, List.take_zero, List.drop_succ_cons, List.drop_zero, List.map_cons, List.map_nil, List.reverse_cons, List.reverse_nil, List.nil_append, List.cons_append, List.length_cons, List.length_nil, zPr_c, List.mem_cons, List.not_mem_nil, ↓zIV_e, zcats, List.sum_cons, List.sum_nil, zpu, zfu, zset_e, h0, h1, h2, h3, h4, e1, e2, e3, e4, e5, e6, e7]
  repeat' (first | (with_reducible refine And.intro ?_ ?_) | (with_reducible intro _))
  all_goals (first | trivial | omega | exact hI.1 | exact zInv_i hI | exact zInv_z hI | exact zInv_i (zInv_W hI (by assumption)) | exact zInv_z (zInv_W hI (by assumption)) | (refine zlJ_end hN (by first | exact hL | exact zLh_6 (zLh_5 hL) | exact zLh_5 hL) (zInv_M (zInv_W hI (by assumption)) (by assumption)) hc0 hc1 (by omega) hc3) | (refine zlJ_end hN (by first | exact hL | exact zLh_6 (zLh_5 hL) | exact zLh_5 hL) (zInv_M (zInv_W hI (by assumption)) ⟨by assumption, by assumption⟩) hc0 hc1 (by omega) hc3) | (refine zlJ_end hN (by first | exact hL | exact zLh_6 (zLh_5 hL) | exact zLh_5 hL) (zInv_M hI (by assumption)) hc0 hc1 (by omega) hc3) | skip)
set_option maxHeartbeats 2000000 in
set_option maxRecDepth 100000 in
theorem lL_law_941 (N : Nat) (hN : N ≤ 3072) (xs : Nat → Int) (n k : Nat) (ls : zL) (st : List zV) (mem : zM) (hJ : zlJ N 6 0 1 n k ls st mem) : zlwp N xs zLay (fun _ => none) (zCf VL_law) (zCf WL_law) (fun v _ => v = 1) 7 (zBf BL_law) (zlBelow (zlHf (HL_law N)) n) 20 k 941 ls st mem := by
  obtain ⟨h0, h1, h2, h3, ht4, rfl, hI, hc0, hc1, hc2, hc3⟩ := hJ
  obtain ⟨x4, h4⟩ : ∃ x, ls 4 = (0, x) := ⟨_, Prod.ext ht4 rfl⟩
  simp only [h4] at hc0 hc1 hc2 hc3
  have hL : zLh ls x4 := ⟨h0, h1, h2, h3, h4⟩
  have e1 : zw (x4 + 1) = x4 + 1 := zw_id (by omega) (by omega)
  have e2 : zw (x4 + 2) = x4 + 2 := zw_id (by omega) (by omega)
  have e3 : zw (x4 + 3) = x4 + 3 := zw_id (by omega) (by omega)
  have e4 : zw (x4 + 4) = x4 + 4 := zw_id (by omega) (by omega)
  have e5 : zw (x4 + 5) = x4 + 5 := zw_id (by omega) (by omega)
  have e6 : zw (x4 + 6) = x4 + 6 := zw_id (by omega) (by omega)
  have e7 : zw ((N : Int) - 6) = (N : Int) - 6 := zw_id (by omega) (by omega)
  simp (maxSteps := 3000000) only [↓zlwp_s, zlrun_n, zlrun_c, ↓gL_law_981, ↓gL_law_1246, ↓zp1_c, ↓zpv_c, ↓ztg_e, ↓reduceIte, ↓zl_aload_n, ↓zl_goto, ↓zl_iadd, ↓zl_iaload, ↓zl_iconst, ↓zl_iload, ↓zl_istore, ↓zi_aload_n, ↓zi_goto, ↓zi_iadd, ↓zi_iconst, ↓zi_iload, ↓zi_istore, zcmp_eq, zcmp_ne, zcmp_gt, bL_law_941, ↓zlw_g (cw := zCf WL_law) (q := 176) (h := (rfl : zCf WL_law 176 = some CL_reach)), ↓zlv_g (cv := zCf VL_law) (q := 178) (h := (rfl : zCf VL_law 178 = some CX11_reach)), List.size_toArray, zent_n, zent_c, zst_e, zfi0, zfi1, zfi2, zfi3, zcast, Nat.reduceAdd, Nat.reduceSub, Nat.reduceEqDiff, Nat.reduceLT, Nat.reduceLeDiff, Int.reduceAdd, Int.reduceSub, Int.reduceMul, Int.reduceToNat, Int.reduceLE, Int.reduceLT, Int.reduceEq, Int.reduceNeg, Int.reduceNegSucc, Nat.reduceMul, List.zip_cons_cons, List.zip_nil_left, List.zip_nil_right, Int.toNat_natCast, true_and, and_true, eq_self, ne_eq, not_false_eq_true, not_true_eq_false, forall_const, implies_true, false_and, true_or, or_true, false_or, or_false, imp_self, and_imp, exists_eq_left, exists_eq_left', exists_eq_right, exists_eq_right', exists_and_left, exists_and_right, Prod.mk.injEq, zAdd_e, zSub_e, zMul_e, zres_0, zres_4, zres_1, zres_9, zrt_0, zrt_4, zrt_1, zrt_9, List.take_succ_cons, List.take_zero, List.drop_succ_cons, List.drop_zero, List.map_cons, List.map_nil, List.reverse_cons, List.reverse_nil, List.nil_append, List.cons_append, List.length_cons, List.length_nil, zPr_c, List.mem_cons, List.not_mem_nil, ↓zIV_e, zcats, List.sum_cons, List.sum_nil, zpu, zfu, zset_e, h0, h1, h2, h3, h4, e1, e2, e3, e4, e5, e6, e7]
  repeat' (first | (with_reducible refine And.intro ?_ ?_) | (with_reducible intro _))
  all_goals (first | trivial | omega | exact hI.1 | exact zInv_i hI | exact zInv_z hI | exact zInv_i (zInv_W hI (by assumption)) | exact zInv_z (zInv_W hI (by assumption)) | (refine zlJ_end hN (by first | exact hL | exact zLh_6 (zLh_5 hL) | exact zLh_5 hL) (zInv_M (zInv_W hI (by assumption)) (by assumption)) hc0 hc1 (by omega) hc3) | (refine zlJ_end hN (by first | exact hL | exact zLh_6 (zLh_5 hL) | exact zLh_5 hL) (zInv_M (zInv_W hI (by assumption)) ⟨by assumption, by assumption⟩) hc0 hc1 (by omega) hc3) | (refine zlJ_end hN (by first | exact hL | exact zLh_6 (zLh_5 hL) | exact zLh_5 hL) (zInv_M hI (by assumption)) hc0 hc1 (by omega) hc3) | skip)
set_option maxHeartbeats 2000000 in
set_option maxRecDepth 100000 in
theorem lL_law_981 (N : Nat) (hN : N ≤ 3072) (xs : Nat → Int) (n k : Nat) (ls : zL) (st : List zV) (mem : zM) (hJ : zlJ N 6 0 1 n k ls st mem) : zlwp N xs zLay (fun _ => none) (zCf VL_law) (zCf WL_law) (fun v _ => v = 1) 7 (zBf BL_law) (zlBelow (zlHf (HL_law N)) n) 20 k 981 ls st mem := by
  obtain ⟨h0, h1, h2, h3, ht4, rfl, hI, hc0, hc1, hc2, hc3⟩ := hJ
  obtain ⟨x4, h4⟩ : ∃ x, ls 4 = (0, x) := ⟨_, Prod.ext ht4 rfl⟩
  simp only [h4] at hc0 hc1 hc2 hc3
  have hL : zLh ls x4 := ⟨h0, h1, h2, h3, h4⟩
  have e1 : zw (x4 + 1) = x4 + 1 := zw_id (by omega) (by omega)
  have e2 : zw (x4 + 2) = x4 + 2 := zw_id (by omega) (by omega)
  have e3 : zw (x4 + 3) = x4 + 3 := zw_id (by omega) (by omega)
  have e4 : zw (x4 + 4) = x4 + 4 := zw_id (by omega) (by omega)
  have e5 : zw (x4 + 5) = x4 + 5 := zw_id (by omega) (by omega)
  have e6 : zw (x4 + 6) = x4 + 6 := zw_id (by omega) (by omega)
  have e7 : zw ((N : Int) - 6) = (N : Int) - 6 := zw_id (by omega) (by omega)
  simp (maxSteps := 3000000) only [↓zlwp_s, zlrun_n, zlrun_c, ↓gL_law_995, ↓gL_law_996, ↓gL_law_1014, ↓gL_law_1015, ↓gL_law_1022, ↓gL_law_1246, ↓zp1_c, ↓zpv_c, ↓ztg_e, ↓reduceIte, ↓zl_aload_n, ↓zl_goto, ↓zl_iadd, ↓zl_iaload, ↓zl_iconst, ↓zl_ifCond, ↓zl_iload, ↓zl_pop, ↓zi_aload_n, ↓zi_goto, ↓zi_iadd, ↓zi_iconst, ↓zi_ifCond, ↓zi_iload, ↓zi_pop, zcmp_eq, zcmp_ne, zcmp_gt, bL_law_981, bL_law_995, bL_law_996, bL_law_1014, bL_law_1015, ↓zlv_p (cv := zCf VL_law) (q := 179) (h := (rfl : zCf VL_law 179 = some CX10_joints)), ↓zlv_g (cv := zCf VL_law) (q := 183) (h := (rfl : zCf VL_law 183 = some CX11_joints)), List.size_toArray, zent_n, zent_c, zst_e, zfi0, zfi1, zfi2, zfi3, zcast, Nat.reduceAdd, Nat.reduceSub, Nat.reduceEqDiff, Nat.reduceLT, Nat.reduceLeDiff, Int.reduceAdd, Int.reduceSub, Int.reduceMul, Int.reduceToNat, Int.reduceLE, Int.reduceLT, Int.reduceEq, Int.reduceNeg, Int.reduceNegSucc, Nat.reduceMul, List.zip_cons_cons, List.zip_nil_left, List.zip_nil_right, Int.toNat_natCast, true_and, and_true, eq_self, ne_eq, not_false_eq_true, not_true_eq_false, forall_const, implies_true, false_and, true_or, or_true, false_or, or_false, imp_self, and_imp, exists_eq_left, exists_eq_left', exists_eq_right, exists_eq_right', exists_and_left, exists_and_right, Prod.mk.injEq, zAdd_e, zSub_e, zMul_e, zres_0, zres_4, zres_1, zres_9, zrt_0, zrt_4, zrt_1, zrt_9, List.take_succ_cons, List.take_zero, List.drop_succ_cons, List.drop_zero, List.map_cons, List.map_nil, List.reverse_cons, List.reverse_nil, List.nil_append, List.cons_append, List.length_cons, List.length_nil, zPr_c, List.mem_cons, List.not_mem_nil, ↓zIV_e, zcats, List.sum_cons, List.sum_nil, zpu, zfu, zset_e, h0, h1, h2, h3, h4, e1, e2, e3, e4, e5, e6, e7]
  repeat' (first | (with_reducible refine And.intro ?_ ?_) | (with_reducible intro _))
  all_goals (first | trivial | omega | exact hI.1 | exact zInv_i hI | exact zInv_z hI | exact zInv_i (zInv_W hI (by assumption)) | exact zInv_z (zInv_W hI (by assumption)) | (refine zlJ_end hN (by first | exact hL | exact zLh_6 (zLh_5 hL) | exact zLh_5 hL) (zInv_M (zInv_W hI (by assumption)) (by assumption)) hc0 hc1 (by omega) hc3) | (refine zlJ_end hN (by first | exact hL | exact zLh_6 (zLh_5 hL) | exact zLh_5 hL) (zInv_M (zInv_W hI (by assumption)) ⟨by assumption, by assumption⟩) hc0 hc1 (by omega) hc3) | (refine zlJ_end hN (by first | exact hL | exact zLh_6 (zLh_5 hL) | exact zLh_5 hL) (zInv_M hI (by assumption)) hc0 hc1 (by omega) hc3) | skip)
set_option maxHeartbeats 2000000 in
set_option maxRecDepth 100000 in
theorem lL_law_1022 (N : Nat) (hN : N ≤ 3072) (xs : Nat → Int) (n k : Nat) (ls : zL) (st : List zV) (mem : zM) (hJ : zlJ N 6 0 1 n k ls st mem) : zlwp N xs zLay (fun _ => none) (zCf VL_law) (zCf WL_law) (fun v _ => v = 1) 7 (zBf BL_law) (zlBelow (zlHf (HL_law N)) n) 20 k 1022 ls st mem := by
  obtain ⟨h0, h1, h2, h3, ht4, rfl, hI, hc0, hc1, hc2, hc3⟩ := hJ
  obtain ⟨x4, h4⟩ : ∃ x, ls 4 = (0, x) := ⟨_, Prod.ext ht4 rfl⟩
  simp only [h4] at hc0 hc1 hc2 hc3
  have hL : zLh ls x4 := ⟨h0, h1, h2, h3, h4⟩
  have e1 : zw (x4 + 1) = x4 + 1 := zw_id (by omega) (by omega)
  have e2 : zw (x4 + 2) = x4 + 2 := zw_id (by omega) (by omega)
  have e3 : zw (x4 + 3) = x4 + 3 := zw_id (by omega) (by omega)
  have e4 : zw (x4 + 4) = x4 + 4 := zw_id (by omega) (by omega)
  have e5 : zw (x4 + 5) = x4 + 5 := zw_id (by omega) (by omega)
  have e6 : zw (x4 + 6) = x4 + 6 := zw_id (by omega) (by omega)
  have e7 : zw ((N : Int) - 6) = (N : Int) - 6 := zw_id (by omega) (by omega)
  simp (maxSteps := 3000000) only [↓zlwp_s, zlrun_n, zlrun_c, ↓gL_law_1035, ↓gL_law_1246, ↓zp1_c, ↓zpv_c, ↓ztg_e, ↓reduceIte, ↓zl_aload_n, ↓zl_goto, ↓zl_pop, ↓zi_aload_n, ↓zi_goto, ↓zi_pop, zcmp_eq, zcmp_ne, zcmp_gt, bL_law_1022, ↓zlv_p (cv := zCf VL_law) (q := 184) (h := (rfl : zCf VL_law 184 = some CX10_worn)), ↓zlv_g (cv := zCf VL_law) (q := 187) (h := (rfl : zCf VL_law 187 = some CX11_worn)), List.size_toArray, zent_n, zent_c, zst_e, zfi0, zfi1, zfi2, zfi3, zcast, Nat.reduceAdd, Nat.reduceSub, Nat.reduceEqDiff, Nat.reduceLT, Nat.reduceLeDiff, Int.reduceAdd, Int.reduceSub, Int.reduceMul, Int.reduceToNat, Int.reduceLE, Int.reduceLT, Int.reduceEq, Int.reduceNeg, Int.reduceNegSucc, Nat.reduceMul, List.zip_cons_cons, List.zip_nil_left, List.zip_nil_right, Int.toNat_natCast, true_and, and_true, eq_self, ne_eq, not_false_eq_true, not_true_eq_false, forall_const, implies_true, false_and, true_or, or_true, false_or, or_false, imp_self, and_imp, exists_eq_left, exists_eq_left', exists_eq_right, exists_eq_right', exists_and_left, exists_and_right, Prod.mk.injEq, zAdd_e, zSub_e, zMul_e, zres_0, zres_4, zres_1, zres_9, zrt_0, zrt_4, zrt_1, zrt_9, List.take_succ_cons, List.take_zero, List.drop_succ_cons, List.drop_zero, List.map_cons, List.map_nil, List.reverse_cons, List.reverse_nil, List.nil_append, List.cons_append, List.length_cons, List.length_nil, zPr_c, List.mem_cons, List.not_mem_nil, ↓zIV_e, zcats, List.sum_cons, List.sum_nil, zpu, zfu, zset_e, h0, h1, h2, h3, h4, e1, e2, e3, e4, e5, e6, e7]
  repeat' (first | (with_reducible refine And.intro ?_ ?_) | (with_reducible intro _))
  all_goals (first | trivial | omega | exact hI.1 | exact zInv_i hI | exact zInv_z hI | exact zInv_i (zInv_W hI (by assumption)) | exact zInv_z (zInv_W hI (by assumption)) | (refine zlJ_end hN (by first | exact hL | exact zLh_6 (zLh_5 hL) | exact zLh_5 hL) (zInv_M (zInv_W hI (by assumption)) (by assumption)) hc0 hc1 (by omega) hc3) | (refine zlJ_end hN (by first | exact hL | exact zLh_6 (zLh_5 hL) | exact zLh_5 hL) (zInv_M (zInv_W hI (by assumption)) ⟨by assumption, by assumption⟩) hc0 hc1 (by omega) hc3) | (refine zlJ_end hN (by first | exact hL | exact zLh_6 (zLh_5 hL) | exact zLh_5 hL) (zInv_M hI (by assumption)) hc0 hc1 (by omega) hc3) | skip)
set_option maxHeartbeats 2000000 in
set_option maxRecDepth 100000 in
theorem lL_law_1035 (N : Nat) (hN : N ≤ 3072) (xs : Nat → Int) (n k : Nat) (ls : zL) (st : List zV) (mem : zM) (hJ : zlJ N 6 0 1 n k ls st mem) : zlwp N xs zLay (fun _ => none) (zCf VL_law) (zCf WL_law) (fun v _ => v = 1) 7 (zBf BL_law) (zlBelow (zlHf (HL_law N)) n) 20 k 1035 ls st mem := by
  obtain ⟨h0, h1, h2, h3, ht4, rfl, hI, hc0, hc1, hc2, hc3⟩ := hJ
  obtain ⟨x4, h4⟩ : ∃ x, ls 4 = (0, x) := ⟨_, Prod.ext ht4 rfl⟩
  simp only [h4] at hc0 hc1 hc2 hc3
  have hL : zLh ls x4 := ⟨h0, h1, h2, h3, h4⟩
  have e1 : zw (x4 + 1) = x4 + 1 := zw_id (by omega) (by omega)
  have e2 : zw (x4 + 2) = x4 + 2 := zw_id (by omega) (by omega)
  have e3 : zw (x4 + 3) = x4 + 3 := zw_id (by omega) (by omega)
  have e4 : zw (x4 + 4) = x4 + 4 := zw_id (by omega) (by omega)
  have e5 : zw (x4 + 5) = x4 + 5 := zw_id (by omega) (by omega)
  have e6 : zw (x4 + 6) = x4 + 6 := zw_id (by omega) (by omega)
  have e7 : zw ((N : Int) - 6) = (N : Int) - 6 := zw_id (by omega) (by omega)
  simp (maxSteps := 3000000) only [↓zlwp_s, zlrun_n, zlrun_c, ↓gL_law_1048, ↓gL_law_1246, ↓zp1_c, ↓zpv_c, ↓ztg_e, ↓reduceIte, ↓zl_aload_n, ↓zl_goto, ↓zl_pop, ↓zi_aload_n, ↓zi_goto, ↓zi_pop, zcmp_eq, zcmp_ne, zcmp_gt, bL_law_1035, ↓zlv_p (cv := zCf VL_law) (q := 188) (h := (rfl : zCf VL_law 188 = some CX10_few)), ↓zlv_g (cv := zCf VL_law) (q := 192) (h := (rfl : zCf VL_law 192 = some CX11_few)), List.size_toArray, zent_n, zent_c, zst_e, zfi0, zfi1, zfi2, zfi3, zcast, Nat.reduceAdd, Nat.reduceSub, Nat.reduceEqDiff, Nat.reduceLT, Nat.reduceLeDiff, Int.reduceAdd, Int.reduceSub, Int.reduceMul, Int.reduceToNat, Int.reduceLE, Int.reduceLT, Int.reduceEq, Int.reduceNeg, Int.reduceNegSucc, Nat.reduceMul, List.zip_cons_cons, List.zip_nil_left, List.zip_nil_right, Int.toNat_natCast, true_and, and_true, eq_self, ne_eq, not_false_eq_true, not_true_eq_false, forall_const, implies_true, false_and, true_or, or_true, false_or, or_false, imp_self, and_imp, exists_eq_left, exists_eq_left', exists_eq_right, exists_eq_right', exists_and_left, exists_and_right, Prod.mk.injEq, zAdd_e, zSub_e, zMul_e, zres_0, zres_4, zres_1, zres_9, zrt_0, zrt_4, zrt_1, zrt_9, List.take_succ_cons, List.take_zero, List.drop_succ_cons, List.drop_zero, List.map_cons, List.map_nil, List.reverse_cons, List.reverse_nil, List.nil_append, List.cons_append, List.length_cons, List.length_nil, zPr_c, List.mem_cons, List.not_mem_nil, ↓zIV_e, zcats, List.sum_cons, List.sum_nil, zpu, zfu, zset_e, h0, h1, h2, h3, h4, e1, e2, e3, e4, e5, e6, e7]
  repeat' (first | (with_reducible refine And.intro ?_ ?_) | (with_reducible intro _))
  all_goals (first | trivial | omega | exact hI.1 | exact zInv_i hI | exact zInv_z hI | exact zInv_i (zInv_W hI (by assumption)) | exact zInv_z (zInv_W hI (by assumption)) | (refine zlJ_end hN (by first | exact hL | exact zLh_6 (zLh_5 hL) | exact zLh_5 hL) (zInv_M (zInv_W hI (by assumption)) (by assumption)) hc0 hc1 (by omega) hc3) | (refine zlJ_end hN (by first | exact hL | exact zLh_6 (zLh_5 hL) | exact zLh_5 hL) (zInv_M (zInv_W hI (by assumption)) ⟨by assumption, by assumption⟩) hc0 hc1 (by omega) hc3) | (refine zlJ_end hN (by first | exact hL | exact zLh_6 (zLh_5 hL) | exact zLh_5 hL) (zInv_M hI (by assumption)) hc0 hc1 (by omega) hc3) | skip)
set_option maxHeartbeats 2000000 in
set_option maxRecDepth 100000 in
theorem lL_law_1048 (N : Nat) (hN : N ≤ 3072) (xs : Nat → Int) (n k : Nat) (ls : zL) (st : List zV) (mem : zM) (hJ : zlJ N 6 0 1 n k ls st mem) : zlwp N xs zLay (fun _ => none) (zCf VL_law) (zCf WL_law) (fun v _ => v = 1) 7 (zBf BL_law) (zlBelow (zlHf (HL_law N)) n) 20 k 1048 ls st mem := by
  obtain ⟨h0, h1, h2, h3, ht4, rfl, hI, hc0, hc1, hc2, hc3⟩ := hJ
  obtain ⟨x4, h4⟩ : ∃ x, ls 4 = (0, x) := ⟨_, Prod.ext ht4 rfl⟩
  simp only [h4] at hc0 hc1 hc2 hc3
  have hL : zLh ls x4 := ⟨h0, h1, h2, h3, h4⟩
  have e1 : zw (x4 + 1) = x4 + 1 := zw_id (by omega) (by omega)
  have e2 : zw (x4 + 2) = x4 + 2 := zw_id (by omega) (by omega)
  have e3 : zw (x4 + 3) = x4 + 3 := zw_id (by omega) (by omega)
  have e4 : zw (x4 + 4) = x4 + 4 := zw_id (by omega) (by omega)
  have e5 : zw (x4 + 5) = x4 + 5 := zw_id (by omega) (by omega)
  have e6 : zw (x4 + 6) = x4 + 6 := zw_id (by omega) (by omega)
  have e7 : zw ((N : Int) - 6) = (N : Int) - 6 := zw_id (by omega) (by omega)
  simp (maxSteps := 3000000) only [↓zlwp_s, zlrun_n, zlrun_c, ↓gL_law_1076, ↓gL_law_1246, ↓zp1_c, ↓zpv_c, ↓ztg_e, ↓reduceIte, ↓zl_aload_n, ↓zl_goto, ↓zl_iadd, ↓zl_iaload, ↓zl_iconst, ↓zl_iload, ↓zl_istore, ↓zi_aload_n, ↓zi_goto, ↓zi_iadd, ↓zi_iconst, ↓zi_iload, ↓zi_istore, zcmp_eq, zcmp_ne, zcmp_gt, bL_law_1048, ↓zlw_g (cw := zCf WL_law) (q := 193) (h := (rfl : zCf WL_law 193 = some CL_steal)), ↓zlv_g (cv := zCf VL_law) (q := 195) (h := (rfl : zCf VL_law 195 = some CX11_steal)), List.size_toArray, zent_n, zent_c, zst_e, zfi0, zfi1, zfi2, zfi3, zcast, Nat.reduceAdd, Nat.reduceSub, Nat.reduceEqDiff, Nat.reduceLT, Nat.reduceLeDiff, Int.reduceAdd, Int.reduceSub, Int.reduceMul, Int.reduceToNat, Int.reduceLE, Int.reduceLT, Int.reduceEq, Int.reduceNeg, Int.reduceNegSucc, Nat.reduceMul, List.zip_cons_cons, List.zip_nil_left, List.zip_nil_right, Int.toNat_natCast, true_and, and_true, eq_self, ne_eq, not_false_eq_true, not_true_eq_false, forall_const, implies_true, false_and, true_or, or_true, false_or, or_false, imp_self, and_imp, exists_eq_left, exists_eq_left', exists_eq_right, exists_eq_right', exists_and_left, exists_and_right, Prod.mk.injEq, zAdd_e, zSub_e, zMul_e, zres_0, zres_4, zres_1, zres_9, zrt_0, zrt_4, zrt_1, zrt_9, List.take_succ_cons, List.take_zero, List.drop_succ_cons, List.drop_zero, List.map_cons, List.map_nil, List.reverse_cons, List.reverse_nil, List.nil_append, List.cons_append, List.length_cons, List.length_nil, zPr_c, List.mem_cons, List.not_mem_nil, ↓zIV_e, zcats, List.sum_cons, List.sum_nil, zpu, zfu, zset_e, h0, h1, h2, h3, h4, e1, e2, e3, e4, e5, e6, e7]
  repeat' (first | (with_reducible refine And.intro ?_ ?_) | (with_reducible intro _))
  all_goals (first | trivial | omega | exact hI.1 | exact zInv_i hI | exact zInv_z hI | exact zInv_i (zInv_W hI (by assumption)) | exact zInv_z (zInv_W hI (by assumption)) | (refine zlJ_end hN (by first | exact hL | exact zLh_6 (zLh_5 hL) | exact zLh_5 hL) (zInv_M (zInv_W hI (by assumption)) (by assumption)) hc0 hc1 (by omega) hc3) | (refine zlJ_end hN (by first | exact hL | exact zLh_6 (zLh_5 hL) | exact zLh_5 hL) (zInv_M (zInv_W hI (by assumption)) ⟨by assumption, by assumption⟩) hc0 hc1 (by omega) hc3) | (refine zlJ_end hN (by first | exact hL | exact zLh_6 (zLh_5 hL) | exact zLh_5 hL) (zInv_M hI (by assumption)) hc0 hc1 (by omega) hc3) | skip)
set_option maxHeartbeats 2000000 in
set_option maxRecDepth 100000 in
theorem lL_law_1076 (N : Nat) (hN : N ≤ 3072) (xs : Nat → Int) (n k : Nat) (ls : zL) (st : List zV) (mem : zM) (hJ : zlJ N 6 0 1 n k ls st mem) : zlwp N xs zLay (fun _ => none) (zCf VL_law) (zCf WL_law) (fun v _ => v = 1) 7 (zBf BL_law) (zlBelow (zlHf (HL_law N)) n) 20 k 1076 ls st mem := by
  obtain ⟨h0, h1, h2, h3, ht4, rfl, hI, hc0, hc1, hc2, hc3⟩ := hJ
  obtain ⟨x4, h4⟩ : ∃ x, ls 4 = (0, x) := ⟨_, Prod.ext ht4 rfl⟩
  simp only [h4] at hc0 hc1 hc2 hc3
  have hL : zLh ls x4 := ⟨h0, h1, h2, h3, h4⟩
  have e1 : zw (x4 + 1) = x4 + 1 := zw_id (by omega) (by omega)
  have e2 : zw (x4 + 2) = x4 + 2 := zw_id (by omega) (by omega)
  have e3 : zw (x4 + 3) = x4 + 3 := zw_id (by omega) (by omega)
  have e4 : zw (x4 + 4) = x4 + 4 := zw_id (by omega) (by omega)
  have e5 : zw (x4 + 5) = x4 + 5 := zw_id (by omega) (by omega)
  have e6 : zw (x4 + 6) = x4 + 6 := zw_id (by omega) (by omega)
  have e7 : zw ((N : Int) - 6) = (N : Int) - 6 := zw_id (by omega) (by omega)
  simp (maxSteps := 3000000) only [↓zlwp_s, zlrun_n, zlrun_c, ↓gL_law_1101, ↓gL_law_1246, ↓zp1_c, ↓zpv_c, ↓ztg_e, ↓reduceIte, ↓zl_aload_n, ↓zl_goto, ↓zl_iadd, ↓zl_iaload, ↓zl_iconst, ↓zl_iload, ↓zl_istore, ↓zi_aload_n, ↓zi_goto, ↓zi_iadd, ↓zi_iconst, ↓zi_iload, ↓zi_istore, zcmp_eq, zcmp_ne, zcmp_gt, bL_law_1076, ↓zlw_g (cw := zCf WL_law) (q := 196) (h := (rfl : zCf WL_law 196 = some CL_lose)), ↓zlv_g (cv := zCf VL_law) (q := 199) (h := (rfl : zCf VL_law 199 = some CX11_lose)), List.size_toArray, zent_n, zent_c, zst_e, zfi0, zfi1, zfi2, zfi3, zcast, Nat.reduceAdd, Nat.reduceSub, Nat.reduceEqDiff, Nat.reduceLT, Nat.reduceLeDiff, Int.reduceAdd, Int.reduceSub, Int.reduceMul, Int.reduceToNat, Int.reduceLE, Int.reduceLT, Int.reduceEq, Int.reduceNeg, Int.reduceNegSucc, Nat.reduceMul, List.zip_cons_cons, List.zip_nil_left, List.zip_nil_right, Int.toNat_natCast, true_and, and_true, eq_self, ne_eq, not_false_eq_true, not_true_eq_false, forall_const, implies_true, false_and, true_or, or_true, false_or, or_false, imp_self, and_imp, exists_eq_left, exists_eq_left', exists_eq_right, exists_eq_right', exists_and_left, exists_and_right, Prod.mk.injEq, zAdd_e, zSub_e, zMul_e, zres_0, zres_4, zres_1, zres_9, zrt_0, zrt_4, zrt_1, zrt_9, List.take_succ_cons, List.take_zero, List.drop_succ_cons, List.drop_zero, List.map_cons, List.map_nil, List.reverse_cons, List.reverse_nil, List.nil_append, List.cons_append, List.length_cons, List.length_nil, zPr_c, List.mem_cons, List.not_mem_nil, ↓zIV_e, zcats, List.sum_cons, List.sum_nil, zpu, zfu, zset_e, h0, h1, h2, h3, h4, e1, e2, e3, e4, e5, e6, e7]
  repeat' (first | (with_reducible refine And.intro ?_ ?_) | (with_reducible intro _))
  all_goals (first | trivial | omega | exact hI.1 | exact zInv_i hI | exact zInv_z hI | exact zInv_i (zInv_W hI (by assumption)) | exact zInv_z (zInv_W hI (by assumption)) | (refine zlJ_end hN (by first | exact hL | exact zLh_6 (zLh_5 hL) | exact zLh_5 hL) (zInv_M (zInv_W hI (by assumption)) (by assumption)) hc0 hc1 (by omega) hc3) | (refine zlJ_end hN (by first | exact hL | exact zLh_6 (zLh_5 hL) | exact zLh_5 hL) (zInv_M (zInv_W hI (by assumption)) ⟨by assumption, by assumption⟩) hc0 hc1 (by omega) hc3) | (refine zlJ_end hN (by first | exact hL | exact zLh_6 (zLh_5 hL) | exact zLh_5 hL) (zInv_M hI (by assumption)) hc0 hc1 (by omega) hc3) | skip)
set_option maxHeartbeats 2000000 in
set_option maxRecDepth 100000 in
theorem lL_law_1101 (N : Nat) (hN : N ≤ 3072) (xs : Nat → Int) (n k : Nat) (ls : zL) (st : List zV) (mem : zM) (hJ : zlJ N 6 0 1 n k ls st mem) : zlwp N xs zLay (fun _ => none) (zCf VL_law) (zCf WL_law) (fun v _ => v = 1) 7 (zBf BL_law) (zlBelow (zlHf (HL_law N)) n) 20 k 1101 ls st mem := by
  obtain ⟨h0, h1, h2, h3, ht4, rfl, hI, hc0, hc1, hc2, hc3⟩ := hJ
  obtain ⟨x4, h4⟩ : ∃ x, ls 4 = (0, x) := ⟨_, Prod.ext ht4 rfl⟩
  simp only [h4] at hc0 hc1 hc2 hc3
  have hL : zLh ls x4 := ⟨h0, h1, h2, h3, h4⟩
  have e1 : zw (x4 + 1) = x4 + 1 := zw_id (by omega) (by omega)
  have e2 : zw (x4 + 2) = x4 + 2 := zw_id (by omega) (by omega)
  have e3 : zw (x4 + 3) = x4 + 3 := zw_id (by omega) (by omega)
  have e4 : zw (x4 + 4) = x4 + 4 := zw_id (by omega) (by omega)
  have e5 : zw (x4 + 5) = x4 + 5 := zw_id (by omega) (by omega)
  have e6 : zw (x4 + 6) = x4 + 6 := zw_id (by omega) (by omega)
  have e7 : zw ((N : Int) - 6) = (N : Int) - 6 := zw_id (by omega) (by omega)
  simp (maxSteps := 3000000) only [↓zlwp_s, zlrun_n, zlrun_c, ↓gL_law_1141, ↓gL_law_1246, ↓zp1_c, ↓zpv_c, ↓ztg_e, ↓reduceIte, ↓zl_aload_n, ↓zl_goto, ↓zl_iadd, ↓zl_iaload, ↓zl_iconst, ↓zl_iload, ↓zl_istore, ↓zi_aload_n, ↓zi_goto, ↓zi_iadd, ↓zi_iconst, ↓zi_iload, ↓zi_istore, zcmp_eq, zcmp_ne, zcmp_gt, bL_law_1101, ↓zlw_g (cw := zCf WL_law) (q := 200) (h := (rfl : zCf WL_law 200 = some CL_which)), ↓zlv_g (cv := zCf VL_law) (q := 202) (h := (rfl : zCf VL_law 202 = some CX11_which)), List.size_toArray, zent_n, zent_c, zst_e, zfi0, zfi1, zfi2, zfi3, zcast, Nat.reduceAdd, Nat.reduceSub, Nat.reduceEqDiff, Nat.reduceLT, Nat.reduceLeDiff, Int.reduceAdd, Int.reduceSub, Int.reduceMul, Int.reduceToNat, Int.reduceLE, Int.reduceLT, Int.reduceEq, Int.reduceNeg, Int.reduceNegSucc, Nat.reduceMul, List.zip_cons_cons, List.zip_nil_left, List.zip_nil_right, Int.toNat_natCast, true_and, and_true, eq_self, ne_eq, not_false_eq_true, not_true_eq_false, forall_const, implies_true, false_and, true_or, or_true, false_or, or_false, imp_self, and_imp, exists_eq_left, exists_eq_left', exists_eq_right, exists_eq_right', exists_and_left, exists_and_right, Prod.mk.injEq, zAdd_e, zSub_e, zMul_e, zres_0, zres_4, zres_1, zres_9, zrt_0, zrt_4, zrt_1, zrt_9, List.take_succ_cons, List.take_zero, List.drop_succ_cons, List.drop_zero, List.map_cons, List.map_nil, List.reverse_cons, List.reverse_nil, List.nil_append, List.cons_append, List.length_cons, List.length_nil, zPr_c, List.mem_cons, List.not_mem_nil, ↓zIV_e, zcats, List.sum_cons, List.sum_nil, zpu, zfu, zset_e, h0, h1, h2, h3, h4, e1, e2, e3, e4, e5, e6, e7]
  repeat' (first | (with_reducible refine And.intro ?_ ?_) | (with_reducible intro _))
  all_goals (first | trivial | omega | exact hI.1 | exact zInv_i hI | exact zInv_z hI | exact zInv_i (zInv_W hI (by assumption)) | exact zInv_z (zInv_W hI (by assumption)) | (refine zlJ_end hN (by first | exact hL | exact zLh_6 (zLh_5 hL) | exact zLh_5 hL) (zInv_M (zInv_W hI (by assumption)) (by assumption)) hc0 hc1 (by omega) hc3) | (refine zlJ_end hN (by first | exact hL | exact zLh_6 (zLh_5 hL) | exact zLh_5 hL) (zInv_M (zInv_W hI (by assumption)) ⟨by assumption, by assumption⟩) hc0 hc1 (by omega) hc3) | (refine zlJ_end hN (by first | exact hL | exact zLh_6 (zLh_5 hL) | exact zLh_5 hL) (zInv_M hI (by assumption)) hc0 hc1 (by omega) hc3) | skip)
set_option maxHeartbeats 2000000 in
set_option maxRecDepth 100000 in
theorem lL_law_1141 (N : Nat) (hN : N ≤ 3072) (xs : Nat → Int) (n k : Nat) (ls : zL) (st : List zV) (mem : zM) (hJ : zlJ N 6 0 1 n k ls st mem) : zlwp N xs zLay (fun _ => none) (zCf VL_law) (zCf WL_law) (fun v _ => v = 1) 7 (zBf BL_law) (zlBelow (zlHf (HL_law N)) n) 20 k 1141 ls st mem := by
  obtain ⟨h0, h1, h2, h3, ht4, rfl, hI, hc0, hc1, hc2, hc3⟩ := hJ
  obtain ⟨x4, h4⟩ : ∃ x, ls 4 = (0, x) := ⟨_, Prod.ext ht4 rfl⟩
  simp only [h4] at hc0 hc1 hc2 hc3
  have hL : zLh ls x4 := ⟨h0, h1, h2, h3, h4⟩
  have e1 : zw (x4 + 1) = x4 + 1 := zw_id (by omega) (by omega)
  have e2 : zw (x4 + 2) = x4 + 2 := zw_id (by omega) (by omega)
  have e3 : zw (x4 + 3) = x4 + 3 := zw_id (by omega) (by omega)
  have e4 : zw (x4 + 4) = x4 + 4 := zw_id (by omega) (by omega)
  have e5 : zw (x4 + 5) = x4 + 5 := zw_id (by omega) (by omega)
  have e6 : zw (x4 + 6) = x4 + 6 := zw_id (by omega) (by omega)
  have e7 : zw ((N : Int) - 6) = (N : Int) - 6 := zw_id (by omega) (by omega)
  simp (maxSteps := 3000000) only [↓zlwp_s, zlrun_n, zlrun_c, ↓gL_law_1161, ↓gL_law_1162, ↓gL_law_1188, ↓gL_law_1189, ↓gL_law_1197, ↓gL_law_1246, ↓zp1_c, ↓zpv_c, ↓ztg_e, ↓reduceIte, ↓zl_aload_n, ↓zl_goto, ↓zl_iadd, ↓zl_iaload, ↓zl_iconst, ↓zl_ifCond, ↓zl_iload, ↓zl_istore, ↓zi_aload_n, ↓zi_goto, ↓zi_iadd, ↓zi_iconst, ↓zi_ifCond, ↓zi_iload, ↓zi_istore, zcmp_eq, zcmp_ne, zcmp_gt, bL_law_1141, bL_law_1161, bL_law_1162, bL_law_1188, bL_law_1189, ↓zlw_g (cw := zCf WL_law) (q := 203) (h := (rfl : zCf WL_law 203 = some CL_ahead)), ↓zlv_g (cv := zCf VL_law) (q := 206) (h := (rfl : zCf VL_law 206 = some CX11_ahead)), List.size_toArray, zent_n, zent_c, zst_e, zfi0, zfi1, zfi2, zfi3, zcast, Nat.reduceAdd, Nat.reduceSub, Nat.reduceEqDiff, Nat.reduceLT, Nat.reduceLeDiff, Int.reduceAdd, Int.reduceSub, Int.reduceMul, Int.reduceToNat, Int.reduceLE, Int.reduceLT, Int.reduceEq, Int.reduceNeg, Int.reduceNegSucc, Nat.reduceMul, List.zip_cons_cons, List.zip_nil_left, List.zip_nil_right, Int.toNat_natCast, true_and, and_true, eq_self, ne_eq, not_false_eq_true, not_true_eq_false, forall_const, implies_true, false_and, true_or, or_true, false_or, or_false, imp_self, and_imp, exists_eq_left, exists_eq_left', exists_eq_right, exists_eq_right', exists_and_left, exists_and_right, Prod.mk.injEq, zAdd_e, zSub_e, zMul_e, zres_0, zres_4, zres_1, zres_9, zrt_0, zrt_4, zrt_1, zrt_9, List.take_succ_cons, List.take_zero, List.drop_succ_cons, List.drop_zero, List.map_cons, List.map_nil, List.reverse_cons, List.reverse_nil, List.nil_append, List.cons_append, List.length_cons, List.length_nil, zPr_c, List.mem_cons, List.not_mem_nil, ↓zIV_e, zcats, List.sum_cons, List.sum_nil, zpu, zfu, zset_e, h0, h1, h2, h3, h4, e1, e2, e3, e4, e5, e6, e7]
  repeat' (first | (with_reducible refine And.intro ?_ ?_) | (with_reducible intro _))
  all_goals (first | trivial | omega | exact hI.1 | exact zInv_i hI | exact zInv_z hI | exact zInv_i (zInv_W hI (by assumption)) | exact zInv_z (zInv_W hI (by assumption)) | (refine zlJ_end hN (by first | exact hL | exact zLh_6 (zLh_5 hL) | exact zLh_5 hL) (zInv_M (zInv_W hI (by assumption)) (by assumption)) hc0 hc1 (by omega) hc3) | (refine zlJ_end hN (by first | exact hL | exact zLh_6 (zLh_5 hL) | exact zLh_5 hL) (zInv_M (zInv_W hI (by assumption)) ⟨by assumption, by assumption⟩) hc0 hc1 (by omega) hc3) | (refine zlJ_end hN (by first | exact hL | exact zLh_6 (zLh_5 hL) | exact zLh_5 hL) (zInv_M hI (by assumption)) hc0 hc1 (by omega) hc3) | skip)
set_option maxHeartbeats 2000000 in
set_option maxRecDepth 100000 in
theorem lL_law_1197 (N : Nat) (hN : N ≤ 3072) (xs : Nat → Int) (n k : Nat) (ls : zL) (st : List zV) (mem : zM) (hJ : zlJ N 6 0 1 n k ls st mem) : zlwp N xs zLay (fun _ => none) (zCf VL_law) (zCf WL_law) (fun v _ => v = 1) 7 (zBf BL_law) (zlBelow (zlHf (HL_law N)) n) 20 k 1197 ls st mem := by
  obtain ⟨h0, h1, h2, h3, ht4, rfl, hI, hc0, hc1, hc2, hc3⟩ := hJ
  obtain ⟨x4, h4⟩ : ∃ x, ls 4 = (0, x) := ⟨_, Prod.ext ht4 rfl⟩
  simp only [h4] at hc0 hc1 hc2 hc3
  have hL : zLh ls x4 := ⟨h0, h1, h2, h3, h4⟩
  have e1 : zw (x4 + 1) = x4 + 1 := zw_id (by omega) (by omega)
  have e2 : zw (x4 + 2) = x4 + 2 := zw_id (by omega) (by omega)
  have e3 : zw (x4 + 3) = x4 + 3 := zw_id (by omega) (by omega)
  have e4 : zw (x4 + 4) = x4 + 4 := zw_id (by omega) (by omega)
  have e5 : zw (x4 + 5) = x4 + 5 := zw_id (by omega) (by omega)
  have e6 : zw (x4 + 6) = x4 + 6 := zw_id (by omega) (by omega)
  have e7 : zw ((N : Int) - 6) = (N : Int) - 6 := zw_id (by omega) (by omega)
  simp (maxSteps := 3000000) only [↓zlwp_s, zlrun_n, zlrun_c, ↓gL_law_1208, ↓gL_law_1246, ↓zp1_c, ↓zpv_c, ↓ztg_e, ↓reduceIte, ↓zl_aload_n, ↓zl_goto, ↓zi_aload_n, ↓zi_goto, zcmp_eq, zcmp_ne, zcmp_gt, bL_law_1197, ↓zlv_g (cv := zCf VL_law) (q := 207) (h := (rfl : zCf VL_law 207 = some CX10_image)), ↓zlv_g (cv := zCf VL_law) (q := 210) (h := (rfl : zCf VL_law 210 = some CX11_image)), List.size_toArray, zent_n, zent_c, zst_e, zfi0, zfi1, zfi2, zfi3, zcast, Nat.reduceAdd, Nat.reduceSub, Nat.reduceEqDiff, Nat.reduceLT, Nat.reduceLeDiff, Int.reduceAdd, Int.reduceSub, Int.reduceMul, Int.reduceToNat, Int.reduceLE, Int.reduceLT, Int.reduceEq, Int.reduceNeg, Int.reduceNegSucc, Nat.reduceMul, List.zip_cons_cons, List.zip_nil_left, List.zip_nil_right, Int.toNat_natCast, true_and, and_true, eq_self, ne_eq, not_false_eq_true, not_true_eq_false, forall_const, implies_true, false_and, true_or, or_true, false_or, or_false, imp_self, and_imp, exists_eq_left, exists_eq_left', exists_eq_right, exists_eq_right', exists_and_left, exists_and_right, Prod.mk.injEq, zAdd_e, zSub_e, zMul_e, zres_0, zres_4, zres_1, zres_9, zrt_0, zrt_4, zrt_1, zrt_9, List.take_succ_cons, List.take_zero, List.drop_succ_cons, List.drop_zero, List.map_cons, List.map_nil, List.reverse_cons, List.reverse_nil, List.nil_append, List.cons_append, List.length_cons, List.length_nil, zPr_c, List.mem_cons, List.not_mem_nil, ↓zIV_e, zcats, List.sum_cons, List.sum_nil, zpu, zfu, zset_e, h0, h1, h2, h3, h4, e1, e2, e3, e4, e5, e6, e7]
  repeat' (first | (with_reducible refine And.intro ?_ ?_) | (with_reducible intro _))
  all_goals (first | trivial | omega | (refine zlJ_end hN (by first | exact hL | exact zLh_6 (zLh_5 hL) | exact zLh_5 hL) (zInv_image hI (by assumption) ⟨by assumption, by assumption, by assumption⟩) hc0 hc1 (by omega) hc3) | skip)
set_option maxHeartbeats 2000000 in
set_option maxRecDepth 100000 in
theorem lL_law_1208 (N : Nat) (hN : N ≤ 3072) (xs : Nat → Int) (n k : Nat) (ls : zL) (st : List zV) (mem : zM) (hJ : zlJ N 6 0 1 n k ls st mem) : zlwp N xs zLay (fun _ => none) (zCf VL_law) (zCf WL_law) (fun v _ => v = 1) 7 (zBf BL_law) (zlBelow (zlHf (HL_law N)) n) 20 k 1208 ls st mem := by
  obtain ⟨h0, h1, h2, h3, ht4, rfl, hI, hc0, hc1, hc2, hc3⟩ := hJ
  obtain ⟨x4, h4⟩ : ∃ x, ls 4 = (0, x) := ⟨_, Prod.ext ht4 rfl⟩
  simp only [h4] at hc0 hc1 hc2 hc3
  have hL : zLh ls x4 := ⟨h0, h1, h2, h3, h4⟩
  have e1 : zw (x4 + 1) = x4 + 1 := zw_id (by omega) (by omega)
  have e2 : zw (x4 + 2) = x4 + 2 := zw_id (by omega) (by omega)
  have e3 : zw (x4 + 3) = x4 + 3 := zw_id (by omega) (by omega)
  have e4 : zw (x4 + 4) = x4 + 4 := zw_id (by omega) (by omega)
  have e5 : zw (x4 + 5) = x4 + 5 := zw_id (by omega) (by omega)
  have e6 : zw (x4 + 6) = x4 + 6 := zw_id (by omega) (by omega)
  have e7 : zw ((N : Int) - 6) = (N : Int) - 6 := zw_id (by omega) (by omega)
  simp (maxSteps := 3000000) only [↓zlwp_s, zlrun_n, zlrun_c, ↓gL_law_1221, ↓gL_law_1246, ↓zp1_c, ↓zpv_c, ↓ztg_e, ↓reduceIte, ↓zl_aload_n, ↓zl_iconst, ↓zl_if_icmp, ↓zl_ireturn, ↓zi_aload_n, ↓zi_iconst, ↓zi_if_icmp, ↓zi_ireturn, zcmp_eq, zcmp_ne, zcmp_gt, bL_law_1208, ↓zlv_g (cv := zCf VL_law) (q := 211) (h := (rfl : zCf VL_law 211 = some CX10_back)), ↓zlv_g (cv := zCf VL_law) (q := 214) (h := (rfl : zCf VL_law 214 = some CX11_back)), List.size_toArray, zent_n, zent_c, zst_e, zfi0, zfi1, zfi2, zfi3, zcast, Nat.reduceAdd, Nat.reduceSub, Nat.reduceEqDiff, Nat.reduceLT, Nat.reduceLeDiff, Int.reduceAdd, Int.reduceSub, Int.reduceMul, Int.reduceToNat, Int.reduceLE, Int.reduceLT, Int.reduceEq, Int.reduceNeg, Int.reduceNegSucc, Nat.reduceMul, List.zip_cons_cons, List.zip_nil_left, List.zip_nil_right, Int.toNat_natCast, true_and, and_true, eq_self, ne_eq, not_false_eq_true, not_true_eq_false, forall_const, implies_true, false_and, true_or, or_true, false_or, or_false, imp_self, and_imp, exists_eq_left, exists_eq_left', exists_eq_right, exists_eq_right', exists_and_left, exists_and_right, Prod.mk.injEq, zAdd_e, zSub_e, zMul_e, zres_0, zres_4, zres_1, zres_9, zrt_0, zrt_4, zrt_1, zrt_9, List.take_succ_cons, List.take_zero, List.drop_succ_cons, List.drop_zero, List.map_cons, List.map_nil, List.reverse_cons, List.reverse_nil, List.nil_append, List.cons_append, List.length_cons, List.length_nil, zPr_c, List.mem_cons, List.not_mem_nil, ↓zIV_e, zcats, List.sum_cons, List.sum_nil, zpu, zfu, zset_e, h0, h1, h2, h3, h4, e1, e2, e3, e4, e5, e6, e7]
  repeat' (first | (with_reducible refine And.intro ?_ ?_) | (with_reducible intro _))
  all_goals (first | trivial | omega | exact absurd (zInv_back hI ⟨by assumption, by assumption⟩ (by assumption)).1 (by assumption) | (refine zlJ_end hN (by first | exact hL | exact zLh_6 (zLh_5 hL) | exact zLh_5 hL) ((zInv_back hI ⟨by assumption, by assumption⟩ (by assumption)).2) hc0 hc1 (by omega) hc3) | skip)
set_option maxHeartbeats 2000000 in
set_option maxRecDepth 100000 in
theorem lL_law_1221 (N : Nat) (hN : N ≤ 3072) (xs : Nat → Int) (n k : Nat) (ls : zL) (st : List zV) (mem : zM) (hJ : zlJ N 6 0 1 n k ls st mem) : zlwp N xs zLay (fun _ => none) (zCf VL_law) (zCf WL_law) (fun v _ => v = 1) 7 (zBf BL_law) (zlBelow (zlHf (HL_law N)) n) 20 k 1221 ls st mem := by
  obtain ⟨h0, h1, h2, h3, ht4, rfl, hI, hc0, hc1, hc2, hc3⟩ := hJ
  obtain ⟨x4, h4⟩ : ∃ x, ls 4 = (0, x) := ⟨_, Prod.ext ht4 rfl⟩
  simp only [h4] at hc0 hc1 hc2 hc3
  have hL : zLh ls x4 := ⟨h0, h1, h2, h3, h4⟩
  have e1 : zw (x4 + 1) = x4 + 1 := zw_id (by omega) (by omega)
  have e2 : zw (x4 + 2) = x4 + 2 := zw_id (by omega) (by omega)
  have e3 : zw (x4 + 3) = x4 + 3 := zw_id (by omega) (by omega)
  have e4 : zw (x4 + 4) = x4 + 4 := zw_id (by omega) (by omega)
  have e5 : zw (x4 + 5) = x4 + 5 := zw_id (by omega) (by omega)
  have e6 : zw (x4 + 6) = x4 + 6 := zw_id (by omega) (by omega)
  have e7 : zw ((N : Int) - 6) = (N : Int) - 6 := zw_id (by omega) (by omega)
  simp (maxSteps := 3000000) only [↓zlwp_s, zlrun_n, zlrun_c, ↓gL_law_1246, ↓zp1_c, ↓zpv_c, ↓ztg_e, ↓reduceIte, ↓zl_aload_n, ↓zl_goto, ↓zl_iadd, ↓zl_iaload, ↓zl_iconst, ↓zl_iload, ↓zl_pop, ↓zi_aload_n, ↓zi_goto, ↓zi_iadd, ↓zi_iconst, ↓zi_iload, ↓zi_pop, zcmp_eq, zcmp_ne, zcmp_gt, bL_law_1221, ↓zlv_p (cv := zCf VL_law) (q := 215) (h := (rfl : zCf VL_law 215 = some CX10_count)), ↓zlv_g (cv := zCf VL_law) (q := 218) (h := (rfl : zCf VL_law 218 = some CX11_count)), List.size_toArray, zent_n, zent_c, zst_e, zfi0, zfi1, zfi2, zfi3, zcast, Nat.reduceAdd, Nat.reduceSub, Nat.reduceEqDiff, Nat.reduceLT, Nat.reduceLeDiff, Int.reduceAdd, Int.reduceSub, Int.reduceMul, Int.reduceToNat, Int.reduceLE, Int.reduceLT, Int.reduceEq, Int.reduceNeg, Int.reduceNegSucc, Nat.reduceMul, List.zip_cons_cons, List.zip_nil_left, List.zip_nil_right, Int.toNat_natCast, true_and, and_true, eq_self, ne_eq, not_false_eq_true, not_true_eq_false, forall_const, implies_true, false_and, true_or, or_true, false_or, or_false, imp_self, and_imp, exists_eq_left, exists_eq_left', exists_eq_right, exists_eq_right', exists_and_left, exists_and_right, Prod.mk.injEq, zAdd_e, zSub_e, zMul_e, zres_0, zres_4, zres_1, zres_9, zrt_0, zrt_4, zrt_1, zrt_9, List.take_succ_cons, List.take_zero, List.drop_succ_cons, List.drop_zero, List.map_cons, List.map_nil, List.reverse_cons, List.reverse_nil, List.nil_append, List.cons_append, List.length_cons, List.length_nil, zPr_c, List.mem_cons, List.not_mem_nil, ↓zIV_e, zcats, List.sum_cons, List.sum_nil, zpu, zfu, zset_e, h0, h1, h2, h3, h4, e1, e2, e3, e4, e5, e6, e7]
  repeat' (first | (with_reducible refine And.intro ?_ ?_) | (with_reducible intro _))
  all_goals (first | trivial | omega | exact hI.1 | exact zInv_i hI | exact zInv_z hI | exact zInv_i (zInv_W hI (by assumption)) | exact zInv_z (zInv_W hI (by assumption)) | (refine zlJ_end hN (by first | exact hL | exact zLh_6 (zLh_5 hL) | exact zLh_5 hL) (zInv_M (zInv_W hI (by assumption)) (by assumption)) hc0 hc1 (by omega) hc3) | (refine zlJ_end hN (by first | exact hL | exact zLh_6 (zLh_5 hL) | exact zLh_5 hL) (zInv_M (zInv_W hI (by assumption)) ⟨by assumption, by assumption⟩) hc0 hc1 (by omega) hc3) | (refine zlJ_end hN (by first | exact hL | exact zLh_6 (zLh_5 hL) | exact zLh_5 hL) (zInv_M hI (by assumption)) hc0 hc1 (by omega) hc3) | skip)
