def CX7_hasRoom : zCt := ([2], 4, zPr [53] (fun vs mem => match vs with | [t] => (True) | _ => False), zfu (fun vs mem => match vs with | [t] => (if zw (mem 53 1 + 20) ≤ 400 then 1 else 0) | _ => 0))
def VX7_hasRoom : List (Nat × zCt) := []
def SX7_hasRoom : List (Nat × zCt) := []
set_option maxHeartbeats 1000000 in
set_option maxRecDepth 100000 in
theorem mX7_hasRoom (l : Launch) : zMet l zLay yX7_hasRoom cX7_hasRoom 1 (some .boolean) 0 CX7_hasRoom.1 CX7_hasRoom.2.1 CX7_hasRoom.2.2.1 CX7_hasRoom.2.2.2 := by
  refine zMet_of (pl := zPlf PX7) (cv := zCf VX7_hasRoom) (cS := zCf SX7_hasRoom) (B := zBf BX7_hasRoom) (F := 80) (own := RX7) (by decide) rfl (Or.inr (Or.inl ⟨rfl, rfl⟩)) (fun vs h => by obtain ⟨t, rfl⟩ := zlen1 h; exact Nat.le_of_ble_eq_true rfl) PX7_ok zClok_ok zSyok_ok oX7_hasRoom (zAllC_e (zAllC_n)) (zAllC_e (zAllC_n)) ?_
  intro vs mem hvl hok hm hpre
  obtain ⟨t, rfl⟩ := zlen1 hvl
  clear hok hvl
  obtain ⟨hid, hpre⟩ := hpre
  simp only [List.mem_cons, List.not_mem_nil, or_false] at hid
  have hpre : True := hpre
  subst hid
  refine ⟨zIf [], zAllI_e zAllI_n, ?_⟩
  simp only [↓zwp_s, zrun_n, zrun_c, zgo_any, zgo_bel, ↓zgA_n, ↓zgA_c, ↓zgB_n, ↓zgB_c, ↓zp1_c, ↓zpv_c, ↓ztg_e, ↓zFv_r, ↓zFv_i, ↓zFv_z, ↓reduceIte, ↓zi_aload_n, ↓zi_bipush, ↓zi_getfield, ↓zi_goto, ↓zi_iadd, ↓zi_iconst, ↓zi_if_icmp, ↓zi_ireturn, ↓zi_sipush, zcmp_gt, ↓zpl_e pX7_15, ↓zo_53_0, ↓zo_53_1, ↓za_54, bX7_hasRoom_0, bX7_hasRoom_17, bX7_hasRoom_18, zent_n, zent_c, zst_e, zfi0, zfi1, zfi2, zfi3, zcast, Nat.reduceAdd, Nat.reduceSub, Nat.reduceEqDiff, Nat.reduceLT, Nat.reduceLeDiff, Int.reduceAdd, Int.reduceSub, Int.reduceMul, Int.reduceToNat, Int.reduceLE, Int.reduceLT, Int.reduceEq, Int.reduceNeg, Int.reduceNegSucc, Nat.reduceMul, List.zip_cons_cons, List.zip_nil_left, List.zip_nil_right, Int.toNat_natCast, true_and, and_true, eq_self, ne_eq, not_false_eq_true, not_true_eq_false, forall_const, implies_true, false_and, true_or, or_true, false_or, or_false, imp_self, CX7_hasRoom, exists_eq_left, exists_eq_left', exists_eq_right, exists_eq_right', exists_and_left, exists_and_right, Prod.mk.injEq, zAdd_e, zSub_e, zMul_e, zres_0, zres_4, zres_1, zres_9, zrt_0, zrt_4, zrt_1, zrt_9, List.take_succ_cons, List.take_zero, List.drop_succ_cons, List.drop_zero, List.map_cons, List.map_nil, List.reverse_cons, List.reverse_nil, List.nil_append, List.cons_append, List.length_cons, List.length_nil, zPr_c, List.mem_cons, List.not_mem_nil, ↓zIV_e, zcats, List.sum_cons, List.sum_nil, zpu, zfu, zset_e]
  refine And.intro ?_ ?_ <;> intro _ <;> split <;> omega
def CX7_cut : zCt := ([2, 0], 4, zPr [53] (fun vs mem => match vs with | [t, n] => (True) | _ => False), (fun vs mem r mem' => match vs with | [t, n] => ((if 0 ≤ n ∧ n ≤ mem 53 1 then r = 1 ∧ mem' = zset mem 53 1 n else r = 0 ∧ mem' = mem)) | _ => False))
def VX7_cut : List (Nat × zCt) := []
def SX7_cut : List (Nat × zCt) := []
set_option maxHeartbeats 1000000 in
set_option maxRecDepth 100000 in
theorem mX7_cut (l : Launch) : zMet l zLay yX7_cut cX7_cut 2 (some .boolean) 0 CX7_cut.1 CX7_cut.2.1 CX7_cut.2.2.1 CX7_cut.2.2.2 := by
  refine zMet_of (pl := zPlf PX7) (cv := zCf VX7_cut) (cS := zCf SX7_cut) (B := zBf BX7_cut) (F := 80) (own := RX7) (by decide) rfl (Or.inr (Or.inl ⟨rfl, rfl⟩)) (fun vs h => by obtain ⟨t, n, rfl⟩ := zlen2 h; exact Nat.le_of_ble_eq_true rfl) PX7_ok zClok_ok zSyok_ok oX7_cut (zAllC_e (zAllC_n)) (zAllC_e (zAllC_n)) ?_
  intro vs mem hvl hok hm hpre
  obtain ⟨t, n, rfl⟩ := zlen2 hvl
  have hr_n : -2147483648 ≤ n ∧ n ≤ 2147483647 := (hok (0, n) (by simp [CX7_cut])).1 rfl
  clear hok hvl
  obtain ⟨hid, hpre⟩ := hpre
  simp only [List.mem_cons, List.not_mem_nil, or_false] at hid
  have hpre : True := hpre
  subst hid
  refine ⟨zIf [], zAllI_e zAllI_n, ?_⟩
  simp only [↓zwp_s, zrun_n, zrun_c, zgo_any, zgo_bel, ↓zgA_n, ↓zgA_c, ↓zgB_n, ↓zgB_c, ↓zp1_c, ↓zpv_c, ↓ztg_e, ↓zFv_r, ↓zFv_i, ↓zFv_z, ↓reduceIte, ↓zi_aload_n, ↓zi_getfield, ↓zi_iconst, ↓zi_ifCond, ↓zi_if_icmp, ↓zi_iload_n, ↓zi_ireturn, ↓zi_putfield, zcmp_lt, zcmp_le, ↓zpl_e pX7_15, ↓zo_53_0, ↓zo_53_1, ↓za_54, bX7_cut_0, bX7_cut_12, bX7_cut_14, zent_n, zent_c, zst_e, zfi0, zfi1, zfi2, zfi3, zcast, Nat.reduceAdd, Nat.reduceSub, Nat.reduceEqDiff, Nat.reduceLT, Nat.reduceLeDiff, Int.reduceAdd, Int.reduceSub, Int.reduceMul, Int.reduceToNat, Int.reduceLE, Int.reduceLT, Int.reduceEq, Int.reduceNeg, Int.reduceNegSucc, Nat.reduceMul, List.zip_cons_cons, List.zip_nil_left, List.zip_nil_right, Int.toNat_natCast, true_and, and_true, eq_self, ne_eq, not_false_eq_true, not_true_eq_false, forall_const, implies_true, false_and, true_or, or_true, false_or, or_false, imp_self, CX7_cut, exists_eq_left, exists_eq_left', exists_eq_right, exists_eq_right', exists_and_left, exists_and_right, Prod.mk.injEq, zAdd_e, zSub_e, zMul_e, zres_0, zres_4, zres_1, zres_9, zrt_0, zrt_4, zrt_1, zrt_9, List.take_succ_cons, List.take_zero, List.drop_succ_cons, List.drop_zero, List.map_cons, List.map_nil, List.reverse_cons, List.reverse_nil, List.nil_append, List.cons_append, List.length_cons, List.length_nil, zPr_c, List.mem_cons, List.not_mem_nil, ↓zIV_e, zcats, List.sum_cons, List.sum_nil, zpu, zfu, zset_e]
  repeat' (first | (refine And.intro ?_ ?_) | (intro _))
  all_goals (simp_all <;> omega)
def CX10_isCell : zCt := ([0], 4, (fun vs mem => match vs with | [c] => (True) | _ => False), zfu (fun vs mem => match vs with | [c] => (if 0 ≤ c ∧ c < 100 then 1 else 0) | _ => 0))
def VX10_isCell : List (Nat × zCt) := []
def SX10_isCell : List (Nat × zCt) := []
set_option maxHeartbeats 1000000 in
set_option maxRecDepth 100000 in
theorem mX10_isCell (l : Launch) : zMet l zLay yX10_isCell cX10_isCell 1 (some .boolean) 0 CX10_isCell.1 CX10_isCell.2.1 CX10_isCell.2.2.1 CX10_isCell.2.2.2 := by
  refine zMet_of (pl := zPlf PX10) (cv := zCf VX10_isCell) (cS := zCf SX10_isCell) (B := zBf BX10_isCell) (F := 80) (own := RX10) (by decide) rfl (Or.inr (Or.inl ⟨rfl, rfl⟩)) (fun vs h => by obtain ⟨c, rfl⟩ := zlen1 h; exact Nat.le_of_ble_eq_true rfl) PX10_ok zClok_ok zSyok_ok oX10_isCell (zAllC_e (zAllC_n)) (zAllC_e (zAllC_n)) ?_
  intro vs mem hvl hok hm hpre
  obtain ⟨c, rfl⟩ := zlen1 hvl
  have hr_c : -2147483648 ≤ c ∧ c ≤ 2147483647 := (hok (0, c) (by simp [CX10_isCell])).1 rfl
  clear hok hvl
  have hpre : True := hpre
  refine ⟨zIf [], zAllI_e zAllI_n, ?_⟩
  simp only [↓zwp_s, zrun_n, zrun_c, zgo_any, zgo_bel, ↓zgA_n, ↓zgA_c, ↓zgB_n, ↓zgB_c, ↓zp1_c, ↓zpv_c, ↓ztg_e, ↓zFv_r, ↓zFv_i, ↓zFv_z, ↓reduceIte, ↓zi_bipush, ↓zi_goto, ↓zi_iconst, ↓zi_ifCond, ↓zi_if_icmp, ↓zi_iload_n, ↓zi_ireturn, zcmp_lt, zcmp_ge, bX10_isCell_0, bX10_isCell_14, bX10_isCell_15, zent_n, zent_c, zst_e, zfi0, zfi1, zfi2, zfi3, zcast, Nat.reduceAdd, Nat.reduceSub, Nat.reduceEqDiff, Nat.reduceLT, Nat.reduceLeDiff, Int.reduceAdd, Int.reduceSub, Int.reduceMul, Int.reduceToNat, Int.reduceLE, Int.reduceLT, Int.reduceEq, Int.reduceNeg, Int.reduceNegSucc, Nat.reduceMul, List.zip_cons_cons, List.zip_nil_left, List.zip_nil_right, Int.toNat_natCast, true_and, and_true, eq_self, ne_eq, not_false_eq_true, not_true_eq_false, forall_const, implies_true, false_and, true_or, or_true, false_or, or_false, imp_self, CX10_isCell, exists_eq_left, exists_eq_left', exists_eq_right, exists_eq_right', exists_and_left, exists_and_right, Prod.mk.injEq, zAdd_e, zSub_e, zMul_e, zres_0, zres_4, zres_1, zres_9, zrt_0, zrt_4, zrt_1, zrt_9, List.take_succ_cons, List.take_zero, List.drop_succ_cons, List.drop_zero, List.map_cons, List.map_nil, List.reverse_cons, List.reverse_nil, List.nil_append, List.cons_append, List.length_cons, List.length_nil, zPr_c, List.mem_cons, List.not_mem_nil, ↓zIV_e, zcats, List.sum_cons, List.sum_nil, zpu, zfu, zset_e]
  repeat' (first | (refine And.intro ?_ ?_) | (intro _))
  all_goals (simp_all <;> omega)
def CX0_kindOf : zCt := ([2, 0], 0, zPr [2, 24, 45] (fun vs mem => match vs with | [t, c] => (True) | _ => False), zpu (fun vs mem r => match vs with | [t, c] => (True) | _ => False))
def VX0_kindOf : List (Nat × zCt) := []
def SX0_kindOf : List (Nat × zCt) := [(22, CX10_isCell)]
set_option maxHeartbeats 1000000 in
set_option maxRecDepth 100000 in
theorem mX0_kindOf (l : Launch) : zMet l zLay yX0_kindOf cX0_kindOf 2 (some .int) 1 CX0_kindOf.1 CX0_kindOf.2.1 CX0_kindOf.2.2.1 CX0_kindOf.2.2.2 := by
  refine zMet_of (pl := zPlf PX0) (cv := zCf VX0_kindOf) (cS := zCf SX0_kindOf) (B := zBf BX0_kindOf) (F := 80) (own := RX0) (by decide) rfl (Or.inl ⟨rfl, rfl⟩) (fun vs h => by obtain ⟨t, c, rfl⟩ := zlen2 h; exact Nat.le_of_ble_eq_true rfl) PX0_ok zClok_ok zSyok_ok oX0_kindOf (zAllC_e (zAllC_n)) (zAllC_e (zAllC_c (zcal_s (mX10_isCell l) (by decide) (by decide) hX10_isCell kX0_22 ⟨by decide, by decide +kernel⟩) (zAllC_n))) ?_
  intro vs mem hvl hok hm hpre
  obtain ⟨t, c, rfl⟩ := zlen2 hvl
  have hr_c : -2147483648 ≤ c ∧ c ≤ 2147483647 := (hok (0, c) (by simp [CX0_kindOf])).1 rfl
  clear hok hvl
  obtain ⟨hid, hpre⟩ := hpre
  simp only [List.mem_cons, List.not_mem_nil, or_false] at hid
  have hpre : True := hpre
  rcases hid with hid | hid | hid <;> subst hid
  · refine ⟨zIf [], zAllI_e zAllI_n, ?_⟩
    simp only [↓zwp_s, zrun_n, zrun_c, zgo_any, zgo_bel, ↓zgA_n, ↓zgA_c, ↓zgB_n, ↓zgB_c, ↓zp1_c, ↓zpv_c, ↓ztg_e, ↓zFv_r, ↓zFv_i, ↓zFv_z, ↓reduceIte, ↓zi_aload_n, ↓zi_getfield, ↓zi_goto, ↓zi_iaload, ↓zi_iconst, ↓zi_ifCond, ↓zi_iload_n, ↓zi_ireturn, zcmp_eq, ↓zpl_e pX0_9, ↓zo_2_0, ↓zo_2_1, ↓zo_2_2, ↓za_3, ↓za_4, ↓zo_24_0, ↓zo_24_1, ↓zo_24_2, ↓za_25, ↓za_26, ↓zo_45_0, ↓zo_45_1, ↓zo_45_2, ↓za_46, ↓za_47, bX0_kindOf_0, bX0_kindOf_16, bX0_kindOf_17, zent_n, zent_c, zst_e, zfi0, zfi1, zfi2, zfi3, zcast, Nat.reduceAdd, Nat.reduceSub, Nat.reduceEqDiff, Nat.reduceLT, Nat.reduceLeDiff, Int.reduceAdd, Int.reduceSub, Int.reduceMul, Int.reduceToNat, Int.reduceLE, Int.reduceLT, Int.reduceEq, Int.reduceNeg, Int.reduceNegSucc, Nat.reduceMul, List.zip_cons_cons, List.zip_nil_left, List.zip_nil_right, Int.toNat_natCast, true_and, and_true, eq_self, ne_eq, not_false_eq_true, not_true_eq_false, forall_const, implies_true, false_and, true_or, or_true, false_or, or_false, imp_self, CX0_kindOf, ↓zs_cf (cS := zCf SX0_kindOf) (pl := zPlf PX0) (k := 22) (h := (rfl : zCf SX0_kindOf 22 = some CX10_isCell)) (h2 := rfl), exists_eq_left, exists_eq_left', exists_eq_right, exists_eq_right', exists_and_left, exists_and_right, Prod.mk.injEq, zAdd_e, zSub_e, zMul_e, zres_0, zres_4, zres_1, zres_9, zrt_0, zrt_4, zrt_1, zrt_9, List.take_succ_cons, List.take_zero, List.drop_succ_cons, List.drop_zero, List.map_cons, List.map_nil, List.reverse_cons, List.reverse_nil, List.nil_append, List.cons_append, List.length_cons, List.length_nil, zPr_c, List.mem_cons, List.not_mem_nil, ↓zIV_e, zcats, List.sum_cons, List.sum_nil, zpu, zfu, zset_e]
    repeat' (first | (refine And.intro ?_ ?_) | (intro _))
    all_goals (try (simp only [zw] at *))
    all_goals (try omega)
  · refine ⟨zIf [], zAllI_e zAllI_n, ?_⟩
    simp only [↓zwp_s, zrun_n, zrun_c, zgo_any, zgo_bel, ↓zgA_n, ↓zgA_c, ↓zgB_n, ↓zgB_c, ↓zp1_c, ↓zpv_c, ↓ztg_e, ↓zFv_r, ↓zFv_i, ↓zFv_z, ↓reduceIte, ↓zi_aload_n, ↓zi_getfield, ↓zi_goto, ↓zi_iaload, ↓zi_iconst, ↓zi_ifCond, ↓zi_iload_n, ↓zi_ireturn, zcmp_eq, ↓zpl_e pX0_9, ↓zo_2_0, ↓zo_2_1, ↓zo_2_2, ↓za_3, ↓za_4, ↓zo_24_0, ↓zo_24_1, ↓zo_24_2, ↓za_25, ↓za_26, ↓zo_45_0, ↓zo_45_1, ↓zo_45_2, ↓za_46, ↓za_47, bX0_kindOf_0, bX0_kindOf_16, bX0_kindOf_17, zent_n, zent_c, zst_e, zfi0, zfi1, zfi2, zfi3, zcast, Nat.reduceAdd, Nat.reduceSub, Nat.reduceEqDiff, Nat.reduceLT, Nat.reduceLeDiff, Int.reduceAdd, Int.reduceSub, Int.reduceMul, Int.reduceToNat, Int.reduceLE, Int.reduceLT, Int.reduceEq, Int.reduceNeg, Int.reduceNegSucc, Nat.reduceMul, List.zip_cons_cons, List.zip_nil_left, List.zip_nil_right, Int.toNat_natCast, true_and, and_true, eq_self, ne_eq, not_false_eq_true, not_true_eq_false, forall_const, implies_true, false_and, true_or, or_true, false_or, or_false, imp_self, CX0_kindOf, ↓zs_cf (cS := zCf SX0_kindOf) (pl := zPlf PX0) (k := 22) (h := (rfl : zCf SX0_kindOf 22 = some CX10_isCell)) (h2 := rfl), exists_eq_left, exists_eq_left', exists_eq_right, exists_eq_right', exists_and_left, exists_and_right, Prod.mk.injEq, zAdd_e, zSub_e, zMul_e, zres_0, zres_4, zres_1, zres_9, zrt_0, zrt_4, zrt_1, zrt_9, List.take_succ_cons, List.take_zero, List.drop_succ_cons, List.drop_zero, List.map_cons, List.map_nil, List.reverse_cons, List.reverse_nil, List.nil_append, List.cons_append, List.length_cons, List.length_nil, zPr_c, List.mem_cons, List.not_mem_nil, ↓zIV_e, zcats, List.sum_cons, List.sum_nil, zpu, zfu, zset_e]
    repeat' (first | (refine And.intro ?_ ?_) | (intro _))
    all_goals (try (simp only [zw] at *))
    all_goals (try omega)
  · refine ⟨zIf [], zAllI_e zAllI_n, ?_⟩
    simp only [↓zwp_s, zrun_n, zrun_c, zgo_any, zgo_bel, ↓zgA_n, ↓zgA_c, ↓zgB_n, ↓zgB_c, ↓zp1_c, ↓zpv_c, ↓ztg_e, ↓zFv_r, ↓zFv_i, ↓zFv_z, ↓reduceIte, ↓zi_aload_n, ↓zi_getfield, ↓zi_goto, ↓zi_iaload, ↓zi_iconst, ↓zi_ifCond, ↓zi_iload_n, ↓zi_ireturn, zcmp_eq, ↓zpl_e pX0_9, ↓zo_2_0, ↓zo_2_1, ↓zo_2_2, ↓za_3, ↓za_4, ↓zo_24_0, ↓zo_24_1, ↓zo_24_2, ↓za_25, ↓za_26, ↓zo_45_0, ↓zo_45_1, ↓zo_45_2, ↓za_46, ↓za_47, bX0_kindOf_0, bX0_kindOf_16, bX0_kindOf_17, zent_n, zent_c, zst_e, zfi0, zfi1, zfi2, zfi3, zcast, Nat.reduceAdd, Nat.reduceSub, Nat.reduceEqDiff, Nat.reduceLT, Nat.reduceLeDiff, Int.reduceAdd, Int.reduceSub, Int.reduceMul, Int.reduceToNat, Int.reduceLE, Int.reduceLT, Int.reduceEq, Int.reduceNeg, Int.reduceNegSucc, Nat.reduceMul, List.zip_cons_cons, List.zip_nil_left, List.zip_nil_right, Int.toNat_natCast, true_and, and_true, eq_self, ne_eq, not_false_eq_true, not_true_eq_false, forall_const, implies_true, false_and, true_or, or_true, false_or, or_false, imp_self, CX0_kindOf, ↓zs_cf (cS := zCf SX0_kindOf) (pl := zPlf PX0) (k := 22) (h := (rfl : zCf SX0_kindOf 22 = some CX10_isCell)) (h2 := rfl), exists_eq_left, exists_eq_left', exists_eq_right, exists_eq_right', exists_and_left, exists_and_right, Prod.mk.injEq, zAdd_e, zSub_e, zMul_e, zres_0, zres_4, zres_1, zres_9, zrt_0, zrt_4, zrt_1, zrt_9, List.take_succ_cons, List.take_zero, List.drop_succ_cons, List.drop_zero, List.map_cons, List.map_nil, List.reverse_cons, List.reverse_nil, List.nil_append, List.cons_append, List.length_cons, List.length_nil, zPr_c, List.mem_cons, List.not_mem_nil, ↓zIV_e, zcats, List.sum_cons, List.sum_nil, zpu, zfu, zset_e]
    repeat' (first | (refine And.intro ?_ ?_) | (intro _))
    all_goals (try (simp only [zw] at *))
    all_goals (try omega)
