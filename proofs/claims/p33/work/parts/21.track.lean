def CX8_isRail : zCt := ([2, 0], 4, zPr [5] (fun vs mem => match vs with | [t, a] => (True) | _ => False), zfu (fun vs mem => match vs with | [t, a] => (if 0 ≤ a ∧ a < mem 5 4 ∧ a < 16 then 1 else 0) | _ => 0))
def VX8_isRail : List (Nat × zCt) := []
def SX8_isRail : List (Nat × zCt) := []
set_option maxHeartbeats 1000000 in
set_option maxRecDepth 100000 in
theorem mX8_isRail (l : Launch) : zMet l zLay yX8_isRail cX8_isRail 2 (some .boolean) 0 CX8_isRail.1 CX8_isRail.2.1 CX8_isRail.2.2.1 CX8_isRail.2.2.2 := by
  refine zMet_of (pl := zPlf PX8) (cv := zCf VX8_isRail) (cS := zCf SX8_isRail) (B := zBf BX8_isRail) (F := 80) (own := RX8) (by decide +kernel) rfl (Or.inr (Or.inl ⟨rfl, rfl⟩)) (fun vs h => by obtain ⟨t, a, rfl⟩ := zlen2 h; exact Nat.le_of_ble_eq_true rfl) PX8_ok zClok_ok zSyok_ok oX8_isRail (zAllC_e (zAllC_n)) (zAllC_e (zAllC_n)) ?_
  intro vs mem hvl hok hm hpre
  obtain ⟨t, a, rfl⟩ := zlen2 hvl
  have hr_a : -2147483648 ≤ a ∧ a ≤ 2147483647 := (hok (0, a) (by simp [CX8_isRail])).1 rfl
  clear hok hvl
  obtain ⟨hid, hpre⟩ := hpre
  simp only [List.mem_cons, List.not_mem_nil, or_false] at hid
  have hpre : True := hpre
  subst hid
  refine ⟨zIf [], zAllI_e zAllI_n, ?_⟩
  simp (maxSteps := 3000000) only [↓zwp_s, zrun_n, zrun_c, zgo_any, zgo_bel, ↓zgA_n, ↓zgA_c, ↓zgB_n, ↓zgB_c, ↓zp1_c, ↓zpv_c, ↓ztg_e, ↓zFv_r, ↓zFv_i, ↓zFv_z, ↓reduceIte, ↓zi_aload_n, ↓zi_bipush, ↓zi_getfield, ↓zi_goto, ↓zi_iconst, ↓zi_ifCond, ↓zi_if_icmp, ↓zi_iload_n, ↓zi_ireturn, zcmp_lt, zcmp_ge, ↓zpl_e pX8_24, ↓zo_5_0, ↓zo_5_1, ↓zo_5_2, ↓zo_5_3, ↓zo_5_4, ↓zo_5_5, ↓zo_5_6, ↓zo_5_7, ↓zo_5_8, ↓za_6, ↓za_7, ↓za_8, ↓za_9, ↓za_10, ↓za_11, bX8_isRail_0, bX8_isRail_22, bX8_isRail_23, List.size_toArray, zent_n, zent_c, zst_e, zfi0, zfi1, zfi2, zfi3, zcast, Nat.reduceAdd, Nat.reduceSub, Nat.reduceEqDiff, Nat.reduceLT, Nat.reduceLeDiff, Int.reduceAdd, Int.reduceSub, Int.reduceMul, Int.reduceToNat, Int.reduceLE, Int.reduceLT, Int.reduceEq, Int.reduceNeg, Int.reduceNegSucc, Nat.reduceMul, List.zip_cons_cons, List.zip_nil_left, List.zip_nil_right, Int.toNat_natCast, true_and, and_true, eq_self, ne_eq, not_false_eq_true, not_true_eq_false, forall_const, implies_true, false_and, true_or, or_true, false_or, or_false, imp_self, CX8_isRail, and_imp, exists_eq_left, exists_eq_left', exists_eq_right, exists_eq_right', exists_and_left, exists_and_right, Prod.mk.injEq, zAdd_e, zSub_e, zMul_e, zres_0, zres_4, zres_1, zres_9, zrt_0, zrt_4, zrt_1, zrt_9, List.take_succ_cons, List.take_zero, List.drop_succ_cons, List.drop_zero, List.map_cons, List.map_nil, List.reverse_cons, List.reverse_nil, List.nil_append, List.cons_append, List.length_cons, List.length_nil, zPr_c, List.mem_cons, List.not_mem_nil, ↓zIV_e, zcats, List.sum_cons, List.sum_nil, zpu, zfu, zset_e]
  repeat' (first | (refine And.intro ?_ ?_) | (intro _))
  all_goals (simp_all <;> omega)
def CX8_isSetOut : zCt := ([2], 4, zPr [5] (fun vs mem => match vs with | [t] => (True) | _ => False), zfu (fun vs mem => match vs with | [t] => (if 0 < mem 5 7 then 1 else 0) | _ => 0))
def VX8_isSetOut : List (Nat × zCt) := []
def SX8_isSetOut : List (Nat × zCt) := []
set_option maxHeartbeats 1000000 in
set_option maxRecDepth 100000 in
theorem mX8_isSetOut (l : Launch) : zMet l zLay yX8_isSetOut cX8_isSetOut 1 (some .boolean) 0 CX8_isSetOut.1 CX8_isSetOut.2.1 CX8_isSetOut.2.2.1 CX8_isSetOut.2.2.2 := by
  refine zMet_of (pl := zPlf PX8) (cv := zCf VX8_isSetOut) (cS := zCf SX8_isSetOut) (B := zBf BX8_isSetOut) (F := 80) (own := RX8) (by decide +kernel) rfl (Or.inr (Or.inl ⟨rfl, rfl⟩)) (fun vs h => by obtain ⟨t, rfl⟩ := zlen1 h; exact Nat.le_of_ble_eq_true rfl) PX8_ok zClok_ok zSyok_ok oX8_isSetOut (zAllC_e (zAllC_n)) (zAllC_e (zAllC_n)) ?_
  intro vs mem hvl hok hm hpre
  obtain ⟨t, rfl⟩ := zlen1 hvl
  clear hok hvl
  obtain ⟨hid, hpre⟩ := hpre
  simp only [List.mem_cons, List.not_mem_nil, or_false] at hid
  have hpre : True := hpre
  subst hid
  refine ⟨zIf [], zAllI_e zAllI_n, ?_⟩
  simp (maxSteps := 3000000) only [↓zwp_s, zrun_n, zrun_c, zgo_any, zgo_bel, ↓zgA_n, ↓zgA_c, ↓zgB_n, ↓zgB_c, ↓zp1_c, ↓zpv_c, ↓ztg_e, ↓zFv_r, ↓zFv_i, ↓zFv_z, ↓reduceIte, ↓zi_aload_n, ↓zi_getfield, ↓zi_goto, ↓zi_iconst, ↓zi_ifCond, ↓zi_ireturn, zcmp_le, ↓zpl_e pX8_34, ↓zo_5_0, ↓zo_5_1, ↓zo_5_2, ↓zo_5_3, ↓zo_5_4, ↓zo_5_5, ↓zo_5_6, ↓zo_5_7, ↓zo_5_8, ↓za_6, ↓za_7, ↓za_8, ↓za_9, ↓za_10, ↓za_11, bX8_isSetOut_0, bX8_isSetOut_11, bX8_isSetOut_12, List.size_toArray, zent_n, zent_c, zst_e, zfi0, zfi1, zfi2, zfi3, zcast, Nat.reduceAdd, Nat.reduceSub, Nat.reduceEqDiff, Nat.reduceLT, Nat.reduceLeDiff, Int.reduceAdd, Int.reduceSub, Int.reduceMul, Int.reduceToNat, Int.reduceLE, Int.reduceLT, Int.reduceEq, Int.reduceNeg, Int.reduceNegSucc, Nat.reduceMul, List.zip_cons_cons, List.zip_nil_left, List.zip_nil_right, Int.toNat_natCast, true_and, and_true, eq_self, ne_eq, not_false_eq_true, not_true_eq_false, forall_const, implies_true, false_and, true_or, or_true, false_or, or_false, imp_self, CX8_isSetOut, and_imp, exists_eq_left, exists_eq_left', exists_eq_right, exists_eq_right', exists_and_left, exists_and_right, Prod.mk.injEq, zAdd_e, zSub_e, zMul_e, zres_0, zres_4, zres_1, zres_9, zrt_0, zrt_4, zrt_1, zrt_9, List.take_succ_cons, List.take_zero, List.drop_succ_cons, List.drop_zero, List.map_cons, List.map_nil, List.reverse_cons, List.reverse_nil, List.nil_append, List.cons_append, List.length_cons, List.length_nil, zPr_c, List.mem_cons, List.not_mem_nil, ↓zIV_e, zcats, List.sum_cons, List.sum_nil, zpu, zfu, zset_e]
  repeat' (first | (refine And.intro ?_ ?_) | (intro _))
  all_goals (simp_all <;> omega)
def CX8_wearOf : zCt := ([2, 0], 0, zPr [5] (fun vs mem => match vs with | [t, a] => (True) | _ => False), zpu (fun vs mem r => match vs with | [t, a] => (True) | _ => False))
def VX8_wearOf : List (Nat × zCt) := [(40, CX8_isRail)]
def SX8_wearOf : List (Nat × zCt) := []
set_option maxHeartbeats 1000000 in
set_option maxRecDepth 100000 in
theorem mX8_wearOf (l : Launch) : zMet l zLay yX8_wearOf cX8_wearOf 2 (some .int) 1 CX8_wearOf.1 CX8_wearOf.2.1 CX8_wearOf.2.2.1 CX8_wearOf.2.2.2 := by
  refine zMet_of (pl := zPlf PX8) (cv := zCf VX8_wearOf) (cS := zCf SX8_wearOf) (B := zBf BX8_wearOf) (F := 80) (own := RX8) (by decide +kernel) rfl (Or.inl ⟨rfl, rfl⟩) (fun vs h => by obtain ⟨t, a, rfl⟩ := zlen2 h; exact Nat.le_of_ble_eq_true rfl) PX8_ok zClok_ok zSyok_ok oX8_wearOf (zAllC_e (zAllC_c (Or.inl (zcal_v (mX8_isRail l) (by decide) (by decide) hX8_isRail kX8_40 ⟨by decide, by decide +kernel⟩ (ci := 8) rfl rfl rfl)) (zAllC_n))) (zAllC_e (zAllC_n)) ?_
  intro vs mem hvl hok hm hpre
  obtain ⟨t, a, rfl⟩ := zlen2 hvl
  have hr_a : -2147483648 ≤ a ∧ a ≤ 2147483647 := (hok (0, a) (by simp [CX8_wearOf])).1 rfl
  clear hok hvl
  obtain ⟨hid, hpre⟩ := hpre
  simp only [List.mem_cons, List.not_mem_nil, or_false] at hid
  have hpre : True := hpre
  subst hid
  refine ⟨zIf [], zAllI_e zAllI_n, ?_⟩
  simp (maxSteps := 3000000) only [↓zwp_s, zrun_n, zrun_c, zgo_any, zgo_bel, ↓zgA_n, ↓zgA_c, ↓zgB_n, ↓zgB_c, ↓zp1_c, ↓zpv_c, ↓ztg_e, ↓zFv_r, ↓zFv_i, ↓zFv_z, ↓reduceIte, ↓zi_aload_n, ↓zi_getfield, ↓zi_goto, ↓zi_iaload, ↓zi_iconst, ↓zi_ifCond, ↓zi_iload_n, ↓zi_ireturn, zcmp_eq, ↓zpl_e pX8_9, ↓zo_5_0, ↓zo_5_1, ↓zo_5_2, ↓zo_5_3, ↓zo_5_4, ↓zo_5_5, ↓zo_5_6, ↓zo_5_7, ↓zo_5_8, ↓za_6, ↓za_7, ↓za_8, ↓za_9, ↓za_10, ↓za_11, bX8_wearOf_0, bX8_wearOf_17, bX8_wearOf_18, List.size_toArray, zent_n, zent_c, zst_e, zfi0, zfi1, zfi2, zfi3, zcast, Nat.reduceAdd, Nat.reduceSub, Nat.reduceEqDiff, Nat.reduceLT, Nat.reduceLeDiff, Int.reduceAdd, Int.reduceSub, Int.reduceMul, Int.reduceToNat, Int.reduceLE, Int.reduceLT, Int.reduceEq, Int.reduceNeg, Int.reduceNegSucc, Nat.reduceMul, List.zip_cons_cons, List.zip_nil_left, List.zip_nil_right, Int.toNat_natCast, true_and, and_true, eq_self, ne_eq, not_false_eq_true, not_true_eq_false, forall_const, implies_true, false_and, true_or, or_true, false_or, or_false, imp_self, CX8_wearOf, ↓zv_cf (cv := zCf VX8_wearOf) (k := 40) (h := (rfl : zCf VX8_wearOf 40 = some CX8_isRail)), and_imp, exists_eq_left, exists_eq_left', exists_eq_right, exists_eq_right', exists_and_left, exists_and_right, Prod.mk.injEq, zAdd_e, zSub_e, zMul_e, zres_0, zres_4, zres_1, zres_9, zrt_0, zrt_4, zrt_1, zrt_9, List.take_succ_cons, List.take_zero, List.drop_succ_cons, List.drop_zero, List.map_cons, List.map_nil, List.reverse_cons, List.reverse_nil, List.nil_append, List.cons_append, List.length_cons, List.length_nil, zPr_c, List.mem_cons, List.not_mem_nil, ↓zIV_e, zcats, List.sum_cons, List.sum_nil, zpu, zfu, zset_e]
  repeat' (first | exact zfr_rf _ _ _ | (refine zfr_st ?_ (by omega) (by omega)) | (refine zfr_cp ?_ (by omega) (by omega)) | (refine zfr_tr ?_ (by assumption)) | (refine zfr_tr ?_ (zfr_mono (by assumption) (by omega) (by omega))) | (refine And.intro ?_ ?_) | (intro _) | (refine Exists.intro (nn - 1) ?_) | (refine Exists.intro 5000000000 ?_) | fail)
  all_goals (try (simp only [zw] at *))
  all_goals (first | trivial | omega | exact (zAnd_b _).1 | exact (zAnd_b _).2 | assumption | (simp; omega) | skip)
def CX8_widthOf : zCt := ([2, 0], 0, zPr [5] (fun vs mem => match vs with | [t, a] => (True) | _ => False), zpu (fun vs mem r => match vs with | [t, a] => (True) | _ => False))
def VX8_widthOf : List (Nat × zCt) := [(40, CX8_isRail)]
def SX8_widthOf : List (Nat × zCt) := []
set_option maxHeartbeats 1000000 in
set_option maxRecDepth 100000 in
theorem mX8_widthOf (l : Launch) : zMet l zLay yX8_widthOf cX8_widthOf 2 (some .int) 1 CX8_widthOf.1 CX8_widthOf.2.1 CX8_widthOf.2.2.1 CX8_widthOf.2.2.2 := by
  refine zMet_of (pl := zPlf PX8) (cv := zCf VX8_widthOf) (cS := zCf SX8_widthOf) (B := zBf BX8_widthOf) (F := 80) (own := RX8) (by decide +kernel) rfl (Or.inl ⟨rfl, rfl⟩) (fun vs h => by obtain ⟨t, a, rfl⟩ := zlen2 h; exact Nat.le_of_ble_eq_true rfl) PX8_ok zClok_ok zSyok_ok oX8_widthOf (zAllC_e (zAllC_c (Or.inl (zcal_v (mX8_isRail l) (by decide) (by decide) hX8_isRail kX8_40 ⟨by decide, by decide +kernel⟩ (ci := 8) rfl rfl rfl)) (zAllC_n))) (zAllC_e (zAllC_n)) ?_
  intro vs mem hvl hok hm hpre
  obtain ⟨t, a, rfl⟩ := zlen2 hvl
  have hr_a : -2147483648 ≤ a ∧ a ≤ 2147483647 := (hok (0, a) (by simp [CX8_widthOf])).1 rfl
  clear hok hvl
  obtain ⟨hid, hpre⟩ := hpre
  simp only [List.mem_cons, List.not_mem_nil, or_false] at hid
  have hpre : True := hpre
  subst hid
  refine ⟨zIf [], zAllI_e zAllI_n, ?_⟩
  simp (maxSteps := 3000000) only [↓zwp_s, zrun_n, zrun_c, zgo_any, zgo_bel, ↓zgA_n, ↓zgA_c, ↓zgB_n, ↓zgB_c, ↓zp1_c, ↓zpv_c, ↓ztg_e, ↓zFv_r, ↓zFv_i, ↓zFv_z, ↓reduceIte, ↓zi_aload_n, ↓zi_getfield, ↓zi_goto, ↓zi_iaload, ↓zi_iconst, ↓zi_ifCond, ↓zi_iload_n, ↓zi_ireturn, zcmp_eq, ↓zpl_e pX8_15, ↓zo_5_0, ↓zo_5_1, ↓zo_5_2, ↓zo_5_3, ↓zo_5_4, ↓zo_5_5, ↓zo_5_6, ↓zo_5_7, ↓zo_5_8, ↓za_6, ↓za_7, ↓za_8, ↓za_9, ↓za_10, ↓za_11, bX8_widthOf_0, bX8_widthOf_17, bX8_widthOf_18, List.size_toArray, zent_n, zent_c, zst_e, zfi0, zfi1, zfi2, zfi3, zcast, Nat.reduceAdd, Nat.reduceSub, Nat.reduceEqDiff, Nat.reduceLT, Nat.reduceLeDiff, Int.reduceAdd, Int.reduceSub, Int.reduceMul, Int.reduceToNat, Int.reduceLE, Int.reduceLT, Int.reduceEq, Int.reduceNeg, Int.reduceNegSucc, Nat.reduceMul, List.zip_cons_cons, List.zip_nil_left, List.zip_nil_right, Int.toNat_natCast, true_and, and_true, eq_self, ne_eq, not_false_eq_true, not_true_eq_false, forall_const, implies_true, false_and, true_or, or_true, false_or, or_false, imp_self, CX8_widthOf, ↓zv_cf (cv := zCf VX8_widthOf) (k := 40) (h := (rfl : zCf VX8_widthOf 40 = some CX8_isRail)), and_imp, exists_eq_left, exists_eq_left', exists_eq_right, exists_eq_right', exists_and_left, exists_and_right, Prod.mk.injEq, zAdd_e, zSub_e, zMul_e, zres_0, zres_4, zres_1, zres_9, zrt_0, zrt_4, zrt_1, zrt_9, List.take_succ_cons, List.take_zero, List.drop_succ_cons, List.drop_zero, List.map_cons, List.map_nil, List.reverse_cons, List.reverse_nil, List.nil_append, List.cons_append, List.length_cons, List.length_nil, zPr_c, List.mem_cons, List.not_mem_nil, ↓zIV_e, zcats, List.sum_cons, List.sum_nil, zpu, zfu, zset_e]
  repeat' (first | exact zfr_rf _ _ _ | (refine zfr_st ?_ (by omega) (by omega)) | (refine zfr_cp ?_ (by omega) (by omega)) | (refine zfr_tr ?_ (by assumption)) | (refine zfr_tr ?_ (zfr_mono (by assumption) (by omega) (by omega))) | (refine And.intro ?_ ?_) | (intro _) | (refine Exists.intro (nn - 1) ?_) | (refine Exists.intro 5000000000 ?_) | fail)
  all_goals (try (simp only [zw] at *))
  all_goals (first | trivial | omega | exact (zAnd_b _).1 | exact (zAnd_b _).2 | assumption | (simp; omega) | skip)
def CX8_stateOf : zCt := ([2, 0], 0, zPr [5] (fun vs mem => match vs with | [t, a] => (True) | _ => False), zpu (fun vs mem r => match vs with | [t, a] => (True) | _ => False))
def VX8_stateOf : List (Nat × zCt) := [(40, CX8_isRail)]
def SX8_stateOf : List (Nat × zCt) := []
set_option maxHeartbeats 1000000 in
set_option maxRecDepth 100000 in
theorem mX8_stateOf (l : Launch) : zMet l zLay yX8_stateOf cX8_stateOf 2 (some .int) 1 CX8_stateOf.1 CX8_stateOf.2.1 CX8_stateOf.2.2.1 CX8_stateOf.2.2.2 := by
  refine zMet_of (pl := zPlf PX8) (cv := zCf VX8_stateOf) (cS := zCf SX8_stateOf) (B := zBf BX8_stateOf) (F := 80) (own := RX8) (by decide +kernel) rfl (Or.inl ⟨rfl, rfl⟩) (fun vs h => by obtain ⟨t, a, rfl⟩ := zlen2 h; exact Nat.le_of_ble_eq_true rfl) PX8_ok zClok_ok zSyok_ok oX8_stateOf (zAllC_e (zAllC_c (Or.inl (zcal_v (mX8_isRail l) (by decide) (by decide) hX8_isRail kX8_40 ⟨by decide, by decide +kernel⟩ (ci := 8) rfl rfl rfl)) (zAllC_n))) (zAllC_e (zAllC_n)) ?_
  intro vs mem hvl hok hm hpre
  obtain ⟨t, a, rfl⟩ := zlen2 hvl
  have hr_a : -2147483648 ≤ a ∧ a ≤ 2147483647 := (hok (0, a) (by simp [CX8_stateOf])).1 rfl
  clear hok hvl
  obtain ⟨hid, hpre⟩ := hpre
  simp only [List.mem_cons, List.not_mem_nil, or_false] at hid
  have hpre : True := hpre
  subst hid
  refine ⟨zIf [], zAllI_e zAllI_n, ?_⟩
  simp (maxSteps := 3000000) only [↓zwp_s, zrun_n, zrun_c, zgo_any, zgo_bel, ↓zgA_n, ↓zgA_c, ↓zgB_n, ↓zgB_c, ↓zp1_c, ↓zpv_c, ↓ztg_e, ↓zFv_r, ↓zFv_i, ↓zFv_z, ↓reduceIte, ↓zi_aload_n, ↓zi_getfield, ↓zi_goto, ↓zi_iaload, ↓zi_iconst, ↓zi_ifCond, ↓zi_iload_n, ↓zi_ireturn, zcmp_eq, ↓zpl_e pX8_18, ↓zo_5_0, ↓zo_5_1, ↓zo_5_2, ↓zo_5_3, ↓zo_5_4, ↓zo_5_5, ↓zo_5_6, ↓zo_5_7, ↓zo_5_8, ↓za_6, ↓za_7, ↓za_8, ↓za_9, ↓za_10, ↓za_11, bX8_stateOf_0, bX8_stateOf_17, bX8_stateOf_18, List.size_toArray, zent_n, zent_c, zst_e, zfi0, zfi1, zfi2, zfi3, zcast, Nat.reduceAdd, Nat.reduceSub, Nat.reduceEqDiff, Nat.reduceLT, Nat.reduceLeDiff, Int.reduceAdd, Int.reduceSub, Int.reduceMul, Int.reduceToNat, Int.reduceLE, Int.reduceLT, Int.reduceEq, Int.reduceNeg, Int.reduceNegSucc, Nat.reduceMul, List.zip_cons_cons, List.zip_nil_left, List.zip_nil_right, Int.toNat_natCast, true_and, and_true, eq_self, ne_eq, not_false_eq_true, not_true_eq_false, forall_const, implies_true, false_and, true_or, or_true, false_or, or_false, imp_self, CX8_stateOf, ↓zv_cf (cv := zCf VX8_stateOf) (k := 40) (h := (rfl : zCf VX8_stateOf 40 = some CX8_isRail)), and_imp, exists_eq_left, exists_eq_left', exists_eq_right, exists_eq_right', exists_and_left, exists_and_right, Prod.mk.injEq, zAdd_e, zSub_e, zMul_e, zres_0, zres_4, zres_1, zres_9, zrt_0, zrt_4, zrt_1, zrt_9, List.take_succ_cons, List.take_zero, List.drop_succ_cons, List.drop_zero, List.map_cons, List.map_nil, List.reverse_cons, List.reverse_nil, List.nil_append, List.cons_append, List.length_cons, List.length_nil, zPr_c, List.mem_cons, List.not_mem_nil, ↓zIV_e, zcats, List.sum_cons, List.sum_nil, zpu, zfu, zset_e]
  repeat' (first | exact zfr_rf _ _ _ | (refine zfr_st ?_ (by omega) (by omega)) | (refine zfr_cp ?_ (by omega) (by omega)) | (refine zfr_tr ?_ (by assumption)) | (refine zfr_tr ?_ (zfr_mono (by assumption) (by omega) (by omega))) | (refine And.intro ?_ ?_) | (intro _) | (refine Exists.intro (nn - 1) ?_) | (refine Exists.intro 5000000000 ?_) | fail)
  all_goals (try (simp only [zw] at *))
  all_goals (first | trivial | omega | exact (zAnd_b _).1 | exact (zAnd_b _).2 | assumption | (simp; omega) | skip)
def CX8_cellOf : zCt := ([2, 0], 0, zPr [5] (fun vs mem => match vs with | [t, a] => (True) | _ => False), zpu (fun vs mem r => match vs with | [t, a] => (True) | _ => False))
def VX8_cellOf : List (Nat × zCt) := [(40, CX8_isRail)]
def SX8_cellOf : List (Nat × zCt) := []
set_option maxHeartbeats 1000000 in
set_option maxRecDepth 100000 in
theorem mX8_cellOf (l : Launch) : zMet l zLay yX8_cellOf cX8_cellOf 2 (some .int) 1 CX8_cellOf.1 CX8_cellOf.2.1 CX8_cellOf.2.2.1 CX8_cellOf.2.2.2 := by
  refine zMet_of (pl := zPlf PX8) (cv := zCf VX8_cellOf) (cS := zCf SX8_cellOf) (B := zBf BX8_cellOf) (F := 80) (own := RX8) (by decide +kernel) rfl (Or.inl ⟨rfl, rfl⟩) (fun vs h => by obtain ⟨t, a, rfl⟩ := zlen2 h; exact Nat.le_of_ble_eq_true rfl) PX8_ok zClok_ok zSyok_ok oX8_cellOf (zAllC_e (zAllC_c (Or.inl (zcal_v (mX8_isRail l) (by decide) (by decide) hX8_isRail kX8_40 ⟨by decide, by decide +kernel⟩ (ci := 8) rfl rfl rfl)) (zAllC_n))) (zAllC_e (zAllC_n)) ?_
  intro vs mem hvl hok hm hpre
  obtain ⟨t, a, rfl⟩ := zlen2 hvl
  have hr_a : -2147483648 ≤ a ∧ a ≤ 2147483647 := (hok (0, a) (by simp [CX8_cellOf])).1 rfl
  clear hok hvl
  obtain ⟨hid, hpre⟩ := hpre
  simp only [List.mem_cons, List.not_mem_nil, or_false] at hid
  have hpre : True := hpre
  subst hid
  refine ⟨zIf [], zAllI_e zAllI_n, ?_⟩
  simp (maxSteps := 3000000) only [↓zwp_s, zrun_n, zrun_c, zgo_any, zgo_bel, ↓zgA_n, ↓zgA_c, ↓zgB_n, ↓zgB_c, ↓zp1_c, ↓zpv_c, ↓ztg_e, ↓zFv_r, ↓zFv_i, ↓zFv_z, ↓reduceIte, ↓zi_aload_n, ↓zi_getfield, ↓zi_goto, ↓zi_iaload, ↓zi_iconst, ↓zi_ifCond, ↓zi_iload_n, ↓zi_ireturn, zcmp_eq, zcmp_ne, ↓zpl_e pX8_18, ↓zpl_e pX8_21, ↓zo_5_0, ↓zo_5_1, ↓zo_5_2, ↓zo_5_3, ↓zo_5_4, ↓zo_5_5, ↓zo_5_6, ↓zo_5_7, ↓zo_5_8, ↓za_6, ↓za_7, ↓za_8, ↓za_9, ↓za_10, ↓za_11, bX8_cellOf_0, bX8_cellOf_26, bX8_cellOf_27, List.size_toArray, zent_n, zent_c, zst_e, zfi0, zfi1, zfi2, zfi3, zcast, Nat.reduceAdd, Nat.reduceSub, Nat.reduceEqDiff, Nat.reduceLT, Nat.reduceLeDiff, Int.reduceAdd, Int.reduceSub, Int.reduceMul, Int.reduceToNat, Int.reduceLE, Int.reduceLT, Int.reduceEq, Int.reduceNeg, Int.reduceNegSucc, Nat.reduceMul, List.zip_cons_cons, List.zip_nil_left, List.zip_nil_right, Int.toNat_natCast, true_and, and_true, eq_self, ne_eq, not_false_eq_true, not_true_eq_false, forall_const, implies_true, false_and, true_or, or_true, false_or, or_false, imp_self, CX8_cellOf, ↓zv_cf (cv := zCf VX8_cellOf) (k := 40) (h := (rfl : zCf VX8_cellOf 40 = some CX8_isRail)), and_imp, exists_eq_left, exists_eq_left', exists_eq_right, exists_eq_right', exists_and_left, exists_and_right, Prod.mk.injEq, zAdd_e, zSub_e, zMul_e, zres_0, zres_4, zres_1, zres_9, zrt_0, zrt_4, zrt_1, zrt_9, List.take_succ_cons, List.take_zero, List.drop_succ_cons, List.drop_zero, List.map_cons, List.map_nil, List.reverse_cons, List.reverse_nil, List.nil_append, List.cons_append, List.length_cons, List.length_nil, zPr_c, List.mem_cons, List.not_mem_nil, ↓zIV_e, zcats, List.sum_cons, List.sum_nil, zpu, zfu, zset_e]
  repeat' (first | exact zfr_rf _ _ _ | (refine zfr_st ?_ (by omega) (by omega)) | (refine zfr_cp ?_ (by omega) (by omega)) | (refine zfr_tr ?_ (by assumption)) | (refine zfr_tr ?_ (zfr_mono (by assumption) (by omega) (by omega))) | (refine And.intro ?_ ?_) | (intro _) | (refine Exists.intro (nn - 1) ?_) | (refine Exists.intro 5000000000 ?_) | fail)
  all_goals (try (simp only [zw] at *))
  all_goals (first | trivial | omega | exact (zAnd_b _).1 | exact (zAnd_b _).2 | assumption | (simp; omega) | skip)
def CX8_railAt : zCt := ([2, 0], 0, zPr [5] (fun vs mem => match vs with | [t, p] => (True) | _ => False), zpu (fun vs mem r => match vs with | [t, p] => (r = -1 ∨ (0 ≤ p ∧ p < 16)) | _ => False))
def VX8_railAt : List (Nat × zCt) := []
def SX8_railAt : List (Nat × zCt) := []
set_option maxHeartbeats 1000000 in
set_option maxRecDepth 100000 in
theorem mX8_railAt (l : Launch) : zMet l zLay yX8_railAt cX8_railAt 2 (some .int) 0 CX8_railAt.1 CX8_railAt.2.1 CX8_railAt.2.2.1 CX8_railAt.2.2.2 := by
  refine zMet_of (pl := zPlf PX8) (cv := zCf VX8_railAt) (cS := zCf SX8_railAt) (B := zBf BX8_railAt) (F := 80) (own := RX8) (by decide +kernel) rfl (Or.inl ⟨rfl, rfl⟩) (fun vs h => by obtain ⟨t, p, rfl⟩ := zlen2 h; exact Nat.le_of_ble_eq_true rfl) PX8_ok zClok_ok zSyok_ok oX8_railAt (zAllC_e (zAllC_n)) (zAllC_e (zAllC_n)) ?_
  intro vs mem hvl hok hm hpre
  obtain ⟨t, p, rfl⟩ := zlen2 hvl
  have hr_p : -2147483648 ≤ p ∧ p ≤ 2147483647 := (hok (0, p) (by simp [CX8_railAt])).1 rfl
  clear hok hvl
  obtain ⟨hid, hpre⟩ := hpre
  simp only [List.mem_cons, List.not_mem_nil, or_false] at hid
  have hpre : True := hpre
  subst hid
  refine ⟨zIf [], zAllI_e zAllI_n, ?_⟩
  simp (maxSteps := 3000000) only [↓zwp_s, zrun_n, zrun_c, zgo_any, zgo_bel, ↓zgA_n, ↓zgA_c, ↓zgB_n, ↓zgB_c, ↓zp1_c, ↓zpv_c, ↓ztg_e, ↓zFv_r, ↓zFv_i, ↓zFv_z, ↓reduceIte, ↓zi_aload_n, ↓zi_bipush, ↓zi_getfield, ↓zi_goto, ↓zi_iaload, ↓zi_iconst, ↓zi_ifCond, ↓zi_if_icmp, ↓zi_iload_n, ↓zi_ireturn, zcmp_lt, zcmp_ge, ↓zpl_e pX8_28, ↓zpl_e pX8_34, ↓zo_5_0, ↓zo_5_1, ↓zo_5_2, ↓zo_5_3, ↓zo_5_4, ↓zo_5_5, ↓zo_5_6, ↓zo_5_7, ↓zo_5_8, ↓za_6, ↓za_7, ↓za_8, ↓za_9, ↓za_10, ↓za_11, bX8_railAt_0, bX8_railAt_27, bX8_railAt_28, List.size_toArray, zent_n, zent_c, zst_e, zfi0, zfi1, zfi2, zfi3, zcast, Nat.reduceAdd, Nat.reduceSub, Nat.reduceEqDiff, Nat.reduceLT, Nat.reduceLeDiff, Int.reduceAdd, Int.reduceSub, Int.reduceMul, Int.reduceToNat, Int.reduceLE, Int.reduceLT, Int.reduceEq, Int.reduceNeg, Int.reduceNegSucc, Nat.reduceMul, List.zip_cons_cons, List.zip_nil_left, List.zip_nil_right, Int.toNat_natCast, true_and, and_true, eq_self, ne_eq, not_false_eq_true, not_true_eq_false, forall_const, implies_true, false_and, true_or, or_true, false_or, or_false, imp_self, CX8_railAt, and_imp, exists_eq_left, exists_eq_left', exists_eq_right, exists_eq_right', exists_and_left, exists_and_right, Prod.mk.injEq, zAdd_e, zSub_e, zMul_e, zres_0, zres_4, zres_1, zres_9, zrt_0, zrt_4, zrt_1, zrt_9, List.take_succ_cons, List.take_zero, List.drop_succ_cons, List.drop_zero, List.map_cons, List.map_nil, List.reverse_cons, List.reverse_nil, List.nil_append, List.cons_append, List.length_cons, List.length_nil, zPr_c, List.mem_cons, List.not_mem_nil, ↓zIV_e, zcats, List.sum_cons, List.sum_nil, zpu, zfu, zset_e]
  repeat' (first | exact zfr_rf _ _ _ | (refine zfr_st ?_ (by omega) (by omega)) | (refine zfr_cp ?_ (by omega) (by omega)) | (refine zfr_tr ?_ (by assumption)) | (refine zfr_tr ?_ (zfr_mono (by assumption) (by omega) (by omega))) | (refine And.intro ?_ ?_) | (intro _) | (refine Exists.intro (nn - 1) ?_) | (refine Exists.intro 5000000000 ?_) | fail)
  all_goals (try (simp only [zw] at *))
  all_goals (first | trivial | omega | exact (zAnd_b _).1 | exact (zAnd_b _).2 | assumption | (simp; omega) | skip)
def CX8_cellAt : zCt := ([2, 0], 0, zPr [5] (fun vs mem => match vs with | [t, p] => (True) | _ => False), zpu (fun vs mem r => match vs with | [t, p] => (True) | _ => False))
def VX8_cellAt : List (Nat × zCt) := []
def SX8_cellAt : List (Nat × zCt) := []
set_option maxHeartbeats 1000000 in
set_option maxRecDepth 100000 in
theorem mX8_cellAt (l : Launch) : zMet l zLay yX8_cellAt cX8_cellAt 2 (some .int) 0 CX8_cellAt.1 CX8_cellAt.2.1 CX8_cellAt.2.2.1 CX8_cellAt.2.2.2 := by
  refine zMet_of (pl := zPlf PX8) (cv := zCf VX8_cellAt) (cS := zCf SX8_cellAt) (B := zBf BX8_cellAt) (F := 80) (own := RX8) (by decide +kernel) rfl (Or.inl ⟨rfl, rfl⟩) (fun vs h => by obtain ⟨t, p, rfl⟩ := zlen2 h; exact Nat.le_of_ble_eq_true rfl) PX8_ok zClok_ok zSyok_ok oX8_cellAt (zAllC_e (zAllC_n)) (zAllC_e (zAllC_n)) ?_
  intro vs mem hvl hok hm hpre
  obtain ⟨t, p, rfl⟩ := zlen2 hvl
  have hr_p : -2147483648 ≤ p ∧ p ≤ 2147483647 := (hok (0, p) (by simp [CX8_cellAt])).1 rfl
  clear hok hvl
  obtain ⟨hid, hpre⟩ := hpre
  simp only [List.mem_cons, List.not_mem_nil, or_false] at hid
  have hpre : True := hpre
  subst hid
  refine ⟨zIf [], zAllI_e zAllI_n, ?_⟩
  simp (maxSteps := 3000000) only [↓zwp_s, zrun_n, zrun_c, zgo_any, zgo_bel, ↓zgA_n, ↓zgA_c, ↓zgB_n, ↓zgB_c, ↓zp1_c, ↓zpv_c, ↓ztg_e, ↓zFv_r, ↓zFv_i, ↓zFv_z, ↓reduceIte, ↓zi_aload_n, ↓zi_bipush, ↓zi_getfield, ↓zi_goto, ↓zi_iaload, ↓zi_iconst, ↓zi_ifCond, ↓zi_if_icmp, ↓zi_iload_n, ↓zi_ireturn, zcmp_lt, zcmp_ge, ↓zpl_e pX8_31, ↓zpl_e pX8_34, ↓zo_5_0, ↓zo_5_1, ↓zo_5_2, ↓zo_5_3, ↓zo_5_4, ↓zo_5_5, ↓zo_5_6, ↓zo_5_7, ↓zo_5_8, ↓za_6, ↓za_7, ↓za_8, ↓za_9, ↓za_10, ↓za_11, bX8_cellAt_0, bX8_cellAt_27, bX8_cellAt_28, List.size_toArray, zent_n, zent_c, zst_e, zfi0, zfi1, zfi2, zfi3, zcast, Nat.reduceAdd, Nat.reduceSub, Nat.reduceEqDiff, Nat.reduceLT, Nat.reduceLeDiff, Int.reduceAdd, Int.reduceSub, Int.reduceMul, Int.reduceToNat, Int.reduceLE, Int.reduceLT, Int.reduceEq, Int.reduceNeg, Int.reduceNegSucc, Nat.reduceMul, List.zip_cons_cons, List.zip_nil_left, List.zip_nil_right, Int.toNat_natCast, true_and, and_true, eq_self, ne_eq, not_false_eq_true, not_true_eq_false, forall_const, implies_true, false_and, true_or, or_true, false_or, or_false, imp_self, CX8_cellAt, and_imp, exists_eq_left, exists_eq_left', exists_eq_right, exists_eq_right', exists_and_left, exists_and_right, Prod.mk.injEq, zAdd_e, zSub_e, zMul_e, zres_0, zres_4, zres_1, zres_9, zrt_0, zrt_4, zrt_1, zrt_9, List.take_succ_cons, List.take_zero, List.drop_succ_cons, List.drop_zero, List.map_cons, List.map_nil, List.reverse_cons, List.reverse_nil, List.nil_append, List.cons_append, List.length_cons, List.length_nil, zPr_c, List.mem_cons, List.not_mem_nil, ↓zIV_e, zcats, List.sum_cons, List.sum_nil, zpu, zfu, zset_e]
  repeat' (first | exact zfr_rf _ _ _ | (refine zfr_st ?_ (by omega) (by omega)) | (refine zfr_cp ?_ (by omega) (by omega)) | (refine zfr_tr ?_ (by assumption)) | (refine zfr_tr ?_ (zfr_mono (by assumption) (by omega) (by omega))) | (refine And.intro ?_ ?_) | (intro _) | (refine Exists.intro (nn - 1) ?_) | (refine Exists.intro 5000000000 ?_) | fail)
  all_goals (try (simp only [zw] at *))
  all_goals (first | trivial | omega | exact (zAnd_b _).1 | exact (zAnd_b _).2 | assumption | (simp; omega) | skip)
def CX8_head : zCt := ([2], 0, zPr [5] (fun vs mem => match vs with | [t] => (True) | _ => False), zpu (fun vs mem r => match vs with | [t] => (True) | _ => False))
def VX8_head : List (Nat × zCt) := [(44, CX8_cellAt)]
def SX8_head : List (Nat × zCt) := []
set_option maxHeartbeats 1000000 in
set_option maxRecDepth 100000 in
theorem mX8_head (l : Launch) : zMet l zLay yX8_head cX8_head 1 (some .int) 1 CX8_head.1 CX8_head.2.1 CX8_head.2.2.1 CX8_head.2.2.2 := by
  refine zMet_of (pl := zPlf PX8) (cv := zCf VX8_head) (cS := zCf SX8_head) (B := zBf BX8_head) (F := 80) (own := RX8) (by decide +kernel) rfl (Or.inl ⟨rfl, rfl⟩) (fun vs h => by obtain ⟨t, rfl⟩ := zlen1 h; exact Nat.le_of_ble_eq_true rfl) PX8_ok zClok_ok zSyok_ok oX8_head (zAllC_e (zAllC_c (Or.inl (zcal_v (mX8_cellAt l) (by decide) (by decide) hX8_cellAt kX8_44 ⟨by decide, by decide +kernel⟩ (ci := 8) rfl rfl rfl)) (zAllC_n))) (zAllC_e (zAllC_n)) ?_
  intro vs mem hvl hok hm hpre
  obtain ⟨t, rfl⟩ := zlen1 hvl
  clear hok hvl
  obtain ⟨hid, hpre⟩ := hpre
  simp only [List.mem_cons, List.not_mem_nil, or_false] at hid
  have hpre : True := hpre
  subst hid
  refine ⟨zIf [], zAllI_e zAllI_n, ?_⟩
  simp (maxSteps := 3000000) only [↓zwp_s, zrun_n, zrun_c, zgo_any, zgo_bel, ↓zgA_n, ↓zgA_c, ↓zgB_n, ↓zgB_c, ↓zp1_c, ↓zpv_c, ↓ztg_e, ↓zFv_r, ↓zFv_i, ↓zFv_z, ↓reduceIte, ↓zi_aload_n, ↓zi_getfield, ↓zi_iconst, ↓zi_ireturn, ↓zi_isub, ↓zpl_e pX8_34, ↓zo_5_0, ↓zo_5_1, ↓zo_5_2, ↓zo_5_3, ↓zo_5_4, ↓zo_5_5, ↓zo_5_6, ↓zo_5_7, ↓zo_5_8, ↓za_6, ↓za_7, ↓za_8, ↓za_9, ↓za_10, ↓za_11, bX8_head_0, List.size_toArray, zent_n, zent_c, zst_e, zfi0, zfi1, zfi2, zfi3, zcast, Nat.reduceAdd, Nat.reduceSub, Nat.reduceEqDiff, Nat.reduceLT, Nat.reduceLeDiff, Int.reduceAdd, Int.reduceSub, Int.reduceMul, Int.reduceToNat, Int.reduceLE, Int.reduceLT, Int.reduceEq, Int.reduceNeg, Int.reduceNegSucc, Nat.reduceMul, List.zip_cons_cons, List.zip_nil_left, List.zip_nil_right, Int.toNat_natCast, true_and, and_true, eq_self, ne_eq, not_false_eq_true, not_true_eq_false, forall_const, implies_true, false_and, true_or, or_true, false_or, or_false, imp_self, CX8_head, ↓zv_cp (cv := zCf VX8_head) (k := 44) (h := (rfl : zCf VX8_head 44 = some CX8_cellAt)), and_imp, exists_eq_left, exists_eq_left', exists_eq_right, exists_eq_right', exists_and_left, exists_and_right, Prod.mk.injEq, zAdd_e, zSub_e, zMul_e, zres_0, zres_4, zres_1, zres_9, zrt_0, zrt_4, zrt_1, zrt_9, List.take_succ_cons, List.take_zero, List.drop_succ_cons, List.drop_zero, List.map_cons, List.map_nil, List.reverse_cons, List.reverse_nil, List.nil_append, List.cons_append, List.length_cons, List.length_nil, zPr_c, List.mem_cons, List.not_mem_nil, ↓zIV_e, zcats, List.sum_cons, List.sum_nil, zpu, zfu, zset_e]
  repeat' (first | exact zfr_rf _ _ _ | (refine zfr_st ?_ (by omega) (by omega)) | (refine zfr_cp ?_ (by omega) (by omega)) | (refine zfr_tr ?_ (by assumption)) | (refine zfr_tr ?_ (zfr_mono (by assumption) (by omega) (by omega))) | (refine And.intro ?_ ?_) | (intro _) | (refine Exists.intro (nn - 1) ?_) | (refine Exists.intro 5000000000 ?_) | fail)
  all_goals (try (simp only [zw] at *))
  all_goals (first | trivial | omega | exact (zAnd_b _).1 | exact (zAnd_b _).2 | assumption | (simp; omega) | skip)
def CX8_addRail : zCt := ([2, 0, 0], 0, zPr [5] (fun vs mem => match vs with | [t, w, d] => (True) | _ => False), (fun vs mem r mem' => match vs with | [t, w, d] => (zfr 5 11 mem mem' ∧ mem' 5 8 = mem 5 8 ∧ r = mem 5 4 ∧ (0 ≤ mem 5 4 ∧ mem 5 4 < 16 → mem' 5 4 = mem 5 4 + 1)) | _ => False))
def VX8_addRail : List (Nat × zCt) := []
def SX8_addRail : List (Nat × zCt) := []
set_option maxHeartbeats 1000000 in
set_option maxRecDepth 100000 in
theorem mX8_addRail (l : Launch) : zMet l zLay yX8_addRail cX8_addRail 4 (some .int) 0 CX8_addRail.1 CX8_addRail.2.1 CX8_addRail.2.2.1 CX8_addRail.2.2.2 := by
  refine zMet_of (pl := zPlf PX8) (cv := zCf VX8_addRail) (cS := zCf SX8_addRail) (B := zBf BX8_addRail) (F := 80) (own := RX8) (by decide +kernel) rfl (Or.inl ⟨rfl, rfl⟩) (fun vs h => by obtain ⟨t, w, d, rfl⟩ := zlen3 h; exact Nat.le_of_ble_eq_true rfl) PX8_ok zClok_ok zSyok_ok oX8_addRail (zAllC_e (zAllC_n)) (zAllC_e (zAllC_n)) ?_
  intro vs mem hvl hok hm hpre
  obtain ⟨t, w, d, rfl⟩ := zlen3 hvl
  have hr_w : -2147483648 ≤ w ∧ w ≤ 2147483647 := (hok (0, w) (by simp [CX8_addRail])).1 rfl
  have hr_d : -2147483648 ≤ d ∧ d ≤ 2147483647 := (hok (0, d) (by simp [CX8_addRail])).1 rfl
  clear hok hvl
  obtain ⟨hid, hpre⟩ := hpre
  simp only [List.mem_cons, List.not_mem_nil, or_false] at hid
  have hpre : True := hpre
  subst hid
  refine ⟨zIf [], zAllI_e zAllI_n, ?_⟩
  simp (maxSteps := 3000000) only [↓zwp_s, zrun_n, zrun_c, zgo_any, zgo_bel, ↓zgA_n, ↓zgA_c, ↓zgB_n, ↓zgB_c, ↓zp1_c, ↓zpv_c, ↓ztg_e, ↓zFv_r, ↓zFv_i, ↓zFv_z, ↓reduceIte, ↓zi_aload_n, ↓zi_bipush, ↓zi_getfield, ↓zi_iadd, ↓zi_iastore, ↓zi_iconst, ↓zi_ifCond, ↓zi_if_icmp, ↓zi_iload_n, ↓zi_ireturn, ↓zi_istore_n, ↓zi_putfield, zcmp_lt, zcmp_ge, ↓zpl_e pX8_9, ↓zpl_e pX8_15, ↓zpl_e pX8_18, ↓zpl_e pX8_24, ↓zo_5_0, ↓zo_5_1, ↓zo_5_2, ↓zo_5_3, ↓zo_5_4, ↓zo_5_5, ↓zo_5_6, ↓zo_5_7, ↓zo_5_8, ↓za_6, ↓za_7, ↓za_8, ↓za_9, ↓za_10, ↓za_11, bX8_addRail_0, bX8_addRail_43, List.size_toArray, zent_n, zent_c, zst_e, zfi0, zfi1, zfi2, zfi3, zcast, Nat.reduceAdd, Nat.reduceSub, Nat.reduceEqDiff, Nat.reduceLT, Nat.reduceLeDiff, Int.reduceAdd, Int.reduceSub, Int.reduceMul, Int.reduceToNat, Int.reduceLE, Int.reduceLT, Int.reduceEq, Int.reduceNeg, Int.reduceNegSucc, Nat.reduceMul, List.zip_cons_cons, List.zip_nil_left, List.zip_nil_right, Int.toNat_natCast, true_and, and_true, eq_self, ne_eq, not_false_eq_true, not_true_eq_false, forall_const, implies_true, false_and, true_or, or_true, false_or, or_false, imp_self, CX8_addRail, and_imp, exists_eq_left, exists_eq_left', exists_eq_right, exists_eq_right', exists_and_left, exists_and_right, Prod.mk.injEq, zAdd_e, zSub_e, zMul_e, zres_0, zres_4, zres_1, zres_9, zrt_0, zrt_4, zrt_1, zrt_9, List.take_succ_cons, List.take_zero, List.drop_succ_cons, List.drop_zero, List.map_cons, List.map_nil, List.reverse_cons, List.reverse_nil, List.nil_append, List.cons_append, List.length_cons, List.length_nil, zPr_c, List.mem_cons, List.not_mem_nil, ↓zIV_e, zcats, List.sum_cons, List.sum_nil, zpu, zfu, zset_e]
  repeat' (first | exact zfr_rf _ _ _ | (refine zfr_st ?_ (by omega) (by omega)) | (refine zfr_cp ?_ (by omega) (by omega)) | (refine zfr_tr ?_ (by assumption)) | (refine zfr_tr ?_ (zfr_mono (by assumption) (by omega) (by omega))) | (refine And.intro ?_ ?_) | (intro _) | (refine Exists.intro (nn - 1) ?_) | (refine Exists.intro 5000000000 ?_) | fail)
  all_goals (try (simp only [zw] at *))
  all_goals (first | trivial | omega | exact (zAnd_b _).1 | exact (zAnd_b _).2 | assumption | (simp; omega) | skip)
  all_goals (simp only [zset_e, reduceIte] <;> first | rfl | omega | trivial | skip)
def CX8_changeState : zCt := ([2, 0, 0], 9, zPr [5] (fun vs mem => match vs with | [t, a, s] => (True) | _ => False), (fun vs mem r mem' => match vs with | [t, a, s] => (zfr 5 11 mem mem' ∧ mem' 5 4 = mem 5 4 ∧ mem' 5 8 = mem 5 8) | _ => False))
def VX8_changeState : List (Nat × zCt) := [(40, CX8_isRail)]
def SX8_changeState : List (Nat × zCt) := []
set_option maxHeartbeats 1000000 in
set_option maxRecDepth 100000 in
theorem mX8_changeState (l : Launch) : zMet l zLay yX8_changeState cX8_changeState 3 none 1 CX8_changeState.1 CX8_changeState.2.1 CX8_changeState.2.2.1 CX8_changeState.2.2.2 := by
  refine zMet_of (pl := zPlf PX8) (cv := zCf VX8_changeState) (cS := zCf SX8_changeState) (B := zBf BX8_changeState) (F := 80) (own := RX8) (by decide +kernel) rfl (Or.inr (Or.inr (Or.inr ⟨rfl, rfl⟩))) (fun vs h => by obtain ⟨t, a, s, rfl⟩ := zlen3 h; exact Nat.le_of_ble_eq_true rfl) PX8_ok zClok_ok zSyok_ok oX8_changeState (zAllC_e (zAllC_c (Or.inl (zcal_v (mX8_isRail l) (by decide) (by decide) hX8_isRail kX8_40 ⟨by decide, by decide +kernel⟩ (ci := 8) rfl rfl rfl)) (zAllC_n))) (zAllC_e (zAllC_n)) ?_
  intro vs mem hvl hok hm hpre
  obtain ⟨t, a, s, rfl⟩ := zlen3 hvl
  have hr_a : -2147483648 ≤ a ∧ a ≤ 2147483647 := (hok (0, a) (by simp [CX8_changeState])).1 rfl
  have hr_s : -2147483648 ≤ s ∧ s ≤ 2147483647 := (hok (0, s) (by simp [CX8_changeState])).1 rfl
  clear hok hvl
  obtain ⟨hid, hpre⟩ := hpre
  simp only [List.mem_cons, List.not_mem_nil, or_false] at hid
  have hpre : True := hpre
  subst hid
  refine ⟨zIf [], zAllI_e zAllI_n, ?_⟩
  simp (maxSteps := 3000000) only [↓zwp_s, zrun_n, zrun_c, zgo_any, zgo_bel, ↓zgA_n, ↓zgA_c, ↓zgB_n, ↓zgB_c, ↓zp1_c, ↓zpv_c, ↓ztg_e, ↓zFv_r, ↓zFv_i, ↓zFv_z, ↓reduceIte, ↓zi_aload_n, ↓zi_getfield, ↓zi_iastore, ↓zi_ifCond, ↓zi_iload_n, ↓zi_return_, zcmp_eq, ↓zpl_e pX8_18, ↓zo_5_0, ↓zo_5_1, ↓zo_5_2, ↓zo_5_3, ↓zo_5_4, ↓zo_5_5, ↓zo_5_6, ↓zo_5_7, ↓zo_5_8, ↓za_6, ↓za_7, ↓za_8, ↓za_9, ↓za_10, ↓za_11, bX8_changeState_0, bX8_changeState_15, List.size_toArray, zent_n, zent_c, zst_e, zfi0, zfi1, zfi2, zfi3, zcast, Nat.reduceAdd, Nat.reduceSub, Nat.reduceEqDiff, Nat.reduceLT, Nat.reduceLeDiff, Int.reduceAdd, Int.reduceSub, Int.reduceMul, Int.reduceToNat, Int.reduceLE, Int.reduceLT, Int.reduceEq, Int.reduceNeg, Int.reduceNegSucc, Nat.reduceMul, List.zip_cons_cons, List.zip_nil_left, List.zip_nil_right, Int.toNat_natCast, true_and, and_true, eq_self, ne_eq, not_false_eq_true, not_true_eq_false, forall_const, implies_true, false_and, true_or, or_true, false_or, or_false, imp_self, CX8_changeState, ↓zv_cf (cv := zCf VX8_changeState) (k := 40) (h := (rfl : zCf VX8_changeState 40 = some CX8_isRail)), and_imp, exists_eq_left, exists_eq_left', exists_eq_right, exists_eq_right', exists_and_left, exists_and_right, Prod.mk.injEq, zAdd_e, zSub_e, zMul_e, zres_0, zres_4, zres_1, zres_9, zrt_0, zrt_4, zrt_1, zrt_9, List.take_succ_cons, List.take_zero, List.drop_succ_cons, List.drop_zero, List.map_cons, List.map_nil, List.reverse_cons, List.reverse_nil, List.nil_append, List.cons_append, List.length_cons, List.length_nil, zPr_c, List.mem_cons, List.not_mem_nil, ↓zIV_e, zcats, List.sum_cons, List.sum_nil, zpu, zfu, zset_e]
  repeat' (first | exact zfr_rf _ _ _ | (refine zfr_st ?_ (by omega) (by omega)) | (refine zfr_cp ?_ (by omega) (by omega)) | (refine zfr_tr ?_ (by assumption)) | (refine zfr_tr ?_ (zfr_mono (by assumption) (by omega) (by omega))) | (refine And.intro ?_ ?_) | (intro _) | (refine Exists.intro (nn - 1) ?_) | (refine Exists.intro 5000000000 ?_) | fail)
  all_goals (try (simp only [zw] at *))
  all_goals (first | trivial | omega | exact (zAnd_b _).1 | exact (zAnd_b _).2 | assumption | (simp; omega) | skip)
  all_goals (simp only [zset_e, reduceIte] <;> first | rfl | omega | trivial | skip)
def CX8_age : zCt := ([2, 0, 0, 0], 9, zPr [5] (fun vs mem => match vs with | [t, a, w, d] => (True) | _ => False), (fun vs mem r mem' => match vs with | [t, a, w, d] => (zfr 5 11 mem mem' ∧ mem' 5 4 = mem 5 4 ∧ mem' 5 8 = mem 5 8) | _ => False))
def VX8_age : List (Nat × zCt) := [(40, CX8_isRail)]
def SX8_age : List (Nat × zCt) := [(48, CJ9_min_7cf53), (54, CJ9_max_7cf53)]
set_option maxHeartbeats 1000000 in
set_option maxRecDepth 100000 in
theorem mX8_age (l : Launch) : zMet l zLay yX8_age cX8_age 4 none 1 CX8_age.1 CX8_age.2.1 CX8_age.2.2.1 CX8_age.2.2.2 := by
  refine zMet_of (pl := zPlf PX8) (cv := zCf VX8_age) (cS := zCf SX8_age) (B := zBf BX8_age) (F := 80) (own := RX8) (by decide +kernel) rfl (Or.inr (Or.inr (Or.inr ⟨rfl, rfl⟩))) (fun vs h => by obtain ⟨t, a, w, d, rfl⟩ := zlen4 h; exact Nat.le_of_ble_eq_true rfl) PX8_ok zClok_ok zSyok_ok oX8_age (zAllC_e (zAllC_c (Or.inl (zcal_v (mX8_isRail l) (by decide) (by decide) hX8_isRail kX8_40 ⟨by decide, by decide +kernel⟩ (ci := 8) rfl rfl rfl)) (zAllC_n))) (zAllC_e (zAllC_c (zcal_s (mJ9_min_7cf53 l) (by decide) (by decide) hJ9_min_7cf53 kX8_48 ⟨by decide, by decide +kernel⟩) (zAllC_c (zcal_s (mJ9_max_7cf53 l) (by decide) (by decide) hJ9_max_7cf53 kX8_54 ⟨by decide, by decide +kernel⟩) (zAllC_n)))) ?_
  intro vs mem hvl hok hm hpre
  obtain ⟨t, a, w, d, rfl⟩ := zlen4 hvl
  have hr_a : -2147483648 ≤ a ∧ a ≤ 2147483647 := (hok (0, a) (by simp [CX8_age])).1 rfl
  have hr_w : -2147483648 ≤ w ∧ w ≤ 2147483647 := (hok (0, w) (by simp [CX8_age])).1 rfl
  have hr_d : -2147483648 ≤ d ∧ d ≤ 2147483647 := (hok (0, d) (by simp [CX8_age])).1 rfl
  clear hok hvl
  obtain ⟨hid, hpre⟩ := hpre
  simp only [List.mem_cons, List.not_mem_nil, or_false] at hid
  have hpre : True := hpre
  subst hid
  refine ⟨zIf [], zAllI_e zAllI_n, ?_⟩
  simp (maxSteps := 3000000) only [↓zwp_s, zrun_n, zrun_c, zgo_any, zgo_bel, ↓zgA_n, ↓zgA_c, ↓zgB_n, ↓zgB_c, ↓zp1_c, ↓zpv_c, ↓ztg_e, ↓zFv_r, ↓zFv_i, ↓zFv_z, ↓reduceIte, ↓zi_aload_n, ↓zi_bipush, ↓zi_getfield, ↓zi_iastore, ↓zi_ifCond, ↓zi_iload_n, ↓zi_return_, zcmp_eq, ↓zpl_e pX8_9, ↓zpl_e pX8_15, ↓zo_5_0, ↓zo_5_1, ↓zo_5_2, ↓zo_5_3, ↓zo_5_4, ↓zo_5_5, ↓zo_5_6, ↓zo_5_7, ↓zo_5_8, ↓za_6, ↓za_7, ↓za_8, ↓za_9, ↓za_10, ↓za_11, bX8_age_0, bX8_age_32, List.size_toArray, zent_n, zent_c, zst_e, zfi0, zfi1, zfi2, zfi3, zcast, Nat.reduceAdd, Nat.reduceSub, Nat.reduceEqDiff, Nat.reduceLT, Nat.reduceLeDiff, Int.reduceAdd, Int.reduceSub, Int.reduceMul, Int.reduceToNat, Int.reduceLE, Int.reduceLT, Int.reduceEq, Int.reduceNeg, Int.reduceNegSucc, Nat.reduceMul, List.zip_cons_cons, List.zip_nil_left, List.zip_nil_right, Int.toNat_natCast, true_and, and_true, eq_self, ne_eq, not_false_eq_true, not_true_eq_false, forall_const, implies_true, false_and, true_or, or_true, false_or, or_false, imp_self, CX8_age, ↓zv_cf (cv := zCf VX8_age) (k := 40) (h := (rfl : zCf VX8_age 40 = some CX8_isRail)), ↓zs_cf (cS := zCf SX8_age) (pl := zPlf PX8) (k := 48) (h := (rfl : zCf SX8_age 48 = some CJ9_min_7cf53)) (h2 := rfl), ↓zs_cf (cS := zCf SX8_age) (pl := zPlf PX8) (k := 54) (h := (rfl : zCf SX8_age 54 = some CJ9_max_7cf53)) (h2 := rfl), and_imp, exists_eq_left, exists_eq_left', exists_eq_right, exists_eq_right', exists_and_left, exists_and_right, Prod.mk.injEq, zAdd_e, zSub_e, zMul_e, zres_0, zres_4, zres_1, zres_9, zrt_0, zrt_4, zrt_1, zrt_9, List.take_succ_cons, List.take_zero, List.drop_succ_cons, List.drop_zero, List.map_cons, List.map_nil, List.reverse_cons, List.reverse_nil, List.nil_append, List.cons_append, List.length_cons, List.length_nil, zPr_c, List.mem_cons, List.not_mem_nil, ↓zIV_e, zcats, List.sum_cons, List.sum_nil, zpu, zfu, zset_e]
  repeat' (first | exact zfr_rf _ _ _ | (refine zfr_st ?_ (by omega) (by omega)) | (refine zfr_cp ?_ (by omega) (by omega)) | (refine zfr_tr ?_ (by assumption)) | (refine zfr_tr ?_ (zfr_mono (by assumption) (by omega) (by omega))) | (refine And.intro ?_ ?_) | (intro _) | (refine Exists.intro (nn - 1) ?_) | (refine Exists.intro 5000000000 ?_) | fail)
  all_goals (try (simp only [zw] at *))
  all_goals (first | trivial | omega | exact (zAnd_b _).1 | exact (zAnd_b _).2 | assumption | (simp; omega) | skip)
  all_goals (simp only [zset_e, reduceIte] <;> first | rfl | omega | trivial | skip)
def CX8_leastCarried : zCt := ([2], 0, zPr [5] (fun vs mem => match vs with | [t] => (True) | _ => False), zpu (fun vs mem r => match vs with | [t] => (True) | _ => False))
def VX8_leastCarried : List (Nat × zCt) := [(57, CX8_stateOf)]
def SX8_leastCarried : List (Nat × zCt) := []
set_option maxHeartbeats 1000000 in
set_option maxRecDepth 100000 in
theorem mX8_leastCarried (l : Launch) : zMet l zLay yX8_leastCarried cX8_leastCarried 2 (some .int) 2 CX8_leastCarried.1 CX8_leastCarried.2.1 CX8_leastCarried.2.2.1 CX8_leastCarried.2.2.2 := by
  refine zMet_of (pl := zPlf PX8) (cv := zCf VX8_leastCarried) (cS := zCf SX8_leastCarried) (B := zBf BX8_leastCarried) (F := 80) (own := RX8) (by decide +kernel) rfl (Or.inl ⟨rfl, rfl⟩) (fun vs h => by obtain ⟨t, rfl⟩ := zlen1 h; exact Nat.le_of_ble_eq_true rfl) PX8_ok zClok_ok zSyok_ok oX8_leastCarried (zAllC_e (zAllC_c (Or.inl (zcal_v (mX8_stateOf l) (by decide) (by decide) hX8_stateOf kX8_57 ⟨by decide, by decide +kernel⟩ (ci := 8) rfl rfl rfl)) (zAllC_n))) (zAllC_e (zAllC_n)) ?_
  intro vs mem hvl hok hm hpre
  obtain ⟨t, rfl⟩ := zlen1 hvl
  clear hok hvl
  obtain ⟨hid, hpre⟩ := hpre
  simp only [List.mem_cons, List.not_mem_nil, or_false] at hid
  have hpre : True := hpre
  subst hid
  refine ⟨zIf [(2, (fun nq ls st m => (ls 1).1 = 0 ∧ ls 0 = (2, 5) ∧ st = [] ∧ m = mem ∧ (0 ≤ (ls 1).2 ∧ (ls 1).2 ≤ 16 ∧ (16 - (ls 1).2).toNat ≤ nq)))], zAllI_e (zAllI_c ?_ (zAllI_n)), ?_⟩
  · intro nn ls st mem1 hm1 hl1 hJ
    obtain ⟨ht1, h0, rfl, rfl, hc⟩ := hJ
    obtain ⟨x1, h1⟩ : ∃ x, ls 1 = (0, x) := ⟨_, Prod.ext ht1 rfl⟩
    simp only [h1] at hc
    obtain ⟨hc0, hc1, hc2⟩ := hc
    simp (maxSteps := 3000000) only [↓zwp_s, zrun_n, zrun_c, zgo_any, zgo_bel, ↓zgA_n, ↓zgA_c, ↓zgB_n, ↓zgB_c, ↓zp1_c, ↓zpv_c, ↓ztg_e, ↓zFv_r, ↓zFv_i, ↓zFv_z, ↓reduceIte, ↓zi_aload_n, ↓zi_bipush, ↓zi_goto, ↓zi_iconst, ↓zi_if_icmp, ↓zi_iinc, ↓zi_iload_n, ↓zi_ireturn, ↓zi_istore_n, zcmp_ge, zcmp_ne, ↓zo_5_0, ↓zo_5_1, ↓zo_5_2, ↓zo_5_3, ↓zo_5_4, ↓zo_5_5, ↓zo_5_6, ↓zo_5_7, ↓zo_5_8, ↓za_6, ↓za_7, ↓za_8, ↓za_9, ↓za_10, ↓za_11, bX8_leastCarried_0, bX8_leastCarried_2, bX8_leastCarried_19, bX8_leastCarried_25, List.size_toArray, zent_n, zent_c, zst_e, zfi0, zfi1, zfi2, zfi3, zcast, Nat.reduceAdd, Nat.reduceSub, Nat.reduceEqDiff, Nat.reduceLT, Nat.reduceLeDiff, Int.reduceAdd, Int.reduceSub, Int.reduceMul, Int.reduceToNat, Int.reduceLE, Int.reduceLT, Int.reduceEq, Int.reduceNeg, Int.reduceNegSucc, Nat.reduceMul, List.zip_cons_cons, List.zip_nil_left, List.zip_nil_right, Int.toNat_natCast, true_and, and_true, eq_self, ne_eq, not_false_eq_true, not_true_eq_false, forall_const, implies_true, false_and, true_or, or_true, false_or, or_false, imp_self, CX8_leastCarried, ↓zv_cp (cv := zCf VX8_leastCarried) (k := 57) (h := (rfl : zCf VX8_leastCarried 57 = some CX8_stateOf)), and_imp, exists_eq_left, exists_eq_left', exists_eq_right, exists_eq_right', exists_and_left, exists_and_right, Prod.mk.injEq, zAdd_e, zSub_e, zMul_e, zres_0, zres_4, zres_1, zres_9, zrt_0, zrt_4, zrt_1, zrt_9, List.take_succ_cons, List.take_zero, List.drop_succ_cons, List.drop_zero, List.map_cons, List.map_nil, List.reverse_cons, List.reverse_nil, List.nil_append, List.cons_append, List.length_cons, List.length_nil, zPr_c, List.mem_cons, List.not_mem_nil, ↓zIV_e, zcats, List.sum_cons, List.sum_nil, zpu, zfu, zset_e, h1, h0]
    repeat' (first | exact zfr_rf _ _ _ | (refine zfr_st ?_ (by omega) (by omega)) | (refine zfr_cp ?_ (by omega) (by omega)) | (refine zfr_tr ?_ (by assumption)) | (refine zfr_tr ?_ (zfr_mono (by assumption) (by omega) (by omega))) | (refine And.intro ?_ ?_) | (intro _) | (refine Exists.intro (nn - 1) ?_) | (refine Exists.intro 5000000000 ?_) | fail)
    all_goals (try (simp only [zw] at *))
    all_goals (first | trivial | omega | exact (zAnd_b _).1 | exact (zAnd_b _).2 | assumption | (simp; omega) | skip)
  · simp (maxSteps := 3000000) only [↓zwp_s, zrun_n, zrun_c, zgo_any, zgo_bel, ↓zgA_n, ↓zgA_c, ↓zgB_n, ↓zgB_c, ↓zp1_c, ↓zpv_c, ↓ztg_e, ↓zFv_r, ↓zFv_i, ↓zFv_z, ↓reduceIte, ↓zi_aload_n, ↓zi_bipush, ↓zi_goto, ↓zi_iconst, ↓zi_if_icmp, ↓zi_iinc, ↓zi_iload_n, ↓zi_ireturn, ↓zi_istore_n, zcmp_ge, zcmp_ne, ↓zo_5_0, ↓zo_5_1, ↓zo_5_2, ↓zo_5_3, ↓zo_5_4, ↓zo_5_5, ↓zo_5_6, ↓zo_5_7, ↓zo_5_8, ↓za_6, ↓za_7, ↓za_8, ↓za_9, ↓za_10, ↓za_11, bX8_leastCarried_0, bX8_leastCarried_2, bX8_leastCarried_19, bX8_leastCarried_25, List.size_toArray, zent_n, zent_c, zst_e, zfi0, zfi1, zfi2, zfi3, zcast, Nat.reduceAdd, Nat.reduceSub, Nat.reduceEqDiff, Nat.reduceLT, Nat.reduceLeDiff, Int.reduceAdd, Int.reduceSub, Int.reduceMul, Int.reduceToNat, Int.reduceLE, Int.reduceLT, Int.reduceEq, Int.reduceNeg, Int.reduceNegSucc, Nat.reduceMul, List.zip_cons_cons, List.zip_nil_left, List.zip_nil_right, Int.toNat_natCast, true_and, and_true, eq_self, ne_eq, not_false_eq_true, not_true_eq_false, forall_const, implies_true, false_and, true_or, or_true, false_or, or_false, imp_self, CX8_leastCarried, ↓zv_cp (cv := zCf VX8_leastCarried) (k := 57) (h := (rfl : zCf VX8_leastCarried 57 = some CX8_stateOf)), and_imp, exists_eq_left, exists_eq_left', exists_eq_right, exists_eq_right', exists_and_left, exists_and_right, Prod.mk.injEq, zAdd_e, zSub_e, zMul_e, zres_0, zres_4, zres_1, zres_9, zrt_0, zrt_4, zrt_1, zrt_9, List.take_succ_cons, List.take_zero, List.drop_succ_cons, List.drop_zero, List.map_cons, List.map_nil, List.reverse_cons, List.reverse_nil, List.nil_append, List.cons_append, List.length_cons, List.length_nil, zPr_c, List.mem_cons, List.not_mem_nil, ↓zIV_e, zcats, List.sum_cons, List.sum_nil, zpu, zfu, zset_e]
    repeat' (first | exact zfr_rf _ _ _ | (refine zfr_st ?_ (by omega) (by omega)) | (refine zfr_cp ?_ (by omega) (by omega)) | (refine zfr_tr ?_ (by assumption)) | (refine zfr_tr ?_ (zfr_mono (by assumption) (by omega) (by omega))) | (refine And.intro ?_ ?_) | (intro _) | (refine Exists.intro (nn - 1) ?_) | (refine Exists.intro 5000000000 ?_) | fail)
    all_goals (try (simp only [zw] at *))
    all_goals (first | trivial | omega | exact (zAnd_b _).1 | exact (zAnd_b _).2 | assumption | (simp; omega) | skip)
def CX8_inState : zCt := ([2, 0], 0, zPr [5] (fun vs mem => match vs with | [t, s] => (True) | _ => False), zpu (fun vs mem r => match vs with | [t, s] => (0 ≤ r ∧ r ≤ 16) | _ => False))
def VX8_inState : List (Nat × zCt) := [(57, CX8_stateOf)]
def SX8_inState : List (Nat × zCt) := []
set_option maxHeartbeats 1000000 in
set_option maxRecDepth 100000 in
theorem mX8_inState (l : Launch) : zMet l zLay yX8_inState cX8_inState 4 (some .int) 2 CX8_inState.1 CX8_inState.2.1 CX8_inState.2.2.1 CX8_inState.2.2.2 := by
  refine zMet_of (pl := zPlf PX8) (cv := zCf VX8_inState) (cS := zCf SX8_inState) (B := zBf BX8_inState) (F := 80) (own := RX8) (by decide +kernel) rfl (Or.inl ⟨rfl, rfl⟩) (fun vs h => by obtain ⟨t, s, rfl⟩ := zlen2 h; exact Nat.le_of_ble_eq_true rfl) PX8_ok zClok_ok zSyok_ok oX8_inState (zAllC_e (zAllC_c (Or.inl (zcal_v (mX8_stateOf l) (by decide) (by decide) hX8_stateOf kX8_57 ⟨by decide, by decide +kernel⟩ (ci := 8) rfl rfl rfl)) (zAllC_n))) (zAllC_e (zAllC_n)) ?_
  intro vs mem hvl hok hm hpre
  obtain ⟨t, s, rfl⟩ := zlen2 hvl
  have hr_s : -2147483648 ≤ s ∧ s ≤ 2147483647 := (hok (0, s) (by simp [CX8_inState])).1 rfl
  clear hok hvl
  obtain ⟨hid, hpre⟩ := hpre
  simp only [List.mem_cons, List.not_mem_nil, or_false] at hid
  have hpre : True := hpre
  subst hid
  refine ⟨zIf [(4, (fun nq ls st m => (ls 1).1 = 0 ∧ (ls 2).1 = 0 ∧ (ls 3).1 = 0 ∧ ls 0 = (2, 5) ∧ st = [] ∧ m = mem ∧ (0 ≤ (ls 3).2 ∧ (ls 3).2 ≤ 16 ∧ 0 ≤ (ls 2).2 ∧ (ls 2).2 ≤ (ls 3).2 ∧ (16 - (ls 3).2).toNat ≤ nq)))], zAllI_e (zAllI_c ?_ (zAllI_n)), ?_⟩
  · intro nn ls st mem1 hm1 hl1 hJ
    obtain ⟨ht1, ht2, ht3, h0, rfl, rfl, hc⟩ := hJ
    obtain ⟨x1, h1⟩ : ∃ x, ls 1 = (0, x) := ⟨_, Prod.ext ht1 rfl⟩
    obtain ⟨x2, h2⟩ : ∃ x, ls 2 = (0, x) := ⟨_, Prod.ext ht2 rfl⟩
    obtain ⟨x3, h3⟩ : ∃ x, ls 3 = (0, x) := ⟨_, Prod.ext ht3 rfl⟩
    simp only [h1, h2, h3] at hc
    obtain ⟨hc0, hc1, hc2, hc3, hc4⟩ := hc
    simp (maxSteps := 3000000) only [↓zwp_s, zrun_n, zrun_c, zgo_any, zgo_bel, ↓zgA_n, ↓zgA_c, ↓zgB_n, ↓zgB_c, ↓zp1_c, ↓zpv_c, ↓ztg_e, ↓zFv_r, ↓zFv_i, ↓zFv_z, ↓reduceIte, ↓zi_aload_n, ↓zi_bipush, ↓zi_goto, ↓zi_iconst, ↓zi_if_icmp, ↓zi_iinc, ↓zi_iload_n, ↓zi_ireturn, ↓zi_istore_n, zcmp_ge, zcmp_ne, ↓zo_5_0, ↓zo_5_1, ↓zo_5_2, ↓zo_5_3, ↓zo_5_4, ↓zo_5_5, ↓zo_5_6, ↓zo_5_7, ↓zo_5_8, ↓za_6, ↓za_7, ↓za_8, ↓za_9, ↓za_10, ↓za_11, bX8_inState_0, bX8_inState_4, bX8_inState_22, bX8_inState_28, List.size_toArray, zent_n, zent_c, zst_e, zfi0, zfi1, zfi2, zfi3, zcast, Nat.reduceAdd, Nat.reduceSub, Nat.reduceEqDiff, Nat.reduceLT, Nat.reduceLeDiff, Int.reduceAdd, Int.reduceSub, Int.reduceMul, Int.reduceToNat, Int.reduceLE, Int.reduceLT, Int.reduceEq, Int.reduceNeg, Int.reduceNegSucc, Nat.reduceMul, List.zip_cons_cons, List.zip_nil_left, List.zip_nil_right, Int.toNat_natCast, true_and, and_true, eq_self, ne_eq, not_false_eq_true, not_true_eq_false, forall_const, implies_true, false_and, true_or, or_true, false_or, or_false, imp_self, CX8_inState, ↓zv_cp (cv := zCf VX8_inState) (k := 57) (h := (rfl : zCf VX8_inState 57 = some CX8_stateOf)), and_imp, exists_eq_left, exists_eq_left', exists_eq_right, exists_eq_right', exists_and_left, exists_and_right, Prod.mk.injEq, zAdd_e, zSub_e, zMul_e, zres_0, zres_4, zres_1, zres_9, zrt_0, zrt_4, zrt_1, zrt_9, List.take_succ_cons, List.take_zero, List.drop_succ_cons, List.drop_zero, List.map_cons, List.map_nil, List.reverse_cons, List.reverse_nil, List.nil_append, List.cons_append, List.length_cons, List.length_nil, zPr_c, List.mem_cons, List.not_mem_nil, ↓zIV_e, zcats, List.sum_cons, List.sum_nil, zpu, zfu, zset_e, h1, h2, h3, h0]
    repeat' (first | exact zfr_rf _ _ _ | (refine zfr_st ?_ (by omega) (by omega)) | (refine zfr_cp ?_ (by omega) (by omega)) | (refine zfr_tr ?_ (by assumption)) | (refine zfr_tr ?_ (zfr_mono (by assumption) (by omega) (by omega))) | (refine And.intro ?_ ?_) | (intro _) | (refine Exists.intro (nn - 1) ?_) | (refine Exists.intro 5000000000 ?_) | fail)
    all_goals (try (simp only [zw] at *))
    all_goals (first | trivial | omega | exact (zAnd_b _).1 | exact (zAnd_b _).2 | assumption | (simp; omega) | skip)
  · simp (maxSteps := 3000000) only [↓zwp_s, zrun_n, zrun_c, zgo_any, zgo_bel, ↓zgA_n, ↓zgA_c, ↓zgB_n, ↓zgB_c, ↓zp1_c, ↓zpv_c, ↓ztg_e, ↓zFv_r, ↓zFv_i, ↓zFv_z, ↓reduceIte, ↓zi_aload_n, ↓zi_bipush, ↓zi_goto, ↓zi_iconst, ↓zi_if_icmp, ↓zi_iinc, ↓zi_iload_n, ↓zi_ireturn, ↓zi_istore_n, zcmp_ge, zcmp_ne, ↓zo_5_0, ↓zo_5_1, ↓zo_5_2, ↓zo_5_3, ↓zo_5_4, ↓zo_5_5, ↓zo_5_6, ↓zo_5_7, ↓zo_5_8, ↓za_6, ↓za_7, ↓za_8, ↓za_9, ↓za_10, ↓za_11, bX8_inState_0, bX8_inState_4, bX8_inState_22, bX8_inState_28, List.size_toArray, zent_n, zent_c, zst_e, zfi0, zfi1, zfi2, zfi3, zcast, Nat.reduceAdd, Nat.reduceSub, Nat.reduceEqDiff, Nat.reduceLT, Nat.reduceLeDiff, Int.reduceAdd, Int.reduceSub, Int.reduceMul, Int.reduceToNat, Int.reduceLE, Int.reduceLT, Int.reduceEq, Int.reduceNeg, Int.reduceNegSucc, Nat.reduceMul, List.zip_cons_cons, List.zip_nil_left, List.zip_nil_right, Int.toNat_natCast, true_and, and_true, eq_self, ne_eq, not_false_eq_true, not_true_eq_false, forall_const, implies_true, false_and, true_or, or_true, false_or, or_false, imp_self, CX8_inState, ↓zv_cp (cv := zCf VX8_inState) (k := 57) (h := (rfl : zCf VX8_inState 57 = some CX8_stateOf)), and_imp, exists_eq_left, exists_eq_left', exists_eq_right, exists_eq_right', exists_and_left, exists_and_right, Prod.mk.injEq, zAdd_e, zSub_e, zMul_e, zres_0, zres_4, zres_1, zres_9, zrt_0, zrt_4, zrt_1, zrt_9, List.take_succ_cons, List.take_zero, List.drop_succ_cons, List.drop_zero, List.map_cons, List.map_nil, List.reverse_cons, List.reverse_nil, List.nil_append, List.cons_append, List.length_cons, List.length_nil, zPr_c, List.mem_cons, List.not_mem_nil, ↓zIV_e, zcats, List.sum_cons, List.sum_nil, zpu, zfu, zset_e]
    repeat' (first | exact zfr_rf _ _ _ | (refine zfr_st ?_ (by omega) (by omega)) | (refine zfr_cp ?_ (by omega) (by omega)) | (refine zfr_tr ?_ (by assumption)) | (refine zfr_tr ?_ (zfr_mono (by assumption) (by omega) (by omega))) | (refine And.intro ?_ ?_) | (intro _) | (refine Exists.intro (nn - 1) ?_) | (refine Exists.intro 5000000000 ?_) | fail)
    all_goals (try (simp only [zw] at *))
    all_goals (first | trivial | omega | exact (zAnd_b _).1 | exact (zAnd_b _).2 | assumption | (simp; omega) | skip)
def CX8_covers : zCt := ([2, 0], 4, zPr [5] (fun vs mem => match vs with | [t, c] => (True) | _ => False), zpu (fun vs mem r => match vs with | [t, c] => (r = 0 ∨ r = 1) | _ => False))
def VX8_covers : List (Nat × zCt) := [(44, CX8_cellAt)]
def SX8_covers : List (Nat × zCt) := []
set_option maxHeartbeats 1000000 in
set_option maxRecDepth 100000 in
theorem mX8_covers (l : Launch) : zMet l zLay yX8_covers cX8_covers 3 (some .boolean) 1 CX8_covers.1 CX8_covers.2.1 CX8_covers.2.2.1 CX8_covers.2.2.2 := by
  refine zMet_of (pl := zPlf PX8) (cv := zCf VX8_covers) (cS := zCf SX8_covers) (B := zBf BX8_covers) (F := 80) (own := RX8) (by decide +kernel) rfl (Or.inr (Or.inl ⟨rfl, rfl⟩)) (fun vs h => by obtain ⟨t, c, rfl⟩ := zlen2 h; exact Nat.le_of_ble_eq_true rfl) PX8_ok zClok_ok zSyok_ok oX8_covers (zAllC_e (zAllC_c (Or.inl (zcal_v (mX8_cellAt l) (by decide) (by decide) hX8_cellAt kX8_44 ⟨by decide, by decide +kernel⟩ (ci := 8) rfl rfl rfl)) (zAllC_n))) (zAllC_e (zAllC_n)) ?_
  intro vs mem hvl hok hm hpre
  obtain ⟨t, c, rfl⟩ := zlen2 hvl
  have hr_c : -2147483648 ≤ c ∧ c ≤ 2147483647 := (hok (0, c) (by simp [CX8_covers])).1 rfl
  clear hok hvl
  obtain ⟨hid, hpre⟩ := hpre
  simp only [List.mem_cons, List.not_mem_nil, or_false] at hid
  have hpre : True := hpre
  have hg_5_7 : -2147483648 ≤ mem 5 7 ∧ mem 5 7 ≤ 2147483647 := ((hm 5 _ zy_5).1 rfl 7 _ rfl).1 rfl
  subst hid
  refine ⟨zIf [(2, (fun nq ls st m => (ls 1).1 = 0 ∧ (ls 2).1 = 0 ∧ ls 0 = (2, 5) ∧ st = [] ∧ m = mem ∧ (0 ≤ (ls 2).2 ∧ (ls 2).2 ≤ 2147483647 ∧ (2147483647 - (ls 2).2).toNat ≤ nq)))], zAllI_e (zAllI_c ?_ (zAllI_n)), ?_⟩
  · intro nn ls st mem1 hm1 hl1 hJ
    obtain ⟨ht1, ht2, h0, rfl, rfl, hc⟩ := hJ
    obtain ⟨x1, h1⟩ : ∃ x, ls 1 = (0, x) := ⟨_, Prod.ext ht1 rfl⟩
    obtain ⟨x2, h2⟩ : ∃ x, ls 2 = (0, x) := ⟨_, Prod.ext ht2 rfl⟩
    simp only [h1, h2] at hc
    obtain ⟨hc0, hc1, hc2⟩ := hc
    have hg_5_7 : -2147483648 ≤ mem1 5 7 ∧ mem1 5 7 ≤ 2147483647 := ((hm1 5 _ zy_5).1 rfl 7 _ rfl).1 rfl
    simp (maxSteps := 3000000) only [↓zwp_s, zrun_n, zrun_c, zgo_any, zgo_bel, ↓zgA_n, ↓zgA_c, ↓zgB_n, ↓zgB_c, ↓zp1_c, ↓zpv_c, ↓ztg_e, ↓zFv_r, ↓zFv_i, ↓zFv_z, ↓reduceIte, ↓zi_aload_n, ↓zi_getfield, ↓zi_goto, ↓zi_iconst, ↓zi_if_icmp, ↓zi_iinc, ↓zi_iload_n, ↓zi_ireturn, ↓zi_istore_n, zcmp_ge, zcmp_ne, ↓zpl_e pX8_34, ↓zo_5_0, ↓zo_5_1, ↓zo_5_2, ↓zo_5_3, ↓zo_5_4, ↓zo_5_5, ↓zo_5_6, ↓zo_5_7, ↓zo_5_8, ↓za_6, ↓za_7, ↓za_8, ↓za_9, ↓za_10, ↓za_11, bX8_covers_0, bX8_covers_2, bX8_covers_21, bX8_covers_27, List.size_toArray, zent_n, zent_c, zst_e, zfi0, zfi1, zfi2, zfi3, zcast, Nat.reduceAdd, Nat.reduceSub, Nat.reduceEqDiff, Nat.reduceLT, Nat.reduceLeDiff, Int.reduceAdd, Int.reduceSub, Int.reduceMul, Int.reduceToNat, Int.reduceLE, Int.reduceLT, Int.reduceEq, Int.reduceNeg, Int.reduceNegSucc, Nat.reduceMul, List.zip_cons_cons, List.zip_nil_left, List.zip_nil_right, Int.toNat_natCast, true_and, and_true, eq_self, ne_eq, not_false_eq_true, not_true_eq_false, forall_const, implies_true, false_and, true_or, or_true, false_or, or_false, imp_self, CX8_covers, ↓zv_cp (cv := zCf VX8_covers) (k := 44) (h := (rfl : zCf VX8_covers 44 = some CX8_cellAt)), and_imp, exists_eq_left, exists_eq_left', exists_eq_right, exists_eq_right', exists_and_left, exists_and_right, Prod.mk.injEq, zAdd_e, zSub_e, zMul_e, zres_0, zres_4, zres_1, zres_9, zrt_0, zrt_4, zrt_1, zrt_9, List.take_succ_cons, List.take_zero, List.drop_succ_cons, List.drop_zero, List.map_cons, List.map_nil, List.reverse_cons, List.reverse_nil, List.nil_append, List.cons_append, List.length_cons, List.length_nil, zPr_c, List.mem_cons, List.not_mem_nil, ↓zIV_e, zcats, List.sum_cons, List.sum_nil, zpu, zfu, zset_e, h1, h2, h0]
    repeat' (first | exact zfr_rf _ _ _ | (refine zfr_st ?_ (by omega) (by omega)) | (refine zfr_cp ?_ (by omega) (by omega)) | (refine zfr_tr ?_ (by assumption)) | (refine zfr_tr ?_ (zfr_mono (by assumption) (by omega) (by omega))) | (refine And.intro ?_ ?_) | (intro _) | (refine Exists.intro (nn - 1) ?_) | (refine Exists.intro 5000000000 ?_) | fail)
    all_goals (try (simp only [zw] at *))
    all_goals (first | trivial | omega | exact (zAnd_b _).1 | exact (zAnd_b _).2 | assumption | (simp; omega) | skip)
  · simp (maxSteps := 3000000) only [↓zwp_s, zrun_n, zrun_c, zgo_any, zgo_bel, ↓zgA_n, ↓zgA_c, ↓zgB_n, ↓zgB_c, ↓zp1_c, ↓zpv_c, ↓ztg_e, ↓zFv_r, ↓zFv_i, ↓zFv_z, ↓reduceIte, ↓zi_aload_n, ↓zi_getfield, ↓zi_goto, ↓zi_iconst, ↓zi_if_icmp, ↓zi_iinc, ↓zi_iload_n, ↓zi_ireturn, ↓zi_istore_n, zcmp_ge, zcmp_ne, ↓zpl_e pX8_34, ↓zo_5_0, ↓zo_5_1, ↓zo_5_2, ↓zo_5_3, ↓zo_5_4, ↓zo_5_5, ↓zo_5_6, ↓zo_5_7, ↓zo_5_8, ↓za_6, ↓za_7, ↓za_8, ↓za_9, ↓za_10, ↓za_11, bX8_covers_0, bX8_covers_2, bX8_covers_21, bX8_covers_27, List.size_toArray, zent_n, zent_c, zst_e, zfi0, zfi1, zfi2, zfi3, zcast, Nat.reduceAdd, Nat.reduceSub, Nat.reduceEqDiff, Nat.reduceLT, Nat.reduceLeDiff, Int.reduceAdd, Int.reduceSub, Int.reduceMul, Int.reduceToNat, Int.reduceLE, Int.reduceLT, Int.reduceEq, Int.reduceNeg, Int.reduceNegSucc, Nat.reduceMul, List.zip_cons_cons, List.zip_nil_left, List.zip_nil_right, Int.toNat_natCast, true_and, and_true, eq_self, ne_eq, not_false_eq_true, not_true_eq_false, forall_const, implies_true, false_and, true_or, or_true, false_or, or_false, imp_self, CX8_covers, ↓zv_cp (cv := zCf VX8_covers) (k := 44) (h := (rfl : zCf VX8_covers 44 = some CX8_cellAt)), and_imp, exists_eq_left, exists_eq_left', exists_eq_right, exists_eq_right', exists_and_left, exists_and_right, Prod.mk.injEq, zAdd_e, zSub_e, zMul_e, zres_0, zres_4, zres_1, zres_9, zrt_0, zrt_4, zrt_1, zrt_9, List.take_succ_cons, List.take_zero, List.drop_succ_cons, List.drop_zero, List.map_cons, List.map_nil, List.reverse_cons, List.reverse_nil, List.nil_append, List.cons_append, List.length_cons, List.length_nil, zPr_c, List.mem_cons, List.not_mem_nil, ↓zIV_e, zcats, List.sum_cons, List.sum_nil, zpu, zfu, zset_e]
    repeat' (first | exact zfr_rf _ _ _ | (refine zfr_st ?_ (by omega) (by omega)) | (refine zfr_cp ?_ (by omega) (by omega)) | (refine zfr_tr ?_ (by assumption)) | (refine zfr_tr ?_ (zfr_mono (by assumption) (by omega) (by omega))) | (refine And.intro ?_ ?_) | (intro _) | (refine Exists.intro (nn - 1) ?_) | (refine Exists.intro 5000000000 ?_) | fail)
    all_goals (try (simp only [zw] at *))
    all_goals (first | trivial | omega | exact (zAnd_b _).1 | exact (zAnd_b _).2 | assumption | (simp; omega) | skip)
def CX8_append : zCt := ([2, 0, 0], 9, zPr [5] (fun vs mem => match vs with | [t, a, c] => (True) | _ => False), (fun vs mem r mem' => match vs with | [t, a, c] => (zfr 5 11 mem mem' ∧ mem' 5 4 = mem 5 4 ∧ mem' 5 8 = mem 5 8) | _ => False))
def VX8_append : List (Nat × zCt) := [(40, CX8_isRail)]
def SX8_append : List (Nat × zCt) := []
set_option maxHeartbeats 1000000 in
set_option maxRecDepth 100000 in
theorem mX8_append (l : Launch) : zMet l zLay yX8_append cX8_append 3 none 1 CX8_append.1 CX8_append.2.1 CX8_append.2.2.1 CX8_append.2.2.2 := by
  refine zMet_of (pl := zPlf PX8) (cv := zCf VX8_append) (cS := zCf SX8_append) (B := zBf BX8_append) (F := 80) (own := RX8) (by decide +kernel) rfl (Or.inr (Or.inr (Or.inr ⟨rfl, rfl⟩))) (fun vs h => by obtain ⟨t, a, c, rfl⟩ := zlen3 h; exact Nat.le_of_ble_eq_true rfl) PX8_ok zClok_ok zSyok_ok oX8_append (zAllC_e (zAllC_c (Or.inl (zcal_v (mX8_isRail l) (by decide) (by decide) hX8_isRail kX8_40 ⟨by decide, by decide +kernel⟩ (ci := 8) rfl rfl rfl)) (zAllC_n))) (zAllC_e (zAllC_n)) ?_
  intro vs mem hvl hok hm hpre
  obtain ⟨t, a, c, rfl⟩ := zlen3 hvl
  have hr_a : -2147483648 ≤ a ∧ a ≤ 2147483647 := (hok (0, a) (by simp [CX8_append])).1 rfl
  have hr_c : -2147483648 ≤ c ∧ c ≤ 2147483647 := (hok (0, c) (by simp [CX8_append])).1 rfl
  clear hok hvl
  obtain ⟨hid, hpre⟩ := hpre
  simp only [List.mem_cons, List.not_mem_nil, or_false] at hid
  have hpre : True := hpre
  subst hid
  refine ⟨zIf [], zAllI_e zAllI_n, ?_⟩
  simp (maxSteps := 3000000) only [↓zwp_s, zrun_n, zrun_c, zgo_any, zgo_bel, ↓zgA_n, ↓zgA_c, ↓zgB_n, ↓zgB_c, ↓zp1_c, ↓zpv_c, ↓ztg_e, ↓zFv_r, ↓zFv_i, ↓zFv_z, ↓reduceIte, ↓zi_aload_n, ↓zi_bipush, ↓zi_dup, ↓zi_getfield, ↓zi_iadd, ↓zi_iastore, ↓zi_iconst, ↓zi_ifCond, ↓zi_if_icmp, ↓zi_iload_n, ↓zi_putfield, ↓zi_return_, zcmp_eq, zcmp_lt, zcmp_ge, ↓zpl_e pX8_18, ↓zpl_e pX8_21, ↓zpl_e pX8_28, ↓zpl_e pX8_31, ↓zpl_e pX8_34, ↓zo_5_0, ↓zo_5_1, ↓zo_5_2, ↓zo_5_3, ↓zo_5_4, ↓zo_5_5, ↓zo_5_6, ↓zo_5_7, ↓zo_5_8, ↓za_6, ↓za_7, ↓za_8, ↓za_9, ↓za_10, ↓za_11, bX8_append_0, bX8_append_68, List.size_toArray, zent_n, zent_c, zst_e, zfi0, zfi1, zfi2, zfi3, zcast, Nat.reduceAdd, Nat.reduceSub, Nat.reduceEqDiff, Nat.reduceLT, Nat.reduceLeDiff, Int.reduceAdd, Int.reduceSub, Int.reduceMul, Int.reduceToNat, Int.reduceLE, Int.reduceLT, Int.reduceEq, Int.reduceNeg, Int.reduceNegSucc, Nat.reduceMul, List.zip_cons_cons, List.zip_nil_left, List.zip_nil_right, Int.toNat_natCast, true_and, and_true, eq_self, ne_eq, not_false_eq_true, not_true_eq_false, forall_const, implies_true, false_and, true_or, or_true, false_or, or_false, imp_self, CX8_append, ↓zv_cf (cv := zCf VX8_append) (k := 40) (h := (rfl : zCf VX8_append 40 = some CX8_isRail)), and_imp, exists_eq_left, exists_eq_left', exists_eq_right, exists_eq_right', exists_and_left, exists_and_right, Prod.mk.injEq, zAdd_e, zSub_e, zMul_e, zres_0, zres_4, zres_1, zres_9, zrt_0, zrt_4, zrt_1, zrt_9, List.take_succ_cons, List.take_zero, List.drop_succ_cons, List.drop_zero, List.map_cons, List.map_nil, List.reverse_cons, List.reverse_nil, List.nil_append, List.cons_append, List.length_cons, List.length_nil, zPr_c, List.mem_cons, List.not_mem_nil, ↓zIV_e, zcats, List.sum_cons, List.sum_nil, zpu, zfu, zset_e]
  repeat' (first | exact zfr_rf _ _ _ | (refine zfr_st ?_ (by omega) (by omega)) | (refine zfr_cp ?_ (by omega) (by omega)) | (refine zfr_tr ?_ (by assumption)) | (refine zfr_tr ?_ (zfr_mono (by assumption) (by omega) (by omega))) | (refine And.intro ?_ ?_) | (intro _) | (refine Exists.intro (nn - 1) ?_) | (refine Exists.intro 5000000000 ?_) | fail)
  all_goals (try (simp only [zw] at *))
  all_goals (first | trivial | omega | exact (zAnd_b _).1 | exact (zAnd_b _).2 | assumption | (simp; omega) | skip)
  all_goals (simp only [zset_e, reduceIte] <;> first | rfl | omega | trivial | skip)
def CX8_removeTail : zCt := ([2], 9, zPr [5] (fun vs mem => match vs with | [t] => (True) | _ => False), (fun vs mem r mem' => match vs with | [t] => (zfr 5 11 mem mem' ∧ mem' 5 4 = mem 5 4 ∧ mem' 5 8 = zw (mem 5 8 - 1)) | _ => False))
def VX8_removeTail : List (Nat × zCt) := [(60, CX8_railAt), (63, CX8_changeState)]
def SX8_removeTail : List (Nat × zCt) := []
set_option maxHeartbeats 1000000 in
set_option maxRecDepth 100000 in
theorem mX8_removeTail (l : Launch) : zMet l zLay yX8_removeTail cX8_removeTail 2 none 2 CX8_removeTail.1 CX8_removeTail.2.1 CX8_removeTail.2.2.1 CX8_removeTail.2.2.2 := by
  refine zMet_of (pl := zPlf PX8) (cv := zCf VX8_removeTail) (cS := zCf SX8_removeTail) (B := zBf BX8_removeTail) (F := 80) (own := RX8) (by decide +kernel) rfl (Or.inr (Or.inr (Or.inr ⟨rfl, rfl⟩))) (fun vs h => by obtain ⟨t, rfl⟩ := zlen1 h; exact Nat.le_of_ble_eq_true rfl) PX8_ok zClok_ok zSyok_ok oX8_removeTail (zAllC_e (zAllC_c (Or.inl (zcal_v (mX8_railAt l) (by decide) (by decide) hX8_railAt kX8_60 ⟨by decide, by decide +kernel⟩ (ci := 8) rfl rfl rfl)) (zAllC_c (Or.inl (zcal_v (mX8_changeState l) (by decide) (by decide) hX8_changeState kX8_63 ⟨by decide, by decide +kernel⟩ (ci := 8) rfl rfl rfl)) (zAllC_n)))) (zAllC_e (zAllC_n)) ?_
  intro vs mem hvl hok hm hpre
  obtain ⟨t, rfl⟩ := zlen1 hvl
  clear hok hvl
  obtain ⟨hid, hpre⟩ := hpre
  simp only [List.mem_cons, List.not_mem_nil, or_false] at hid
  have hpre : True := hpre
  subst hid
  refine ⟨zIf [(12, (fun nq ls st m => (ls 1).1 = 0 ∧ ls 0 = (2, 5) ∧ st = [] ∧ ((zfr 5 11 mem m) ∧ m 5 4 = mem 5 4 ∧ m 5 8 = mem 5 8 ∧ 1 ≤ (ls 1).2 ∧ (ls 1).2 ≤ 16 ∧ (16 - (ls 1).2).toNat ≤ nq)))], zAllI_e (zAllI_c ?_ (zAllI_n)), ?_⟩
  · intro nn ls st mem1 hm1 hl1 hJ
    obtain ⟨ht1, h0, rfl, hc⟩ := hJ
    obtain ⟨x1, h1⟩ : ∃ x, ls 1 = (0, x) := ⟨_, Prod.ext ht1 rfl⟩
    simp only [h1] at hc
    obtain ⟨hc0, hc1, hc2, hc3, hc4, hc5⟩ := hc
    simp (maxSteps := 3000000) only [↓zwp_s, zrun_n, zrun_c, zgo_any, zgo_bel, ↓zgA_n, ↓zgA_c, ↓zgB_n, ↓zgB_c, ↓zp1_c, ↓zpv_c, ↓ztg_e, ↓zFv_r, ↓zFv_i, ↓zFv_z, ↓reduceIte, ↓zi_aload_n, ↓zi_bipush, ↓zi_dup, ↓zi_getfield, ↓zi_goto, ↓zi_iaload, ↓zi_iastore, ↓zi_iconst, ↓zi_if_icmp, ↓zi_iinc, ↓zi_iload_n, ↓zi_istore_n, ↓zi_isub, ↓zi_putfield, ↓zi_return_, zcmp_ge, ↓zpl_e pX8_28, ↓zpl_e pX8_31, ↓zpl_e pX8_34, ↓zpl_e pX8_37, ↓zo_5_0, ↓zo_5_1, ↓zo_5_2, ↓zo_5_3, ↓zo_5_4, ↓zo_5_5, ↓zo_5_6, ↓zo_5_7, ↓zo_5_8, ↓za_6, ↓za_7, ↓za_8, ↓za_9, ↓za_10, ↓za_11, bX8_removeTail_0, bX8_removeTail_12, bX8_removeTail_60, List.size_toArray, zent_n, zent_c, zst_e, zfi0, zfi1, zfi2, zfi3, zcast, Nat.reduceAdd, Nat.reduceSub, Nat.reduceEqDiff, Nat.reduceLT, Nat.reduceLeDiff, Int.reduceAdd, Int.reduceSub, Int.reduceMul, Int.reduceToNat, Int.reduceLE, Int.reduceLT, Int.reduceEq, Int.reduceNeg, Int.reduceNegSucc, Nat.reduceMul, List.zip_cons_cons, List.zip_nil_left, List.zip_nil_right, Int.toNat_natCast, true_and, and_true, eq_self, ne_eq, not_false_eq_true, not_true_eq_false, forall_const, implies_true, false_and, true_or, or_true, false_or, or_false, imp_self, CX8_removeTail, ↓zv_cp (cv := zCf VX8_removeTail) (k := 60) (h := (rfl : zCf VX8_removeTail 60 = some CX8_railAt)), ↓zv_cg (cv := zCf VX8_removeTail) (k := 63) (h := (rfl : zCf VX8_removeTail 63 = some CX8_changeState)), and_imp, exists_eq_left, exists_eq_left', exists_eq_right, exists_eq_right', exists_and_left, exists_and_right, Prod.mk.injEq, zAdd_e, zSub_e, zMul_e, zres_0, zres_4, zres_1, zres_9, zrt_0, zrt_4, zrt_1, zrt_9, List.take_succ_cons, List.take_zero, List.drop_succ_cons, List.drop_zero, List.map_cons, List.map_nil, List.reverse_cons, List.reverse_nil, List.nil_append, List.cons_append, List.length_cons, List.length_nil, zPr_c, List.mem_cons, List.not_mem_nil, ↓zIV_e, zcats, List.sum_cons, List.sum_nil, zpu, zfu, zset_e, h1, h0]
    repeat' (first | exact zfr_rf _ _ _ | (refine zfr_st ?_ (by omega) (by omega)) | (refine zfr_cp ?_ (by omega) (by omega)) | (refine zfr_tr ?_ (by assumption)) | (refine zfr_tr ?_ (zfr_mono (by assumption) (by omega) (by omega))) | (refine And.intro ?_ ?_) | (intro _) | (refine Exists.intro (nn - 1) ?_) | (refine Exists.intro 5000000000 ?_) | fail)
    all_goals (try (simp only [zw] at *))
    all_goals (first | trivial | omega | exact (zAnd_b _).1 | exact (zAnd_b _).2 | assumption | (simp; omega) | skip)
    all_goals (simp only [zset_e, reduceIte] <;> first | rfl | omega | trivial | skip)
  · simp (maxSteps := 3000000) only [↓zwp_s, zrun_n, zrun_c, zgo_any, zgo_bel, ↓zgA_n, ↓zgA_c, ↓zgB_n, ↓zgB_c, ↓zp1_c, ↓zpv_c, ↓ztg_e, ↓zFv_r, ↓zFv_i, ↓zFv_z, ↓reduceIte, ↓zi_aload_n, ↓zi_bipush, ↓zi_dup, ↓zi_getfield, ↓zi_goto, ↓zi_iaload, ↓zi_iastore, ↓zi_iconst, ↓zi_if_icmp, ↓zi_iinc, ↓zi_iload_n, ↓zi_istore_n, ↓zi_isub, ↓zi_putfield, ↓zi_return_, zcmp_ge, ↓zpl_e pX8_28, ↓zpl_e pX8_31, ↓zpl_e pX8_34, ↓zpl_e pX8_37, ↓zo_5_0, ↓zo_5_1, ↓zo_5_2, ↓zo_5_3, ↓zo_5_4, ↓zo_5_5, ↓zo_5_6, ↓zo_5_7, ↓zo_5_8, ↓za_6, ↓za_7, ↓za_8, ↓za_9, ↓za_10, ↓za_11, bX8_removeTail_0, bX8_removeTail_12, bX8_removeTail_60, List.size_toArray, zent_n, zent_c, zst_e, zfi0, zfi1, zfi2, zfi3, zcast, Nat.reduceAdd, Nat.reduceSub, Nat.reduceEqDiff, Nat.reduceLT, Nat.reduceLeDiff, Int.reduceAdd, Int.reduceSub, Int.reduceMul, Int.reduceToNat, Int.reduceLE, Int.reduceLT, Int.reduceEq, Int.reduceNeg, Int.reduceNegSucc, Nat.reduceMul, List.zip_cons_cons, List.zip_nil_left, List.zip_nil_right, Int.toNat_natCast, true_and, and_true, eq_self, ne_eq, not_false_eq_true, not_true_eq_false, forall_const, implies_true, false_and, true_or, or_true, false_or, or_false, imp_self, CX8_removeTail, ↓zv_cp (cv := zCf VX8_removeTail) (k := 60) (h := (rfl : zCf VX8_removeTail 60 = some CX8_railAt)), ↓zv_cg (cv := zCf VX8_removeTail) (k := 63) (h := (rfl : zCf VX8_removeTail 63 = some CX8_changeState)), and_imp, exists_eq_left, exists_eq_left', exists_eq_right, exists_eq_right', exists_and_left, exists_and_right, Prod.mk.injEq, zAdd_e, zSub_e, zMul_e, zres_0, zres_4, zres_1, zres_9, zrt_0, zrt_4, zrt_1, zrt_9, List.take_succ_cons, List.take_zero, List.drop_succ_cons, List.drop_zero, List.map_cons, List.map_nil, List.reverse_cons, List.reverse_nil, List.nil_append, List.cons_append, List.length_cons, List.length_nil, zPr_c, List.mem_cons, List.not_mem_nil, ↓zIV_e, zcats, List.sum_cons, List.sum_nil, zpu, zfu, zset_e]
    repeat' (first | exact zfr_rf _ _ _ | (refine zfr_st ?_ (by omega) (by omega)) | (refine zfr_cp ?_ (by omega) (by omega)) | (refine zfr_tr ?_ (by assumption)) | (refine zfr_tr ?_ (zfr_mono (by assumption) (by omega) (by omega))) | (refine And.intro ?_ ?_) | (intro _) | (refine Exists.intro (nn - 1) ?_) | (refine Exists.intro 5000000000 ?_) | fail)
    all_goals (try (simp only [zw] at *))
    all_goals (first | trivial | omega | exact (zAnd_b _).1 | exact (zAnd_b _).2 | assumption | (simp; omega) | skip)
    all_goals (simp only [zset_e, reduceIte] <;> first | rfl | omega | trivial | skip)
def CX8_isBuried : zCt := ([2, 0, 2], 4, zPr [5] (fun vs mem => match vs with | [t, p, o] => (o = 2 ∨ o = 45) | _ => False), zpu (fun vs mem r => match vs with | [t, p, o] => (r = 0 ∨ r = 1) | _ => False))
def VX8_isBuried : List (Nat × zCt) := [(44, CX8_cellAt), (67, CX0_kindOf)]
def SX8_isBuried : List (Nat × zCt) := []
set_option maxHeartbeats 1000000 in
set_option maxRecDepth 100000 in
theorem mX8_isBuried (l : Launch) : zMet l zLay yX8_isBuried cX8_isBuried 3 (some .boolean) 2 CX8_isBuried.1 CX8_isBuried.2.1 CX8_isBuried.2.2.1 CX8_isBuried.2.2.2 := by
  refine zMet_of (pl := zPlf PX8) (cv := zCf VX8_isBuried) (cS := zCf SX8_isBuried) (B := zBf BX8_isBuried) (F := 80) (own := RX8) (by decide +kernel) rfl (Or.inr (Or.inl ⟨rfl, rfl⟩)) (fun vs h => by obtain ⟨t, p, o, rfl⟩ := zlen3 h; exact Nat.le_of_ble_eq_true rfl) PX8_ok zClok_ok zSyok_ok oX8_isBuried (zAllC_e (zAllC_c (Or.inl (zcal_v (mX8_cellAt l) (by decide) (by decide) hX8_cellAt kX8_44 ⟨by decide, by decide +kernel⟩ (ci := 8) rfl rfl rfl)) (zAllC_c (Or.inl (zcal_v (mX0_kindOf l) (by decide) (by decide) hX0_kindOf kX8_67 ⟨by decide, by decide +kernel⟩ (ci := 0) rfl rfl rfl)) (zAllC_n)))) (zAllC_e (zAllC_n)) ?_
  intro vs mem hvl hok hm hpre
  obtain ⟨t, p, o, rfl⟩ := zlen3 hvl
  have hr_p : -2147483648 ≤ p ∧ p ≤ 2147483647 := (hok (0, p) (by simp [CX8_isBuried])).1 rfl
  clear hok hvl
  obtain ⟨hid, hpre⟩ := hpre
  simp only [List.mem_cons, List.not_mem_nil, or_false] at hid
  have hpre : o = 2 ∨ o = 45 := hpre
  subst hid
  rcases hpre with hpre | hpre <;> subst hpre
  · refine ⟨zIf [], zAllI_e zAllI_n, ?_⟩
    simp (maxSteps := 3000000) only [↓zwp_s, zrun_n, zrun_c, zgo_any, zgo_bel, ↓zgA_n, ↓zgA_c, ↓zgB_n, ↓zgB_c, ↓zp1_c, ↓zpv_c, ↓ztg_e, ↓zFv_r, ↓zFv_i, ↓zFv_z, ↓reduceIte, ↓zi_aload_n, ↓zi_goto, ↓zi_iconst, ↓zi_if_icmp, ↓zi_iload_n, ↓zi_ireturn, zcmp_ne, ↓zo_5_0, ↓zo_5_1, ↓zo_5_2, ↓zo_5_3, ↓zo_5_4, ↓zo_5_5, ↓zo_5_6, ↓zo_5_7, ↓zo_5_8, ↓za_11, bX8_isBuried_0, bX8_isBuried_17, bX8_isBuried_18, List.size_toArray, zent_n, zent_c, zst_e, zfi0, zfi1, zfi2, zfi3, zcast, Nat.reduceAdd, Nat.reduceSub, Nat.reduceEqDiff, Nat.reduceLT, Nat.reduceLeDiff, Int.reduceAdd, Int.reduceSub, Int.reduceMul, Int.reduceToNat, Int.reduceLE, Int.reduceLT, Int.reduceEq, Int.reduceNeg, Int.reduceNegSucc, Nat.reduceMul, List.zip_cons_cons, List.zip_nil_left, List.zip_nil_right, Int.toNat_natCast, true_and, and_true, eq_self, ne_eq, not_false_eq_true, not_true_eq_false, forall_const, implies_true, false_and, true_or, or_true, false_or, or_false, imp_self, CX8_isBuried, ↓zv_cp (cv := zCf VX8_isBuried) (k := 44) (h := (rfl : zCf VX8_isBuried 44 = some CX8_cellAt)), ↓zv_cp (cv := zCf VX8_isBuried) (k := 67) (h := (rfl : zCf VX8_isBuried 67 = some CX0_kindOf)), and_imp, exists_eq_left, exists_eq_left', exists_eq_right, exists_eq_right', exists_and_left, exists_and_right, Prod.mk.injEq, zAdd_e, zSub_e, zMul_e, zres_0, zres_4, zres_1, zres_9, zrt_0, zrt_4, zrt_1, zrt_9, List.take_succ_cons, List.take_zero, List.drop_succ_cons, List.drop_zero, List.map_cons, List.map_nil, List.reverse_cons, List.reverse_nil, List.nil_append, List.cons_append, List.length_cons, List.length_nil, zPr_c, List.mem_cons, List.not_mem_nil, ↓zIV_e, zcats, List.sum_cons, List.sum_nil, zpu, zfu, zset_e]
    repeat' (first | exact zfr_rf _ _ _ | (refine zfr_st ?_ (by omega) (by omega)) | (refine zfr_cp ?_ (by omega) (by omega)) | (refine zfr_tr ?_ (by assumption)) | (refine zfr_tr ?_ (zfr_mono (by assumption) (by omega) (by omega))) | (refine And.intro ?_ ?_) | (intro _) | (refine Exists.intro (nn - 1) ?_) | (refine Exists.intro 5000000000 ?_) | fail)
    all_goals (try (simp only [zw] at *))
    all_goals (first | trivial | omega | exact (zAnd_b _).1 | exact (zAnd_b _).2 | assumption | (simp; omega) | skip)
  · refine ⟨zIf [], zAllI_e zAllI_n, ?_⟩
    simp (maxSteps := 3000000) only [↓zwp_s, zrun_n, zrun_c, zgo_any, zgo_bel, ↓zgA_n, ↓zgA_c, ↓zgB_n, ↓zgB_c, ↓zp1_c, ↓zpv_c, ↓ztg_e, ↓zFv_r, ↓zFv_i, ↓zFv_z, ↓reduceIte, ↓zi_aload_n, ↓zi_goto, ↓zi_iconst, ↓zi_if_icmp, ↓zi_iload_n, ↓zi_ireturn, zcmp_ne, ↓zo_5_0, ↓zo_5_1, ↓zo_5_2, ↓zo_5_3, ↓zo_5_4, ↓zo_5_5, ↓zo_5_6, ↓zo_5_7, ↓zo_5_8, ↓za_11, bX8_isBuried_0, bX8_isBuried_17, bX8_isBuried_18, List.size_toArray, zent_n, zent_c, zst_e, zfi0, zfi1, zfi2, zfi3, zcast, Nat.reduceAdd, Nat.reduceSub, Nat.reduceEqDiff, Nat.reduceLT, Nat.reduceLeDiff, Int.reduceAdd, Int.reduceSub, Int.reduceMul, Int.reduceToNat, Int.reduceLE, Int.reduceLT, Int.reduceEq, Int.reduceNeg, Int.reduceNegSucc, Nat.reduceMul, List.zip_cons_cons, List.zip_nil_left, List.zip_nil_right, Int.toNat_natCast, true_and, and_true, eq_self, ne_eq, not_false_eq_true, not_true_eq_false, forall_const, implies_true, false_and, true_or, or_true, false_or, or_false, imp_self, CX8_isBuried, ↓zv_cp (cv := zCf VX8_isBuried) (k := 44) (h := (rfl : zCf VX8_isBuried 44 = some CX8_cellAt)), ↓zv_cp (cv := zCf VX8_isBuried) (k := 67) (h := (rfl : zCf VX8_isBuried 67 = some CX0_kindOf)), and_imp, exists_eq_left, exists_eq_left', exists_eq_right, exists_eq_right', exists_and_left, exists_and_right, Prod.mk.injEq, zAdd_e, zSub_e, zMul_e, zres_0, zres_4, zres_1, zres_9, zrt_0, zrt_4, zrt_1, zrt_9, List.take_succ_cons, List.take_zero, List.drop_succ_cons, List.drop_zero, List.map_cons, List.map_nil, List.reverse_cons, List.reverse_nil, List.nil_append, List.cons_append, List.length_cons, List.length_nil, zPr_c, List.mem_cons, List.not_mem_nil, ↓zIV_e, zcats, List.sum_cons, List.sum_nil, zpu, zfu, zset_e]
    repeat' (first | exact zfr_rf _ _ _ | (refine zfr_st ?_ (by omega) (by omega)) | (refine zfr_cp ?_ (by omega) (by omega)) | (refine zfr_tr ?_ (by assumption)) | (refine zfr_tr ?_ (zfr_mono (by assumption) (by omega) (by omega))) | (refine And.intro ?_ ?_) | (intro _) | (refine Exists.intro (nn - 1) ?_) | (refine Exists.intro 5000000000 ?_) | fail)
    all_goals (try (simp only [zw] at *))
    all_goals (first | trivial | omega | exact (zAnd_b _).1 | exact (zAnd_b _).2 | assumption | (simp; omega) | skip)
def CX8_buriedIn : zCt := ([2, 2], 0, zPr [5] (fun vs mem => match vs with | [t, o] => (o = 2 ∨ o = 45) | _ => False), zpu (fun vs mem r => match vs with | [t, o] => (True) | _ => False))
def VX8_buriedIn : List (Nat × zCt) := [(72, CX8_isBuried)]
def SX8_buriedIn : List (Nat × zCt) := []
set_option maxHeartbeats 1000000 in
set_option maxRecDepth 100000 in
theorem mX8_buriedIn (l : Launch) : zMet l zLay yX8_buriedIn cX8_buriedIn 4 (some .int) 3 CX8_buriedIn.1 CX8_buriedIn.2.1 CX8_buriedIn.2.2.1 CX8_buriedIn.2.2.2 := by
  refine zMet_of (pl := zPlf PX8) (cv := zCf VX8_buriedIn) (cS := zCf SX8_buriedIn) (B := zBf BX8_buriedIn) (F := 80) (own := RX8) (by decide +kernel) rfl (Or.inl ⟨rfl, rfl⟩) (fun vs h => by obtain ⟨t, o, rfl⟩ := zlen2 h; exact Nat.le_of_ble_eq_true rfl) PX8_ok zClok_ok zSyok_ok oX8_buriedIn (zAllC_e (zAllC_c (Or.inl (zcal_v (mX8_isBuried l) (by decide) (by decide) hX8_isBuried kX8_72 ⟨by decide, by decide +kernel⟩ (ci := 8) rfl rfl rfl)) (zAllC_n))) (zAllC_e (zAllC_n)) ?_
  intro vs mem hvl hok hm hpre
  obtain ⟨t, o, rfl⟩ := zlen2 hvl
  clear hok hvl
  obtain ⟨hid, hpre⟩ := hpre
  simp only [List.mem_cons, List.not_mem_nil, or_false] at hid
  have hpre : o = 2 ∨ o = 45 := hpre
  have hg_5_7 : -2147483648 ≤ mem 5 7 ∧ mem 5 7 ≤ 2147483647 := ((hm 5 _ zy_5).1 rfl 7 _ rfl).1 rfl
  subst hid
  refine ⟨zIf [(4, (fun nq ls st m => (ls 2).1 = 0 ∧ (ls 3).1 = 0 ∧ ls 0 = (2, 5) ∧ ls 1 = (2, o) ∧ st = [] ∧ m = mem ∧ (0 ≤ (ls 3).2 ∧ (ls 3).2 ≤ 2147483647 ∧ (2147483647 - (ls 3).2).toNat ≤ nq)))], zAllI_e (zAllI_c ?_ (zAllI_n)), ?_⟩
  · intro nn ls st mem1 hm1 hl1 hJ
    obtain ⟨ht2, ht3, h0, h1, rfl, rfl, hc⟩ := hJ
    obtain ⟨x2, h2⟩ : ∃ x, ls 2 = (0, x) := ⟨_, Prod.ext ht2 rfl⟩
    obtain ⟨x3, h3⟩ : ∃ x, ls 3 = (0, x) := ⟨_, Prod.ext ht3 rfl⟩
    simp only [h2, h3] at hc
    obtain ⟨hc0, hc1, hc2⟩ := hc
    have hg_5_7 : -2147483648 ≤ mem1 5 7 ∧ mem1 5 7 ≤ 2147483647 := ((hm1 5 _ zy_5).1 rfl 7 _ rfl).1 rfl
    simp (maxSteps := 3000000) only [↓zwp_s, zrun_n, zrun_c, zgo_any, zgo_bel, ↓zgA_n, ↓zgA_c, ↓zgB_n, ↓zgB_c, ↓zp1_c, ↓zpv_c, ↓ztg_e, ↓zFv_r, ↓zFv_i, ↓zFv_z, ↓reduceIte, ↓zi_aload_n, ↓zi_getfield, ↓zi_goto, ↓zi_iconst, ↓zi_ifCond, ↓zi_if_icmp, ↓zi_iinc, ↓zi_iload_n, ↓zi_ireturn, ↓zi_istore_n, zcmp_ge, zcmp_eq, ↓zpl_e pX8_34, ↓zo_5_0, ↓zo_5_1, ↓zo_5_2, ↓zo_5_3, ↓zo_5_4, ↓zo_5_5, ↓zo_5_6, ↓zo_5_7, ↓zo_5_8, bX8_buriedIn_0, bX8_buriedIn_4, bX8_buriedIn_24, bX8_buriedIn_30, List.size_toArray, zent_n, zent_c, zst_e, zfi0, zfi1, zfi2, zfi3, zcast, Nat.reduceAdd, Nat.reduceSub, Nat.reduceEqDiff, Nat.reduceLT, Nat.reduceLeDiff, Int.reduceAdd, Int.reduceSub, Int.reduceMul, Int.reduceToNat, Int.reduceLE, Int.reduceLT, Int.reduceEq, Int.reduceNeg, Int.reduceNegSucc, Nat.reduceMul, List.zip_cons_cons, List.zip_nil_left, List.zip_nil_right, Int.toNat_natCast, true_and, and_true, eq_self, ne_eq, not_false_eq_true, not_true_eq_false, forall_const, implies_true, false_and, true_or, or_true, false_or, or_false, imp_self, CX8_buriedIn, ↓zv_cp (cv := zCf VX8_buriedIn) (k := 72) (h := (rfl : zCf VX8_buriedIn 72 = some CX8_isBuried)), and_imp, exists_eq_left, exists_eq_left', exists_eq_right, exists_eq_right', exists_and_left, exists_and_right, Prod.mk.injEq, zAdd_e, zSub_e, zMul_e, zres_0, zres_4, zres_1, zres_9, zrt_0, zrt_4, zrt_1, zrt_9, List.take_succ_cons, List.take_zero, List.drop_succ_cons, List.drop_zero, List.map_cons, List.map_nil, List.reverse_cons, List.reverse_nil, List.nil_append, List.cons_append, List.length_cons, List.length_nil, zPr_c, List.mem_cons, List.not_mem_nil, ↓zIV_e, zcats, List.sum_cons, List.sum_nil, zpu, zfu, zset_e, h2, h3, h0, h1]
    repeat' (first | exact zfr_rf _ _ _ | (refine zfr_st ?_ (by omega) (by omega)) | (refine zfr_cp ?_ (by omega) (by omega)) | (refine zfr_tr ?_ (by assumption)) | (refine zfr_tr ?_ (zfr_mono (by assumption) (by omega) (by omega))) | (refine And.intro ?_ ?_) | (intro _) | (refine Exists.intro (nn - 1) ?_) | (refine Exists.intro 5000000000 ?_) | fail)
    all_goals (try (simp only [zw] at *))
    all_goals (first | trivial | omega | exact (zAnd_b _).1 | exact (zAnd_b _).2 | assumption | (simp; omega) | skip)
  · simp (maxSteps := 3000000) only [↓zwp_s, zrun_n, zrun_c, zgo_any, zgo_bel, ↓zgA_n, ↓zgA_c, ↓zgB_n, ↓zgB_c, ↓zp1_c, ↓zpv_c, ↓ztg_e, ↓zFv_r, ↓zFv_i, ↓zFv_z, ↓reduceIte, ↓zi_aload_n, ↓zi_getfield, ↓zi_goto, ↓zi_iconst, ↓zi_ifCond, ↓zi_if_icmp, ↓zi_iinc, ↓zi_iload_n, ↓zi_ireturn, ↓zi_istore_n, zcmp_ge, zcmp_eq, ↓zpl_e pX8_34, ↓zo_5_0, ↓zo_5_1, ↓zo_5_2, ↓zo_5_3, ↓zo_5_4, ↓zo_5_5, ↓zo_5_6, ↓zo_5_7, ↓zo_5_8, bX8_buriedIn_0, bX8_buriedIn_4, bX8_buriedIn_24, bX8_buriedIn_30, List.size_toArray, zent_n, zent_c, zst_e, zfi0, zfi1, zfi2, zfi3, zcast, Nat.reduceAdd, Nat.reduceSub, Nat.reduceEqDiff, Nat.reduceLT, Nat.reduceLeDiff, Int.reduceAdd, Int.reduceSub, Int.reduceMul, Int.reduceToNat, Int.reduceLE, Int.reduceLT, Int.reduceEq, Int.reduceNeg, Int.reduceNegSucc, Nat.reduceMul, List.zip_cons_cons, List.zip_nil_left, List.zip_nil_right, Int.toNat_natCast, true_and, and_true, eq_self, ne_eq, not_false_eq_true, not_true_eq_false, forall_const, implies_true, false_and, true_or, or_true, false_or, or_false, imp_self, CX8_buriedIn, ↓zv_cp (cv := zCf VX8_buriedIn) (k := 72) (h := (rfl : zCf VX8_buriedIn 72 = some CX8_isBuried)), and_imp, exists_eq_left, exists_eq_left', exists_eq_right, exists_eq_right', exists_and_left, exists_and_right, Prod.mk.injEq, zAdd_e, zSub_e, zMul_e, zres_0, zres_4, zres_1, zres_9, zrt_0, zrt_4, zrt_1, zrt_9, List.take_succ_cons, List.take_zero, List.drop_succ_cons, List.drop_zero, List.map_cons, List.map_nil, List.reverse_cons, List.reverse_nil, List.nil_append, List.cons_append, List.length_cons, List.length_nil, zPr_c, List.mem_cons, List.not_mem_nil, ↓zIV_e, zcats, List.sum_cons, List.sum_nil, zpu, zfu, zset_e]
    repeat' (first | exact zfr_rf _ _ _ | (refine zfr_st ?_ (by omega) (by omega)) | (refine zfr_cp ?_ (by omega) (by omega)) | (refine zfr_tr ?_ (by assumption)) | (refine zfr_tr ?_ (zfr_mono (by assumption) (by omega) (by omega))) | (refine And.intro ?_ ?_) | (intro _) | (refine Exists.intro (nn - 1) ?_) | (refine Exists.intro 5000000000 ?_) | fail)
    all_goals (try (simp only [zw] at *))
    all_goals (first | trivial | omega | exact (zAnd_b _).1 | exact (zAnd_b _).2 | assumption | (simp; omega) | skip)
def CX8_firstBuried : zCt := ([2, 2], 0, zPr [5] (fun vs mem => match vs with | [t, o] => (o = 2 ∨ o = 45) | _ => False), zpu (fun vs mem r => match vs with | [t, o] => (True) | _ => False))
def VX8_firstBuried : List (Nat × zCt) := [(72, CX8_isBuried)]
def SX8_firstBuried : List (Nat × zCt) := []
set_option maxHeartbeats 1000000 in
set_option maxRecDepth 100000 in
theorem mX8_firstBuried (l : Launch) : zMet l zLay yX8_firstBuried cX8_firstBuried 3 (some .int) 3 CX8_firstBuried.1 CX8_firstBuried.2.1 CX8_firstBuried.2.2.1 CX8_firstBuried.2.2.2 := by
  refine zMet_of (pl := zPlf PX8) (cv := zCf VX8_firstBuried) (cS := zCf SX8_firstBuried) (B := zBf BX8_firstBuried) (F := 80) (own := RX8) (by decide +kernel) rfl (Or.inl ⟨rfl, rfl⟩) (fun vs h => by obtain ⟨t, o, rfl⟩ := zlen2 h; exact Nat.le_of_ble_eq_true rfl) PX8_ok zClok_ok zSyok_ok oX8_firstBuried (zAllC_e (zAllC_c (Or.inl (zcal_v (mX8_isBuried l) (by decide) (by decide) hX8_isBuried kX8_72 ⟨by decide, by decide +kernel⟩ (ci := 8) rfl rfl rfl)) (zAllC_n))) (zAllC_e (zAllC_n)) ?_
  intro vs mem hvl hok hm hpre
  obtain ⟨t, o, rfl⟩ := zlen2 hvl
  clear hok hvl
  obtain ⟨hid, hpre⟩ := hpre
  simp only [List.mem_cons, List.not_mem_nil, or_false] at hid
  have hpre : o = 2 ∨ o = 45 := hpre
  have hg_5_7 : -2147483648 ≤ mem 5 7 ∧ mem 5 7 ≤ 2147483647 := ((hm 5 _ zy_5).1 rfl 7 _ rfl).1 rfl
  subst hid
  refine ⟨zIf [(2, (fun nq ls st m => (ls 2).1 = 0 ∧ ls 0 = (2, 5) ∧ ls 1 = (2, o) ∧ st = [] ∧ m = mem ∧ (0 ≤ (ls 2).2 ∧ (ls 2).2 ≤ 2147483647 ∧ (2147483647 - (ls 2).2).toNat ≤ nq)))], zAllI_e (zAllI_c ?_ (zAllI_n)), ?_⟩
  · intro nn ls st mem1 hm1 hl1 hJ
    obtain ⟨ht2, h0, h1, rfl, rfl, hc⟩ := hJ
    obtain ⟨x2, h2⟩ : ∃ x, ls 2 = (0, x) := ⟨_, Prod.ext ht2 rfl⟩
    simp only [h2] at hc
    obtain ⟨hc0, hc1, hc2⟩ := hc
    have hg_5_7 : -2147483648 ≤ mem1 5 7 ∧ mem1 5 7 ≤ 2147483647 := ((hm1 5 _ zy_5).1 rfl 7 _ rfl).1 rfl
    simp (maxSteps := 3000000) only [↓zwp_s, zrun_n, zrun_c, zgo_any, zgo_bel, ↓zgA_n, ↓zgA_c, ↓zgB_n, ↓zgB_c, ↓zp1_c, ↓zpv_c, ↓ztg_e, ↓zFv_r, ↓zFv_i, ↓zFv_z, ↓reduceIte, ↓zi_aload_n, ↓zi_getfield, ↓zi_goto, ↓zi_iconst, ↓zi_ifCond, ↓zi_if_icmp, ↓zi_iinc, ↓zi_iload_n, ↓zi_ireturn, ↓zi_istore_n, zcmp_ge, zcmp_eq, ↓zpl_e pX8_34, ↓zo_5_0, ↓zo_5_1, ↓zo_5_2, ↓zo_5_3, ↓zo_5_4, ↓zo_5_5, ↓zo_5_6, ↓zo_5_7, ↓zo_5_8, bX8_firstBuried_0, bX8_firstBuried_2, bX8_firstBuried_21, bX8_firstBuried_27, List.size_toArray, zent_n, zent_c, zst_e, zfi0, zfi1, zfi2, zfi3, zcast, Nat.reduceAdd, Nat.reduceSub, Nat.reduceEqDiff, Nat.reduceLT, Nat.reduceLeDiff, Int.reduceAdd, Int.reduceSub, Int.reduceMul, Int.reduceToNat, Int.reduceLE, Int.reduceLT, Int.reduceEq, Int.reduceNeg, Int.reduceNegSucc, Nat.reduceMul, List.zip_cons_cons, List.zip_nil_left, List.zip_nil_right, Int.toNat_natCast, true_and, and_true, eq_self, ne_eq, not_false_eq_true, not_true_eq_false, forall_const, implies_true, false_and, true_or, or_true, false_or, or_false, imp_self, CX8_firstBuried, ↓zv_cp (cv := zCf VX8_firstBuried) (k := 72) (h := (rfl : zCf VX8_firstBuried 72 = some CX8_isBuried)), and_imp, exists_eq_left, exists_eq_left', exists_eq_right, exists_eq_right', exists_and_left, exists_and_right, Prod.mk.injEq, zAdd_e, zSub_e, zMul_e, zres_0, zres_4, zres_1, zres_9, zrt_0, zrt_4, zrt_1, zrt_9, List.take_succ_cons, List.take_zero, List.drop_succ_cons, List.drop_zero, List.map_cons, List.map_nil, List.reverse_cons, List.reverse_nil, List.nil_append, List.cons_append, List.length_cons, List.length_nil, zPr_c, List.mem_cons, List.not_mem_nil, ↓zIV_e, zcats, List.sum_cons, List.sum_nil, zpu, zfu, zset_e, h2, h0, h1]
    repeat' (first | exact zfr_rf _ _ _ | (refine zfr_st ?_ (by omega) (by omega)) | (refine zfr_cp ?_ (by omega) (by omega)) | (refine zfr_tr ?_ (by assumption)) | (refine zfr_tr ?_ (zfr_mono (by assumption) (by omega) (by omega))) | (refine And.intro ?_ ?_) | (intro _) | (refine Exists.intro (nn - 1) ?_) | (refine Exists.intro 5000000000 ?_) | fail)
    all_goals (try (simp only [zw] at *))
    all_goals (first | trivial | omega | exact (zAnd_b _).1 | exact (zAnd_b _).2 | assumption | (simp; omega) | skip)
  · simp (maxSteps := 3000000) only [↓zwp_s, zrun_n, zrun_c, zgo_any, zgo_bel, ↓zgA_n, ↓zgA_c, ↓zgB_n, ↓zgB_c, ↓zp1_c, ↓zpv_c, ↓ztg_e, ↓zFv_r, ↓zFv_i, ↓zFv_z, ↓reduceIte, ↓zi_aload_n, ↓zi_getfield, ↓zi_goto, ↓zi_iconst, ↓zi_ifCond, ↓zi_if_icmp, ↓zi_iinc, ↓zi_iload_n, ↓zi_ireturn, ↓zi_istore_n, zcmp_ge, zcmp_eq, ↓zpl_e pX8_34, ↓zo_5_0, ↓zo_5_1, ↓zo_5_2, ↓zo_5_3, ↓zo_5_4, ↓zo_5_5, ↓zo_5_6, ↓zo_5_7, ↓zo_5_8, bX8_firstBuried_0, bX8_firstBuried_2, bX8_firstBuried_21, bX8_firstBuried_27, List.size_toArray, zent_n, zent_c, zst_e, zfi0, zfi1, zfi2, zfi3, zcast, Nat.reduceAdd, Nat.reduceSub, Nat.reduceEqDiff, Nat.reduceLT, Nat.reduceLeDiff, Int.reduceAdd, Int.reduceSub, Int.reduceMul, Int.reduceToNat, Int.reduceLE, Int.reduceLT, Int.reduceEq, Int.reduceNeg, Int.reduceNegSucc, Nat.reduceMul, List.zip_cons_cons, List.zip_nil_left, List.zip_nil_right, Int.toNat_natCast, true_and, and_true, eq_self, ne_eq, not_false_eq_true, not_true_eq_false, forall_const, implies_true, false_and, true_or, or_true, false_or, or_false, imp_self, CX8_firstBuried, ↓zv_cp (cv := zCf VX8_firstBuried) (k := 72) (h := (rfl : zCf VX8_firstBuried 72 = some CX8_isBuried)), and_imp, exists_eq_left, exists_eq_left', exists_eq_right, exists_eq_right', exists_and_left, exists_and_right, Prod.mk.injEq, zAdd_e, zSub_e, zMul_e, zres_0, zres_4, zres_1, zres_9, zrt_0, zrt_4, zrt_1, zrt_9, List.take_succ_cons, List.take_zero, List.drop_succ_cons, List.drop_zero, List.map_cons, List.map_nil, List.reverse_cons, List.reverse_nil, List.nil_append, List.cons_append, List.length_cons, List.length_nil, zPr_c, List.mem_cons, List.not_mem_nil, ↓zIV_e, zcats, List.sum_cons, List.sum_nil, zpu, zfu, zset_e]
    repeat' (first | exact zfr_rf _ _ _ | (refine zfr_st ?_ (by omega) (by omega)) | (refine zfr_cp ?_ (by omega) (by omega)) | (refine zfr_tr ?_ (by assumption)) | (refine zfr_tr ?_ (zfr_mono (by assumption) (by omega) (by omega))) | (refine And.intro ?_ ?_) | (intro _) | (refine Exists.intro (nn - 1) ?_) | (refine Exists.intro 5000000000 ?_) | fail)
    all_goals (try (simp only [zw] at *))
    all_goals (first | trivial | omega | exact (zAnd_b _).1 | exact (zAnd_b _).2 | assumption | (simp; omega) | skip)
def CX8_jointOf : zCt := ([2, 0, 0], 0, zPr [5] (fun vs mem => match vs with | [t, p, q] => (True) | _ => False), zpu (fun vs mem r => match vs with | [t, p, q] => (True) | _ => False))
def VX8_jointOf : List (Nat × zCt) := [(60, CX8_railAt), (76, CX8_widthOf)]
def SX8_jointOf : List (Nat × zCt) := [(79, CJ9_abs_0f7a4)]
set_option maxHeartbeats 1000000 in
set_option maxRecDepth 100000 in
theorem mX8_jointOf (l : Launch) : zMet l zLay yX8_jointOf cX8_jointOf 3 (some .int) 2 CX8_jointOf.1 CX8_jointOf.2.1 CX8_jointOf.2.2.1 CX8_jointOf.2.2.2 := by
  refine zMet_of (pl := zPlf PX8) (cv := zCf VX8_jointOf) (cS := zCf SX8_jointOf) (B := zBf BX8_jointOf) (F := 80) (own := RX8) (by decide +kernel) rfl (Or.inl ⟨rfl, rfl⟩) (fun vs h => by obtain ⟨t, p, q, rfl⟩ := zlen3 h; exact Nat.le_of_ble_eq_true rfl) PX8_ok zClok_ok zSyok_ok oX8_jointOf (zAllC_e (zAllC_c (Or.inl (zcal_v (mX8_railAt l) (by decide) (by decide) hX8_railAt kX8_60 ⟨by decide, by decide +kernel⟩ (ci := 8) rfl rfl rfl)) (zAllC_c (Or.inl (zcal_v (mX8_widthOf l) (by decide) (by decide) hX8_widthOf kX8_76 ⟨by decide, by decide +kernel⟩ (ci := 8) rfl rfl rfl)) (zAllC_n)))) (zAllC_e (zAllC_c (zcal_s (mJ9_abs_0f7a4 l) (by decide) (by decide) hJ9_abs_0f7a4 kX8_79 ⟨by decide, by decide +kernel⟩) (zAllC_n))) ?_
  intro vs mem hvl hok hm hpre
  obtain ⟨t, p, q, rfl⟩ := zlen3 hvl
  have hr_p : -2147483648 ≤ p ∧ p ≤ 2147483647 := (hok (0, p) (by simp [CX8_jointOf])).1 rfl
  have hr_q : -2147483648 ≤ q ∧ q ≤ 2147483647 := (hok (0, q) (by simp [CX8_jointOf])).1 rfl
  clear hok hvl
  obtain ⟨hid, hpre⟩ := hpre
  simp only [List.mem_cons, List.not_mem_nil, or_false] at hid
  have hpre : True := hpre
  subst hid
  refine ⟨zIf [], zAllI_e zAllI_n, ?_⟩
  simp (maxSteps := 3000000) only [↓zwp_s, zrun_n, zrun_c, zgo_any, zgo_bel, ↓zgA_n, ↓zgA_c, ↓zgB_n, ↓zgB_c, ↓zp1_c, ↓zpv_c, ↓ztg_e, ↓zFv_r, ↓zFv_i, ↓zFv_z, ↓reduceIte, ↓zi_aload_n, ↓zi_iload_n, ↓zi_ireturn, ↓zi_isub, ↓zo_5_0, ↓zo_5_1, ↓zo_5_2, ↓zo_5_3, ↓zo_5_4, ↓zo_5_5, ↓zo_5_6, ↓zo_5_7, ↓zo_5_8, ↓za_6, ↓za_7, ↓za_8, ↓za_9, ↓za_10, ↓za_11, bX8_jointOf_0, List.size_toArray, zent_n, zent_c, zst_e, zfi0, zfi1, zfi2, zfi3, zcast, Nat.reduceAdd, Nat.reduceSub, Nat.reduceEqDiff, Nat.reduceLT, Nat.reduceLeDiff, Int.reduceAdd, Int.reduceSub, Int.reduceMul, Int.reduceToNat, Int.reduceLE, Int.reduceLT, Int.reduceEq, Int.reduceNeg, Int.reduceNegSucc, Nat.reduceMul, List.zip_cons_cons, List.zip_nil_left, List.zip_nil_right, Int.toNat_natCast, true_and, and_true, eq_self, ne_eq, not_false_eq_true, not_true_eq_false, forall_const, implies_true, false_and, true_or, or_true, false_or, or_false, imp_self, CX8_jointOf, ↓zv_cp (cv := zCf VX8_jointOf) (k := 60) (h := (rfl : zCf VX8_jointOf 60 = some CX8_railAt)), ↓zv_cp (cv := zCf VX8_jointOf) (k := 76) (h := (rfl : zCf VX8_jointOf 76 = some CX8_widthOf)), ↓zs_cp (cS := zCf SX8_jointOf) (pl := zPlf PX8) (k := 79) (h := (rfl : zCf SX8_jointOf 79 = some CJ9_abs_0f7a4)) (h2 := rfl), and_imp, exists_eq_left, exists_eq_left', exists_eq_right, exists_eq_right', exists_and_left, exists_and_right, Prod.mk.injEq, zAdd_e, zSub_e, zMul_e, zres_0, zres_4, zres_1, zres_9, zrt_0, zrt_4, zrt_1, zrt_9, List.take_succ_cons, List.take_zero, List.drop_succ_cons, List.drop_zero, List.map_cons, List.map_nil, List.reverse_cons, List.reverse_nil, List.nil_append, List.cons_append, List.length_cons, List.length_nil, zPr_c, List.mem_cons, List.not_mem_nil, ↓zIV_e, zcats, List.sum_cons, List.sum_nil, zpu, zfu, zset_e]
  repeat' (first | exact zfr_rf _ _ _ | (refine zfr_st ?_ (by omega) (by omega)) | (refine zfr_cp ?_ (by omega) (by omega)) | (refine zfr_tr ?_ (by assumption)) | (refine zfr_tr ?_ (zfr_mono (by assumption) (by omega) (by omega))) | (refine And.intro ?_ ?_) | (intro _) | (refine Exists.intro (nn - 1) ?_) | (refine Exists.intro 5000000000 ?_) | fail)
  all_goals (try (simp only [zw] at *))
  all_goals (first | trivial | omega | exact (zAnd_b _).1 | exact (zAnd_b _).2 | assumption | (simp; omega) | skip)
def CX8_widestJoint : zCt := ([2], 0, zPr [5] (fun vs mem => match vs with | [t] => (True) | _ => False), zpu (fun vs mem r => match vs with | [t] => (True) | _ => False))
def VX8_widestJoint : List (Nat × zCt) := [(82, CX8_jointOf)]
def SX8_widestJoint : List (Nat × zCt) := [(54, CJ9_max_7cf53)]
set_option maxHeartbeats 1000000 in
set_option maxRecDepth 100000 in
theorem mX8_widestJoint (l : Launch) : zMet l zLay yX8_widestJoint cX8_widestJoint 3 (some .int) 3 CX8_widestJoint.1 CX8_widestJoint.2.1 CX8_widestJoint.2.2.1 CX8_widestJoint.2.2.2 := by
  refine zMet_of (pl := zPlf PX8) (cv := zCf VX8_widestJoint) (cS := zCf SX8_widestJoint) (B := zBf BX8_widestJoint) (F := 80) (own := RX8) (by decide +kernel) rfl (Or.inl ⟨rfl, rfl⟩) (fun vs h => by obtain ⟨t, rfl⟩ := zlen1 h; exact Nat.le_of_ble_eq_true rfl) PX8_ok zClok_ok zSyok_ok oX8_widestJoint (zAllC_e (zAllC_c (Or.inl (zcal_v (mX8_jointOf l) (by decide) (by decide) hX8_jointOf kX8_82 ⟨by decide, by decide +kernel⟩ (ci := 8) rfl rfl rfl)) (zAllC_n))) (zAllC_e (zAllC_c (zcal_s (mJ9_max_7cf53 l) (by decide) (by decide) hJ9_max_7cf53 kX8_54 ⟨by decide, by decide +kernel⟩) (zAllC_n))) ?_
  intro vs mem hvl hok hm hpre
  obtain ⟨t, rfl⟩ := zlen1 hvl
  clear hok hvl
  obtain ⟨hid, hpre⟩ := hpre
  simp only [List.mem_cons, List.not_mem_nil, or_false] at hid
  have hpre : True := hpre
  have hg_5_7 : -2147483648 ≤ mem 5 7 ∧ mem 5 7 ≤ 2147483647 := ((hm 5 _ zy_5).1 rfl 7 _ rfl).1 rfl
  subst hid
  refine ⟨zIf [(4, (fun nq ls st m => (ls 1).1 = 0 ∧ (ls 2).1 = 0 ∧ ls 0 = (2, 5) ∧ st = [] ∧ m = mem ∧ (0 ≤ (ls 2).2 ∧ (ls 2).2 ≤ 2147483646 ∧ (2147483647 - (ls 2).2).toNat ≤ nq)))], zAllI_e (zAllI_c ?_ (zAllI_n)), ?_⟩
  · intro nn ls st mem1 hm1 hl1 hJ
    obtain ⟨ht1, ht2, h0, rfl, rfl, hc⟩ := hJ
    obtain ⟨x1, h1⟩ : ∃ x, ls 1 = (0, x) := ⟨_, Prod.ext ht1 rfl⟩
    obtain ⟨x2, h2⟩ : ∃ x, ls 2 = (0, x) := ⟨_, Prod.ext ht2 rfl⟩
    simp only [h1, h2] at hc
    obtain ⟨hc0, hc1, hc2⟩ := hc
    have hg_5_7 : -2147483648 ≤ mem1 5 7 ∧ mem1 5 7 ≤ 2147483647 := ((hm1 5 _ zy_5).1 rfl 7 _ rfl).1 rfl
    simp (maxSteps := 3000000) only [↓zwp_s, zrun_n, zrun_c, zgo_any, zgo_bel, ↓zgA_n, ↓zgA_c, ↓zgB_n, ↓zgB_c, ↓zp1_c, ↓zpv_c, ↓ztg_e, ↓zFv_r, ↓zFv_i, ↓zFv_z, ↓reduceIte, ↓zi_aload_n, ↓zi_getfield, ↓zi_goto, ↓zi_iadd, ↓zi_iconst, ↓zi_if_icmp, ↓zi_iinc, ↓zi_iload_n, ↓zi_ireturn, ↓zi_istore_n, zcmp_ge, ↓zpl_e pX8_34, ↓zo_5_0, ↓zo_5_1, ↓zo_5_2, ↓zo_5_3, ↓zo_5_4, ↓zo_5_5, ↓zo_5_6, ↓zo_5_7, ↓zo_5_8, ↓za_6, ↓za_7, ↓za_8, ↓za_9, ↓za_10, ↓za_11, bX8_widestJoint_0, bX8_widestJoint_4, bX8_widestJoint_33, List.size_toArray, zent_n, zent_c, zst_e, zfi0, zfi1, zfi2, zfi3, zcast, Nat.reduceAdd, Nat.reduceSub, Nat.reduceEqDiff, Nat.reduceLT, Nat.reduceLeDiff, Int.reduceAdd, Int.reduceSub, Int.reduceMul, Int.reduceToNat, Int.reduceLE, Int.reduceLT, Int.reduceEq, Int.reduceNeg, Int.reduceNegSucc, Nat.reduceMul, List.zip_cons_cons, List.zip_nil_left, List.zip_nil_right, Int.toNat_natCast, true_and, and_true, eq_self, ne_eq, not_false_eq_true, not_true_eq_false, forall_const, implies_true, false_and, true_or, or_true, false_or, or_false, imp_self, CX8_widestJoint, ↓zv_cp (cv := zCf VX8_widestJoint) (k := 82) (h := (rfl : zCf VX8_widestJoint 82 = some CX8_jointOf)), ↓zs_cf (cS := zCf SX8_widestJoint) (pl := zPlf PX8) (k := 54) (h := (rfl : zCf SX8_widestJoint 54 = some CJ9_max_7cf53)) (h2 := rfl), and_imp, exists_eq_left, exists_eq_left', exists_eq_right, exists_eq_right', exists_and_left, exists_and_right, Prod.mk.injEq, zAdd_e, zSub_e, zMul_e, zres_0, zres_4, zres_1, zres_9, zrt_0, zrt_4, zrt_1, zrt_9, List.take_succ_cons, List.take_zero, List.drop_succ_cons, List.drop_zero, List.map_cons, List.map_nil, List.reverse_cons, List.reverse_nil, List.nil_append, List.cons_append, List.length_cons, List.length_nil, zPr_c, List.mem_cons, List.not_mem_nil, ↓zIV_e, zcats, List.sum_cons, List.sum_nil, zpu, zfu, zset_e, h1, h2, h0]
    repeat' (first | exact zfr_rf _ _ _ | (refine zfr_st ?_ (by omega) (by omega)) | (refine zfr_cp ?_ (by omega) (by omega)) | (refine zfr_tr ?_ (by assumption)) | (refine zfr_tr ?_ (zfr_mono (by assumption) (by omega) (by omega))) | (refine And.intro ?_ ?_) | (intro _) | (refine Exists.intro (nn - 1) ?_) | (refine Exists.intro 5000000000 ?_) | fail)
    all_goals (try (simp only [zw] at *))
    all_goals (first | trivial | omega | exact (zAnd_b _).1 | exact (zAnd_b _).2 | assumption | (simp; omega) | skip)
  · simp (maxSteps := 3000000) only [↓zwp_s, zrun_n, zrun_c, zgo_any, zgo_bel, ↓zgA_n, ↓zgA_c, ↓zgB_n, ↓zgB_c, ↓zp1_c, ↓zpv_c, ↓ztg_e, ↓zFv_r, ↓zFv_i, ↓zFv_z, ↓reduceIte, ↓zi_aload_n, ↓zi_getfield, ↓zi_goto, ↓zi_iadd, ↓zi_iconst, ↓zi_if_icmp, ↓zi_iinc, ↓zi_iload_n, ↓zi_ireturn, ↓zi_istore_n, zcmp_ge, ↓zpl_e pX8_34, ↓zo_5_0, ↓zo_5_1, ↓zo_5_2, ↓zo_5_3, ↓zo_5_4, ↓zo_5_5, ↓zo_5_6, ↓zo_5_7, ↓zo_5_8, ↓za_6, ↓za_7, ↓za_8, ↓za_9, ↓za_10, ↓za_11, bX8_widestJoint_0, bX8_widestJoint_4, bX8_widestJoint_33, List.size_toArray, zent_n, zent_c, zst_e, zfi0, zfi1, zfi2, zfi3, zcast, Nat.reduceAdd, Nat.reduceSub, Nat.reduceEqDiff, Nat.reduceLT, Nat.reduceLeDiff, Int.reduceAdd, Int.reduceSub, Int.reduceMul, Int.reduceToNat, Int.reduceLE, Int.reduceLT, Int.reduceEq, Int.reduceNeg, Int.reduceNegSucc, Nat.reduceMul, List.zip_cons_cons, List.zip_nil_left, List.zip_nil_right, Int.toNat_natCast, true_and, and_true, eq_self, ne_eq, not_false_eq_true, not_true_eq_false, forall_const, implies_true, false_and, true_or, or_true, false_or, or_false, imp_self, CX8_widestJoint, ↓zv_cp (cv := zCf VX8_widestJoint) (k := 82) (h := (rfl : zCf VX8_widestJoint 82 = some CX8_jointOf)), ↓zs_cf (cS := zCf SX8_widestJoint) (pl := zPlf PX8) (k := 54) (h := (rfl : zCf SX8_widestJoint 54 = some CJ9_max_7cf53)) (h2 := rfl), and_imp, exists_eq_left, exists_eq_left', exists_eq_right, exists_eq_right', exists_and_left, exists_and_right, Prod.mk.injEq, zAdd_e, zSub_e, zMul_e, zres_0, zres_4, zres_1, zres_9, zrt_0, zrt_4, zrt_1, zrt_9, List.take_succ_cons, List.take_zero, List.drop_succ_cons, List.drop_zero, List.map_cons, List.map_nil, List.reverse_cons, List.reverse_nil, List.nil_append, List.cons_append, List.length_cons, List.length_nil, zPr_c, List.mem_cons, List.not_mem_nil, ↓zIV_e, zcats, List.sum_cons, List.sum_nil, zpu, zfu, zset_e]
    repeat' (first | exact zfr_rf _ _ _ | (refine zfr_st ?_ (by omega) (by omega)) | (refine zfr_cp ?_ (by omega) (by omega)) | (refine zfr_tr ?_ (by assumption)) | (refine zfr_tr ?_ (zfr_mono (by assumption) (by omega) (by omega))) | (refine And.intro ?_ ?_) | (intro _) | (refine Exists.intro (nn - 1) ?_) | (refine Exists.intro 5000000000 ?_) | fail)
    all_goals (try (simp only [zw] at *))
    all_goals (first | trivial | omega | exact (zAnd_b _).1 | exact (zAnd_b _).2 | assumption | (simp; omega) | skip)
def CX8_firstJointAbove : zCt := ([2, 0], 0, zPr [5] (fun vs mem => match vs with | [t, w] => (True) | _ => False), zpu (fun vs mem r => match vs with | [t, w] => (True) | _ => False))
def VX8_firstJointAbove : List (Nat × zCt) := [(82, CX8_jointOf)]
def SX8_firstJointAbove : List (Nat × zCt) := []
set_option maxHeartbeats 1000000 in
set_option maxRecDepth 100000 in
theorem mX8_firstJointAbove (l : Launch) : zMet l zLay yX8_firstJointAbove cX8_firstJointAbove 3 (some .int) 3 CX8_firstJointAbove.1 CX8_firstJointAbove.2.1 CX8_firstJointAbove.2.2.1 CX8_firstJointAbove.2.2.2 := by
  refine zMet_of (pl := zPlf PX8) (cv := zCf VX8_firstJointAbove) (cS := zCf SX8_firstJointAbove) (B := zBf BX8_firstJointAbove) (F := 80) (own := RX8) (by decide +kernel) rfl (Or.inl ⟨rfl, rfl⟩) (fun vs h => by obtain ⟨t, w, rfl⟩ := zlen2 h; exact Nat.le_of_ble_eq_true rfl) PX8_ok zClok_ok zSyok_ok oX8_firstJointAbove (zAllC_e (zAllC_c (Or.inl (zcal_v (mX8_jointOf l) (by decide) (by decide) hX8_jointOf kX8_82 ⟨by decide, by decide +kernel⟩ (ci := 8) rfl rfl rfl)) (zAllC_n))) (zAllC_e (zAllC_n)) ?_
  intro vs mem hvl hok hm hpre
  obtain ⟨t, w, rfl⟩ := zlen2 hvl
  have hr_w : -2147483648 ≤ w ∧ w ≤ 2147483647 := (hok (0, w) (by simp [CX8_firstJointAbove])).1 rfl
  clear hok hvl
  obtain ⟨hid, hpre⟩ := hpre
  simp only [List.mem_cons, List.not_mem_nil, or_false] at hid
  have hpre : True := hpre
  have hg_5_7 : -2147483648 ≤ mem 5 7 ∧ mem 5 7 ≤ 2147483647 := ((hm 5 _ zy_5).1 rfl 7 _ rfl).1 rfl
  subst hid
  refine ⟨zIf [(2, (fun nq ls st m => (ls 1).1 = 0 ∧ (ls 2).1 = 0 ∧ ls 0 = (2, 5) ∧ st = [] ∧ m = mem ∧ (0 ≤ (ls 2).2 ∧ (ls 2).2 ≤ 2147483646 ∧ (2147483647 - (ls 2).2).toNat ≤ nq)))], zAllI_e (zAllI_c ?_ (zAllI_n)), ?_⟩
  · intro nn ls st mem1 hm1 hl1 hJ
    obtain ⟨ht1, ht2, h0, rfl, rfl, hc⟩ := hJ
    obtain ⟨x1, h1⟩ : ∃ x, ls 1 = (0, x) := ⟨_, Prod.ext ht1 rfl⟩
    obtain ⟨x2, h2⟩ : ∃ x, ls 2 = (0, x) := ⟨_, Prod.ext ht2 rfl⟩
    simp only [h1, h2] at hc
    obtain ⟨hc0, hc1, hc2⟩ := hc
    have hg_5_7 : -2147483648 ≤ mem1 5 7 ∧ mem1 5 7 ≤ 2147483647 := ((hm1 5 _ zy_5).1 rfl 7 _ rfl).1 rfl
    simp (maxSteps := 3000000) only [↓zwp_s, zrun_n, zrun_c, zgo_any, zgo_bel, ↓zgA_n, ↓zgA_c, ↓zgB_n, ↓zgB_c, ↓zp1_c, ↓zpv_c, ↓ztg_e, ↓zFv_r, ↓zFv_i, ↓zFv_z, ↓reduceIte, ↓zi_aload_n, ↓zi_getfield, ↓zi_goto, ↓zi_iadd, ↓zi_iconst, ↓zi_if_icmp, ↓zi_iinc, ↓zi_iload_n, ↓zi_ireturn, ↓zi_istore_n, zcmp_ge, zcmp_le, ↓zpl_e pX8_34, ↓zo_5_0, ↓zo_5_1, ↓zo_5_2, ↓zo_5_3, ↓zo_5_4, ↓zo_5_5, ↓zo_5_6, ↓zo_5_7, ↓zo_5_8, ↓za_6, ↓za_7, ↓za_8, ↓za_9, ↓za_10, ↓za_11, bX8_firstJointAbove_0, bX8_firstJointAbove_2, bX8_firstJointAbove_26, bX8_firstJointAbove_32, List.size_toArray, zent_n, zent_c, zst_e, zfi0, zfi1, zfi2, zfi3, zcast, Nat.reduceAdd, Nat.reduceSub, Nat.reduceEqDiff, Nat.reduceLT, Nat.reduceLeDiff, Int.reduceAdd, Int.reduceSub, Int.reduceMul, Int.reduceToNat, Int.reduceLE, Int.reduceLT, Int.reduceEq, Int.reduceNeg, Int.reduceNegSucc, Nat.reduceMul, List.zip_cons_cons, List.zip_nil_left, List.zip_nil_right, Int.toNat_natCast, true_and, and_true, eq_self, ne_eq, not_false_eq_true, not_true_eq_false, forall_const, implies_true, false_and, true_or, or_true, false_or, or_false, imp_self, CX8_firstJointAbove, ↓zv_cp (cv := zCf VX8_firstJointAbove) (k := 82) (h := (rfl : zCf VX8_firstJointAbove 82 = some CX8_jointOf)), and_imp, exists_eq_left, exists_eq_left', exists_eq_right, exists_eq_right', exists_and_left, exists_and_right, Prod.mk.injEq, zAdd_e, zSub_e, zMul_e, zres_0, zres_4, zres_1, zres_9, zrt_0, zrt_4, zrt_1, zrt_9, List.take_succ_cons, List.take_zero, List.drop_succ_cons, List.drop_zero, List.map_cons, List.map_nil, List.reverse_cons, List.reverse_nil, List.nil_append, List.cons_append, List.length_cons, List.length_nil, zPr_c, List.mem_cons, List.not_mem_nil, ↓zIV_e, zcats, List.sum_cons, List.sum_nil, zpu, zfu, zset_e, h1, h2, h0]
    repeat' (first | exact zfr_rf _ _ _ | (refine zfr_st ?_ (by omega) (by omega)) | (refine zfr_cp ?_ (by omega) (by omega)) | (refine zfr_tr ?_ (by assumption)) | (refine zfr_tr ?_ (zfr_mono (by assumption) (by omega) (by omega))) | (refine And.intro ?_ ?_) | (intro _) | (refine Exists.intro (nn - 1) ?_) | (refine Exists.intro 5000000000 ?_) | fail)
    all_goals (try (simp only [zw] at *))
    all_goals (first | trivial | omega | exact (zAnd_b _).1 | exact (zAnd_b _).2 | assumption | (simp; omega) | skip)
  · simp (maxSteps := 3000000) only [↓zwp_s, zrun_n, zrun_c, zgo_any, zgo_bel, ↓zgA_n, ↓zgA_c, ↓zgB_n, ↓zgB_c, ↓zp1_c, ↓zpv_c, ↓ztg_e, ↓zFv_r, ↓zFv_i, ↓zFv_z, ↓reduceIte, ↓zi_aload_n, ↓zi_getfield, ↓zi_goto, ↓zi_iadd, ↓zi_iconst, ↓zi_if_icmp, ↓zi_iinc, ↓zi_iload_n, ↓zi_ireturn, ↓zi_istore_n, zcmp_ge, zcmp_le, ↓zpl_e pX8_34, ↓zo_5_0, ↓zo_5_1, ↓zo_5_2, ↓zo_5_3, ↓zo_5_4, ↓zo_5_5, ↓zo_5_6, ↓zo_5_7, ↓zo_5_8, ↓za_6, ↓za_7, ↓za_8, ↓za_9, ↓za_10, ↓za_11, bX8_firstJointAbove_0, bX8_firstJointAbove_2, bX8_firstJointAbove_26, bX8_firstJointAbove_32, List.size_toArray, zent_n, zent_c, zst_e, zfi0, zfi1, zfi2, zfi3, zcast, Nat.reduceAdd, Nat.reduceSub, Nat.reduceEqDiff, Nat.reduceLT, Nat.reduceLeDiff, Int.reduceAdd, Int.reduceSub, Int.reduceMul, Int.reduceToNat, Int.reduceLE, Int.reduceLT, Int.reduceEq, Int.reduceNeg, Int.reduceNegSucc, Nat.reduceMul, List.zip_cons_cons, List.zip_nil_left, List.zip_nil_right, Int.toNat_natCast, true_and, and_true, eq_self, ne_eq, not_false_eq_true, not_true_eq_false, forall_const, implies_true, false_and, true_or, or_true, false_or, or_false, imp_self, CX8_firstJointAbove, ↓zv_cp (cv := zCf VX8_firstJointAbove) (k := 82) (h := (rfl : zCf VX8_firstJointAbove 82 = some CX8_jointOf)), and_imp, exists_eq_left, exists_eq_left', exists_eq_right, exists_eq_right', exists_and_left, exists_and_right, Prod.mk.injEq, zAdd_e, zSub_e, zMul_e, zres_0, zres_4, zres_1, zres_9, zrt_0, zrt_4, zrt_1, zrt_9, List.take_succ_cons, List.take_zero, List.drop_succ_cons, List.drop_zero, List.map_cons, List.map_nil, List.reverse_cons, List.reverse_nil, List.nil_append, List.cons_append, List.length_cons, List.length_nil, zPr_c, List.mem_cons, List.not_mem_nil, ↓zIV_e, zcats, List.sum_cons, List.sum_nil, zpu, zfu, zset_e]
    repeat' (first | exact zfr_rf _ _ _ | (refine zfr_st ?_ (by omega) (by omega)) | (refine zfr_cp ?_ (by omega) (by omega)) | (refine zfr_tr ?_ (by assumption)) | (refine zfr_tr ?_ (zfr_mono (by assumption) (by omega) (by omega))) | (refine And.intro ?_ ?_) | (intro _) | (refine Exists.intro (nn - 1) ?_) | (refine Exists.intro 5000000000 ?_) | fail)
    all_goals (try (simp only [zw] at *))
    all_goals (first | trivial | omega | exact (zAnd_b _).1 | exact (zAnd_b _).2 | assumption | (simp; omega) | skip)
def CX8_mostWorn : zCt := ([2], 0, zPr [5] (fun vs mem => match vs with | [t] => (True) | _ => False), zpu (fun vs mem r => match vs with | [t] => (True) | _ => False))
def VX8_mostWorn : List (Nat × zCt) := [(57, CX8_stateOf), (85, CX8_wearOf)]
def SX8_mostWorn : List (Nat × zCt) := []
set_option maxHeartbeats 4000000 in
set_option maxRecDepth 100000 in
theorem mX8_mostWorn (l : Launch) : zMet l zLay yX8_mostWorn cX8_mostWorn 5 (some .int) 2 CX8_mostWorn.1 CX8_mostWorn.2.1 CX8_mostWorn.2.2.1 CX8_mostWorn.2.2.2 := by
  refine zMet_of (pl := zPlf PX8) (cv := zCf VX8_mostWorn) (cS := zCf SX8_mostWorn) (B := zBf BX8_mostWorn) (F := 80) (own := RX8) (by decide +kernel) rfl (Or.inl ⟨rfl, rfl⟩) (fun vs h => by obtain ⟨t, rfl⟩ := zlen1 h; exact Nat.le_of_ble_eq_true rfl) PX8_ok zClok_ok zSyok_ok oX8_mostWorn (zAllC_e (zAllC_c (Or.inl (zcal_v (mX8_stateOf l) (by decide) (by decide) hX8_stateOf kX8_57 ⟨by decide, by decide +kernel⟩ (ci := 8) rfl rfl rfl)) (zAllC_c (Or.inl (zcal_v (mX8_wearOf l) (by decide) (by decide) hX8_wearOf kX8_85 ⟨by decide, by decide +kernel⟩ (ci := 8) rfl rfl rfl)) (zAllC_n)))) (zAllC_e (zAllC_n)) ?_
  intro vs mem hvl hok hm hpre
  obtain ⟨t, rfl⟩ := zlen1 hvl
  clear hok hvl
  obtain ⟨hid, hpre⟩ := hpre
  simp only [List.mem_cons, List.not_mem_nil, or_false] at hid
  have hpre : True := hpre
  have hg_5_4 : -2147483648 ≤ mem 5 4 ∧ mem 5 4 ≤ 2147483647 := ((hm 5 _ zy_5).1 rfl 4 _ rfl).1 rfl
  subst hid
  refine ⟨zIf [(4, (fun nq ls st m => (ls 1).1 = 0 ∧ (ls 2).1 = 0 ∧ ls 0 = (2, 5) ∧ st = [] ∧ m = mem ∧ (0 ≤ (ls 2).2 ∧ (ls 2).2 ≤ 2147483647 ∧ (2147483647 - (ls 2).2).toNat ≤ nq)))], zAllI_e (zAllI_c ?_ (zAllI_n)), ?_⟩
  · intro nn ls st mem1 hm1 hl1 hJ
    obtain ⟨ht1, ht2, h0, rfl, rfl, hc⟩ := hJ
    obtain ⟨x1, h1⟩ : ∃ x, ls 1 = (0, x) := ⟨_, Prod.ext ht1 rfl⟩
    obtain ⟨x2, h2⟩ : ∃ x, ls 2 = (0, x) := ⟨_, Prod.ext ht2 rfl⟩
    simp only [h1, h2] at hc
    obtain ⟨hc0, hc1, hc2⟩ := hc
    have hg_5_4 : -2147483648 ≤ mem1 5 4 ∧ mem1 5 4 ≤ 2147483647 := ((hm1 5 _ zy_5).1 rfl 4 _ rfl).1 rfl
    simp (maxSteps := 3000000) only [↓zwp_s, zrun_n, zrun_c, zgo_any, zgo_bel, ↓zgA_n, ↓zgA_c, ↓zgB_n, ↓zgB_c, ↓zp1_c, ↓zpv_c, ↓ztg_e, ↓zFv_r, ↓zFv_i, ↓zFv_z, ↓reduceIte, ↓zi_aload_n, ↓zi_getfield, ↓zi_goto, ↓zi_iconst, ↓zi_ifCond, ↓zi_if_icmp, ↓zi_iinc, ↓zi_iload, ↓zi_iload_n, ↓zi_ireturn, ↓zi_istore, ↓zi_istore_n, zcmp_ge, zcmp_eq, zcmp_ne, zcmp_le, ↓zpl_e pX8_24, ↓zo_5_0, ↓zo_5_1, ↓zo_5_2, ↓zo_5_3, ↓zo_5_4, ↓zo_5_5, ↓zo_5_6, ↓zo_5_7, ↓zo_5_8, ↓za_6, ↓za_7, ↓za_8, ↓za_9, ↓za_10, ↓za_11, bX8_mostWorn_0, bX8_mostWorn_4, bX8_mostWorn_27, bX8_mostWorn_31, bX8_mostWorn_32, bX8_mostWorn_57, bX8_mostWorn_59, bX8_mostWorn_65, List.size_toArray, zent_n, zent_c, zst_e, zfi0, zfi1, zfi2, zfi3, zcast, Nat.reduceAdd, Nat.reduceSub, Nat.reduceEqDiff, Nat.reduceLT, Nat.reduceLeDiff, Int.reduceAdd, Int.reduceSub, Int.reduceMul, Int.reduceToNat, Int.reduceLE, Int.reduceLT, Int.reduceEq, Int.reduceNeg, Int.reduceNegSucc, Nat.reduceMul, List.zip_cons_cons, List.zip_nil_left, List.zip_nil_right, Int.toNat_natCast, true_and, and_true, eq_self, ne_eq, not_false_eq_true, not_true_eq_false, forall_const, implies_true, false_and, true_or, or_true, false_or, or_false, imp_self, CX8_mostWorn, ↓zv_cp (cv := zCf VX8_mostWorn) (k := 57) (h := (rfl : zCf VX8_mostWorn 57 = some CX8_stateOf)), ↓zv_cp (cv := zCf VX8_mostWorn) (k := 85) (h := (rfl : zCf VX8_mostWorn 85 = some CX8_wearOf)), and_imp, exists_eq_left, exists_eq_left', exists_eq_right, exists_eq_right', exists_and_left, exists_and_right, Prod.mk.injEq, zAdd_e, zSub_e, zMul_e, zres_0, zres_4, zres_1, zres_9, zrt_0, zrt_4, zrt_1, zrt_9, List.take_succ_cons, List.take_zero, List.drop_succ_cons, List.drop_zero, List.map_cons, List.map_nil, List.reverse_cons, List.reverse_nil, List.nil_append, List.cons_append, List.length_cons, List.length_nil, zPr_c, List.mem_cons, List.not_mem_nil, ↓zIV_e, zcats, List.sum_cons, List.sum_nil, zpu, zfu, zset_e, h1, h2, h0]
    repeat' (first | exact zfr_rf _ _ _ | (refine zfr_st ?_ (by omega) (by omega)) | (refine zfr_cp ?_ (by omega) (by omega)) | (refine zfr_tr ?_ (by assumption)) | (refine zfr_tr ?_ (zfr_mono (by assumption) (by omega) (by omega))) | (refine And.intro ?_ ?_) | (intro _) | (refine Exists.intro (nn - 1) ?_) | (refine Exists.intro 5000000000 ?_) | fail)
    all_goals (try (simp only [zw] at *))
    all_goals (first | trivial | omega | exact (zAnd_b _).1 | exact (zAnd_b _).2 | assumption | (simp; omega) | skip)
  · simp (maxSteps := 3000000) only [↓zwp_s, zrun_n, zrun_c, zgo_any, zgo_bel, ↓zgA_n, ↓zgA_c, ↓zgB_n, ↓zgB_c, ↓zp1_c, ↓zpv_c, ↓ztg_e, ↓zFv_r, ↓zFv_i, ↓zFv_z, ↓reduceIte, ↓zi_aload_n, ↓zi_getfield, ↓zi_goto, ↓zi_iconst, ↓zi_ifCond, ↓zi_if_icmp, ↓zi_iinc, ↓zi_iload, ↓zi_iload_n, ↓zi_ireturn, ↓zi_istore, ↓zi_istore_n, zcmp_ge, zcmp_eq, zcmp_ne, zcmp_le, ↓zpl_e pX8_24, ↓zo_5_0, ↓zo_5_1, ↓zo_5_2, ↓zo_5_3, ↓zo_5_4, ↓zo_5_5, ↓zo_5_6, ↓zo_5_7, ↓zo_5_8, ↓za_6, ↓za_7, ↓za_8, ↓za_9, ↓za_10, ↓za_11, bX8_mostWorn_0, bX8_mostWorn_4, bX8_mostWorn_27, bX8_mostWorn_31, bX8_mostWorn_32, bX8_mostWorn_57, bX8_mostWorn_59, bX8_mostWorn_65, List.size_toArray, zent_n, zent_c, zst_e, zfi0, zfi1, zfi2, zfi3, zcast, Nat.reduceAdd, Nat.reduceSub, Nat.reduceEqDiff, Nat.reduceLT, Nat.reduceLeDiff, Int.reduceAdd, Int.reduceSub, Int.reduceMul, Int.reduceToNat, Int.reduceLE, Int.reduceLT, Int.reduceEq, Int.reduceNeg, Int.reduceNegSucc, Nat.reduceMul, List.zip_cons_cons, List.zip_nil_left, List.zip_nil_right, Int.toNat_natCast, true_and, and_true, eq_self, ne_eq, not_false_eq_true, not_true_eq_false, forall_const, implies_true, false_and, true_or, or_true, false_or, or_false, imp_self, CX8_mostWorn, ↓zv_cp (cv := zCf VX8_mostWorn) (k := 57) (h := (rfl : zCf VX8_mostWorn 57 = some CX8_stateOf)), ↓zv_cp (cv := zCf VX8_mostWorn) (k := 85) (h := (rfl : zCf VX8_mostWorn 85 = some CX8_wearOf)), and_imp, exists_eq_left, exists_eq_left', exists_eq_right, exists_eq_right', exists_and_left, exists_and_right, Prod.mk.injEq, zAdd_e, zSub_e, zMul_e, zres_0, zres_4, zres_1, zres_9, zrt_0, zrt_4, zrt_1, zrt_9, List.take_succ_cons, List.take_zero, List.drop_succ_cons, List.drop_zero, List.map_cons, List.map_nil, List.reverse_cons, List.reverse_nil, List.nil_append, List.cons_append, List.length_cons, List.length_nil, zPr_c, List.mem_cons, List.not_mem_nil, ↓zIV_e, zcats, List.sum_cons, List.sum_nil, zpu, zfu, zset_e]
    repeat' (first | exact zfr_rf _ _ _ | (refine zfr_st ?_ (by omega) (by omega)) | (refine zfr_cp ?_ (by omega) (by omega)) | (refine zfr_tr ?_ (by assumption)) | (refine zfr_tr ?_ (zfr_mono (by assumption) (by omega) (by omega))) | (refine And.intro ?_ ?_) | (intro _) | (refine Exists.intro (nn - 1) ?_) | (refine Exists.intro 5000000000 ?_) | fail)
    all_goals (try (simp only [zw] at *))
    all_goals (first | trivial | omega | exact (zAnd_b _).1 | exact (zAnd_b _).2 | assumption | (simp; omega) | skip)
def CX8_copyFrom : zCt := ([2, 2], 9, zPr [5, 27] (fun vs mem => match vs with | [t, o] => (t = 5 ∧ o = 27 ∨ t = 27 ∧ o = 5) | _ => False), (fun vs mem r mem' => match vs with | [t, o] => (zfr t (t + 6) mem mem' ∧ mem' t.toNat 4 = mem o.toNat 4 ∧ mem' t.toNat 8 = mem o.toNat 8) | _ => False))
def VX8_copyFrom : List (Nat × zCt) := []
def SX8_copyFrom : List (Nat × zCt) := []
set_option maxHeartbeats 1000000 in
set_option maxRecDepth 100000 in
theorem mX8_copyFrom (l : Launch) : zMet l zLay yX8_copyFrom cX8_copyFrom 2 none 0 CX8_copyFrom.1 CX8_copyFrom.2.1 CX8_copyFrom.2.2.1 CX8_copyFrom.2.2.2 := by
  refine zMet_of (pl := zPlf PX8) (cv := zCf VX8_copyFrom) (cS := zCf SX8_copyFrom) (B := zBf BX8_copyFrom) (F := 80) (own := RX8) (by decide +kernel) rfl (Or.inr (Or.inr (Or.inr ⟨rfl, rfl⟩))) (fun vs h => by obtain ⟨t, o, rfl⟩ := zlen2 h; exact Nat.le_of_ble_eq_true rfl) PX8_ok zClok_ok zSyok_ok oX8_copyFrom (zAllC_e (zAllC_n)) (zAllC_e (zAllC_n)) ?_
  intro vs mem hvl hok hm hpre
  obtain ⟨t, o, rfl⟩ := zlen2 hvl
  clear hok hvl
  obtain ⟨hid, hpre⟩ := hpre
  simp only [List.mem_cons, List.not_mem_nil, or_false] at hid
  have hpre : t = 5 ∧ o = 27 ∨ t = 27 ∧ o = 5 := hpre
  rcases hid with hid | hid <;> subst hid
  · obtain rfl : o = 27 := by omega
    refine ⟨zIf [], zAllI_e zAllI_n, ?_⟩
    simp (maxSteps := 3000000) only [↓zwp_s, zrun_n, zrun_c, zgo_any, zgo_bel, ↓zgA_n, ↓zgA_c, ↓zgB_n, ↓zgB_c, ↓zp1_c, ↓zpv_c, ↓ztg_e, ↓zFv_r, ↓zFv_i, ↓zFv_z, ↓reduceIte, ↓zi_aload_n, ↓zi_bipush, ↓zi_getfield, ↓zi_iconst, ↓zi_putfield, ↓zi_return_, ↓zpl_e pX8_9, ↓zpl_e pX8_15, ↓zpl_e pX8_18, ↓zpl_e pX8_21, ↓zpl_e pX8_24, ↓zpl_e pX8_28, ↓zpl_e pX8_31, ↓zpl_e pX8_34, ↓zpl_e pX8_37, ↓zo_5_0, ↓zo_5_1, ↓zo_5_2, ↓zo_5_3, ↓zo_5_4, ↓zo_5_5, ↓zo_5_6, ↓zo_5_7, ↓zo_5_8, ↓za_6, ↓za_7, ↓za_8, ↓za_9, ↓za_10, ↓za_11, ↓zo_27_0, ↓zo_27_1, ↓zo_27_2, ↓zo_27_3, ↓zo_27_4, ↓zo_27_5, ↓zo_27_6, ↓zo_27_7, ↓zo_27_8, ↓za_28, ↓za_29, ↓za_30, ↓za_31, ↓za_32, ↓za_33, bX8_copyFrom_0, List.size_toArray, zent_n, zent_c, zst_e, zfi0, zfi1, zfi2, zfi3, zcast, Nat.reduceAdd, Nat.reduceSub, Nat.reduceEqDiff, Nat.reduceLT, Nat.reduceLeDiff, Int.reduceAdd, Int.reduceSub, Int.reduceMul, Int.reduceToNat, Int.reduceLE, Int.reduceLT, Int.reduceEq, Int.reduceNeg, Int.reduceNegSucc, Nat.reduceMul, List.zip_cons_cons, List.zip_nil_left, List.zip_nil_right, Int.toNat_natCast, true_and, and_true, eq_self, ne_eq, not_false_eq_true, not_true_eq_false, forall_const, implies_true, false_and, true_or, or_true, false_or, or_false, imp_self, CX8_copyFrom, ↓zs_ac (cS := zCf SX8_copyFrom) (pl := zPlf PX8) (k := 88) (h := rfl) (h2 := pX8_88), and_imp, exists_eq_left, exists_eq_left', exists_eq_right, exists_eq_right', exists_and_left, exists_and_right, Prod.mk.injEq, zAdd_e, zSub_e, zMul_e, zres_0, zres_4, zres_1, zres_9, zrt_0, zrt_4, zrt_1, zrt_9, List.take_succ_cons, List.take_zero, List.drop_succ_cons, List.drop_zero, List.map_cons, List.map_nil, List.reverse_cons, List.reverse_nil, List.nil_append, List.cons_append, List.length_cons, List.length_nil, zPr_c, List.mem_cons, List.not_mem_nil, ↓zIV_e, zcats, List.sum_cons, List.sum_nil, zpu, zfu, zset_e, zcopy_e]
    repeat' (first | exact zfr_rf _ _ _ | (refine zfr_st ?_ (by omega) (by omega)) | (refine zfr_cp ?_ (by omega) (by omega)) | (refine zfr_tr ?_ (by assumption)) | (refine zfr_tr ?_ (zfr_mono (by assumption) (by omega) (by omega))) | (refine And.intro ?_ ?_) | (intro _) | (refine Exists.intro (nn - 1) ?_) | (refine Exists.intro 5000000000 ?_) | fail)
    all_goals (try (simp only [zw] at *))
    all_goals (first | trivial | omega | exact (zAnd_b _).1 | exact (zAnd_b _).2 | assumption | (simp; omega) | skip)
    all_goals (simp only [zset_e, reduceIte] <;> first | rfl | omega | trivial | skip)
  · obtain rfl : o = 5 := by omega
    refine ⟨zIf [], zAllI_e zAllI_n, ?_⟩
    simp (maxSteps := 3000000) only [↓zwp_s, zrun_n, zrun_c, zgo_any, zgo_bel, ↓zgA_n, ↓zgA_c, ↓zgB_n, ↓zgB_c, ↓zp1_c, ↓zpv_c, ↓ztg_e, ↓zFv_r, ↓zFv_i, ↓zFv_z, ↓reduceIte, ↓zi_aload_n, ↓zi_bipush, ↓zi_getfield, ↓zi_iconst, ↓zi_putfield, ↓zi_return_, ↓zpl_e pX8_9, ↓zpl_e pX8_15, ↓zpl_e pX8_18, ↓zpl_e pX8_21, ↓zpl_e pX8_24, ↓zpl_e pX8_28, ↓zpl_e pX8_31, ↓zpl_e pX8_34, ↓zpl_e pX8_37, ↓zo_5_0, ↓zo_5_1, ↓zo_5_2, ↓zo_5_3, ↓zo_5_4, ↓zo_5_5, ↓zo_5_6, ↓zo_5_7, ↓zo_5_8, ↓za_6, ↓za_7, ↓za_8, ↓za_9, ↓za_10, ↓za_11, ↓zo_27_0, ↓zo_27_1, ↓zo_27_2, ↓zo_27_3, ↓zo_27_4, ↓zo_27_5, ↓zo_27_6, ↓zo_27_7, ↓zo_27_8, ↓za_28, ↓za_29, ↓za_30, ↓za_31, ↓za_32, ↓za_33, bX8_copyFrom_0, List.size_toArray, zent_n, zent_c, zst_e, zfi0, zfi1, zfi2, zfi3, zcast, Nat.reduceAdd, Nat.reduceSub, Nat.reduceEqDiff, Nat.reduceLT, Nat.reduceLeDiff, Int.reduceAdd, Int.reduceSub, Int.reduceMul, Int.reduceToNat, Int.reduceLE, Int.reduceLT, Int.reduceEq, Int.reduceNeg, Int.reduceNegSucc, Nat.reduceMul, List.zip_cons_cons, List.zip_nil_left, List.zip_nil_right, Int.toNat_natCast, true_and, and_true, eq_self, ne_eq, not_false_eq_true, not_true_eq_false, forall_const, implies_true, false_and, true_or, or_true, false_or, or_false, imp_self, CX8_copyFrom, ↓zs_ac (cS := zCf SX8_copyFrom) (pl := zPlf PX8) (k := 88) (h := rfl) (h2 := pX8_88), and_imp, exists_eq_left, exists_eq_left', exists_eq_right, exists_eq_right', exists_and_left, exists_and_right, Prod.mk.injEq, zAdd_e, zSub_e, zMul_e, zres_0, zres_4, zres_1, zres_9, zrt_0, zrt_4, zrt_1, zrt_9, List.take_succ_cons, List.take_zero, List.drop_succ_cons, List.drop_zero, List.map_cons, List.map_nil, List.reverse_cons, List.reverse_nil, List.nil_append, List.cons_append, List.length_cons, List.length_nil, zPr_c, List.mem_cons, List.not_mem_nil, ↓zIV_e, zcats, List.sum_cons, List.sum_nil, zpu, zfu, zset_e, zcopy_e]
    repeat' (first | exact zfr_rf _ _ _ | (refine zfr_st ?_ (by omega) (by omega)) | (refine zfr_cp ?_ (by omega) (by omega)) | (refine zfr_tr ?_ (by assumption)) | (refine zfr_tr ?_ (zfr_mono (by assumption) (by omega) (by omega))) | (refine And.intro ?_ ?_) | (intro _) | (refine Exists.intro (nn - 1) ?_) | (refine Exists.intro 5000000000 ?_) | fail)
    all_goals (try (simp only [zw] at *))
    all_goals (first | trivial | omega | exact (zAnd_b _).1 | exact (zAnd_b _).2 | assumption | (simp; omega) | skip)
    all_goals (simp only [zset_e, reduceIte] <;> first | rfl | omega | trivial | skip)
