def CX11_kindAt : zCt := ([2, 0], 0, zPr [80] (fun vs mem => match vs with | [t, c] => (-20 ≤ c ∧ c < 5897) | _ => False), zfu (fun vs mem => match vs with | [t, c] => (mem 81 (20 + c).toNat) | _ => 0))
def VX11_kindAt : List (Nat × zCt) := []
def SX11_kindAt : List (Nat × zCt) := []
set_option maxHeartbeats 1000000 in
set_option maxRecDepth 100000 in
theorem mX11_kindAt (l : Launch) : zMet l zLay yX11_kindAt cX11_kindAt 2 (some .int) 0 CX11_kindAt.1 CX11_kindAt.2.1 CX11_kindAt.2.2.1 CX11_kindAt.2.2.2 := by
  refine zMet_of (pl := zPlf PX11) (cv := zCf VX11_kindAt) (cS := zCf SX11_kindAt) (B := zBf BX11_kindAt) (F := 80) (own := RX11) (by decide +kernel) rfl (Or.inl ⟨rfl, rfl⟩) (fun vs h => by obtain ⟨t, c, rfl⟩ := zlen2 h; exact Nat.le_of_ble_eq_true rfl) PX11_ok zClok_ok zSyok_ok oX11_kindAt (zAllC_e (zAllC_n)) (zAllC_e (zAllC_n)) ?_
  intro vs mem hvl hok hm hpre
  obtain ⟨t, c, rfl⟩ := zlen2 hvl
  have hr_c : -2147483648 ≤ c ∧ c ≤ 2147483647 := (hok (0, c) (by simp [CX11_kindAt])).1 rfl
  clear hok hvl
  obtain ⟨hid, hpre⟩ := hpre
  simp only [List.mem_cons, List.not_mem_nil, or_false] at hid
  have hpre : -20 ≤ c ∧ c < 5897 := hpre
  subst hid
  refine ⟨zIf [], zAllI_e zAllI_n, ?_⟩
  simp (maxSteps := 3000000) only [↓zwp_s, zrun_n, zrun_c, zgo_any, zgo_bel, ↓zgA_n, ↓zgA_c, ↓zgB_n, ↓zgB_c, ↓zp1_c, ↓zpv_c, ↓ztg_e, ↓zFv_r, ↓zFv_i, ↓zFv_z, ↓reduceIte, ↓zi_aload_n, ↓zi_bipush, ↓zi_getfield, ↓zi_iadd, ↓zi_iaload, ↓zi_iload_n, ↓zi_ireturn, ↓zpl_e pX11_13, ↓zo_80_0, ↓zo_80_1, ↓zo_80_2, ↓zo_80_3, ↓zo_80_4, ↓zo_80_5, ↓zo_80_6, ↓zo_80_7, ↓zo_80_8, ↓zo_80_9, ↓zo_80_10, ↓zo_80_11, ↓zo_80_12, ↓zo_80_13, ↓zo_80_14, ↓zo_80_15, ↓zo_80_16, ↓zo_80_17, ↓zo_80_18, ↓zo_80_19, ↓zo_80_20, ↓zo_80_21, ↓zo_80_22, ↓zo_80_23, ↓zo_80_24, ↓za_81, bX11_kindAt_0, List.size_toArray, zent_n, zent_c, zst_e, zfi0, zfi1, zfi2, zfi3, zcast, Nat.reduceAdd, Nat.reduceSub, Nat.reduceEqDiff, Nat.reduceLT, Nat.reduceLeDiff, Int.reduceAdd, Int.reduceSub, Int.reduceMul, Int.reduceToNat, Int.reduceLE, Int.reduceLT, Int.reduceEq, Int.reduceNeg, Int.reduceNegSucc, Nat.reduceMul, List.zip_cons_cons, List.zip_nil_left, List.zip_nil_right, Int.toNat_natCast, true_and, and_true, eq_self, ne_eq, not_false_eq_true, not_true_eq_false, forall_const, implies_true, false_and, true_or, or_true, false_or, or_false, imp_self, CX11_kindAt, and_imp, exists_eq_left, exists_eq_left', exists_eq_right, exists_eq_right', exists_and_left, exists_and_right, Prod.mk.injEq, zAdd_e, zSub_e, zMul_e, zres_0, zres_4, zres_1, zres_9, zrt_0, zrt_4, zrt_1, zrt_9, List.take_succ_cons, List.take_zero, List.drop_succ_cons, List.drop_zero, List.map_cons, List.map_nil, List.reverse_cons, List.reverse_nil, List.nil_append, List.cons_append, List.length_cons, List.length_nil, zPr_c, List.mem_cons, List.not_mem_nil, ↓zIV_e, zcats, List.sum_cons, List.sum_nil, zpu, zfu, zset_e, ↓zc_ne00, ↓zc_ne01, ↓zc_ne10, ↓zc_ne11, ↓zc_eq00, ↓zc_eq01, ↓zc_eq10, ↓zc_eq11, zs_80_81, zs_83_81, zs_84_81, zs_85_81, zs_86_81, zs_87_81, zs_88_81, zs_89_81, zs_90_81, zs_91_81, zs_92_81, zs_93_81]
  repeat rw [zw_id (by omega) (by omega)]
  repeat' (first | exact zfr_rf _ _ _ | (refine zfr_st ?_ (by omega) (by omega)) | (refine zfr_cp ?_ (by omega) (by omega)) | (refine zfr_tr ?_ (by assumption)) | (refine zfr_tr ?_ (zfr_mono (by assumption) (by omega) (by omega))) | (refine And.intro ?_ ?_) | (intro _) | (refine Exists.intro (nn - 1) ?_) | (refine Exists.intro 5000000000 ?_) | fail)
  all_goals (first | trivial | omega | rfl | skip)
def CX11_lineMany : zCt := ([2], 0, zPr [80] (fun vs mem => match vs with | [t] => (True) | _ => False), zfu (fun vs mem => match vs with | [t] => (mem 81 18) | _ => 0))
def VX11_lineMany : List (Nat × zCt) := []
def SX11_lineMany : List (Nat × zCt) := []
set_option maxHeartbeats 1000000 in
set_option maxRecDepth 100000 in
theorem mX11_lineMany (l : Launch) : zMet l zLay yX11_lineMany cX11_lineMany 1 (some .int) 0 CX11_lineMany.1 CX11_lineMany.2.1 CX11_lineMany.2.2.1 CX11_lineMany.2.2.2 := by
  refine zMet_of (pl := zPlf PX11) (cv := zCf VX11_lineMany) (cS := zCf SX11_lineMany) (B := zBf BX11_lineMany) (F := 80) (own := RX11) (by decide +kernel) rfl (Or.inl ⟨rfl, rfl⟩) (fun vs h => by obtain ⟨t, rfl⟩ := zlen1 h; exact Nat.le_of_ble_eq_true rfl) PX11_ok zClok_ok zSyok_ok oX11_lineMany (zAllC_e (zAllC_n)) (zAllC_e (zAllC_n)) ?_
  intro vs mem hvl hok hm hpre
  obtain ⟨t, rfl⟩ := zlen1 hvl
  clear hok hvl
  obtain ⟨hid, hpre⟩ := hpre
  simp only [List.mem_cons, List.not_mem_nil, or_false] at hid
  have hpre : True := hpre
  subst hid
  refine ⟨zIf [], zAllI_e zAllI_n, ?_⟩
  simp (maxSteps := 3000000) only [↓zwp_s, zrun_n, zrun_c, zgo_any, zgo_bel, ↓zgA_n, ↓zgA_c, ↓zgB_n, ↓zgB_c, ↓zp1_c, ↓zpv_c, ↓ztg_e, ↓zFv_r, ↓zFv_i, ↓zFv_z, ↓reduceIte, ↓zi_aload_n, ↓zi_bipush, ↓zi_getfield, ↓zi_iaload, ↓zi_ireturn, ↓zpl_e pX11_13, ↓zo_80_0, ↓zo_80_1, ↓zo_80_2, ↓zo_80_3, ↓zo_80_4, ↓zo_80_5, ↓zo_80_6, ↓zo_80_7, ↓zo_80_8, ↓zo_80_9, ↓zo_80_10, ↓zo_80_11, ↓zo_80_12, ↓zo_80_13, ↓zo_80_14, ↓zo_80_15, ↓zo_80_16, ↓zo_80_17, ↓zo_80_18, ↓zo_80_19, ↓zo_80_20, ↓zo_80_21, ↓zo_80_22, ↓zo_80_23, ↓zo_80_24, ↓za_81, bX11_lineMany_0, List.size_toArray, zent_n, zent_c, zst_e, zfi0, zfi1, zfi2, zfi3, zcast, Nat.reduceAdd, Nat.reduceSub, Nat.reduceEqDiff, Nat.reduceLT, Nat.reduceLeDiff, Int.reduceAdd, Int.reduceSub, Int.reduceMul, Int.reduceToNat, Int.reduceLE, Int.reduceLT, Int.reduceEq, Int.reduceNeg, Int.reduceNegSucc, Nat.reduceMul, List.zip_cons_cons, List.zip_nil_left, List.zip_nil_right, Int.toNat_natCast, true_and, and_true, eq_self, ne_eq, not_false_eq_true, not_true_eq_false, forall_const, implies_true, false_and, true_or, or_true, false_or, or_false, imp_self, CX11_lineMany, and_imp, exists_eq_left, exists_eq_left', exists_eq_right, exists_eq_right', exists_and_left, exists_and_right, Prod.mk.injEq, zAdd_e, zSub_e, zMul_e, zres_0, zres_4, zres_1, zres_9, zrt_0, zrt_4, zrt_1, zrt_9, List.take_succ_cons, List.take_zero, List.drop_succ_cons, List.drop_zero, List.map_cons, List.map_nil, List.reverse_cons, List.reverse_nil, List.nil_append, List.cons_append, List.length_cons, List.length_nil, zPr_c, List.mem_cons, List.not_mem_nil, ↓zIV_e, zcats, List.sum_cons, List.sum_nil, zpu, zfu, zset_e, ↓zc_ne00, ↓zc_ne01, ↓zc_ne10, ↓zc_ne11, ↓zc_eq00, ↓zc_eq01, ↓zc_eq10, ↓zc_eq11, zs_80_81, zs_83_81, zs_84_81, zs_85_81, zs_86_81, zs_87_81, zs_88_81, zs_89_81, zs_90_81, zs_91_81, zs_92_81, zs_93_81]
  all_goals trivial
def CX11_railAt : zCt := ([2, 0], 0, zPr [80] (fun vs mem => match vs with | [t, p] => (0 ≤ p ∧ p < 16) | _ => False), zfu (fun vs mem => match vs with | [t, p] => (mem 81 (196 + p).toNat) | _ => 0))
def VX11_railAt : List (Nat × zCt) := []
def SX11_railAt : List (Nat × zCt) := []
set_option maxHeartbeats 1000000 in
set_option maxRecDepth 100000 in
theorem mX11_railAt (l : Launch) : zMet l zLay yX11_railAt cX11_railAt 2 (some .int) 0 CX11_railAt.1 CX11_railAt.2.1 CX11_railAt.2.2.1 CX11_railAt.2.2.2 := by
  refine zMet_of (pl := zPlf PX11) (cv := zCf VX11_railAt) (cS := zCf SX11_railAt) (B := zBf BX11_railAt) (F := 80) (own := RX11) (by decide +kernel) rfl (Or.inl ⟨rfl, rfl⟩) (fun vs h => by obtain ⟨t, p, rfl⟩ := zlen2 h; exact Nat.le_of_ble_eq_true rfl) PX11_ok zClok_ok zSyok_ok oX11_railAt (zAllC_e (zAllC_n)) (zAllC_e (zAllC_n)) ?_
  intro vs mem hvl hok hm hpre
  obtain ⟨t, p, rfl⟩ := zlen2 hvl
  have hr_p : -2147483648 ≤ p ∧ p ≤ 2147483647 := (hok (0, p) (by simp [CX11_railAt])).1 rfl
  clear hok hvl
  obtain ⟨hid, hpre⟩ := hpre
  simp only [List.mem_cons, List.not_mem_nil, or_false] at hid
  have hpre : 0 ≤ p ∧ p < 16 := hpre
  subst hid
  refine ⟨zIf [], zAllI_e zAllI_n, ?_⟩
  simp (maxSteps := 3000000) only [↓zwp_s, zrun_n, zrun_c, zgo_any, zgo_bel, ↓zgA_n, ↓zgA_c, ↓zgB_n, ↓zgB_c, ↓zp1_c, ↓zpv_c, ↓ztg_e, ↓zFv_r, ↓zFv_i, ↓zFv_z, ↓reduceIte, ↓zi_aload_n, ↓zi_getfield, ↓zi_iadd, ↓zi_iaload, ↓zi_iload_n, ↓zi_ireturn, ↓zi_sipush, ↓zpl_e pX11_13, ↓zo_80_0, ↓zo_80_1, ↓zo_80_2, ↓zo_80_3, ↓zo_80_4, ↓zo_80_5, ↓zo_80_6, ↓zo_80_7, ↓zo_80_8, ↓zo_80_9, ↓zo_80_10, ↓zo_80_11, ↓zo_80_12, ↓zo_80_13, ↓zo_80_14, ↓zo_80_15, ↓zo_80_16, ↓zo_80_17, ↓zo_80_18, ↓zo_80_19, ↓zo_80_20, ↓zo_80_21, ↓zo_80_22, ↓zo_80_23, ↓zo_80_24, ↓za_81, bX11_railAt_0, List.size_toArray, zent_n, zent_c, zst_e, zfi0, zfi1, zfi2, zfi3, zcast, Nat.reduceAdd, Nat.reduceSub, Nat.reduceEqDiff, Nat.reduceLT, Nat.reduceLeDiff, Int.reduceAdd, Int.reduceSub, Int.reduceMul, Int.reduceToNat, Int.reduceLE, Int.reduceLT, Int.reduceEq, Int.reduceNeg, Int.reduceNegSucc, Nat.reduceMul, List.zip_cons_cons, List.zip_nil_left, List.zip_nil_right, Int.toNat_natCast, true_and, and_true, eq_self, ne_eq, not_false_eq_true, not_true_eq_false, forall_const, implies_true, false_and, true_or, or_true, false_or, or_false, imp_self, CX11_railAt, and_imp, exists_eq_left, exists_eq_left', exists_eq_right, exists_eq_right', exists_and_left, exists_and_right, Prod.mk.injEq, zAdd_e, zSub_e, zMul_e, zres_0, zres_4, zres_1, zres_9, zrt_0, zrt_4, zrt_1, zrt_9, List.take_succ_cons, List.take_zero, List.drop_succ_cons, List.drop_zero, List.map_cons, List.map_nil, List.reverse_cons, List.reverse_nil, List.nil_append, List.cons_append, List.length_cons, List.length_nil, zPr_c, List.mem_cons, List.not_mem_nil, ↓zIV_e, zcats, List.sum_cons, List.sum_nil, zpu, zfu, zset_e, ↓zc_ne00, ↓zc_ne01, ↓zc_ne10, ↓zc_ne11, ↓zc_eq00, ↓zc_eq01, ↓zc_eq10, ↓zc_eq11, zs_80_81, zs_83_81, zs_84_81, zs_85_81, zs_86_81, zs_87_81, zs_88_81, zs_89_81, zs_90_81, zs_91_81, zs_92_81, zs_93_81]
  repeat rw [zw_id (by omega) (by omega)]
  repeat' (first | exact zfr_rf _ _ _ | (refine zfr_st ?_ (by omega) (by omega)) | (refine zfr_cp ?_ (by omega) (by omega)) | (refine zfr_tr ?_ (by assumption)) | (refine zfr_tr ?_ (zfr_mono (by assumption) (by omega) (by omega))) | (refine And.intro ?_ ?_) | (intro _) | (refine Exists.intro (nn - 1) ?_) | (refine Exists.intro 5000000000 ?_) | fail)
  all_goals (first | trivial | omega | rfl | skip)
def CX11_ofRail : zCt := ([2, 0, 0], 0, zPr [80] (fun vs mem => match vs with | [t, a, w] => (0 ≤ a ∧ a < 16 ∧ 0 ≤ w ∧ w < 4) | _ => False), zfu (fun vs mem => match vs with | [t, a, w] => (mem 81 (120 + 4 * a + w).toNat) | _ => 0))
def VX11_ofRail : List (Nat × zCt) := []
def SX11_ofRail : List (Nat × zCt) := []
set_option maxHeartbeats 1000000 in
set_option maxRecDepth 100000 in
theorem mX11_ofRail (l : Launch) : zMet l zLay yX11_ofRail cX11_ofRail 3 (some .int) 0 CX11_ofRail.1 CX11_ofRail.2.1 CX11_ofRail.2.2.1 CX11_ofRail.2.2.2 := by
  refine zMet_of (pl := zPlf PX11) (cv := zCf VX11_ofRail) (cS := zCf SX11_ofRail) (B := zBf BX11_ofRail) (F := 80) (own := RX11) (by decide +kernel) rfl (Or.inl ⟨rfl, rfl⟩) (fun vs h => by obtain ⟨t, a, w, rfl⟩ := zlen3 h; exact Nat.le_of_ble_eq_true rfl) PX11_ok zClok_ok zSyok_ok oX11_ofRail (zAllC_e (zAllC_n)) (zAllC_e (zAllC_n)) ?_
  intro vs mem hvl hok hm hpre
  obtain ⟨t, a, w, rfl⟩ := zlen3 hvl
  have hr_a : -2147483648 ≤ a ∧ a ≤ 2147483647 := (hok (0, a) (by simp [CX11_ofRail])).1 rfl
  have hr_w : -2147483648 ≤ w ∧ w ≤ 2147483647 := (hok (0, w) (by simp [CX11_ofRail])).1 rfl
  clear hok hvl
  obtain ⟨hid, hpre⟩ := hpre
  simp only [List.mem_cons, List.not_mem_nil, or_false] at hid
  have hpre : 0 ≤ a ∧ a < 16 ∧ 0 ≤ w ∧ w < 4 := hpre
  subst hid
  refine ⟨zIf [], zAllI_e zAllI_n, ?_⟩
  simp (maxSteps := 3000000) only [↓zwp_s, zrun_n, zrun_c, zgo_any, zgo_bel, ↓zgA_n, ↓zgA_c, ↓zgB_n, ↓zgB_c, ↓zp1_c, ↓zpv_c, ↓ztg_e, ↓zFv_r, ↓zFv_i, ↓zFv_z, ↓reduceIte, ↓zi_aload_n, ↓zi_bipush, ↓zi_getfield, ↓zi_iadd, ↓zi_iaload, ↓zi_iconst, ↓zi_iload_n, ↓zi_imul, ↓zi_ireturn, ↓zpl_e pX11_13, ↓zo_80_0, ↓zo_80_1, ↓zo_80_2, ↓zo_80_3, ↓zo_80_4, ↓zo_80_5, ↓zo_80_6, ↓zo_80_7, ↓zo_80_8, ↓zo_80_9, ↓zo_80_10, ↓zo_80_11, ↓zo_80_12, ↓zo_80_13, ↓zo_80_14, ↓zo_80_15, ↓zo_80_16, ↓zo_80_17, ↓zo_80_18, ↓zo_80_19, ↓zo_80_20, ↓zo_80_21, ↓zo_80_22, ↓zo_80_23, ↓zo_80_24, ↓za_81, bX11_ofRail_0, List.size_toArray, zent_n, zent_c, zst_e, zfi0, zfi1, zfi2, zfi3, zcast, Nat.reduceAdd, Nat.reduceSub, Nat.reduceEqDiff, Nat.reduceLT, Nat.reduceLeDiff, Int.reduceAdd, Int.reduceSub, Int.reduceMul, Int.reduceToNat, Int.reduceLE, Int.reduceLT, Int.reduceEq, Int.reduceNeg, Int.reduceNegSucc, Nat.reduceMul, List.zip_cons_cons, List.zip_nil_left, List.zip_nil_right, Int.toNat_natCast, true_and, and_true, eq_self, ne_eq, not_false_eq_true, not_true_eq_false, forall_const, implies_true, false_and, true_or, or_true, false_or, or_false, imp_self, CX11_ofRail, and_imp, exists_eq_left, exists_eq_left', exists_eq_right, exists_eq_right', exists_and_left, exists_and_right, Prod.mk.injEq, zAdd_e, zSub_e, zMul_e, zres_0, zres_4, zres_1, zres_9, zrt_0, zrt_4, zrt_1, zrt_9, List.take_succ_cons, List.take_zero, List.drop_succ_cons, List.drop_zero, List.map_cons, List.map_nil, List.reverse_cons, List.reverse_nil, List.nil_append, List.cons_append, List.length_cons, List.length_nil, zPr_c, List.mem_cons, List.not_mem_nil, ↓zIV_e, zcats, List.sum_cons, List.sum_nil, zpu, zfu, zset_e, ↓zc_ne00, ↓zc_ne01, ↓zc_ne10, ↓zc_ne11, ↓zc_eq00, ↓zc_eq01, ↓zc_eq10, ↓zc_eq11, zs_80_81, zs_83_81, zs_84_81, zs_85_81, zs_86_81, zs_87_81, zs_88_81, zs_89_81, zs_90_81, zs_91_81, zs_92_81, zs_93_81]
  have e : zw (zw (120 + zw (4 * a)) + w) = 120 + 4 * a + w := by simp only [zw]; omega
  simp only [e]
  repeat rw [zw_id (by omega) (by omega)]
  repeat' (first | exact zfr_rf _ _ _ | (refine zfr_st ?_ (by omega) (by omega)) | (refine zfr_cp ?_ (by omega) (by omega)) | (refine zfr_tr ?_ (by assumption)) | (refine zfr_tr ?_ (zfr_mono (by assumption) (by omega) (by omega))) | (refine And.intro ?_ ?_) | (intro _) | (refine Exists.intro (nn - 1) ?_) | (refine Exists.intro 5000000000 ?_) | fail)
  all_goals (first | trivial | omega | rfl | skip)
def CX11_setsRail : zCt := ([2, 0, 0, 0], 9, zPr [80] (fun vs mem => match vs with | [t, a, w, v] => (0 ≤ a ∧ a < 16 ∧ 0 ≤ w ∧ w < 4) | _ => False), zdt (fun vs mem => match vs with | [t, a, w, v] => (0) | _ => 0) (fun vs mem => match vs with | [t, a, w, v] => (zset mem 81 (120 + 4 * a + w).toNat v) | _ => mem))
def VX11_setsRail : List (Nat × zCt) := []
def SX11_setsRail : List (Nat × zCt) := []
set_option maxHeartbeats 1000000 in
set_option maxRecDepth 100000 in
theorem mX11_setsRail (l : Launch) : zMet l zLay yX11_setsRail cX11_setsRail 4 none 0 CX11_setsRail.1 CX11_setsRail.2.1 CX11_setsRail.2.2.1 CX11_setsRail.2.2.2 := by
  refine zMet_of (pl := zPlf PX11) (cv := zCf VX11_setsRail) (cS := zCf SX11_setsRail) (B := zBf BX11_setsRail) (F := 80) (own := RX11) (by decide +kernel) rfl (Or.inr (Or.inr (Or.inr ⟨rfl, rfl⟩))) (fun vs h => by obtain ⟨t, a, w, v, rfl⟩ := zlen4 h; exact Nat.le_of_ble_eq_true rfl) PX11_ok zClok_ok zSyok_ok oX11_setsRail (zAllC_e (zAllC_n)) (zAllC_e (zAllC_n)) ?_
  intro vs mem hvl hok hm hpre
  obtain ⟨t, a, w, v, rfl⟩ := zlen4 hvl
  have hr_a : -2147483648 ≤ a ∧ a ≤ 2147483647 := (hok (0, a) (by simp [CX11_setsRail])).1 rfl
  have hr_w : -2147483648 ≤ w ∧ w ≤ 2147483647 := (hok (0, w) (by simp [CX11_setsRail])).1 rfl
  have hr_v : -2147483648 ≤ v ∧ v ≤ 2147483647 := (hok (0, v) (by simp [CX11_setsRail])).1 rfl
  clear hok hvl
  obtain ⟨hid, hpre⟩ := hpre
  simp only [List.mem_cons, List.not_mem_nil, or_false] at hid
  have hpre : 0 ≤ a ∧ a < 16 ∧ 0 ≤ w ∧ w < 4 := hpre
  subst hid
  refine ⟨zIf [], zAllI_e zAllI_n, ?_⟩
  simp (maxSteps := 3000000) only [↓zwp_s, zrun_n, zrun_c, zgo_any, zgo_bel, ↓zgA_n, ↓zgA_c, ↓zgB_n, ↓zgB_c, ↓zp1_c, ↓zpv_c, ↓ztg_e, ↓zFv_r, ↓zFv_i, ↓zFv_z, ↓reduceIte, ↓zi_aload_n, ↓zi_bipush, ↓zi_getfield, ↓zi_iadd, ↓zi_iastore, ↓zi_iconst, ↓zi_iload_n, ↓zi_imul, ↓zi_return_, ↓zpl_e pX11_13, ↓zo_80_0, ↓zo_80_1, ↓zo_80_2, ↓zo_80_3, ↓zo_80_4, ↓zo_80_5, ↓zo_80_6, ↓zo_80_7, ↓zo_80_8, ↓zo_80_9, ↓zo_80_10, ↓zo_80_11, ↓zo_80_12, ↓zo_80_13, ↓zo_80_14, ↓zo_80_15, ↓zo_80_16, ↓zo_80_17, ↓zo_80_18, ↓zo_80_19, ↓zo_80_20, ↓zo_80_21, ↓zo_80_22, ↓zo_80_23, ↓zo_80_24, ↓za_81, bX11_setsRail_0, List.size_toArray, zent_n, zent_c, zst_e, zfi0, zfi1, zfi2, zfi3, zcast, Nat.reduceAdd, Nat.reduceSub, Nat.reduceEqDiff, Nat.reduceLT, Nat.reduceLeDiff, Int.reduceAdd, Int.reduceSub, Int.reduceMul, Int.reduceToNat, Int.reduceLE, Int.reduceLT, Int.reduceEq, Int.reduceNeg, Int.reduceNegSucc, Nat.reduceMul, List.zip_cons_cons, List.zip_nil_left, List.zip_nil_right, Int.toNat_natCast, true_and, and_true, eq_self, ne_eq, not_false_eq_true, not_true_eq_false, forall_const, implies_true, false_and, true_or, or_true, false_or, or_false, imp_self, CX11_setsRail, and_imp, exists_eq_left, exists_eq_left', exists_eq_right, exists_eq_right', exists_and_left, exists_and_right, Prod.mk.injEq, zAdd_e, zSub_e, zMul_e, zres_0, zres_4, zres_1, zres_9, zrt_0, zrt_4, zrt_1, zrt_9, List.take_succ_cons, List.take_zero, List.drop_succ_cons, List.drop_zero, List.map_cons, List.map_nil, List.reverse_cons, List.reverse_nil, List.nil_append, List.cons_append, List.length_cons, List.length_nil, zPr_c, List.mem_cons, List.not_mem_nil, ↓zIV_e, zcats, List.sum_cons, List.sum_nil, zpu, zfu, zset_e, zdt, ↓zc_ne00, ↓zc_ne01, ↓zc_ne10, ↓zc_ne11, ↓zc_eq00, ↓zc_eq01, ↓zc_eq10, ↓zc_eq11, zs_80_81, zs_83_81, zs_84_81, zs_85_81, zs_86_81, zs_87_81, zs_88_81, zs_89_81, zs_90_81, zs_91_81, zs_92_81, zs_93_81]
  have e : zw (zw (120 + zw (4 * a)) + w) = 120 + 4 * a + w := by simp only [zw]; omega
  simp only [e]
  repeat rw [zw_id (by omega) (by omega)]
  repeat' (first | exact zfr_rf _ _ _ | (refine zfr_st ?_ (by omega) (by omega)) | (refine zfr_cp ?_ (by omega) (by omega)) | (refine zfr_tr ?_ (by assumption)) | (refine zfr_tr ?_ (zfr_mono (by assumption) (by omega) (by omega))) | (refine And.intro ?_ ?_) | (intro _) | (refine Exists.intro (nn - 1) ?_) | (refine Exists.intro 5000000000 ?_) | fail)
  all_goals (first | trivial | omega | rfl | skip)
def CX11_cellAt : zCt := ([2, 0], 0, zPr [80] (fun vs mem => match vs with | [t, p] => (0 ≤ p ∧ p < 16 ∧ 0 ≤ mem 81 (196 + p).toNat ∧ mem 81 (196 + p).toNat < 16) | _ => False), zfu (fun vs mem => match vs with | [t, p] => (mem 81 (120 + 4 * mem 81 (196 + p).toNat + 3).toNat) | _ => 0))
def VX11_cellAt : List (Nat × zCt) := [(236, CX11_railAt), (239, CX11_ofRail)]
def SX11_cellAt : List (Nat × zCt) := []
set_option maxHeartbeats 1000000 in
set_option maxRecDepth 100000 in
theorem mX11_cellAt (l : Launch) : zMet l zLay yX11_cellAt cX11_cellAt 2 (some .int) 1 CX11_cellAt.1 CX11_cellAt.2.1 CX11_cellAt.2.2.1 CX11_cellAt.2.2.2 := by
  refine zMet_of (pl := zPlf PX11) (cv := zCf VX11_cellAt) (cS := zCf SX11_cellAt) (B := zBf BX11_cellAt) (F := 80) (own := RX11) (by decide +kernel) rfl (Or.inl ⟨rfl, rfl⟩) (fun vs h => by obtain ⟨t, p, rfl⟩ := zlen2 h; exact Nat.le_of_ble_eq_true rfl) PX11_ok zClok_ok zSyok_ok oX11_cellAt (zAllC_e (zAllC_c (Or.inl (zcal_v (mX11_railAt l) (by decide) (by decide) hX11_railAt kX11_236 ⟨by decide, by decide +kernel⟩ (ci := 11) rfl rfl rfl)) (zAllC_c (Or.inl (zcal_v (mX11_ofRail l) (by decide) (by decide) hX11_ofRail kX11_239 ⟨by decide, by decide +kernel⟩ (ci := 11) rfl rfl rfl)) (zAllC_n)))) (zAllC_e (zAllC_n)) ?_
  intro vs mem hvl hok hm hpre
  obtain ⟨t, p, rfl⟩ := zlen2 hvl
  have hr_p : -2147483648 ≤ p ∧ p ≤ 2147483647 := (hok (0, p) (by simp [CX11_cellAt])).1 rfl
  clear hok hvl
  obtain ⟨hid, hpre⟩ := hpre
  simp only [List.mem_cons, List.not_mem_nil, or_false] at hid
  have hpre : 0 ≤ p ∧ p < 16 ∧ 0 ≤ mem 81 (196 + p).toNat ∧ mem 81 (196 + p).toNat < 16 := hpre
  subst hid
  refine ⟨zIf [], zAllI_e zAllI_n, ?_⟩
  simp (maxSteps := 3000000) only [↓zwp_s, zrun_n, zrun_c, zgo_any, zgo_bel, ↓zgA_n, ↓zgA_c, ↓zgB_n, ↓zgB_c, ↓zp1_c, ↓zpv_c, ↓ztg_e, ↓zFv_r, ↓zFv_i, ↓zFv_z, ↓reduceIte, ↓zi_aload_n, ↓zi_iconst, ↓zi_iload_n, ↓zi_ireturn, ↓zo_80_0, ↓zo_80_1, ↓zo_80_2, ↓zo_80_3, ↓zo_80_4, ↓zo_80_5, ↓zo_80_6, ↓zo_80_7, ↓zo_80_8, ↓zo_80_9, ↓zo_80_10, ↓zo_80_11, ↓zo_80_12, ↓zo_80_13, ↓zo_80_14, ↓zo_80_15, ↓zo_80_16, ↓zo_80_17, ↓zo_80_18, ↓zo_80_19, ↓zo_80_20, ↓zo_80_21, ↓zo_80_22, ↓zo_80_23, ↓zo_80_24, ↓za_81, bX11_cellAt_0, List.size_toArray, zent_n, zent_c, zst_e, zfi0, zfi1, zfi2, zfi3, zcast, Nat.reduceAdd, Nat.reduceSub, Nat.reduceEqDiff, Nat.reduceLT, Nat.reduceLeDiff, Int.reduceAdd, Int.reduceSub, Int.reduceMul, Int.reduceToNat, Int.reduceLE, Int.reduceLT, Int.reduceEq, Int.reduceNeg, Int.reduceNegSucc, Nat.reduceMul, List.zip_cons_cons, List.zip_nil_left, List.zip_nil_right, Int.toNat_natCast, true_and, and_true, eq_self, ne_eq, not_false_eq_true, not_true_eq_false, forall_const, implies_true, false_and, true_or, or_true, false_or, or_false, imp_self, CX11_cellAt, ↓zv_cf (cv := zCf VX11_cellAt) (k := 236) (h := (rfl : zCf VX11_cellAt 236 = some CX11_railAt)), ↓zv_cf (cv := zCf VX11_cellAt) (k := 239) (h := (rfl : zCf VX11_cellAt 239 = some CX11_ofRail)), and_imp, exists_eq_left, exists_eq_left', exists_eq_right, exists_eq_right', exists_and_left, exists_and_right, Prod.mk.injEq, zAdd_e, zSub_e, zMul_e, zres_0, zres_4, zres_1, zres_9, zrt_0, zrt_4, zrt_1, zrt_9, List.take_succ_cons, List.take_zero, List.drop_succ_cons, List.drop_zero, List.map_cons, List.map_nil, List.reverse_cons, List.reverse_nil, List.nil_append, List.cons_append, List.length_cons, List.length_nil, zPr_c, List.mem_cons, List.not_mem_nil, ↓zIV_e, zcats, List.sum_cons, List.sum_nil, zpu, zfu, zset_e, ↓zc_ne00, ↓zc_ne01, ↓zc_ne10, ↓zc_ne11, ↓zc_eq00, ↓zc_eq01, ↓zc_eq10, ↓zc_eq11, zs_80_81, zs_83_81, zs_84_81, zs_85_81, zs_86_81, zs_87_81, zs_88_81, zs_89_81, zs_90_81, zs_91_81, zs_92_81, zs_93_81]
  repeat' (first | exact zfr_rf _ _ _ | (refine zfr_st ?_ (by omega) (by omega)) | (refine zfr_cp ?_ (by omega) (by omega)) | (refine zfr_tr ?_ (by assumption)) | (refine zfr_tr ?_ (zfr_mono (by assumption) (by omega) (by omega))) | (refine And.intro ?_ ?_) | (intro _) | (refine Exists.intro (nn - 1) ?_) | (refine Exists.intro 5000000000 ?_) | fail)
  all_goals (try (simp only [zw] at *))
  all_goals (first | trivial | omega | exact (zAnd_b _).1 | exact (zAnd_b _).2 | assumption | (simp; omega) | skip)
def CX11_isSet : zCt := ([2], 4, zPr [80] (fun vs mem => match vs with | [t] => (True) | _ => False), zbo (fun vs mem => match vs with | [t] => (mem 81 13 = 1) | _ => False) (fun vs mem => match vs with | [t] => (¬ mem 81 13 = 1) | _ => False))
def VX11_isSet : List (Nat × zCt) := []
def SX11_isSet : List (Nat × zCt) := []
set_option maxHeartbeats 1000000 in
set_option maxRecDepth 100000 in
theorem mX11_isSet (l : Launch) : zMet l zLay yX11_isSet cX11_isSet 1 (some .boolean) 0 CX11_isSet.1 CX11_isSet.2.1 CX11_isSet.2.2.1 CX11_isSet.2.2.2 := by
  refine zMet_of (pl := zPlf PX11) (cv := zCf VX11_isSet) (cS := zCf SX11_isSet) (B := zBf BX11_isSet) (F := 80) (own := RX11) (by decide +kernel) rfl (Or.inr (Or.inl ⟨rfl, rfl⟩)) (fun vs h => by obtain ⟨t, rfl⟩ := zlen1 h; exact Nat.le_of_ble_eq_true rfl) PX11_ok zClok_ok zSyok_ok oX11_isSet (zAllC_e (zAllC_n)) (zAllC_e (zAllC_n)) ?_
  intro vs mem hvl hok hm hpre
  obtain ⟨t, rfl⟩ := zlen1 hvl
  clear hok hvl
  obtain ⟨hid, hpre⟩ := hpre
  simp only [List.mem_cons, List.not_mem_nil, or_false] at hid
  have hpre : True := hpre
  subst hid
  refine ⟨zIf [], zAllI_e zAllI_n, ?_⟩
  simp (maxSteps := 3000000) only [↓zwp_s, zrun_n, zrun_c, zgo_any, zgo_bel, ↓zgA_n, ↓zgA_c, ↓zgB_n, ↓zgB_c, ↓zp1_c, ↓zpv_c, ↓ztg_e, ↓zFv_r, ↓zFv_i, ↓zFv_z, ↓reduceIte, ↓zi_aload_n, ↓zi_bipush, ↓zi_getfield, ↓zi_goto, ↓zi_iaload, ↓zi_iconst, ↓zi_if_icmp, ↓zi_ireturn, zcmp_ne, ↓zpl_e pX11_13, ↓zo_80_0, ↓zo_80_1, ↓zo_80_2, ↓zo_80_3, ↓zo_80_4, ↓zo_80_5, ↓zo_80_6, ↓zo_80_7, ↓zo_80_8, ↓zo_80_9, ↓zo_80_10, ↓zo_80_11, ↓zo_80_12, ↓zo_80_13, ↓zo_80_14, ↓zo_80_15, ↓zo_80_16, ↓zo_80_17, ↓zo_80_18, ↓zo_80_19, ↓zo_80_20, ↓zo_80_21, ↓zo_80_22, ↓zo_80_23, ↓zo_80_24, ↓za_81, bX11_isSet_0, bX11_isSet_15, bX11_isSet_16, List.size_toArray, zent_n, zent_c, zst_e, zfi0, zfi1, zfi2, zfi3, zcast, Nat.reduceAdd, Nat.reduceSub, Nat.reduceEqDiff, Nat.reduceLT, Nat.reduceLeDiff, Int.reduceAdd, Int.reduceSub, Int.reduceMul, Int.reduceToNat, Int.reduceLE, Int.reduceLT, Int.reduceEq, Int.reduceNeg, Int.reduceNegSucc, Nat.reduceMul, List.zip_cons_cons, List.zip_nil_left, List.zip_nil_right, Int.toNat_natCast, true_and, and_true, eq_self, ne_eq, not_false_eq_true, not_true_eq_false, forall_const, implies_true, false_and, true_or, or_true, false_or, or_false, imp_self, CX11_isSet, and_imp, exists_eq_left, exists_eq_left', exists_eq_right, exists_eq_right', exists_and_left, exists_and_right, Prod.mk.injEq, zAdd_e, zSub_e, zMul_e, zres_0, zres_4, zres_1, zres_9, zrt_0, zrt_4, zrt_1, zrt_9, List.take_succ_cons, List.take_zero, List.drop_succ_cons, List.drop_zero, List.map_cons, List.map_nil, List.reverse_cons, List.reverse_nil, List.nil_append, List.cons_append, List.length_cons, List.length_nil, zPr_c, List.mem_cons, List.not_mem_nil, ↓zIV_e, zcats, List.sum_cons, List.sum_nil, zpu, zfu, zset_e, zbo, ↓zc_ne00, ↓zc_ne01, ↓zc_ne10, ↓zc_ne11, ↓zc_eq00, ↓zc_eq01, ↓zc_eq10, ↓zc_eq11, zs_80_81, zs_83_81, zs_84_81, zs_85_81, zs_86_81, zs_87_81, zs_88_81, zs_89_81, zs_90_81, zs_91_81, zs_92_81, zs_93_81]
  repeat' (first | exact zfr_rf _ _ _ | (refine zfr_st ?_ (by omega) (by omega)) | (refine zfr_cp ?_ (by omega) (by omega)) | (refine zfr_tr ?_ (by assumption)) | (refine zfr_tr ?_ (zfr_mono (by assumption) (by omega) (by omega))) | (refine And.intro ?_ ?_) | (intro _) | (refine Exists.intro (nn - 1) ?_) | (refine Exists.intro 5000000000 ?_) | fail)
  all_goals (try (simp only [zw] at *))
  all_goals (first | trivial | omega | exact (zAnd_b _).1 | exact (zAnd_b _).2 | assumption | (simp; omega) | skip)
def CX11_front : zCt := ([2], 0, zPr [80] (fun vs mem => match vs with | [t] => (True) | _ => False), zfu (fun vs mem => match vs with | [t] => (zw (zw (mem 81 12 + mem 81 7) - 1)) | _ => 0))
def VX11_front : List (Nat × zCt) := []
def SX11_front : List (Nat × zCt) := []
set_option maxHeartbeats 1000000 in
set_option maxRecDepth 100000 in
theorem mX11_front (l : Launch) : zMet l zLay yX11_front cX11_front 1 (some .int) 0 CX11_front.1 CX11_front.2.1 CX11_front.2.2.1 CX11_front.2.2.2 := by
  refine zMet_of (pl := zPlf PX11) (cv := zCf VX11_front) (cS := zCf SX11_front) (B := zBf BX11_front) (F := 80) (own := RX11) (by decide +kernel) rfl (Or.inl ⟨rfl, rfl⟩) (fun vs h => by obtain ⟨t, rfl⟩ := zlen1 h; exact Nat.le_of_ble_eq_true rfl) PX11_ok zClok_ok zSyok_ok oX11_front (zAllC_e (zAllC_n)) (zAllC_e (zAllC_n)) ?_
  intro vs mem hvl hok hm hpre
  obtain ⟨t, rfl⟩ := zlen1 hvl
  clear hok hvl
  obtain ⟨hid, hpre⟩ := hpre
  simp only [List.mem_cons, List.not_mem_nil, or_false] at hid
  have hpre : True := hpre
  subst hid
  refine ⟨zIf [], zAllI_e zAllI_n, ?_⟩
  simp (maxSteps := 3000000) only [↓zwp_s, zrun_n, zrun_c, zgo_any, zgo_bel, ↓zgA_n, ↓zgA_c, ↓zgB_n, ↓zgB_c, ↓zp1_c, ↓zpv_c, ↓ztg_e, ↓zFv_r, ↓zFv_i, ↓zFv_z, ↓reduceIte, ↓zi_aload_n, ↓zi_bipush, ↓zi_getfield, ↓zi_iadd, ↓zi_iaload, ↓zi_iconst, ↓zi_ireturn, ↓zi_isub, ↓zpl_e pX11_13, ↓zo_80_0, ↓zo_80_1, ↓zo_80_2, ↓zo_80_3, ↓zo_80_4, ↓zo_80_5, ↓zo_80_6, ↓zo_80_7, ↓zo_80_8, ↓zo_80_9, ↓zo_80_10, ↓zo_80_11, ↓zo_80_12, ↓zo_80_13, ↓zo_80_14, ↓zo_80_15, ↓zo_80_16, ↓zo_80_17, ↓zo_80_18, ↓zo_80_19, ↓zo_80_20, ↓zo_80_21, ↓zo_80_22, ↓zo_80_23, ↓zo_80_24, ↓za_81, bX11_front_0, List.size_toArray, zent_n, zent_c, zst_e, zfi0, zfi1, zfi2, zfi3, zcast, Nat.reduceAdd, Nat.reduceSub, Nat.reduceEqDiff, Nat.reduceLT, Nat.reduceLeDiff, Int.reduceAdd, Int.reduceSub, Int.reduceMul, Int.reduceToNat, Int.reduceLE, Int.reduceLT, Int.reduceEq, Int.reduceNeg, Int.reduceNegSucc, Nat.reduceMul, List.zip_cons_cons, List.zip_nil_left, List.zip_nil_right, Int.toNat_natCast, true_and, and_true, eq_self, ne_eq, not_false_eq_true, not_true_eq_false, forall_const, implies_true, false_and, true_or, or_true, false_or, or_false, imp_self, CX11_front, and_imp, exists_eq_left, exists_eq_left', exists_eq_right, exists_eq_right', exists_and_left, exists_and_right, Prod.mk.injEq, zAdd_e, zSub_e, zMul_e, zres_0, zres_4, zres_1, zres_9, zrt_0, zrt_4, zrt_1, zrt_9, List.take_succ_cons, List.take_zero, List.drop_succ_cons, List.drop_zero, List.map_cons, List.map_nil, List.reverse_cons, List.reverse_nil, List.nil_append, List.cons_append, List.length_cons, List.length_nil, zPr_c, List.mem_cons, List.not_mem_nil, ↓zIV_e, zcats, List.sum_cons, List.sum_nil, zpu, zfu, zset_e, ↓zc_ne00, ↓zc_ne01, ↓zc_ne10, ↓zc_ne11, ↓zc_eq00, ↓zc_eq01, ↓zc_eq10, ↓zc_eq11, zs_80_81, zs_83_81, zs_84_81, zs_85_81, zs_86_81, zs_87_81, zs_88_81, zs_89_81, zs_90_81, zs_91_81, zs_92_81, zs_93_81]
  all_goals trivial
def CX11_draw : zCt := ([2], 0, zPr [80] (fun vs mem => match vs with | [t] => (True) | _ => False), (fun vs mem r mem' => match vs with | [t] => (0 ≤ r ∧ r ≤ 32767 ∧ ∃ v, mem' = zset mem 81 8 v) | _ => False))
def VX11_draw : List (Nat × zCt) := []
def SX11_draw : List (Nat × zCt) := []
set_option maxHeartbeats 1000000 in
set_option maxRecDepth 100000 in
theorem mX11_draw (l : Launch) : zMet l zLay yX11_draw cX11_draw 1 (some .int) 0 CX11_draw.1 CX11_draw.2.1 CX11_draw.2.2.1 CX11_draw.2.2.2 := by
  refine zMet_of (pl := zPlf PX11) (cv := zCf VX11_draw) (cS := zCf SX11_draw) (B := zBf BX11_draw) (F := 80) (own := RX11) (by decide +kernel) rfl (Or.inl ⟨rfl, rfl⟩) (fun vs h => by obtain ⟨t, rfl⟩ := zlen1 h; exact Nat.le_of_ble_eq_true rfl) PX11_ok zClok_ok zSyok_ok oX11_draw (zAllC_e (zAllC_n)) (zAllC_e (zAllC_n)) ?_
  intro vs mem hvl hok hm hpre
  obtain ⟨t, rfl⟩ := zlen1 hvl
  clear hok hvl
  obtain ⟨hid, hpre⟩ := hpre
  simp only [List.mem_cons, List.not_mem_nil, or_false] at hid
  have hpre : True := hpre
  subst hid
  refine ⟨zIf [], zAllI_e zAllI_n, ?_⟩
  simp (maxSteps := 3000000) only [↓zwp_s, zrun_n, zrun_c, zgo_any, zgo_bel, ↓zgA_n, ↓zgA_c, ↓zgB_n, ↓zgB_c, ↓zp1_c, ↓zpv_c, ↓ztg_e, ↓zFv_r, ↓zFv_i, ↓zFv_z, ↓reduceIte, ↓zi_aload_n, ↓zi_bipush, ↓zi_getfield, ↓zi_iadd, ↓zi_iaload, ↓zi_iand, ↓zi_iastore, ↓zi_imul, ↓zi_ireturn, ↓zi_ishr, ↓zi_ldc_w, ↓zi_sipush, ↓zpl_e pX11_13, ↓zpl_e pX11_294, ↓zo_80_0, ↓zo_80_1, ↓zo_80_2, ↓zo_80_3, ↓zo_80_4, ↓zo_80_5, ↓zo_80_6, ↓zo_80_7, ↓zo_80_8, ↓zo_80_9, ↓zo_80_10, ↓zo_80_11, ↓zo_80_12, ↓zo_80_13, ↓zo_80_14, ↓zo_80_15, ↓zo_80_16, ↓zo_80_17, ↓zo_80_18, ↓zo_80_19, ↓zo_80_20, ↓zo_80_21, ↓zo_80_22, ↓zo_80_23, ↓zo_80_24, ↓za_81, bX11_draw_0, List.size_toArray, zent_n, zent_c, zst_e, zfi0, zfi1, zfi2, zfi3, zcast, Nat.reduceAdd, Nat.reduceSub, Nat.reduceEqDiff, Nat.reduceLT, Nat.reduceLeDiff, Int.reduceAdd, Int.reduceSub, Int.reduceMul, Int.reduceToNat, Int.reduceLE, Int.reduceLT, Int.reduceEq, Int.reduceNeg, Int.reduceNegSucc, Nat.reduceMul, List.zip_cons_cons, List.zip_nil_left, List.zip_nil_right, Int.toNat_natCast, true_and, and_true, eq_self, ne_eq, not_false_eq_true, not_true_eq_false, forall_const, implies_true, false_and, true_or, or_true, false_or, or_false, imp_self, CX11_draw, and_imp, exists_eq_left, exists_eq_left', exists_eq_right, exists_eq_right', exists_and_left, exists_and_right, Prod.mk.injEq, zAdd_e, zSub_e, zMul_e, zres_0, zres_4, zres_1, zres_9, zrt_0, zrt_4, zrt_1, zrt_9, List.take_succ_cons, List.take_zero, List.drop_succ_cons, List.drop_zero, List.map_cons, List.map_nil, List.reverse_cons, List.reverse_nil, List.nil_append, List.cons_append, List.length_cons, List.length_nil, zPr_c, List.mem_cons, List.not_mem_nil, ↓zIV_e, zcats, List.sum_cons, List.sum_nil, zpu, zfu, zset_e, ↓zc_ne00, ↓zc_ne01, ↓zc_ne10, ↓zc_ne11, ↓zc_eq00, ↓zc_eq01, ↓zc_eq10, ↓zc_eq11, zs_80_81, zs_83_81, zs_84_81, zs_85_81, zs_86_81, zs_87_81, zs_88_81, zs_89_81, zs_90_81, zs_91_81, zs_92_81, zs_93_81]
  refine ⟨(zAnd_b _).1, (zAnd_b _).2, _, rfl⟩
