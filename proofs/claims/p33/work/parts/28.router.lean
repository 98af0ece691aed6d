def CX5_minutesOf : zCt := ([1], 0, (fun vs mem => match vs with | [v] => (True) | _ => False), zpu (fun vs mem r => match vs with | [v] => (True) | _ => False))
def VX5_minutesOf : List (Nat × zCt) := []
def SX5_minutesOf : List (Nat × zCt) := []
set_option maxHeartbeats 1000000 in
set_option maxRecDepth 100000 in
theorem mX5_minutesOf (l : Launch) : zMet l zLay yX5_minutesOf cX5_minutesOf 2 (some .int) 0 CX5_minutesOf.1 CX5_minutesOf.2.1 CX5_minutesOf.2.2.1 CX5_minutesOf.2.2.2 := by
  refine zMet_of (pl := zPlf PX5) (cv := zCf VX5_minutesOf) (cS := zCf SX5_minutesOf) (B := zBf BX5_minutesOf) (F := 80) (own := RX5) (by decide +kernel) rfl (Or.inl ⟨rfl, rfl⟩) (fun vs h => by obtain ⟨v, rfl⟩ := zlen1 h; exact Nat.le_of_ble_eq_true rfl) PX5_ok zClok_ok zSyok_ok oX5_minutesOf (zAllC_e (zAllC_n)) (zAllC_e (zAllC_n)) ?_
  intro vs mem hvl hok hm hpre
  obtain ⟨v, rfl⟩ := zlen1 hvl
  have hr_v : -9223372036854775808 ≤ v ∧ v ≤ 9223372036854775807 := (hok (1, v) (by simp [CX5_minutesOf])).2 rfl
  clear hok hvl
  have hpre : True := hpre
  refine ⟨zIf [], zAllI_e zAllI_n, ?_⟩
  simp (maxSteps := 3000000) only [↓zwp_s, zrun_n, zrun_c, zgo_any, zgo_bel, ↓zgA_n, ↓zgA_c, ↓zgB_n, ↓zgB_c, ↓zp1_c, ↓zpv_c, ↓ztg_e, ↓zFv_r, ↓zFv_i, ↓zFv_z, ↓reduceIte, ↓zi_ireturn, ↓zi_l2i, ↓zi_ldc2_w, ↓zi_ldiv, ↓zi_lload_n, ↓zpl_e pX5_56, bX5_minutesOf_0, List.size_toArray, zent_n, zent_c, zst_e, zfi0, zfi1, zfi2, zfi3, zcast, Nat.reduceAdd, Nat.reduceSub, Nat.reduceEqDiff, Nat.reduceLT, Nat.reduceLeDiff, Int.reduceAdd, Int.reduceSub, Int.reduceMul, Int.reduceToNat, Int.reduceLE, Int.reduceLT, Int.reduceEq, Int.reduceNeg, Int.reduceNegSucc, Nat.reduceMul, List.zip_cons_cons, List.zip_nil_left, List.zip_nil_right, Int.toNat_natCast, true_and, and_true, eq_self, ne_eq, not_false_eq_true, not_true_eq_false, forall_const, implies_true, false_and, true_or, or_true, false_or, or_false, imp_self, CX5_minutesOf, and_imp, exists_eq_left, exists_eq_left', exists_eq_right, exists_eq_right', exists_and_left, exists_and_right, Prod.mk.injEq, zAdd_e, zSub_e, zMul_e, zres_0, zres_4, zres_1, zres_9, zrt_0, zrt_4, zrt_1, zrt_9, List.take_succ_cons, List.take_zero, List.drop_succ_cons, List.drop_zero, List.map_cons, List.map_nil, List.reverse_cons, List.reverse_nil, List.nil_append, List.cons_append, List.length_cons, List.length_nil, zPr_c, List.mem_cons, List.not_mem_nil, ↓zIV_e, zcats, List.sum_cons, List.sum_nil, zpu, zfu, zset_e]
  repeat' (first | exact zfr_rf _ _ _ | (refine zfr_st ?_ (by omega) (by omega)) | (refine zfr_cp ?_ (by omega) (by omega)) | (refine zfr_tr ?_ (by assumption)) | (refine zfr_tr ?_ (zfr_mono (by assumption) (by omega) (by omega))) | (refine And.intro ?_ ?_) | (intro _) | (refine Exists.intro (nn - 1) ?_) | (refine Exists.intro 5000000000 ?_) | fail)
  all_goals (try (simp only [zw] at *))
  all_goals (first | trivial | omega | exact (zAnd_b _).1 | exact (zAnd_b _).2 | assumption | (simp; omega) | skip)
def CX5_leftWith : zCt := ([2, 0, 0], 1, zPr [59] (fun vs mem => match vs with | [t, a, n] => (cR mem) | _ => False), zpu (fun vs mem r => match vs with | [t, a, n] => (True) | _ => False))
def VX5_leftWith : List (Nat × zCt) := []
def SX5_leftWith : List (Nat × zCt) := []
set_option maxHeartbeats 4000000 in
set_option maxRecDepth 100000 in
theorem mX5_leftWith (l : Launch) : zMet l zLay yX5_leftWith cX5_leftWith 4 (some .long) 0 CX5_leftWith.1 CX5_leftWith.2.1 CX5_leftWith.2.2.1 CX5_leftWith.2.2.2 := by
  refine zMet_of (pl := zPlf PX5) (cv := zCf VX5_leftWith) (cS := zCf SX5_leftWith) (B := zBf BX5_leftWith) (F := 80) (own := RX5) (by decide +kernel) rfl (Or.inr (Or.inr (Or.inl ⟨rfl, rfl⟩))) (fun vs h => by obtain ⟨t, a, n, rfl⟩ := zlen3 h; exact Nat.le_of_ble_eq_true rfl) PX5_ok zClok_ok zSyok_ok oX5_leftWith (zAllC_e (zAllC_n)) (zAllC_e (zAllC_n)) ?_
  intro vs mem hvl hok hm hpre
  obtain ⟨t, a, n, rfl⟩ := zlen3 hvl
  have hr_a : -2147483648 ≤ a ∧ a ≤ 2147483647 := (hok (0, a) (by simp [CX5_leftWith])).1 rfl
  have hr_n : -2147483648 ≤ n ∧ n ≤ 2147483647 := (hok (0, n) (by simp [CX5_leftWith])).1 rfl
  clear hok hvl
  obtain ⟨hid, hpre⟩ := hpre
  simp only [List.mem_cons, List.not_mem_nil, or_false] at hid
  have hpre : cR mem := hpre
  have hcr := hpre
  unfold cR at hcr
  subst hid
  refine ⟨zIf [], zAllI_e zAllI_n, ?_⟩
  simp (maxSteps := 3000000) only [↓zwp_s, zrun_n, zrun_c, zgo_any, zgo_bel, ↓zgA_n, ↓zgA_c, ↓zgB_n, ↓zgB_c, ↓zp1_c, ↓zpv_c, ↓ztg_e, ↓zFv_r, ↓zFv_i, ↓zFv_z, ↓reduceIte, ↓zi_aload_n, ↓zi_arraylength, ↓zi_bipush, ↓zi_getfield, ↓zi_goto, ↓zi_iadd, ↓zi_ifCond, ↓zi_if_icmp, ↓zi_iload_n, ↓zi_imul, ↓zi_istore_n, ↓zi_laload, ↓zi_ldc2_w, ↓zi_lreturn, zcmp_ge, zcmp_lt, ↓zpl_e pX5_11, ↓zpl_e pX5_33, ↓zpl_e pX5_50, ↓zo_59_0, ↓zo_59_1, ↓zo_59_2, ↓zo_59_3, ↓zo_59_4, ↓zo_59_5, ↓zo_59_6, ↓zo_59_7, ↓zo_59_8, ↓za_60, ↓za_61, ↓za_62, ↓za_63, bX5_leftWith_0, bX5_leftWith_12, bX5_leftWith_16, bX5_leftWith_54, bX5_leftWith_57, List.size_toArray, zent_n, zent_c, zst_e, zfi0, zfi1, zfi2, zfi3, zcast, Nat.reduceAdd, Nat.reduceSub, Nat.reduceEqDiff, Nat.reduceLT, Nat.reduceLeDiff, Int.reduceAdd, Int.reduceSub, Int.reduceMul, Int.reduceToNat, Int.reduceLE, Int.reduceLT, Int.reduceEq, Int.reduceNeg, Int.reduceNegSucc, Nat.reduceMul, List.zip_cons_cons, List.zip_nil_left, List.zip_nil_right, Int.toNat_natCast, true_and, and_true, eq_self, ne_eq, not_false_eq_true, not_true_eq_false, forall_const, implies_true, false_and, true_or, or_true, false_or, or_false, imp_self, CX5_leftWith, and_imp, exists_eq_left, exists_eq_left', exists_eq_right, exists_eq_right', exists_and_left, exists_and_right, Prod.mk.injEq, zAdd_e, zSub_e, zMul_e, zres_0, zres_4, zres_1, zres_9, zrt_0, zrt_4, zrt_1, zrt_9, List.take_succ_cons, List.take_zero, List.drop_succ_cons, List.drop_zero, List.map_cons, List.map_nil, List.reverse_cons, List.reverse_nil, List.nil_append, List.cons_append, List.length_cons, List.length_nil, zPr_c, List.mem_cons, List.not_mem_nil, ↓zIV_e, zcats, List.sum_cons, List.sum_nil, zpu, zfu, zset_e]
  repeat' (first | exact zfr_rf _ _ _ | (refine zfr_st ?_ (by omega) (by omega)) | (refine zfr_cp ?_ (by omega) (by omega)) | (refine zfr_tr ?_ (by assumption)) | (refine zfr_tr ?_ (zfr_mono (by assumption) (by omega) (by omega))) | (refine And.intro ?_ ?_) | (intro _) | (refine Exists.intro (nn - 1) ?_) | (refine Exists.intro 5000000000 ?_) | fail)
  all_goals (first | omega | (rw [zw_id (x := mem 59 6 * 100) (by omega) (by omega)] at *; rw [zw_id (by omega) (by omega)] at *; omega) | (rw [zw_id (x := n * 100) (by omega) (by omega)] at *; rw [zw_id (by omega) (by omega)] at *; omega) | skip)
def CX5_stepTo : zCt := ([2, 0, 0, 0], 1, zPr [59] (fun vs mem => match vs with | [t, a, n, x] => (cR mem) | _ => False), zpu (fun vs mem r => match vs with | [t, a, n, x] => (True) | _ => False))
def VX5_stepTo : List (Nat × zCt) := [(126, CX5_leftWith)]
def SX5_stepTo : List (Nat × zCt) := [(129, CX10_isCell)]
set_option maxHeartbeats 4000000 in
set_option maxRecDepth 100000 in
theorem mX5_stepTo (l : Launch) : zMet l zLay yX5_stepTo cX5_stepTo 6 (some .long) 1 CX5_stepTo.1 CX5_stepTo.2.1 CX5_stepTo.2.2.1 CX5_stepTo.2.2.2 := by
  refine zMet_of (pl := zPlf PX5) (cv := zCf VX5_stepTo) (cS := zCf SX5_stepTo) (B := zBf BX5_stepTo) (F := 80) (own := RX5) (by decide +kernel) rfl (Or.inr (Or.inr (Or.inl ⟨rfl, rfl⟩))) (fun vs h => by obtain ⟨t, a, n, x, rfl⟩ := zlen4 h; exact Nat.le_of_ble_eq_true rfl) PX5_ok zClok_ok zSyok_ok oX5_stepTo (zAllC_e (zAllC_c (Or.inl (zcal_v (mX5_leftWith l) (by decide) (by decide) hX5_leftWith kX5_126 ⟨by decide, by decide +kernel⟩ (ci := 5) rfl rfl rfl)) (zAllC_n))) (zAllC_e (zAllC_c (zcal_s (mX10_isCell l) (by decide) (by decide) hX10_isCell kX5_129 ⟨by decide, by decide +kernel⟩) (zAllC_n))) ?_
  intro vs mem hvl hok hm hpre
  obtain ⟨t, a, n, x, rfl⟩ := zlen4 hvl
  have hr_a : -2147483648 ≤ a ∧ a ≤ 2147483647 := (hok (0, a) (by simp [CX5_stepTo])).1 rfl
  have hr_n : -2147483648 ≤ n ∧ n ≤ 2147483647 := (hok (0, n) (by simp [CX5_stepTo])).1 rfl
  have hr_x : -2147483648 ≤ x ∧ x ≤ 2147483647 := (hok (0, x) (by simp [CX5_stepTo])).1 rfl
  clear hok hvl
  obtain ⟨hid, hpre⟩ := hpre
  simp only [List.mem_cons, List.not_mem_nil, or_false] at hid
  have hpre : cR mem := hpre
  have hcr := hpre
  unfold cR at hcr
  subst hid
  refine ⟨zIf [], zAllI_e zAllI_n, ?_⟩
  simp (maxSteps := 3000000) only [↓zwp_s, zrun_n, zrun_c, zgo_any, zgo_bel, ↓zgA_n, ↓zgA_c, ↓zgB_n, ↓zgB_c, ↓zp1_c, ↓zpv_c, ↓ztg_e, ↓zFv_r, ↓zFv_i, ↓zFv_z, ↓reduceIte, ↓zi_aload_n, ↓zi_getfield, ↓zi_goto, ↓zi_i2l, ↓zi_iadd, ↓zi_iaload, ↓zi_ifCond, ↓zi_iload_n, ↓zi_ladd, ↓zi_lcmp, ↓zi_lconst, ↓zi_ldc2_w, ↓zi_lload, ↓zi_lmul, ↓zi_lreturn, ↓zi_lstore, zcmp_eq, zcmp_ne, zst2_e, ↓zpl_e pX5_15, ↓zpl_e pX5_50, ↓zpl_e pX5_56, ↓zo_59_0, ↓zo_59_1, ↓zo_59_2, ↓zo_59_3, ↓zo_59_4, ↓zo_59_5, ↓zo_59_6, ↓zo_59_7, ↓zo_59_8, ↓za_60, ↓za_61, ↓za_62, ↓za_63, bX5_stepTo_0, bX5_stepTo_16, bX5_stepTo_20, bX5_stepTo_43, bX5_stepTo_61, List.size_toArray, zent_n, zent_c, zst_e, zfi0, zfi1, zfi2, zfi3, zcast, Nat.reduceAdd, Nat.reduceSub, Nat.reduceEqDiff, Nat.reduceLT, Nat.reduceLeDiff, Int.reduceAdd, Int.reduceSub, Int.reduceMul, Int.reduceToNat, Int.reduceLE, Int.reduceLT, Int.reduceEq, Int.reduceNeg, Int.reduceNegSucc, Nat.reduceMul, List.zip_cons_cons, List.zip_nil_left, List.zip_nil_right, Int.toNat_natCast, true_and, and_true, eq_self, ne_eq, not_false_eq_true, not_true_eq_false, forall_const, implies_true, false_and, true_or, or_true, false_or, or_false, imp_self, CX5_stepTo, ↓zv_cp (cv := zCf VX5_stepTo) (k := 126) (h := (rfl : zCf VX5_stepTo 126 = some CX5_leftWith)), ↓zs_cf (cS := zCf SX5_stepTo) (pl := zPlf PX5) (k := 129) (h := (rfl : zCf SX5_stepTo 129 = some CX10_isCell)) (h2 := rfl), and_imp, exists_eq_left, exists_eq_left', exists_eq_right, exists_eq_right', exists_and_left, exists_and_right, Prod.mk.injEq, zAdd_e, zSub_e, zMul_e, zres_0, zres_4, zres_1, zres_9, zrt_0, zrt_4, zrt_1, zrt_9, List.take_succ_cons, List.take_zero, List.drop_succ_cons, List.drop_zero, List.map_cons, List.map_nil, List.reverse_cons, List.reverse_nil, List.nil_append, List.cons_append, List.length_cons, List.length_nil, zPr_c, List.mem_cons, List.not_mem_nil, ↓zIV_e, zcats, List.sum_cons, List.sum_nil, zpu, zfu, zset_e]
  repeat' (first | exact zfr_rf _ _ _ | (refine zfr_st ?_ (by omega) (by omega)) | (refine zfr_cp ?_ (by omega) (by omega)) | (refine zfr_tr ?_ (by assumption)) | (refine zfr_tr ?_ (zfr_mono (by assumption) (by omega) (by omega))) | (refine And.intro ?_ ?_) | (intro _) | (refine Exists.intro (nn - 1) ?_) | (refine Exists.intro 5000000000 ?_) | fail)
  all_goals (try (simp only [zw] at *))
  all_goals (first | trivial | omega | exact (zAnd_b _).1 | exact (zAnd_b _).2 | assumption | (simp; omega) | skip)
  all_goals (first | exact hpre | (split at * <;> omega) | skip)
def CX5_bestStep : zCt := ([2, 0, 0, 0], 1, zPr [59] (fun vs mem => match vs with | [t, a, n, x] => (cR mem) | _ => False), zpu (fun vs mem r => match vs with | [t, a, n, x] => (True) | _ => False))
def VX5_bestStep : List (Nat × zCt) := [(135, CX5_stepTo)]
def SX5_bestStep : List (Nat × zCt) := [(123, CJ9_min_f86c9), (132, CX10_beside)]
set_option maxHeartbeats 4000000 in
set_option maxRecDepth 100000 in
theorem mX5_bestStep (l : Launch) : zMet l zLay yX5_bestStep cX5_bestStep 7 (some .long) 2 CX5_bestStep.1 CX5_bestStep.2.1 CX5_bestStep.2.2.1 CX5_bestStep.2.2.2 := by
  refine zMet_of (pl := zPlf PX5) (cv := zCf VX5_bestStep) (cS := zCf SX5_bestStep) (B := zBf BX5_bestStep) (F := 80) (own := RX5) (by decide +kernel) rfl (Or.inr (Or.inr (Or.inl ⟨rfl, rfl⟩))) (fun vs h => by obtain ⟨t, a, n, x, rfl⟩ := zlen4 h; exact Nat.le_of_ble_eq_true rfl) PX5_ok zClok_ok zSyok_ok oX5_bestStep (zAllC_e (zAllC_c (Or.inl (zcal_v (mX5_stepTo l) (by decide) (by decide) hX5_stepTo kX5_135 ⟨by decide, by decide +kernel⟩ (ci := 5) rfl rfl rfl)) (zAllC_n))) (zAllC_e (zAllC_c (zcal_s (mJ9_min_f86c9 l) (by decide) (by decide) hJ9_min_f86c9 kX5_123 ⟨by decide, by decide +kernel⟩) (zAllC_c (zcal_s (mX10_beside l) (by decide) (by decide) hX10_beside kX5_132 ⟨by decide, by decide +kernel⟩) (zAllC_n)))) ?_
  intro vs mem hvl hok hm hpre
  obtain ⟨t, a, n, x, rfl⟩ := zlen4 hvl
  have hr_a : -2147483648 ≤ a ∧ a ≤ 2147483647 := (hok (0, a) (by simp [CX5_bestStep])).1 rfl
  have hr_n : -2147483648 ≤ n ∧ n ≤ 2147483647 := (hok (0, n) (by simp [CX5_bestStep])).1 rfl
  have hr_x : -2147483648 ≤ x ∧ x ≤ 2147483647 := (hok (0, x) (by simp [CX5_bestStep])).1 rfl
  clear hok hvl
  obtain ⟨hid, hpre⟩ := hpre
  simp only [List.mem_cons, List.not_mem_nil, or_false] at hid
  have hpre : cR mem := hpre
  have hcr := hpre
  unfold cR at hcr
  subst hid
  refine ⟨zIf [(8, (fun nq ls st m => (ls 1).1 = 0 ∧ (ls 2).1 = 0 ∧ (ls 3).1 = 0 ∧ (ls 6).1 = 0 ∧ (ls 4).1 = 1 ∧ ls 0 = (2, 59) ∧ st = [] ∧ m = mem ∧ (cR mem ∧ 0 ≤ (ls 6).2 ∧ (ls 6).2 ≤ 4 ∧ (4 - (ls 6).2).toNat ≤ nq)))], zAllI_e (zAllI_c ?_ (zAllI_n)), ?_⟩
  · intro nn ls st mem1 hm1 hl1 hJ
    obtain ⟨ht1, ht2, ht3, ht6, ht4, h0, rfl, rfl, hc⟩ := hJ
    obtain ⟨x1, h1⟩ : ∃ x, ls 1 = (0, x) := ⟨_, Prod.ext ht1 rfl⟩
    obtain ⟨x2, h2⟩ : ∃ x, ls 2 = (0, x) := ⟨_, Prod.ext ht2 rfl⟩
    obtain ⟨x3, h3⟩ : ∃ x, ls 3 = (0, x) := ⟨_, Prod.ext ht3 rfl⟩
    obtain ⟨x6, h6⟩ : ∃ x, ls 6 = (0, x) := ⟨_, Prod.ext ht6 rfl⟩
    obtain ⟨x4, h4⟩ : ∃ x, ls 4 = (1, x) := ⟨_, Prod.ext ht4 rfl⟩
    simp only [h1, h2, h3, h6, h4] at hc
    obtain ⟨hc0, hc1, hc2, hc3⟩ := hc
    simp (maxSteps := 3000000) only [↓zwp_s, zrun_n, zrun_c, zgo_any, zgo_bel, ↓zgA_n, ↓zgA_c, ↓zgB_n, ↓zgB_c, ↓zp1_c, ↓zpv_c, ↓ztg_e, ↓zFv_r, ↓zFv_i, ↓zFv_z, ↓reduceIte, ↓zi_aload_n, ↓zi_goto, ↓zi_iconst, ↓zi_ifCond, ↓zi_if_icmp, ↓zi_iinc, ↓zi_iload, ↓zi_iload_n, ↓zi_istore, ↓zi_ldc2_w, ↓zi_lload, ↓zi_lreturn, ↓zi_lstore, zst2_e, zcmp_ge, zcmp_lt, ↓zpl_e pX5_50, ↓zo_59_0, ↓zo_59_1, ↓zo_59_2, ↓zo_59_3, ↓zo_59_4, ↓zo_59_5, ↓zo_59_6, ↓zo_59_7, ↓zo_59_8, ↓za_60, ↓za_61, ↓za_62, ↓za_63, bX5_bestStep_0, bX5_bestStep_8, bX5_bestStep_43, List.size_toArray, zent_n, zent_c, zst_e, zfi0, zfi1, zfi2, zfi3, zcast, Nat.reduceAdd, Nat.reduceSub, Nat.reduceEqDiff, Nat.reduceLT, Nat.reduceLeDiff, Int.reduceAdd, Int.reduceSub, Int.reduceMul, Int.reduceToNat, Int.reduceLE, Int.reduceLT, Int.reduceEq, Int.reduceNeg, Int.reduceNegSucc, Nat.reduceMul, List.zip_cons_cons, List.zip_nil_left, List.zip_nil_right, Int.toNat_natCast, true_and, and_true, eq_self, ne_eq, not_false_eq_true, not_true_eq_false, forall_const, implies_true, false_and, true_or, or_true, false_or, or_false, imp_self, CX5_bestStep, ↓zv_cp (cv := zCf VX5_bestStep) (k := 135) (h := (rfl : zCf VX5_bestStep 135 = some CX5_stepTo)), ↓zs_cf (cS := zCf SX5_bestStep) (pl := zPlf PX5) (k := 123) (h := (rfl : zCf SX5_bestStep 123 = some CJ9_min_f86c9)) (h2 := rfl), ↓zs_cp (cS := zCf SX5_bestStep) (pl := zPlf PX5) (k := 132) (h := (rfl : zCf SX5_bestStep 132 = some CX10_beside)) (h2 := rfl), and_imp, exists_eq_left, exists_eq_left', exists_eq_right, exists_eq_right', exists_and_left, exists_and_right, Prod.mk.injEq, zAdd_e, zSub_e, zMul_e, zres_0, zres_4, zres_1, zres_9, zrt_0, zrt_4, zrt_1, zrt_9, List.take_succ_cons, List.take_zero, List.drop_succ_cons, List.drop_zero, List.map_cons, List.map_nil, List.reverse_cons, List.reverse_nil, List.nil_append, List.cons_append, List.length_cons, List.length_nil, zPr_c, List.mem_cons, List.not_mem_nil, ↓zIV_e, zcats, List.sum_cons, List.sum_nil, zpu, zfu, zset_e, h1, h2, h3, h6, h4, h0]
    repeat' (first | exact zfr_rf _ _ _ | (refine zfr_st ?_ (by omega) (by omega)) | (refine zfr_cp ?_ (by omega) (by omega)) | (refine zfr_tr ?_ (by assumption)) | (refine zfr_tr ?_ (zfr_mono (by assumption) (by omega) (by omega))) | (refine And.intro ?_ ?_) | (intro _) | (refine Exists.intro (nn - 1) ?_) | (refine Exists.intro 5000000000 ?_) | fail)
    all_goals (try (simp only [zw] at *))
    all_goals (first | trivial | omega | exact (zAnd_b _).1 | exact (zAnd_b _).2 | assumption | (simp; omega) | skip)
  · simp (maxSteps := 3000000) only [↓zwp_s, zrun_n, zrun_c, zgo_any, zgo_bel, ↓zgA_n, ↓zgA_c, ↓zgB_n, ↓zgB_c, ↓zp1_c, ↓zpv_c, ↓ztg_e, ↓zFv_r, ↓zFv_i, ↓zFv_z, ↓reduceIte, ↓zi_aload_n, ↓zi_goto, ↓zi_iconst, ↓zi_ifCond, ↓zi_if_icmp, ↓zi_iinc, ↓zi_iload, ↓zi_iload_n, ↓zi_istore, ↓zi_ldc2_w, ↓zi_lload, ↓zi_lreturn, ↓zi_lstore, zst2_e, zcmp_ge, zcmp_lt, ↓zpl_e pX5_50, ↓zo_59_0, ↓zo_59_1, ↓zo_59_2, ↓zo_59_3, ↓zo_59_4, ↓zo_59_5, ↓zo_59_6, ↓zo_59_7, ↓zo_59_8, ↓za_60, ↓za_61, ↓za_62, ↓za_63, bX5_bestStep_0, bX5_bestStep_8, bX5_bestStep_43, List.size_toArray, zent_n, zent_c, zst_e, zfi0, zfi1, zfi2, zfi3, zcast, Nat.reduceAdd, Nat.reduceSub, Nat.reduceEqDiff, Nat.reduceLT, Nat.reduceLeDiff, Int.reduceAdd, Int.reduceSub, Int.reduceMul, Int.reduceToNat, Int.reduceLE, Int.reduceLT, Int.reduceEq, Int.reduceNeg, Int.reduceNegSucc, Nat.reduceMul, List.zip_cons_cons, List.zip_nil_left, List.zip_nil_right, Int.toNat_natCast, true_and, and_true, eq_self, ne_eq, not_false_eq_true, not_true_eq_false, forall_const, implies_true, false_and, true_or, or_true, false_or, or_false, imp_self, CX5_bestStep, ↓zv_cp (cv := zCf VX5_bestStep) (k := 135) (h := (rfl : zCf VX5_bestStep 135 = some CX5_stepTo)), ↓zs_cf (cS := zCf SX5_bestStep) (pl := zPlf PX5) (k := 123) (h := (rfl : zCf SX5_bestStep 123 = some CJ9_min_f86c9)) (h2 := rfl), ↓zs_cp (cS := zCf SX5_bestStep) (pl := zPlf PX5) (k := 132) (h := (rfl : zCf SX5_bestStep 132 = some CX10_beside)) (h2 := rfl), and_imp, exists_eq_left, exists_eq_left', exists_eq_right, exists_eq_right', exists_and_left, exists_and_right, Prod.mk.injEq, zAdd_e, zSub_e, zMul_e, zres_0, zres_4, zres_1, zres_9, zrt_0, zrt_4, zrt_1, zrt_9, List.take_succ_cons, List.take_zero, List.drop_succ_cons, List.drop_zero, List.map_cons, List.map_nil, List.reverse_cons, List.reverse_nil, List.nil_append, List.cons_append, List.length_cons, List.length_nil, zPr_c, List.mem_cons, List.not_mem_nil, ↓zIV_e, zcats, List.sum_cons, List.sum_nil, zpu, zfu, zset_e]
    repeat' (first | exact zfr_rf _ _ _ | (refine zfr_st ?_ (by omega) (by omega)) | (refine zfr_cp ?_ (by omega) (by omega)) | (refine zfr_tr ?_ (by assumption)) | (refine zfr_tr ?_ (zfr_mono (by assumption) (by omega) (by omega))) | (refine And.intro ?_ ?_) | (intro _) | (refine Exists.intro (nn - 1) ?_) | (refine Exists.intro 5000000000 ?_) | fail)
    all_goals (try (simp only [zw] at *))
    all_goals (first | trivial | omega | exact (zAnd_b _).1 | exact (zAnd_b _).2 | assumption | (simp; omega) | skip)
    all_goals (first | exact hpre | skip)
def CX5_leftFrom : zCt := ([2, 0, 0], 1, zPr [59] (fun vs mem => match vs with | [t, a, n] => (cR mem) | _ => False), zpu (fun vs mem r => match vs with | [t, a, n] => (True) | _ => False))
def VX5_leftFrom : List (Nat × zCt) := [(119, CX5_bestStep)]
def SX5_leftFrom : List (Nat × zCt) := [(123, CJ9_min_f86c9), (129, CX10_isCell)]
set_option maxHeartbeats 4000000 in
set_option maxRecDepth 100000 in
theorem mX5_leftFrom (l : Launch) : zMet l zLay yX5_leftFrom cX5_leftFrom 6 (some .long) 3 CX5_leftFrom.1 CX5_leftFrom.2.1 CX5_leftFrom.2.2.1 CX5_leftFrom.2.2.2 := by
  refine zMet_of (pl := zPlf PX5) (cv := zCf VX5_leftFrom) (cS := zCf SX5_leftFrom) (B := zBf BX5_leftFrom) (F := 80) (own := RX5) (by decide +kernel) rfl (Or.inr (Or.inr (Or.inl ⟨rfl, rfl⟩))) (fun vs h => by obtain ⟨t, a, n, rfl⟩ := zlen3 h; exact Nat.le_of_ble_eq_true rfl) PX5_ok zClok_ok zSyok_ok oX5_leftFrom (zAllC_e (zAllC_c (Or.inl (zcal_v (mX5_bestStep l) (by decide) (by decide) hX5_bestStep kX5_119 ⟨by decide, by decide +kernel⟩ (ci := 5) rfl rfl rfl)) (zAllC_n))) (zAllC_e (zAllC_c (zcal_s (mJ9_min_f86c9 l) (by decide) (by decide) hJ9_min_f86c9 kX5_123 ⟨by decide, by decide +kernel⟩) (zAllC_c (zcal_s (mX10_isCell l) (by decide) (by decide) hX10_isCell kX5_129 ⟨by decide, by decide +kernel⟩) (zAllC_n)))) ?_
  intro vs mem hvl hok hm hpre
  obtain ⟨t, a, n, rfl⟩ := zlen3 hvl
  have hr_a : -2147483648 ≤ a ∧ a ≤ 2147483647 := (hok (0, a) (by simp [CX5_leftFrom])).1 rfl
  have hr_n : -2147483648 ≤ n ∧ n ≤ 2147483647 := (hok (0, n) (by simp [CX5_leftFrom])).1 rfl
  clear hok hvl
  obtain ⟨hid, hpre⟩ := hpre
  simp only [List.mem_cons, List.not_mem_nil, or_false] at hid
  have hpre : cR mem := hpre
  have hcr := hpre
  unfold cR at hcr
  subst hid
  refine ⟨zIf [], zAllI_e zAllI_n, ?_⟩
  simp (maxSteps := 3000000) only [↓zwp_s, zrun_n, zrun_c, zgo_any, zgo_bel, ↓zgA_n, ↓zgA_c, ↓zgB_n, ↓zgB_c, ↓zp1_c, ↓zpv_c, ↓ztg_e, ↓zFv_r, ↓zFv_i, ↓zFv_z, ↓reduceIte, ↓zi_aload_n, ↓zi_baload, ↓zi_bipush, ↓zi_getfield, ↓zi_goto, ↓zi_iconst, ↓zi_ifCond, ↓zi_if_icmp, ↓zi_iload, ↓zi_iload_n, ↓zi_istore, ↓zi_isub, ↓zi_lconst, ↓zi_lload_n, ↓zi_lreturn, ↓zi_lstore_n, zcmp_ne, zst2_e, zcmp_eq, ↓zpl_e pX5_19, ↓zpl_e pX5_26, ↓zpl_e pX5_30, ↓zo_59_0, ↓zo_59_1, ↓zo_59_2, ↓zo_59_3, ↓zo_59_4, ↓zo_59_5, ↓zo_59_6, ↓zo_59_7, ↓zo_59_8, ↓za_60, ↓za_61, ↓za_62, ↓za_63, bX5_leftFrom_0, bX5_leftFrom_10, bX5_leftFrom_40, bX5_leftFrom_41, bX5_leftFrom_68, bX5_leftFrom_69, List.size_toArray, zent_n, zent_c, zst_e, zfi0, zfi1, zfi2, zfi3, zcast, Nat.reduceAdd, Nat.reduceSub, Nat.reduceEqDiff, Nat.reduceLT, Nat.reduceLeDiff, Int.reduceAdd, Int.reduceSub, Int.reduceMul, Int.reduceToNat, Int.reduceLE, Int.reduceLT, Int.reduceEq, Int.reduceNeg, Int.reduceNegSucc, Nat.reduceMul, List.zip_cons_cons, List.zip_nil_left, List.zip_nil_right, Int.toNat_natCast, true_and, and_true, eq_self, ne_eq, not_false_eq_true, not_true_eq_false, forall_const, implies_true, false_and, true_or, or_true, false_or, or_false, imp_self, CX5_leftFrom, ↓zv_cp (cv := zCf VX5_leftFrom) (k := 119) (h := (rfl : zCf VX5_leftFrom 119 = some CX5_bestStep)), ↓zs_cf (cS := zCf SX5_leftFrom) (pl := zPlf PX5) (k := 123) (h := (rfl : zCf SX5_leftFrom 123 = some CJ9_min_f86c9)) (h2 := rfl), ↓zs_cf (cS := zCf SX5_leftFrom) (pl := zPlf PX5) (k := 129) (h := (rfl : zCf SX5_leftFrom 129 = some CX10_isCell)) (h2 := rfl), and_imp, exists_eq_left, exists_eq_left', exists_eq_right, exists_eq_right', exists_and_left, exists_and_right, Prod.mk.injEq, zAdd_e, zSub_e, zMul_e, zres_0, zres_4, zres_1, zres_9, zrt_0, zrt_4, zrt_1, zrt_9, List.take_succ_cons, List.take_zero, List.drop_succ_cons, List.drop_zero, List.map_cons, List.map_nil, List.reverse_cons, List.reverse_nil, List.nil_append, List.cons_append, List.length_cons, List.length_nil, zPr_c, List.mem_cons, List.not_mem_nil, ↓zIV_e, zcats, List.sum_cons, List.sum_nil, zpu, zfu, zset_e]
  repeat' (first | exact zfr_rf _ _ _ | (refine zfr_st ?_ (by omega) (by omega)) | (refine zfr_cp ?_ (by omega) (by omega)) | (refine zfr_tr ?_ (by assumption)) | (refine zfr_tr ?_ (zfr_mono (by assumption) (by omega) (by omega))) | (refine And.intro ?_ ?_) | (intro _) | (refine Exists.intro (nn - 1) ?_) | (refine Exists.intro 5000000000 ?_) | fail)
  all_goals (try (simp only [zw] at *))
  all_goals (first | trivial | omega | exact (zAnd_b _).1 | exact (zAnd_b _).2 | assumption | (simp; omega) | skip)
  all_goals (first | exact hpre | (split at * <;> omega) | skip)
def CX5_stepThatKeeps : zCt := ([2, 1, 0, 0], 0, zPr [59] (fun vs mem => match vs with | [t, v, n, x] => (cR mem) | _ => False), zpu (fun vs mem r => match vs with | [t, v, n, x] => (True) | _ => False))
def VX5_stepThatKeeps : List (Nat × zCt) := [(135, CX5_stepTo)]
def SX5_stepThatKeeps : List (Nat × zCt) := [(132, CX10_beside)]
set_option maxHeartbeats 4000000 in
set_option maxRecDepth 100000 in
theorem mX5_stepThatKeeps (l : Launch) : zMet l zLay yX5_stepThatKeeps cX5_stepThatKeeps 9 (some .int) 2 CX5_stepThatKeeps.1 CX5_stepThatKeeps.2.1 CX5_stepThatKeeps.2.2.1 CX5_stepThatKeeps.2.2.2 := by
  refine zMet_of (pl := zPlf PX5) (cv := zCf VX5_stepThatKeeps) (cS := zCf SX5_stepThatKeeps) (B := zBf BX5_stepThatKeeps) (F := 80) (own := RX5) (by decide +kernel) rfl (Or.inl ⟨rfl, rfl⟩) (fun vs h => by obtain ⟨t, v, n, x, rfl⟩ := zlen4 h; exact Nat.le_of_ble_eq_true rfl) PX5_ok zClok_ok zSyok_ok oX5_stepThatKeeps (zAllC_e (zAllC_c (Or.inl (zcal_v (mX5_stepTo l) (by decide) (by decide) hX5_stepTo kX5_135 ⟨by decide, by decide +kernel⟩ (ci := 5) rfl rfl rfl)) (zAllC_n))) (zAllC_e (zAllC_c (zcal_s (mX10_beside l) (by decide) (by decide) hX10_beside kX5_132 ⟨by decide, by decide +kernel⟩) (zAllC_n))) ?_
  intro vs mem hvl hok hm hpre
  obtain ⟨t, v, n, x, rfl⟩ := zlen4 hvl
  have hr_v : -9223372036854775808 ≤ v ∧ v ≤ 9223372036854775807 := (hok (1, v) (by simp [CX5_stepThatKeeps])).2 rfl
  have hr_n : -2147483648 ≤ n ∧ n ≤ 2147483647 := (hok (0, n) (by simp [CX5_stepThatKeeps])).1 rfl
  have hr_x : -2147483648 ≤ x ∧ x ≤ 2147483647 := (hok (0, x) (by simp [CX5_stepThatKeeps])).1 rfl
  clear hok hvl
  obtain ⟨hid, hpre⟩ := hpre
  simp only [List.mem_cons, List.not_mem_nil, or_false] at hid
  have hpre : cR mem := hpre
  have hcr := hpre
  unfold cR at hcr
  subst hid
  refine ⟨zIf [(3, (fun nq ls st m => (ls 3).1 = 0 ∧ (ls 4).1 = 0 ∧ (ls 5).1 = 0 ∧ (ls 1).1 = 1 ∧ ls 0 = (2, 59) ∧ st = [] ∧ m = mem ∧ (cR mem ∧ 0 ≤ (ls 5).2 ∧ (ls 5).2 ≤ 4 ∧ (4 - (ls 5).2).toNat ≤ nq)))], zAllI_e (zAllI_c ?_ (zAllI_n)), ?_⟩
  · intro nn ls st mem1 hm1 hl1 hJ
    obtain ⟨ht3, ht4, ht5, ht1, h0, rfl, rfl, hc⟩ := hJ
    obtain ⟨x3, h3⟩ : ∃ x, ls 3 = (0, x) := ⟨_, Prod.ext ht3 rfl⟩
    obtain ⟨x4, h4⟩ : ∃ x, ls 4 = (0, x) := ⟨_, Prod.ext ht4 rfl⟩
    obtain ⟨x5, h5⟩ : ∃ x, ls 5 = (0, x) := ⟨_, Prod.ext ht5 rfl⟩
    obtain ⟨x1, h1⟩ : ∃ x, ls 1 = (1, x) := ⟨_, Prod.ext ht1 rfl⟩
    simp only [h3, h4, h5, h1] at hc
    obtain ⟨hc0, hc1, hc2, hc3⟩ := hc
    simp (maxSteps := 3000000) only [↓zwp_s, zrun_n, zrun_c, zgo_any, zgo_bel, ↓zgA_n, ↓zgA_c, ↓zgB_n, ↓zgB_c, ↓zp1_c, ↓zpv_c, ↓ztg_e, ↓zFv_r, ↓zFv_i, ↓zFv_z, ↓reduceIte, ↓zi_aload_n, ↓zi_getfield, ↓zi_getstatic, ↓zi_goto, ↓zi_iaload, ↓zi_iconst, ↓zi_ifCond, ↓zi_if_icmp, ↓zi_iinc, ↓zi_iload, ↓zi_iload_n, ↓zi_ireturn, ↓zi_istore, ↓zi_lcmp, ↓zi_ldc2_w, ↓zi_lload, ↓zi_lload_n, ↓zi_lstore, zcmp_ge, zst2_e, zcmp_eq, zcmp_ne, ↓zpl_e pX5_36, ↓zpl_e pX5_50, ↓zpl_e pX5_142, ↓zo_59_0, ↓zo_59_1, ↓zo_59_2, ↓zo_59_3, ↓zo_59_4, ↓zo_59_5, ↓zo_59_6, ↓zo_59_7, ↓zo_59_8, ↓za_60, ↓za_61, ↓za_62, ↓za_63, bX5_stepThatKeeps_0, bX5_stepThatKeeps_3, bX5_stepThatKeeps_54, bX5_stepThatKeeps_60, List.size_toArray, zent_n, zent_c, zst_e, zfi0, zfi1, zfi2, zfi3, zcast, Nat.reduceAdd, Nat.reduceSub, Nat.reduceEqDiff, Nat.reduceLT, Nat.reduceLeDiff, Int.reduceAdd, Int.reduceSub, Int.reduceMul, Int.reduceToNat, Int.reduceLE, Int.reduceLT, Int.reduceEq, Int.reduceNeg, Int.reduceNegSucc, Nat.reduceMul, List.zip_cons_cons, List.zip_nil_left, List.zip_nil_right, Int.toNat_natCast, true_and, and_true, eq_self, ne_eq, not_false_eq_true, not_true_eq_false, forall_const, implies_true, false_and, true_or, or_true, false_or, or_false, imp_self, CX5_stepThatKeeps, ↓zv_cp (cv := zCf VX5_stepThatKeeps) (k := 135) (h := (rfl : zCf VX5_stepThatKeeps 135 = some CX5_stepTo)), ↓zs_cp (cS := zCf SX5_stepThatKeeps) (pl := zPlf PX5) (k := 132) (h := (rfl : zCf SX5_stepThatKeeps 132 = some CX10_beside)) (h2 := rfl), and_imp, exists_eq_left, exists_eq_left', exists_eq_right, exists_eq_right', exists_and_left, exists_and_right, Prod.mk.injEq, zAdd_e, zSub_e, zMul_e, zres_0, zres_4, zres_1, zres_9, zrt_0, zrt_4, zrt_1, zrt_9, List.take_succ_cons, List.take_zero, List.drop_succ_cons, List.drop_zero, List.map_cons, List.map_nil, List.reverse_cons, List.reverse_nil, List.nil_append, List.cons_append, List.length_cons, List.length_nil, zPr_c, List.mem_cons, List.not_mem_nil, ↓zIV_e, zcats, List.sum_cons, List.sum_nil, zpu, zfu, zset_e, h3, h4, h5, h1, h0]
    repeat' (first | exact zfr_rf _ _ _ | (refine zfr_st ?_ (by omega) (by omega)) | (refine zfr_cp ?_ (by omega) (by omega)) | (refine zfr_tr ?_ (by assumption)) | (refine zfr_tr ?_ (zfr_mono (by assumption) (by omega) (by omega))) | (refine And.intro ?_ ?_) | (intro _) | (refine Exists.intro (nn - 1) ?_) | (refine Exists.intro 5000000000 ?_) | fail)
    all_goals (try (simp only [zw] at *))
    all_goals (first | trivial | omega | exact (zAnd_b _).1 | exact (zAnd_b _).2 | assumption | (simp; omega) | skip)
  · simp (maxSteps := 3000000) only [↓zwp_s, zrun_n, zrun_c, zgo_any, zgo_bel, ↓zgA_n, ↓zgA_c, ↓zgB_n, ↓zgB_c, ↓zp1_c, ↓zpv_c, ↓ztg_e, ↓zFv_r, ↓zFv_i, ↓zFv_z, ↓reduceIte, ↓zi_aload_n, ↓zi_getfield, ↓zi_getstatic, ↓zi_goto, ↓zi_iaload, ↓zi_iconst, ↓zi_ifCond, ↓zi_if_icmp, ↓zi_iinc, ↓zi_iload, ↓zi_iload_n, ↓zi_ireturn, ↓zi_istore, ↓zi_lcmp, ↓zi_ldc2_w, ↓zi_lload, ↓zi_lload_n, ↓zi_lstore, zcmp_ge, zst2_e, zcmp_eq, zcmp_ne, ↓zpl_e pX5_36, ↓zpl_e pX5_50, ↓zpl_e pX5_142, ↓zo_59_0, ↓zo_59_1, ↓zo_59_2, ↓zo_59_3, ↓zo_59_4, ↓zo_59_5, ↓zo_59_6, ↓zo_59_7, ↓zo_59_8, ↓za_60, ↓za_61, ↓za_62, ↓za_63, bX5_stepThatKeeps_0, bX5_stepThatKeeps_3, bX5_stepThatKeeps_54, bX5_stepThatKeeps_60, List.size_toArray, zent_n, zent_c, zst_e, zfi0, zfi1, zfi2, zfi3, zcast, Nat.reduceAdd, Nat.reduceSub, Nat.reduceEqDiff, Nat.reduceLT, Nat.reduceLeDiff, Int.reduceAdd, Int.reduceSub, Int.reduceMul, Int.reduceToNat, Int.reduceLE, Int.reduceLT, Int.reduceEq, Int.reduceNeg, Int.reduceNegSucc, Nat.reduceMul, List.zip_cons_cons, List.zip_nil_left, List.zip_nil_right, Int.toNat_natCast, true_and, and_true, eq_self, ne_eq, not_false_eq_true, not_true_eq_false, forall_const, implies_true, false_and, true_or, or_true, false_or, or_false, imp_self, CX5_stepThatKeeps, ↓zv_cp (cv := zCf VX5_stepThatKeeps) (k := 135) (h := (rfl : zCf VX5_stepThatKeeps 135 = some CX5_stepTo)), ↓zs_cp (cS := zCf SX5_stepThatKeeps) (pl := zPlf PX5) (k := 132) (h := (rfl : zCf SX5_stepThatKeeps 132 = some CX10_beside)) (h2 := rfl), and_imp, exists_eq_left, exists_eq_left', exists_eq_right, exists_eq_right', exists_and_left, exists_and_right, Prod.mk.injEq, zAdd_e, zSub_e, zMul_e, zres_0, zres_4, zres_1, zres_9, zrt_0, zrt_4, zrt_1, zrt_9, List.take_succ_cons, List.take_zero, List.drop_succ_cons, List.drop_zero, List.map_cons, List.map_nil, List.reverse_cons, List.reverse_nil, List.nil_append, List.cons_append, List.length_cons, List.length_nil, zPr_c, List.mem_cons, List.not_mem_nil, ↓zIV_e, zcats, List.sum_cons, List.sum_nil, zpu, zfu, zset_e]
    repeat' (first | exact zfr_rf _ _ _ | (refine zfr_st ?_ (by omega) (by omega)) | (refine zfr_cp ?_ (by omega) (by omega)) | (refine zfr_tr ?_ (by assumption)) | (refine zfr_tr ?_ (zfr_mono (by assumption) (by omega) (by omega))) | (refine And.intro ?_ ?_) | (intro _) | (refine Exists.intro (nn - 1) ?_) | (refine Exists.intro 5000000000 ?_) | fail)
    all_goals (try (simp only [zw] at *))
    all_goals (first | trivial | omega | exact (zAnd_b _).1 | exact (zAnd_b _).2 | assumption | (simp; omega) | skip)
    all_goals (first | exact hpre | skip)
def CX5_step : zCt := ([2], 9, zPr [59] (fun vs mem => match vs with | [t] => (cR mem) | _ => False), (fun vs mem r mem' => match vs with | [t] => (zfr 59 63 mem mem' ∧ mem' 59 6 = mem 59 6 ∧ mem' 59 4 = mem 59 4) | _ => False))
def VX5_step : List (Nat × zCt) := [(46, CX5_leftFrom), (138, CX5_stepThatKeeps)]
def SX5_step : List (Nat × zCt) := []
set_option maxHeartbeats 4000000 in
set_option maxRecDepth 100000 in
theorem mX5_step (l : Launch) : zMet l zLay yX5_step cX5_step 5 none 4 CX5_step.1 CX5_step.2.1 CX5_step.2.2.1 CX5_step.2.2.2 := by
  refine zMet_of (pl := zPlf PX5) (cv := zCf VX5_step) (cS := zCf SX5_step) (B := zBf BX5_step) (F := 80) (own := RX5) (by decide +kernel) rfl (Or.inr (Or.inr (Or.inr ⟨rfl, rfl⟩))) (fun vs h => by obtain ⟨t, rfl⟩ := zlen1 h; exact Nat.le_of_ble_eq_true rfl) PX5_ok zClok_ok zSyok_ok oX5_step (zAllC_e (zAllC_c (Or.inl (zcal_v (mX5_leftFrom l) (by decide) (by decide) hX5_leftFrom kX5_46 ⟨by decide, by decide +kernel⟩ (ci := 5) rfl rfl rfl)) (zAllC_c (Or.inl (zcal_v (mX5_stepThatKeeps l) (by decide) (by decide) hX5_stepThatKeeps kX5_138 ⟨by decide, by decide +kernel⟩ (ci := 5) rfl rfl rfl)) (zAllC_n)))) (zAllC_e (zAllC_n)) ?_
  intro vs mem hvl hok hm hpre
  obtain ⟨t, rfl⟩ := zlen1 hvl
  clear hok hvl
  obtain ⟨hid, hpre⟩ := hpre
  simp only [List.mem_cons, List.not_mem_nil, or_false] at hid
  have hpre : cR mem := hpre
  have hcr := hpre
  unfold cR at hcr
  subst hid
  refine ⟨zIf [], zAllI_e zAllI_n, ?_⟩
  simp (maxSteps := 3000000) only [↓zwp_s, zrun_n, zrun_c, zgo_any, zgo_bel, ↓zgA_n, ↓zgA_c, ↓zgB_n, ↓zgB_c, ↓zp1_c, ↓zpv_c, ↓ztg_e, ↓zFv_r, ↓zFv_i, ↓zFv_z, ↓reduceIte, ↓zi_aload_n, ↓zi_bipush, ↓zi_getfield, ↓zi_iconst, ↓zi_if_icmp, ↓zi_iload, ↓zi_iload_n, ↓zi_istore, ↓zi_istore_n, ↓zi_isub, ↓zi_lload_n, ↓zi_lstore_n, ↓zi_putfield, ↓zi_return_, zst2_e, zcmp_ne, zcmp_eq, ↓zpl_e pX5_26, ↓zpl_e pX5_36, ↓zpl_e pX5_39, ↓zo_59_0, ↓zo_59_1, ↓zo_59_2, ↓zo_59_3, ↓zo_59_4, ↓zo_59_5, ↓zo_59_6, ↓zo_59_7, ↓zo_59_8, ↓za_60, ↓za_61, ↓za_62, ↓za_63, bX5_step_0, bX5_step_52, bX5_step_69, List.size_toArray, zent_n, zent_c, zst_e, zfi0, zfi1, zfi2, zfi3, zcast, Nat.reduceAdd, Nat.reduceSub, Nat.reduceEqDiff, Nat.reduceLT, Nat.reduceLeDiff, Int.reduceAdd, Int.reduceSub, Int.reduceMul, Int.reduceToNat, Int.reduceLE, Int.reduceLT, Int.reduceEq, Int.reduceNeg, Int.reduceNegSucc, Nat.reduceMul, List.zip_cons_cons, List.zip_nil_left, List.zip_nil_right, Int.toNat_natCast, true_and, and_true, eq_self, ne_eq, not_false_eq_true, not_true_eq_false, forall_const, implies_true, false_and, true_or, or_true, false_or, or_false, imp_self, CX5_step, ↓zv_cp (cv := zCf VX5_step) (k := 46) (h := (rfl : zCf VX5_step 46 = some CX5_leftFrom)), ↓zv_cp (cv := zCf VX5_step) (k := 138) (h := (rfl : zCf VX5_step 138 = some CX5_stepThatKeeps)), and_imp, exists_eq_left, exists_eq_left', exists_eq_right, exists_eq_right', exists_and_left, exists_and_right, Prod.mk.injEq, zAdd_e, zSub_e, zMul_e, zres_0, zres_4, zres_1, zres_9, zrt_0, zrt_4, zrt_1, zrt_9, List.take_succ_cons, List.take_zero, List.drop_succ_cons, List.drop_zero, List.map_cons, List.map_nil, List.reverse_cons, List.reverse_nil, List.nil_append, List.cons_append, List.length_cons, List.length_nil, zPr_c, List.mem_cons, List.not_mem_nil, ↓zIV_e, zcats, List.sum_cons, List.sum_nil, zpu, zfu, zset_e]
  repeat' (first | exact zfr_rf _ _ _ | (refine zfr_st ?_ (by omega) (by omega)) | (refine zfr_cp ?_ (by omega) (by omega)) | (refine zfr_tr ?_ (by assumption)) | (refine zfr_tr ?_ (zfr_mono (by assumption) (by omega) (by omega))) | (refine And.intro ?_ ?_) | (intro _) | (refine Exists.intro (nn - 1) ?_) | (refine Exists.intro 5000000000 ?_) | fail)
  all_goals (try (simp only [zw] at *))
  all_goals (first | trivial | omega | exact (zAnd_b _).1 | exact (zAnd_b _).2 | assumption | (simp; omega) | skip)
  all_goals (first | exact hpre | (simp only [zset_e, reduceIte, Nat.reduceEqDiff, false_and, Nat.reduceAdd]; done) | rfl | skip)
  all_goals (simp only [zset_e, reduceIte] <;> first | rfl | omega | trivial | skip)
def CX5_spreadAt : zCt := ([2, 0], 4, zPr [59] (fun vs mem => match vs with | [t, n] => (cR mem) | _ => False), (fun vs mem r mem' => match vs with | [t, n] => (zfr 59 63 mem mem' ∧ mem' 59 6 = mem 59 6 ∧ mem' 59 4 = mem 59 4 ∧ (r = 0 ∨ r = 1)) | _ => False))
def VX5_spreadAt : List (Nat × zCt) := [(119, CX5_bestStep), (126, CX5_leftWith)]
def SX5_spreadAt : List (Nat × zCt) := [(123, CJ9_min_f86c9)]
set_option maxHeartbeats 8000000 in
set_option maxRecDepth 100000 in
theorem mX5_spreadAt (l : Launch) : zMet l zLay yX5_spreadAt cX5_spreadAt 7 (some .boolean) 3 CX5_spreadAt.1 CX5_spreadAt.2.1 CX5_spreadAt.2.2.1 CX5_spreadAt.2.2.2 := by
  refine zMet_of (pl := zPlf PX5) (cv := zCf VX5_spreadAt) (cS := zCf SX5_spreadAt) (B := zBf BX5_spreadAt) (F := 80) (own := RX5) (by decide +kernel) rfl (Or.inr (Or.inl ⟨rfl, rfl⟩)) (fun vs h => by obtain ⟨t, n, rfl⟩ := zlen2 h; exact Nat.le_of_ble_eq_true rfl) PX5_ok zClok_ok zSyok_ok oX5_spreadAt (zAllC_e (zAllC_c (Or.inl (zcal_v (mX5_bestStep l) (by decide) (by decide) hX5_bestStep kX5_119 ⟨by decide, by decide +kernel⟩ (ci := 5) rfl rfl rfl)) (zAllC_c (Or.inl (zcal_v (mX5_leftWith l) (by decide) (by decide) hX5_leftWith kX5_126 ⟨by decide, by decide +kernel⟩ (ci := 5) rfl rfl rfl)) (zAllC_n)))) (zAllC_e (zAllC_c (zcal_s (mJ9_min_f86c9 l) (by decide) (by decide) hJ9_min_f86c9 kX5_123 ⟨by decide, by decide +kernel⟩) (zAllC_n))) ?_
  intro vs mem hvl hok hm hpre
  obtain ⟨t, n, rfl⟩ := zlen2 hvl
  have hr_n : -2147483648 ≤ n ∧ n ≤ 2147483647 := (hok (0, n) (by simp [CX5_spreadAt])).1 rfl
  clear hok hvl
  obtain ⟨hid, hpre⟩ := hpre
  simp only [List.mem_cons, List.not_mem_nil, or_false] at hid
  have hpre : cR mem := hpre
  have hcr := hpre
  unfold cR at hcr
  subst hid
  refine ⟨zIf [(4, (fun nq ls st m => (ls 1).1 = 0 ∧ (ls 2).1 = 0 ∧ (ls 3).1 = 0 ∧ ls 0 = (2, 59) ∧ st = [] ∧ ((zfr 59 63 mem m) ∧ m 59 6 = mem 59 6 ∧ m 59 4 = mem 59 4 ∧ 0 ≤ (ls 3).2 ∧ (ls 3).2 ≤ 100 ∧ ((ls 2).2 = 0 ∨ (ls 2).2 = 1) ∧ (100 - (ls 3).2).toNat ≤ nq)))], zAllI_e (zAllI_c ?_ (zAllI_n)), ?_⟩
  · intro nn ls st mem1 hm1 hl1 hJ
    obtain ⟨ht1, ht2, ht3, h0, rfl, hc⟩ := hJ
    obtain ⟨x1, h1⟩ : ∃ x, ls 1 = (0, x) := ⟨_, Prod.ext ht1 rfl⟩
    obtain ⟨x2, h2⟩ : ∃ x, ls 2 = (0, x) := ⟨_, Prod.ext ht2 rfl⟩
    obtain ⟨x3, h3⟩ : ∃ x, ls 3 = (0, x) := ⟨_, Prod.ext ht3 rfl⟩
    simp only [h1, h2, h3] at hc
    obtain ⟨hc0, hc1, hc2, hc3, hc4, hc5, hc6⟩ := hc
    simp (maxSteps := 3000000) only [↓zwp_s, zrun_n, zrun_c, zgo_any, zgo_bel, ↓zgA_n, ↓zgA_c, ↓zgB_n, ↓zgB_c, ↓zp1_c, ↓zpv_c, ↓ztg_e, ↓zFv_r, ↓zFv_i, ↓zFv_z, ↓reduceIte, ↓zi_aload_n, ↓zi_arraylength, ↓zi_bipush, ↓zi_getfield, ↓zi_goto, ↓zi_iadd, ↓zi_iaload, ↓zi_iconst, ↓zi_ifCond, ↓zi_if_icmp, ↓zi_iinc, ↓zi_iload, ↓zi_iload_n, ↓zi_imul, ↓zi_ireturn, ↓zi_istore, ↓zi_istore_n, ↓zi_isub, ↓zi_laload, ↓zi_lastore, ↓zi_lcmp, ↓zi_lconst, ↓zi_ldc2_w, ↓zi_lload, ↓zi_lstore, zcmp_ge, zst2_e, zcmp_ne, zcmp_le, zcmp_lt, zcmp_eq, ↓zpl_e pX5_11, ↓zpl_e pX5_15, ↓zpl_e pX5_23, ↓zpl_e pX5_30, ↓zpl_e pX5_50, ↓zo_59_0, ↓zo_59_1, ↓zo_59_2, ↓zo_59_3, ↓zo_59_4, ↓zo_59_5, ↓zo_59_6, ↓zo_59_7, ↓zo_59_8, ↓za_60, ↓za_61, ↓za_62, ↓za_63, bX5_spreadAt_0, bX5_spreadAt_4, bX5_spreadAt_29, bX5_spreadAt_58, bX5_spreadAt_108, bX5_spreadAt_112, bX5_spreadAt_113, bX5_spreadAt_114, bX5_spreadAt_120, List.size_toArray, zent_n, zent_c, zst_e, zfi0, zfi1, zfi2, zfi3, zcast, Nat.reduceAdd, Nat.reduceSub, Nat.reduceEqDiff, Nat.reduceLT, Nat.reduceLeDiff, Int.reduceAdd, Int.reduceSub, Int.reduceMul, Int.reduceToNat, Int.reduceLE, Int.reduceLT, Int.reduceEq, Int.reduceNeg, Int.reduceNegSucc, Nat.reduceMul, List.zip_cons_cons, List.zip_nil_left, List.zip_nil_right, Int.toNat_natCast, true_and, and_true, eq_self, ne_eq, not_false_eq_true, not_true_eq_false, forall_const, implies_true, false_and, true_or, or_true, false_or, or_false, imp_self, CX5_spreadAt, ↓zv_cp (cv := zCf VX5_spreadAt) (k := 119) (h := (rfl : zCf VX5_spreadAt 119 = some CX5_bestStep)), ↓zv_cp (cv := zCf VX5_spreadAt) (k := 126) (h := (rfl : zCf VX5_spreadAt 126 = some CX5_leftWith)), ↓zs_cf (cS := zCf SX5_spreadAt) (pl := zPlf PX5) (k := 123) (h := (rfl : zCf SX5_spreadAt 123 = some CJ9_min_f86c9)) (h2 := rfl), and_imp, exists_eq_left, exists_eq_left', exists_eq_right, exists_eq_right', exists_and_left, exists_and_right, Prod.mk.injEq, zAdd_e, zSub_e, zMul_e, zres_0, zres_4, zres_1, zres_9, zrt_0, zrt_4, zrt_1, zrt_9, List.take_succ_cons, List.take_zero, List.drop_succ_cons, List.drop_zero, List.map_cons, List.map_nil, List.reverse_cons, List.reverse_nil, List.nil_append, List.cons_append, List.length_cons, List.length_nil, zPr_c, List.mem_cons, List.not_mem_nil, ↓zIV_e, zcats, List.sum_cons, List.sum_nil, zpu, zfu, zset_e, h1, h2, h3, h0]
    have hcr1 : cR mem1 := by unfold cR; rw [hc1, hc2]; exact hcr
    unfold cR at hcr1
    repeat' (first | exact zfr_rf _ _ _ | (refine zfr_st ?_ (by omega) (by omega)) | (refine zfr_cp ?_ (by omega) (by omega)) | (refine zfr_tr ?_ (by assumption)) | (refine zfr_tr ?_ (zfr_mono (by assumption) (by omega) (by omega))) | (refine And.intro ?_ ?_) | (intro _) | (refine Exists.intro (nn - 1) ?_) | (refine Exists.intro 5000000000 ?_) | fail)
    all_goals (try (simp only [zw] at *))
    all_goals (first | trivial | omega | exact (zAnd_b _).1 | exact (zAnd_b _).2 | assumption | (simp; omega) | skip)
    all_goals (first | exact hpre | (unfold cR; simp only [zset_e, reduceIte, Nat.reduceEqDiff, false_and]; omega) | (simp only [zset_e, reduceIte, Nat.reduceEqDiff, false_and]; done) | (simp only [zset_e, reduceIte, Nat.reduceEqDiff, false_and]; first | assumption | omega) | rfl | skip)
  · simp (maxSteps := 3000000) only [↓zwp_s, zrun_n, zrun_c, zgo_any, zgo_bel, ↓zgA_n, ↓zgA_c, ↓zgB_n, ↓zgB_c, ↓zp1_c, ↓zpv_c, ↓ztg_e, ↓zFv_r, ↓zFv_i, ↓zFv_z, ↓reduceIte, ↓zi_aload_n, ↓zi_arraylength, ↓zi_bipush, ↓zi_getfield, ↓zi_goto, ↓zi_iadd, ↓zi_iaload, ↓zi_iconst, ↓zi_ifCond, ↓zi_if_icmp, ↓zi_iinc, ↓zi_iload, ↓zi_iload_n, ↓zi_imul, ↓zi_ireturn, ↓zi_istore, ↓zi_istore_n, ↓zi_isub, ↓zi_laload, ↓zi_lastore, ↓zi_lcmp, ↓zi_lconst, ↓zi_ldc2_w, ↓zi_lload, ↓zi_lstore, zcmp_ge, zst2_e, zcmp_ne, zcmp_le, zcmp_lt, zcmp_eq, ↓zpl_e pX5_11, ↓zpl_e pX5_15, ↓zpl_e pX5_23, ↓zpl_e pX5_30, ↓zpl_e pX5_50, ↓zo_59_0, ↓zo_59_1, ↓zo_59_2, ↓zo_59_3, ↓zo_59_4, ↓zo_59_5, ↓zo_59_6, ↓zo_59_7, ↓zo_59_8, ↓za_60, ↓za_61, ↓za_62, ↓za_63, bX5_spreadAt_0, bX5_spreadAt_4, bX5_spreadAt_29, bX5_spreadAt_58, bX5_spreadAt_108, bX5_spreadAt_112, bX5_spreadAt_113, bX5_spreadAt_114, bX5_spreadAt_120, List.size_toArray, zent_n, zent_c, zst_e, zfi0, zfi1, zfi2, zfi3, zcast, Nat.reduceAdd, Nat.reduceSub, Nat.reduceEqDiff, Nat.reduceLT, Nat.reduceLeDiff, Int.reduceAdd, Int.reduceSub, Int.reduceMul, Int.reduceToNat, Int.reduceLE, Int.reduceLT, Int.reduceEq, Int.reduceNeg, Int.reduceNegSucc, Nat.reduceMul, List.zip_cons_cons, List.zip_nil_left, List.zip_nil_right, Int.toNat_natCast, true_and, and_true, eq_self, ne_eq, not_false_eq_true, not_true_eq_false, forall_const, implies_true, false_and, true_or, or_true, false_or, or_false, imp_self, CX5_spreadAt, ↓zv_cp (cv := zCf VX5_spreadAt) (k := 119) (h := (rfl : zCf VX5_spreadAt 119 = some CX5_bestStep)), ↓zv_cp (cv := zCf VX5_spreadAt) (k := 126) (h := (rfl : zCf VX5_spreadAt 126 = some CX5_leftWith)), ↓zs_cf (cS := zCf SX5_spreadAt) (pl := zPlf PX5) (k := 123) (h := (rfl : zCf SX5_spreadAt 123 = some CJ9_min_f86c9)) (h2 := rfl), and_imp, exists_eq_left, exists_eq_left', exists_eq_right, exists_eq_right', exists_and_left, exists_and_right, Prod.mk.injEq, zAdd_e, zSub_e, zMul_e, zres_0, zres_4, zres_1, zres_9, zrt_0, zrt_4, zrt_1, zrt_9, List.take_succ_cons, List.take_zero, List.drop_succ_cons, List.drop_zero, List.map_cons, List.map_nil, List.reverse_cons, List.reverse_nil, List.nil_append, List.cons_append, List.length_cons, List.length_nil, zPr_c, List.mem_cons, List.not_mem_nil, ↓zIV_e, zcats, List.sum_cons, List.sum_nil, zpu, zfu, zset_e]
    repeat' (first | exact zfr_rf _ _ _ | (refine zfr_st ?_ (by omega) (by omega)) | (refine zfr_cp ?_ (by omega) (by omega)) | (refine zfr_tr ?_ (by assumption)) | (refine zfr_tr ?_ (zfr_mono (by assumption) (by omega) (by omega))) | (refine And.intro ?_ ?_) | (intro _) | (refine Exists.intro (nn - 1) ?_) | (refine Exists.intro 5000000000 ?_) | fail)
    all_goals (try (simp only [zw] at *))
    all_goals (first | trivial | omega | exact (zAnd_b _).1 | exact (zAnd_b _).2 | assumption | (simp; omega) | skip)
    all_goals (first | exact hpre | (unfold cR; simp only [zset_e, reduceIte, Nat.reduceEqDiff, false_and]; omega) | (simp only [zset_e, reduceIte, Nat.reduceEqDiff, false_and]; done) | (simp only [zset_e, reduceIte, Nat.reduceEqDiff, false_and]; first | assumption | omega) | rfl | skip)
def CX5_spread : zCt := ([2], 9, zPr [59] (fun vs mem => match vs with | [t] => (cR mem) | _ => False), (fun vs mem r mem' => match vs with | [t] => (zfr 59 63 mem mem' ∧ cR mem' ∧ mem' 59 4 = mem 59 4) | _ => False))
def VX5_spread : List (Nat × zCt) := [(116, CX5_spreadAt)]
def SX5_spread : List (Nat × zCt) := []
set_option maxHeartbeats 4000000 in
set_option maxRecDepth 100000 in
theorem mX5_spread (l : Launch) : zMet l zLay yX5_spread cX5_spread 2 none 4 CX5_spread.1 CX5_spread.2.1 CX5_spread.2.2.1 CX5_spread.2.2.2 := by
  refine zMet_of (pl := zPlf PX5) (cv := zCf VX5_spread) (cS := zCf SX5_spread) (B := zBf BX5_spread) (F := 80) (own := RX5) (by decide +kernel) rfl (Or.inr (Or.inr (Or.inr ⟨rfl, rfl⟩))) (fun vs h => by obtain ⟨t, rfl⟩ := zlen1 h; exact Nat.le_of_ble_eq_true rfl) PX5_ok zClok_ok zSyok_ok oX5_spread (zAllC_e (zAllC_c (Or.inl (zcal_v (mX5_spreadAt l) (by decide) (by decide) hX5_spreadAt kX5_116 ⟨by decide, by decide +kernel⟩ (ci := 5) rfl rfl rfl)) (zAllC_n))) (zAllC_e (zAllC_n)) ?_
  intro vs mem hvl hok hm hpre
  obtain ⟨t, rfl⟩ := zlen1 hvl
  clear hok hvl
  obtain ⟨hid, hpre⟩ := hpre
  simp only [List.mem_cons, List.not_mem_nil, or_false] at hid
  have hpre : cR mem := hpre
  have hcr := hpre
  unfold cR at hcr
  subst hid
  refine ⟨zIf [(13, (fun nq ls st m => (ls 1).1 = 0 ∧ ls 0 = (2, 59) ∧ st = [] ∧ ((zfr 59 63 mem m) ∧ cR m ∧ m 59 4 = mem 59 4 ∧ 1 ≤ (ls 1).2 ∧ (ls 1).2 ≤ 60 ∧ (60 - (ls 1).2).toNat ≤ nq)))], zAllI_e (zAllI_c ?_ (zAllI_n)), ?_⟩
  · intro nn ls st mem1 hm1 hl1 hJ
    obtain ⟨ht1, h0, rfl, hc⟩ := hJ
    obtain ⟨x1, h1⟩ : ∃ x, ls 1 = (0, x) := ⟨_, Prod.ext ht1 rfl⟩
    simp only [h1] at hc
    obtain ⟨hc0, hc1, hc2, hc3, hc4, hc5⟩ := hc
    simp (maxSteps := 3000000) only [↓zwp_s, zrun_n, zrun_c, zgo_any, zgo_bel, ↓zgA_n, ↓zgA_c, ↓zgB_n, ↓zgB_c, ↓zp1_c, ↓zpv_c, ↓ztg_e, ↓zFv_r, ↓zFv_i, ↓zFv_z, ↓reduceIte, ↓zi_aload_n, ↓zi_getfield, ↓zi_goto, ↓zi_iconst, ↓zi_ifCond, ↓zi_if_icmp, ↓zi_iinc, ↓zi_iload_n, ↓zi_istore_n, ↓zi_pop, ↓zi_putfield, ↓zi_return_, zcmp_ge, zcmp_eq, ↓zpl_e pX5_26, ↓zpl_e pX5_33, ↓zo_59_0, ↓zo_59_1, ↓zo_59_2, ↓zo_59_3, ↓zo_59_4, ↓zo_59_5, ↓zo_59_6, ↓zo_59_7, ↓zo_59_8, ↓za_60, ↓za_61, ↓za_62, ↓za_63, bX5_spread_0, bX5_spread_13, bX5_spread_40, List.size_toArray, zent_n, zent_c, zst_e, zfi0, zfi1, zfi2, zfi3, zcast, Nat.reduceAdd, Nat.reduceSub, Nat.reduceEqDiff, Nat.reduceLT, Nat.reduceLeDiff, Int.reduceAdd, Int.reduceSub, Int.reduceMul, Int.reduceToNat, Int.reduceLE, Int.reduceLT, Int.reduceEq, Int.reduceNeg, Int.reduceNegSucc, Nat.reduceMul, List.zip_cons_cons, List.zip_nil_left, List.zip_nil_right, Int.toNat_natCast, true_and, and_true, eq_self, ne_eq, not_false_eq_true, not_true_eq_false, forall_const, implies_true, false_and, true_or, or_true, false_or, or_false, imp_self, CX5_spread, ↓zv_cg (cv := zCf VX5_spread) (k := 116) (h := (rfl : zCf VX5_spread 116 = some CX5_spreadAt)), and_imp, exists_eq_left, exists_eq_left', exists_eq_right, exists_eq_right', exists_and_left, exists_and_right, Prod.mk.injEq, zAdd_e, zSub_e, zMul_e, zres_0, zres_4, zres_1, zres_9, zrt_0, zrt_4, zrt_1, zrt_9, List.take_succ_cons, List.take_zero, List.drop_succ_cons, List.drop_zero, List.map_cons, List.map_nil, List.reverse_cons, List.reverse_nil, List.nil_append, List.cons_append, List.length_cons, List.length_nil, zPr_c, List.mem_cons, List.not_mem_nil, ↓zIV_e, zcats, List.sum_cons, List.sum_nil, zpu, zfu, zset_e, h1, h0]
    have hcr1 := hc1
    unfold cR at hcr1
    repeat' (first | exact zfr_rf _ _ _ | (refine zfr_st ?_ (by omega) (by omega)) | (refine zfr_cp ?_ (by omega) (by omega)) | (refine zfr_tr ?_ (by assumption)) | (refine zfr_tr ?_ (zfr_mono (by assumption) (by omega) (by omega))) | (refine And.intro ?_ ?_) | (intro _) | (refine Exists.intro (nn - 1) ?_) | (refine Exists.intro 5000000000 ?_) | fail)
    all_goals (try (simp only [zw] at *))
    all_goals (first | trivial | omega | exact (zAnd_b _).1 | exact (zAnd_b _).2 | assumption | (simp; omega) | skip)
    all_goals (first | exact hpre | (unfold cR; simp only [zset_e, reduceIte, Nat.reduceEqDiff, false_and]; omega) | (simp only [zset_e, reduceIte, Nat.reduceEqDiff, false_and]; done) | (simp only [zset_e, reduceIte, Nat.reduceEqDiff, false_and]; first | assumption | omega) | rfl | skip)
  · simp (maxSteps := 3000000) only [↓zwp_s, zrun_n, zrun_c, zgo_any, zgo_bel, ↓zgA_n, ↓zgA_c, ↓zgB_n, ↓zgB_c, ↓zp1_c, ↓zpv_c, ↓ztg_e, ↓zFv_r, ↓zFv_i, ↓zFv_z, ↓reduceIte, ↓zi_aload_n, ↓zi_getfield, ↓zi_goto, ↓zi_iconst, ↓zi_ifCond, ↓zi_if_icmp, ↓zi_iinc, ↓zi_iload_n, ↓zi_istore_n, ↓zi_pop, ↓zi_putfield, ↓zi_return_, zcmp_ge, zcmp_eq, ↓zpl_e pX5_26, ↓zpl_e pX5_33, ↓zo_59_0, ↓zo_59_1, ↓zo_59_2, ↓zo_59_3, ↓zo_59_4, ↓zo_59_5, ↓zo_59_6, ↓zo_59_7, ↓zo_59_8, ↓za_60, ↓za_61, ↓za_62, ↓za_63, bX5_spread_0, bX5_spread_13, bX5_spread_40, List.size_toArray, zent_n, zent_c, zst_e, zfi0, zfi1, zfi2, zfi3, zcast, Nat.reduceAdd, Nat.reduceSub, Nat.reduceEqDiff, Nat.reduceLT, Nat.reduceLeDiff, Int.reduceAdd, Int.reduceSub, Int.reduceMul, Int.reduceToNat, Int.reduceLE, Int.reduceLT, Int.reduceEq, Int.reduceNeg, Int.reduceNegSucc, Nat.reduceMul, List.zip_cons_cons, List.zip_nil_left, List.zip_nil_right, Int.toNat_natCast, true_and, and_true, eq_self, ne_eq, not_false_eq_true, not_true_eq_false, forall_const, implies_true, false_and, true_or, or_true, false_or, or_false, imp_self, CX5_spread, ↓zv_cg (cv := zCf VX5_spread) (k := 116) (h := (rfl : zCf VX5_spread 116 = some CX5_spreadAt)), and_imp, exists_eq_left, exists_eq_left', exists_eq_right, exists_eq_right', exists_and_left, exists_and_right, Prod.mk.injEq, zAdd_e, zSub_e, zMul_e, zres_0, zres_4, zres_1, zres_9, zrt_0, zrt_4, zrt_1, zrt_9, List.take_succ_cons, List.take_zero, List.drop_succ_cons, List.drop_zero, List.map_cons, List.map_nil, List.reverse_cons, List.reverse_nil, List.nil_append, List.cons_append, List.length_cons, List.length_nil, zPr_c, List.mem_cons, List.not_mem_nil, ↓zIV_e, zcats, List.sum_cons, List.sum_nil, zpu, zfu, zset_e]
    repeat' (first | exact zfr_rf _ _ _ | (refine zfr_st ?_ (by omega) (by omega)) | (refine zfr_cp ?_ (by omega) (by omega)) | (refine zfr_tr ?_ (by assumption)) | (refine zfr_tr ?_ (zfr_mono (by assumption) (by omega) (by omega))) | (refine And.intro ?_ ?_) | (intro _) | (refine Exists.intro (nn - 1) ?_) | (refine Exists.intro 5000000000 ?_) | fail)
    all_goals (try (simp only [zw] at *))
    all_goals (first | trivial | omega | exact (zAnd_b _).1 | exact (zAnd_b _).2 | assumption | (simp; omega) | skip)
    all_goals (first | exact hpre | (unfold cR; simp only [zset_e, reduceIte, Nat.reduceEqDiff, false_and]; omega) | (simp only [zset_e, reduceIte, Nat.reduceEqDiff, false_and]; done) | (simp only [zset_e, reduceIte, Nat.reduceEqDiff, false_and]; first | assumption | omega) | rfl | skip)
def CX5_takeAnew : zCt := ([2], 4, zPr [59] (fun vs mem => match vs with | [t] => (cR mem) | _ => False), (fun vs mem r mem' => match vs with | [t] => (zfr 59 63 mem mem' ∧ mem' 59 6 = mem 59 6 ∧ mem' 59 4 = mem 59 4 ∧ (r = 0 ∨ r = 1)) | _ => False))
def VX5_takeAnew : List (Nat × zCt) := [(119, CX5_bestStep)]
def SX5_takeAnew : List (Nat × zCt) := []
set_option maxHeartbeats 8000000 in
set_option maxRecDepth 100000 in
theorem mX5_takeAnew (l : Launch) : zMet l zLay yX5_takeAnew cX5_takeAnew 5 (some .boolean) 3 CX5_takeAnew.1 CX5_takeAnew.2.1 CX5_takeAnew.2.2.1 CX5_takeAnew.2.2.2 := by
  refine zMet_of (pl := zPlf PX5) (cv := zCf VX5_takeAnew) (cS := zCf SX5_takeAnew) (B := zBf BX5_takeAnew) (F := 80) (own := RX5) (by decide +kernel) rfl (Or.inr (Or.inl ⟨rfl, rfl⟩)) (fun vs h => by obtain ⟨t, rfl⟩ := zlen1 h; exact Nat.le_of_ble_eq_true rfl) PX5_ok zClok_ok zSyok_ok oX5_takeAnew (zAllC_e (zAllC_c (Or.inl (zcal_v (mX5_bestStep l) (by decide) (by decide) hX5_bestStep kX5_119 ⟨by decide, by decide +kernel⟩ (ci := 5) rfl rfl rfl)) (zAllC_n))) (zAllC_e (zAllC_n)) ?_
  intro vs mem hvl hok hm hpre
  obtain ⟨t, rfl⟩ := zlen1 hvl
  clear hok hvl
  obtain ⟨hid, hpre⟩ := hpre
  simp only [List.mem_cons, List.not_mem_nil, or_false] at hid
  have hpre : cR mem := hpre
  have hcr := hpre
  unfold cR at hcr
  subst hid
  refine ⟨zIf [(4, (fun nq ls st m => (ls 1).1 = 0 ∧ (ls 2).1 = 0 ∧ ls 0 = (2, 59) ∧ st = [] ∧ ((zfr 59 63 mem m) ∧ m 59 6 = mem 59 6 ∧ m 59 4 = mem 59 4 ∧ 0 ≤ (ls 2).2 ∧ (ls 2).2 ≤ 100 ∧ ((ls 1).2 = 0 ∨ (ls 1).2 = 1) ∧ (100 - (ls 2).2).toNat ≤ nq)))], zAllI_e (zAllI_c ?_ (zAllI_n)), ?_⟩
  · intro nn ls st mem1 hm1 hl1 hJ
    obtain ⟨ht1, ht2, h0, rfl, hc⟩ := hJ
    obtain ⟨x1, h1⟩ : ∃ x, ls 1 = (0, x) := ⟨_, Prod.ext ht1 rfl⟩
    obtain ⟨x2, h2⟩ : ∃ x, ls 2 = (0, x) := ⟨_, Prod.ext ht2 rfl⟩
    simp only [h1, h2] at hc
    obtain ⟨hc0, hc1, hc2, hc3, hc4, hc5, hc6⟩ := hc
    simp (maxSteps := 3000000) only [↓zwp_s, zrun_n, zrun_c, zgo_any, zgo_bel, ↓zgA_n, ↓zgA_c, ↓zgB_n, ↓zgB_c, ↓zp1_c, ↓zpv_c, ↓ztg_e, ↓zFv_r, ↓zFv_i, ↓zFv_z, ↓reduceIte, ↓zi_aload_n, ↓zi_baload, ↓zi_bipush, ↓zi_getfield, ↓zi_goto, ↓zi_iaload, ↓zi_iconst, ↓zi_ifCond, ↓zi_if_icmp, ↓zi_iinc, ↓zi_iload_n, ↓zi_ireturn, ↓zi_istore_n, ↓zi_isub, ↓zi_laload, ↓zi_lastore, ↓zi_lcmp, ↓zi_lload_n, ↓zi_lstore_n, zcmp_ge, zcmp_eq, zcmp_le, zst2_e, zcmp_ne, ↓zpl_e pX5_15, ↓zpl_e pX5_19, ↓zpl_e pX5_23, ↓zpl_e pX5_26, ↓zo_59_0, ↓zo_59_1, ↓zo_59_2, ↓zo_59_3, ↓zo_59_4, ↓zo_59_5, ↓zo_59_6, ↓zo_59_7, ↓zo_59_8, ↓za_60, ↓za_61, ↓za_62, ↓za_63, bX5_takeAnew_0, bX5_takeAnew_4, bX5_takeAnew_57, bX5_takeAnew_61, bX5_takeAnew_62, bX5_takeAnew_70, bX5_takeAnew_76, List.size_toArray, zent_n, zent_c, zst_e, zfi0, zfi1, zfi2, zfi3, zcast, Nat.reduceAdd, Nat.reduceSub, Nat.reduceEqDiff, Nat.reduceLT, Nat.reduceLeDiff, Int.reduceAdd, Int.reduceSub, Int.reduceMul, Int.reduceToNat, Int.reduceLE, Int.reduceLT, Int.reduceEq, Int.reduceNeg, Int.reduceNegSucc, Nat.reduceMul, List.zip_cons_cons, List.zip_nil_left, List.zip_nil_right, Int.toNat_natCast, true_and, and_true, eq_self, ne_eq, not_false_eq_true, not_true_eq_false, forall_const, implies_true, false_and, true_or, or_true, false_or, or_false, imp_self, CX5_takeAnew, ↓zv_cp (cv := zCf VX5_takeAnew) (k := 119) (h := (rfl : zCf VX5_takeAnew 119 = some CX5_bestStep)), and_imp, exists_eq_left, exists_eq_left', exists_eq_right, exists_eq_right', exists_and_left, exists_and_right, Prod.mk.injEq, zAdd_e, zSub_e, zMul_e, zres_0, zres_4, zres_1, zres_9, zrt_0, zrt_4, zrt_1, zrt_9, List.take_succ_cons, List.take_zero, List.drop_succ_cons, List.drop_zero, List.map_cons, List.map_nil, List.reverse_cons, List.reverse_nil, List.nil_append, List.cons_append, List.length_cons, List.length_nil, zPr_c, List.mem_cons, List.not_mem_nil, ↓zIV_e, zcats, List.sum_cons, List.sum_nil, zpu, zfu, zset_e, h1, h2, h0]
    have hcr1 : cR mem1 := by unfold cR; rw [hc1, hc2]; exact hcr
    unfold cR at hcr1
    repeat' (first | exact zfr_rf _ _ _ | (refine zfr_st ?_ (by omega) (by omega)) | (refine zfr_cp ?_ (by omega) (by omega)) | (refine zfr_tr ?_ (by assumption)) | (refine zfr_tr ?_ (zfr_mono (by assumption) (by omega) (by omega))) | (refine And.intro ?_ ?_) | (intro _) | (refine Exists.intro (nn - 1) ?_) | (refine Exists.intro 5000000000 ?_) | fail)
    all_goals (try (simp only [zw] at *))
    all_goals (first | trivial | omega | exact (zAnd_b _).1 | exact (zAnd_b _).2 | assumption | (simp; omega) | skip)
    all_goals (first | exact hpre | (unfold cR; simp only [zset_e, reduceIte, Nat.reduceEqDiff, false_and]; omega) | (simp only [zset_e, reduceIte, Nat.reduceEqDiff, false_and]; done) | (simp only [zset_e, reduceIte, Nat.reduceEqDiff, false_and]; first | assumption | omega) | rfl | skip)
  · simp (maxSteps := 3000000) only [↓zwp_s, zrun_n, zrun_c, zgo_any, zgo_bel, ↓zgA_n, ↓zgA_c, ↓zgB_n, ↓zgB_c, ↓zp1_c, ↓zpv_c, ↓ztg_e, ↓zFv_r, ↓zFv_i, ↓zFv_z, ↓reduceIte, ↓zi_aload_n, ↓zi_baload, ↓zi_bipush, ↓zi_getfield, ↓zi_goto, ↓zi_iaload, ↓zi_iconst, ↓zi_ifCond, ↓zi_if_icmp, ↓zi_iinc, ↓zi_iload_n, ↓zi_ireturn, ↓zi_istore_n, ↓zi_isub, ↓zi_laload, ↓zi_lastore, ↓zi_lcmp, ↓zi_lload_n, ↓zi_lstore_n, zcmp_ge, zcmp_eq, zcmp_le, zst2_e, zcmp_ne, ↓zpl_e pX5_15, ↓zpl_e pX5_19, ↓zpl_e pX5_23, ↓zpl_e pX5_26, ↓zo_59_0, ↓zo_59_1, ↓zo_59_2, ↓zo_59_3, ↓zo_59_4, ↓zo_59_5, ↓zo_59_6, ↓zo_59_7, ↓zo_59_8, ↓za_60, ↓za_61, ↓za_62, ↓za_63, bX5_takeAnew_0, bX5_takeAnew_4, bX5_takeAnew_57, bX5_takeAnew_61, bX5_takeAnew_62, bX5_takeAnew_70, bX5_takeAnew_76, List.size_toArray, zent_n, zent_c, zst_e, zfi0, zfi1, zfi2, zfi3, zcast, Nat.reduceAdd, Nat.reduceSub, Nat.reduceEqDiff, Nat.reduceLT, Nat.reduceLeDiff, Int.reduceAdd, Int.reduceSub, Int.reduceMul, Int.reduceToNat, Int.reduceLE, Int.reduceLT, Int.reduceEq, Int.reduceNeg, Int.reduceNegSucc, Nat.reduceMul, List.zip_cons_cons, List.zip_nil_left, List.zip_nil_right, Int.toNat_natCast, true_and, and_true, eq_self, ne_eq, not_false_eq_true, not_true_eq_false, forall_const, implies_true, false_and, true_or, or_true, false_or, or_false, imp_self, CX5_takeAnew, ↓zv_cp (cv := zCf VX5_takeAnew) (k := 119) (h := (rfl : zCf VX5_takeAnew 119 = some CX5_bestStep)), and_imp, exists_eq_left, exists_eq_left', exists_eq_right, exists_eq_right', exists_and_left, exists_and_right, Prod.mk.injEq, zAdd_e, zSub_e, zMul_e, zres_0, zres_4, zres_1, zres_9, zrt_0, zrt_4, zrt_1, zrt_9, List.take_succ_cons, List.take_zero, List.drop_succ_cons, List.drop_zero, List.map_cons, List.map_nil, List.reverse_cons, List.reverse_nil, List.nil_append, List.cons_append, List.length_cons, List.length_nil, zPr_c, List.mem_cons, List.not_mem_nil, ↓zIV_e, zcats, List.sum_cons, List.sum_nil, zpu, zfu, zset_e]
    repeat' (first | exact zfr_rf _ _ _ | (refine zfr_st ?_ (by omega) (by omega)) | (refine zfr_cp ?_ (by omega) (by omega)) | (refine zfr_tr ?_ (by assumption)) | (refine zfr_tr ?_ (zfr_mono (by assumption) (by omega) (by omega))) | (refine And.intro ?_ ?_) | (intro _) | (refine Exists.intro (nn - 1) ?_) | (refine Exists.intro 5000000000 ?_) | fail)
    all_goals (try (simp only [zw] at *))
    all_goals (first | trivial | omega | exact (zAnd_b _).1 | exact (zAnd_b _).2 | assumption | (simp; omega) | skip)
    all_goals (first | exact hpre | (unfold cR; simp only [zset_e, reduceIte, Nat.reduceEqDiff, false_and]; omega) | (simp only [zset_e, reduceIte, Nat.reduceEqDiff, false_and]; done) | (simp only [zset_e, reduceIte, Nat.reduceEqDiff, false_and]; first | assumption | omega) | rfl | skip)
