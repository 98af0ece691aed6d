def CX11_isBuried : zCt := ([2, 0], 4, zPr [80] (fun vs mem => match vs with | [t, p] => (0 ≤ p ∧ p < 16 ∧ 0 ≤ mem 81 (196 + p).toNat ∧ mem 81 (196 + p).toNat < 16 ∧ -20 ≤ mem 81 (120 + 4 * mem 81 (196 + p).toNat + 3).toNat ∧ mem 81 (120 + 4 * mem 81 (196 + p).toNat + 3).toNat < 5897) | _ => False), zpu (fun vs mem r => match vs with | [t, p] => ((r = 0 ∧ ¬ zbur (mem 81) p) ∨ (r = 1 ∧ zbur (mem 81) p)) | _ => False))
def VX11_isBuried : List (Nat × zCt) := [(245, CX11_cellAt), (262, CX11_kindAt)]
def SX11_isBuried : List (Nat × zCt) := []
set_option maxHeartbeats 1000000 in
set_option maxRecDepth 100000 in
theorem mX11_isBuried (l : Launch) : zMet l zLay yX11_isBuried cX11_isBuried 2 (some .boolean) 2 CX11_isBuried.1 CX11_isBuried.2.1 CX11_isBuried.2.2.1 CX11_isBuried.2.2.2 := by
  refine zMet_of (pl := zPlf PX11) (cv := zCf VX11_isBuried) (cS := zCf SX11_isBuried) (B := zBf BX11_isBuried) (F := 80) (own := RX11) (by decide +kernel) rfl (Or.inr (Or.inl ⟨rfl, rfl⟩)) (fun vs h => by obtain ⟨t, p, rfl⟩ := zlen2 h; exact Nat.le_of_ble_eq_true rfl) PX11_ok zClok_ok zSyok_ok oX11_isBuried (zAllC_e (zAllC_c (Or.inl (zcal_v (mX11_cellAt l) (by decide) (by decide) hX11_cellAt kX11_245 ⟨by decide, by decide +kernel⟩ (ci := 11) rfl rfl rfl)) (zAllC_c (Or.inl (zcal_v (mX11_kindAt l) (by decide) (by decide) hX11_kindAt kX11_262 ⟨by decide, by decide +kernel⟩ (ci := 11) rfl rfl rfl)) (zAllC_n)))) (zAllC_e (zAllC_n)) ?_
  intro vs mem hvl hok hm hpre
  obtain ⟨t, p, rfl⟩ := zlen2 hvl
  have hr_p : -2147483648 ≤ p ∧ p ≤ 2147483647 := (hok (0, p) (by simp [CX11_isBuried])).1 rfl
  clear hok hvl
  obtain ⟨hid, hpre⟩ := hpre
  simp only [List.mem_cons, List.not_mem_nil, or_false] at hid
  have hpre : 0 ≤ p ∧ p < 16 ∧ 0 ≤ mem 81 (196 + p).toNat ∧ mem 81 (196 + p).toNat < 16 ∧ -20 ≤ mem 81 (120 + 4 * mem 81 (196 + p).toNat + 3).toNat ∧ mem 81 (120 + 4 * mem 81 (196 + p).toNat + 3).toNat < 5897 := hpre
  subst hid
  refine ⟨zIf [], zAllI_e zAllI_n, ?_⟩
  simp (maxSteps := 3000000) only [↓zwp_s, zrun_n, zrun_c, zgo_any, zgo_bel, ↓zgA_n, ↓zgA_c, ↓zgB_n, ↓zgB_c, ↓zp1_c, ↓zpv_c, ↓ztg_e, ↓zFv_r, ↓zFv_i, ↓zFv_z, ↓reduceIte, ↓zi_aload_n, ↓zi_goto, ↓zi_iconst, ↓zi_if_icmp, ↓zi_iload_n, ↓zi_ireturn, zcmp_ne, ↓zo_80_0, ↓zo_80_1, ↓zo_80_2, ↓zo_80_3, ↓zo_80_4, ↓zo_80_5, ↓zo_80_6, ↓zo_80_7, ↓zo_80_8, ↓zo_80_9, ↓zo_80_10, ↓zo_80_11, ↓zo_80_12, ↓zo_80_13, ↓zo_80_14, ↓zo_80_15, ↓zo_80_16, ↓zo_80_17, ↓zo_80_18, ↓zo_80_19, ↓zo_80_20, ↓zo_80_21, ↓zo_80_22, ↓zo_80_23, ↓zo_80_24, ↓za_81, bX11_isBuried_0, bX11_isBuried_17, bX11_isBuried_18, List.size_toArray, zent_n, zent_c, zst_e, zfi0, zfi1, zfi2, zfi3, zcast, Nat.reduceAdd, Nat.reduceSub, Nat.reduceEqDiff, Nat.reduceLT, Nat.reduceLeDiff, Int.reduceAdd, Int.reduceSub, Int.reduceMul, Int.reduceToNat, Int.reduceLE, Int.reduceLT, Int.reduceEq, Int.reduceNeg, Int.reduceNegSucc, Nat.reduceMul, List.zip_cons_cons, List.zip_nil_left, List.zip_nil_right, Int.toNat_natCast, true_and, and_true, eq_self, ne_eq, not_false_eq_true, not_true_eq_false, forall_const, implies_true, false_and, true_or, or_true, false_or, or_false, imp_self, CX11_isBuried, ↓zv_cf (cv := zCf VX11_isBuried) (k := 245) (h := (rfl : zCf VX11_isBuried 245 = some CX11_cellAt)), ↓zv_cf (cv := zCf VX11_isBuried) (k := 262) (h := (rfl : zCf VX11_isBuried 262 = some CX11_kindAt)), and_imp, exists_eq_left, exists_eq_left', exists_eq_right, exists_eq_right', exists_and_left, exists_and_right, Prod.mk.injEq, zAdd_e, zSub_e, zMul_e, zres_0, zres_4, zres_1, zres_9, zrt_0, zrt_4, zrt_1, zrt_9, List.take_succ_cons, List.take_zero, List.drop_succ_cons, List.drop_zero, List.map_cons, List.map_nil, List.reverse_cons, List.reverse_nil, List.nil_append, List.cons_append, List.length_cons, List.length_nil, zPr_c, List.mem_cons, List.not_mem_nil, ↓zIV_e, zcats, List.sum_cons, List.sum_nil, zpu, zfu, zset_e]
  repeat' (first | exact zfr_rf _ _ _ | (refine zfr_st ?_ (by omega) (by omega)) | (refine zfr_cp ?_ (by omega) (by omega)) | (refine zfr_tr ?_ (by assumption)) | (refine zfr_tr ?_ (zfr_mono (by assumption) (by omega) (by omega))) | (refine And.intro ?_ ?_) | (intro _) | (refine Exists.intro (nn - 1) ?_) | (refine Exists.intro 5000000000 ?_) | fail)
  all_goals (first | trivial | omega | (unfold zbur at *; omega) | skip)
def CX11_widthAt : zCt := ([2, 0], 0, zPr [80] (fun vs mem => match vs with | [t, p] => (0 ≤ p ∧ p < 16 ∧ 0 ≤ mem 81 (196 + p).toNat ∧ mem 81 (196 + p).toNat < 16) | _ => False), zpu (fun vs mem r => match vs with | [t, p] => (r = mem 81 (120 + 4 * mem 81 (196 + p).toNat + 1).toNat) | _ => False))
def VX11_widthAt : List (Nat × zCt) := [(236, CX11_railAt), (239, CX11_ofRail)]
def SX11_widthAt : List (Nat × zCt) := []
set_option maxHeartbeats 1000000 in
set_option maxRecDepth 100000 in
theorem mX11_widthAt (l : Launch) : zMet l zLay yX11_widthAt cX11_widthAt 2 (some .int) 1 CX11_widthAt.1 CX11_widthAt.2.1 CX11_widthAt.2.2.1 CX11_widthAt.2.2.2 := by
  refine zMet_of (pl := zPlf PX11) (cv := zCf VX11_widthAt) (cS := zCf SX11_widthAt) (B := zBf BX11_widthAt) (F := 80) (own := RX11) (by decide +kernel) rfl (Or.inl ⟨rfl, rfl⟩) (fun vs h => by obtain ⟨t, p, rfl⟩ := zlen2 h; exact Nat.le_of_ble_eq_true rfl) PX11_ok zClok_ok zSyok_ok oX11_widthAt (zAllC_e (zAllC_c (Or.inl (zcal_v (mX11_railAt l) (by decide) (by decide) hX11_railAt kX11_236 ⟨by decide, by decide +kernel⟩ (ci := 11) rfl rfl rfl)) (zAllC_c (Or.inl (zcal_v (mX11_ofRail l) (by decide) (by decide) hX11_ofRail kX11_239 ⟨by decide, by decide +kernel⟩ (ci := 11) rfl rfl rfl)) (zAllC_n)))) (zAllC_e (zAllC_n)) ?_
  intro vs mem hvl hok hm hpre
  obtain ⟨t, p, rfl⟩ := zlen2 hvl
  have hr_p : -2147483648 ≤ p ∧ p ≤ 2147483647 := (hok (0, p) (by simp [CX11_widthAt])).1 rfl
  clear hok hvl
  obtain ⟨hid, hpre⟩ := hpre
  simp only [List.mem_cons, List.not_mem_nil, or_false] at hid
  have hpre : 0 ≤ p ∧ p < 16 ∧ 0 ≤ mem 81 (196 + p).toNat ∧ mem 81 (196 + p).toNat < 16 := hpre
  subst hid
  refine ⟨zIf [], zAllI_e zAllI_n, ?_⟩
  simp (maxSteps := 3000000) only [↓zwp_s, zrun_n, zrun_c, zgo_any, zgo_bel, ↓zgA_n, ↓zgA_c, ↓zgB_n, ↓zgB_c, ↓zp1_c, ↓zpv_c, ↓ztg_e, ↓zFv_r, ↓zFv_i, ↓zFv_z, ↓reduceIte, ↓zi_aload_n, ↓zi_iconst, ↓zi_iload_n, ↓zi_ireturn, ↓zo_80_0, ↓zo_80_1, ↓zo_80_2, ↓zo_80_3, ↓zo_80_4, ↓zo_80_5, ↓zo_80_6, ↓zo_80_7, ↓zo_80_8, ↓zo_80_9, ↓zo_80_10, ↓zo_80_11, ↓zo_80_12, ↓zo_80_13, ↓zo_80_14, ↓zo_80_15, ↓zo_80_16, ↓zo_80_17, ↓zo_80_18, ↓zo_80_19, ↓zo_80_20, ↓zo_80_21, ↓zo_80_22, ↓zo_80_23, ↓zo_80_24, ↓za_81, bX11_widthAt_0, List.size_toArray, zent_n, zent_c, zst_e, zfi0, zfi1, zfi2, zfi3, zcast, Nat.reduceAdd, Nat.reduceSub, Nat.reduceEqDiff, Nat.reduceLT, Nat.reduceLeDiff, Int.reduceAdd, Int.reduceSub, Int.reduceMul, Int.reduceToNat, Int.reduceLE, Int.reduceLT, Int.reduceEq, Int.reduceNeg, Int.reduceNegSucc, Nat.reduceMul, List.zip_cons_cons, List.zip_nil_left, List.zip_nil_right, Int.toNat_natCast, true_and, and_true, eq_self, ne_eq, not_false_eq_true, not_true_eq_false, forall_const, implies_true, false_and, true_or, or_true, false_or, or_false, imp_self, CX11_widthAt, ↓zv_cf (cv := zCf VX11_widthAt) (k := 236) (h := (rfl : zCf VX11_widthAt 236 = some CX11_railAt)), ↓zv_cf (cv := zCf VX11_widthAt) (k := 239) (h := (rfl : zCf VX11_widthAt 239 = some CX11_ofRail)), and_imp, exists_eq_left, exists_eq_left', exists_eq_right, exists_eq_right', exists_and_left, exists_and_right, Prod.mk.injEq, zAdd_e, zSub_e, zMul_e, zres_0, zres_4, zres_1, zres_9, zrt_0, zrt_4, zrt_1, zrt_9, List.take_succ_cons, List.take_zero, List.drop_succ_cons, List.drop_zero, List.map_cons, List.map_nil, List.reverse_cons, List.reverse_nil, List.nil_append, List.cons_append, List.length_cons, List.length_nil, zPr_c, List.mem_cons, List.not_mem_nil, ↓zIV_e, zcats, List.sum_cons, List.sum_nil, zpu, zfu, zset_e]
  repeat' (first | exact zfr_rf _ _ _ | (refine zfr_st ?_ (by omega) (by omega)) | (refine zfr_cp ?_ (by omega) (by omega)) | (refine zfr_tr ?_ (by assumption)) | (refine zfr_tr ?_ (zfr_mono (by assumption) (by omega) (by omega))) | (refine And.intro ?_ ?_) | (intro _) | (refine Exists.intro (nn - 1) ?_) | (refine Exists.intro 5000000000 ?_) | fail)
  all_goals (try (simp only [zw] at *))
  all_goals (first | trivial | omega | exact (zAnd_b _).1 | exact (zAnd_b _).2 | assumption | (simp; omega) | skip)
def CX11_noRail : zCt := ([2, 0], 4, zPr [80] (fun vs mem => match vs with | [t, q] => (True) | _ => False), zpu (fun vs mem r => match vs with | [t, q] => ((r = 0 ∨ r = 1) ∧ (r = 0 → 0 ≤ q ∧ q ≤ zw (mem 81 15 - 1))) | _ => False))
def VX11_noRail : List (Nat × zCt) := []
def SX11_noRail : List (Nat × zCt) := [(232, CX11_in)]
set_option maxHeartbeats 1000000 in
set_option maxRecDepth 100000 in
theorem mX11_noRail (l : Launch) : zMet l zLay yX11_noRail cX11_noRail 2 (some .boolean) 1 CX11_noRail.1 CX11_noRail.2.1 CX11_noRail.2.2.1 CX11_noRail.2.2.2 := by
  refine zMet_of (pl := zPlf PX11) (cv := zCf VX11_noRail) (cS := zCf SX11_noRail) (B := zBf BX11_noRail) (F := 80) (own := RX11) (by decide +kernel) rfl (Or.inr (Or.inl ⟨rfl, rfl⟩)) (fun vs h => by obtain ⟨t, q, rfl⟩ := zlen2 h; exact Nat.le_of_ble_eq_true rfl) PX11_ok zClok_ok zSyok_ok oX11_noRail (zAllC_e (zAllC_n)) (zAllC_e (zAllC_c (zcal_s (mX11_in l) (by decide) (by decide) hX11_in kX11_232 ⟨by decide, by decide +kernel⟩) (zAllC_n))) ?_
  intro vs mem hvl hok hm hpre
  obtain ⟨t, q, rfl⟩ := zlen2 hvl
  have hr_q : -2147483648 ≤ q ∧ q ≤ 2147483647 := (hok (0, q) (by simp [CX11_noRail])).1 rfl
  clear hok hvl
  obtain ⟨hid, hpre⟩ := hpre
  simp only [List.mem_cons, List.not_mem_nil, or_false] at hid
  have hpre : True := hpre
  subst hid
  refine ⟨zIf [], zAllI_e zAllI_n, ?_⟩
  simp (maxSteps := 3000000) only [↓zwp_s, zrun_n, zrun_c, zgo_any, zgo_bel, ↓zgA_n, ↓zgA_c, ↓zgB_n, ↓zgB_c, ↓zp1_c, ↓zpv_c, ↓ztg_e, ↓zFv_r, ↓zFv_i, ↓zFv_z, ↓reduceIte, ↓zi_aload_n, ↓zi_bipush, ↓zi_getfield, ↓zi_goto, ↓zi_iaload, ↓zi_iconst, ↓zi_ifCond, ↓zi_iload_n, ↓zi_ireturn, ↓zi_isub, zcmp_ne, ↓zpl_e pX11_13, ↓zo_80_0, ↓zo_80_1, ↓zo_80_2, ↓zo_80_3, ↓zo_80_4, ↓zo_80_5, ↓zo_80_6, ↓zo_80_7, ↓zo_80_8, ↓zo_80_9, ↓zo_80_10, ↓zo_80_11, ↓zo_80_12, ↓zo_80_13, ↓zo_80_14, ↓zo_80_15, ↓zo_80_16, ↓zo_80_17, ↓zo_80_18, ↓zo_80_19, ↓zo_80_20, ↓zo_80_21, ↓zo_80_22, ↓zo_80_23, ↓zo_80_24, ↓za_81, bX11_noRail_0, bX11_noRail_21, bX11_noRail_22, List.size_toArray, zent_n, zent_c, zst_e, zfi0, zfi1, zfi2, zfi3, zcast, Nat.reduceAdd, Nat.reduceSub, Nat.reduceEqDiff, Nat.reduceLT, Nat.reduceLeDiff, Int.reduceAdd, Int.reduceSub, Int.reduceMul, Int.reduceToNat, Int.reduceLE, Int.reduceLT, Int.reduceEq, Int.reduceNeg, Int.reduceNegSucc, Nat.reduceMul, List.zip_cons_cons, List.zip_nil_left, List.zip_nil_right, Int.toNat_natCast, true_and, and_true, eq_self, ne_eq, not_false_eq_true, not_true_eq_false, forall_const, implies_true, false_and, true_or, or_true, false_or, or_false, imp_self, CX11_noRail, ↓zs_cf (cS := zCf SX11_noRail) (pl := zPlf PX11) (k := 232) (h := (rfl : zCf SX11_noRail 232 = some CX11_in)) (h2 := rfl), and_imp, exists_eq_left, exists_eq_left', exists_eq_right, exists_eq_right', exists_and_left, exists_and_right, Prod.mk.injEq, zAdd_e, zSub_e, zMul_e, zres_0, zres_4, zres_1, zres_9, zrt_0, zrt_4, zrt_1, zrt_9, List.take_succ_cons, List.take_zero, List.drop_succ_cons, List.drop_zero, List.map_cons, List.map_nil, List.reverse_cons, List.reverse_nil, List.nil_append, List.cons_append, List.length_cons, List.length_nil, zPr_c, List.mem_cons, List.not_mem_nil, ↓zIV_e, zcats, List.sum_cons, List.sum_nil, zpu, zfu, zset_e]
  repeat' (first | exact zfr_rf _ _ _ | (refine zfr_st ?_ (by omega) (by omega)) | (refine zfr_cp ?_ (by omega) (by omega)) | (refine zfr_tr ?_ (by assumption)) | (refine zfr_tr ?_ (zfr_mono (by assumption) (by omega) (by omega))) | (refine And.intro ?_ ?_) | (intro _) | (refine Exists.intro (nn - 1) ?_) | (refine Exists.intro 5000000000 ?_) | fail)
  all_goals (try (simp only [zw] at *))
  all_goals (first | trivial | omega | exact (zAnd_b _).1 | exact (zAnd_b _).2 | assumption | (simp; omega) | skip)
def CX11_isThere : zCt := ([2, 0], 4, zPr [80] (fun vs mem => match vs with | [t, q] => (0 ≤ q ∧ q < 16) | _ => False), zpu (fun vs mem r => match vs with | [t, q] => (r = 0 ∨ r = 1) | _ => False))
def VX11_isThere : List (Nat × zCt) := [(239, CX11_ofRail)]
def SX11_isThere : List (Nat × zCt) := []
set_option maxHeartbeats 1000000 in
set_option maxRecDepth 100000 in
theorem mX11_isThere (l : Launch) : zMet l zLay yX11_isThere cX11_isThere 2 (some .boolean) 1 CX11_isThere.1 CX11_isThere.2.1 CX11_isThere.2.2.1 CX11_isThere.2.2.2 := by
  refine zMet_of (pl := zPlf PX11) (cv := zCf VX11_isThere) (cS := zCf SX11_isThere) (B := zBf BX11_isThere) (F := 80) (own := RX11) (by decide +kernel) rfl (Or.inr (Or.inl ⟨rfl, rfl⟩)) (fun vs h => by obtain ⟨t, q, rfl⟩ := zlen2 h; exact Nat.le_of_ble_eq_true rfl) PX11_ok zClok_ok zSyok_ok oX11_isThere (zAllC_e (zAllC_c (Or.inl (zcal_v (mX11_ofRail l) (by decide) (by decide) hX11_ofRail kX11_239 ⟨by decide, by decide +kernel⟩ (ci := 11) rfl rfl rfl)) (zAllC_n))) (zAllC_e (zAllC_n)) ?_
  intro vs mem hvl hok hm hpre
  obtain ⟨t, q, rfl⟩ := zlen2 hvl
  have hr_q : -2147483648 ≤ q ∧ q ≤ 2147483647 := (hok (0, q) (by simp [CX11_isThere])).1 rfl
  clear hok hvl
  obtain ⟨hid, hpre⟩ := hpre
  simp only [List.mem_cons, List.not_mem_nil, or_false] at hid
  have hpre : 0 ≤ q ∧ q < 16 := hpre
  subst hid
  refine ⟨zIf [], zAllI_e zAllI_n, ?_⟩
  simp (maxSteps := 3000000) only [↓zwp_s, zrun_n, zrun_c, zgo_any, zgo_bel, ↓zgA_n, ↓zgA_c, ↓zgB_n, ↓zgB_c, ↓zp1_c, ↓zpv_c, ↓ztg_e, ↓zFv_r, ↓zFv_i, ↓zFv_z, ↓reduceIte, ↓zi_aload_n, ↓zi_goto, ↓zi_iconst, ↓zi_if_icmp, ↓zi_iload_n, ↓zi_ireturn, zcmp_gt, ↓zo_80_0, ↓zo_80_1, ↓zo_80_2, ↓zo_80_3, ↓zo_80_4, ↓zo_80_5, ↓zo_80_6, ↓zo_80_7, ↓zo_80_8, ↓zo_80_9, ↓zo_80_10, ↓zo_80_11, ↓zo_80_12, ↓zo_80_13, ↓zo_80_14, ↓zo_80_15, ↓zo_80_16, ↓zo_80_17, ↓zo_80_18, ↓zo_80_19, ↓zo_80_20, ↓zo_80_21, ↓zo_80_22, ↓zo_80_23, ↓zo_80_24, ↓za_81, bX11_isThere_0, bX11_isThere_14, bX11_isThere_15, List.size_toArray, zent_n, zent_c, zst_e, zfi0, zfi1, zfi2, zfi3, zcast, Nat.reduceAdd, Nat.reduceSub, Nat.reduceEqDiff, Nat.reduceLT, Nat.reduceLeDiff, Int.reduceAdd, Int.reduceSub, Int.reduceMul, Int.reduceToNat, Int.reduceLE, Int.reduceLT, Int.reduceEq, Int.reduceNeg, Int.reduceNegSucc, Nat.reduceMul, List.zip_cons_cons, List.zip_nil_left, List.zip_nil_right, Int.toNat_natCast, true_and, and_true, eq_self, ne_eq, not_false_eq_true, not_true_eq_false, forall_const, implies_true, false_and, true_or, or_true, false_or, or_false, imp_self, CX11_isThere, ↓zv_cf (cv := zCf VX11_isThere) (k := 239) (h := (rfl : zCf VX11_isThere 239 = some CX11_ofRail)), and_imp, exists_eq_left, exists_eq_left', exists_eq_right, exists_eq_right', exists_and_left, exists_and_right, Prod.mk.injEq, zAdd_e, zSub_e, zMul_e, zres_0, zres_4, zres_1, zres_9, zrt_0, zrt_4, zrt_1, zrt_9, List.take_succ_cons, List.take_zero, List.drop_succ_cons, List.drop_zero, List.map_cons, List.map_nil, List.reverse_cons, List.reverse_nil, List.nil_append, List.cons_append, List.length_cons, List.length_nil, zPr_c, List.mem_cons, List.not_mem_nil, ↓zIV_e, zcats, List.sum_cons, List.sum_nil, zpu, zfu, zset_e]
  repeat' (first | exact zfr_rf _ _ _ | (refine zfr_st ?_ (by omega) (by omega)) | (refine zfr_cp ?_ (by omega) (by omega)) | (refine zfr_tr ?_ (by assumption)) | (refine zfr_tr ?_ (zfr_mono (by assumption) (by omega) (by omega))) | (refine And.intro ?_ ?_) | (intro _) | (refine Exists.intro (nn - 1) ?_) | (refine Exists.intro 5000000000 ?_) | fail)
  all_goals (try (simp only [zw] at *))
  all_goals (first | trivial | omega | exact (zAnd_b _).1 | exact (zAnd_b _).2 | assumption | (simp; omega) | skip)
