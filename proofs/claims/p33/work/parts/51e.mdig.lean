def CX11_mayFill : zCt := ([2], 4, zPr [80] (fun vs mem => match vs with | [t] => (zMi (mem 81)) | _ => False), zbo (fun vs mem => match vs with | [t] => (True) | _ => False) (fun vs mem => match vs with | [t] => (True) | _ => False))
def VX11_mayFill : List (Nat × zCt) := [(245, CX11_cellAt), (272, CX11_isSet), (338, CX11_front), (356, CX11_isByWell)]
def SX11_mayFill : List (Nat × zCt) := []
set_option maxHeartbeats 4000000 in
set_option maxRecDepth 100000 in
theorem mX11_mayFill (l : Launch) : zMet l zLay yX11_mayFill cX11_mayFill 3 (some .boolean) 3 CX11_mayFill.1 CX11_mayFill.2.1 CX11_mayFill.2.2.1 CX11_mayFill.2.2.2 := by
  refine zMet_of (pl := zPlf PX11) (cv := zCf VX11_mayFill) (cS := zCf SX11_mayFill) (B := zBf BX11_mayFill) (F := 80) (own := RX11) (by decide +kernel) rfl (Or.inr (Or.inl ⟨rfl, rfl⟩)) (fun vs h => by obtain ⟨t, rfl⟩ := zlen1 h; exact Nat.le_of_ble_eq_true rfl) PX11_ok zClok_ok zSyok_ok oX11_mayFill (zAllC_e (zAllC_c (Or.inl (zcal_v (mX11_cellAt l) (by decide) (by decide) hX11_cellAt kX11_245 ⟨by decide, by decide +kernel⟩ (ci := 11) rfl rfl rfl)) (zAllC_c (Or.inl (zcal_v (mX11_isSet l) (by decide) (by decide) hX11_isSet kX11_272 ⟨by decide, by decide +kernel⟩ (ci := 11) rfl rfl rfl)) (zAllC_c (Or.inl (zcal_v (mX11_front l) (by decide) (by decide) hX11_front kX11_338 ⟨by decide, by decide +kernel⟩ (ci := 11) rfl rfl rfl)) (zAllC_c (Or.inl (zcal_v (mX11_isByWell l) (by decide) (by decide) hX11_isByWell kX11_356 ⟨by decide, by decide +kernel⟩ (ci := 11) rfl rfl rfl)) (zAllC_n)))))) (zAllC_e (zAllC_n)) ?_
  intro vs mem hvl hok hm hpre
  obtain ⟨t, rfl⟩ := zlen1 hvl
  clear hok hvl
  obtain ⟨hid, hpre⟩ := hpre
  simp only [List.mem_cons, List.not_mem_nil, or_false] at hid
  have hpre : zMi (mem 81) := hpre
  subst hid
  refine ⟨zIf [(10, (fun nq ls st m => (ls 1).1 = 0 ∧ (ls 2).1 = 0 ∧ ls 0 = (2, 80) ∧ st = [] ∧ m = mem ∧ ((mem 81 13 = 1 → mem 81 12 ≤ (ls 2).2) ∧ (mem 81 13 = 1 → (ls 2).2 ≤ mem 81 12 + mem 81 7) ∧ ((ls 1).2 = 0 ∨ (ls 1).2 = 1) ∧ (32 - (ls 2).2).toNat ≤ nq)))], zAllI_e (zAllI_c ?_ (zAllI_n)), ?_⟩
  · intro nn ls st mem1 hm1 hl1 hJ
    obtain ⟨ht1, ht2, h0, rfl, rfl, hc⟩ := hJ
    obtain ⟨x1, h1⟩ : ∃ x, ls 1 = (0, x) := ⟨_, Prod.ext ht1 rfl⟩
    obtain ⟨x2, h2⟩ : ∃ x, ls 2 = (0, x) := ⟨_, Prod.ext ht2 rfl⟩
    simp only [h1, h2] at hc
    obtain ⟨hc0, hc1, hc2, hc3⟩ := hc
    simp (maxSteps := 3000000) only [↓zwp_s, zrun_n, zrun_c, zgo_any, zgo_bel, ↓zgA_n, ↓zgA_c, ↓zgB_n, ↓zgB_c, ↓zp1_c, ↓zpv_c, ↓ztg_e, ↓zFv_r, ↓zFv_i, ↓zFv_z, ↓reduceIte, ↓zi_aload_n, ↓zi_bipush, ↓zi_getfield, ↓zi_goto, ↓zi_iaload, ↓zi_iconst, ↓zi_ifCond, ↓zi_if_icmp, ↓zi_iinc, ↓zi_iload_n, ↓zi_ireturn, ↓zi_istore_n, zcmp_eq, zcmp_gt, zcmp_ne, ↓zpl_e pX11_13, ↓zo_80_0, ↓zo_80_1, ↓zo_80_2, ↓zo_80_3, ↓zo_80_4, ↓zo_80_5, ↓zo_80_6, ↓zo_80_7, ↓zo_80_8, ↓zo_80_9, ↓zo_80_10, ↓zo_80_11, ↓zo_80_12, ↓zo_80_13, ↓zo_80_14, ↓zo_80_15, ↓zo_80_16, ↓zo_80_17, ↓zo_80_18, ↓zo_80_19, ↓zo_80_20, ↓zo_80_21, ↓zo_80_22, ↓zo_80_23, ↓zo_80_24, ↓za_81, bX11_mayFill_0, bX11_mayFill_10, bX11_mayFill_41, bX11_mayFill_45, bX11_mayFill_46, bX11_mayFill_53, List.size_toArray, zent_n, zent_c, zst_e, zfi0, zfi1, zfi2, zfi3, zcast, Nat.reduceAdd, Nat.reduceSub, Nat.reduceEqDiff, Nat.reduceLT, Nat.reduceLeDiff, Int.reduceAdd, Int.reduceSub, Int.reduceMul, Int.reduceToNat, Int.reduceLE, Int.reduceLT, Int.reduceEq, Int.reduceNeg, Int.reduceNegSucc, Nat.reduceMul, List.zip_cons_cons, List.zip_nil_left, List.zip_nil_right, Int.toNat_natCast, true_and, and_true, eq_self, ne_eq, not_false_eq_true, not_true_eq_false, forall_const, implies_true, false_and, true_or, or_true, false_or, or_false, imp_self, CX11_mayFill, ↓zv_cf (cv := zCf VX11_mayFill) (k := 245) (h := (rfl : zCf VX11_mayFill 245 = some CX11_cellAt)), ↓zv_cb (cv := zCf VX11_mayFill) (k := 272) (h := (rfl : zCf VX11_mayFill 272 = some CX11_isSet)), ↓zv_cf (cv := zCf VX11_mayFill) (k := 338) (h := (rfl : zCf VX11_mayFill 338 = some CX11_front)), ↓zv_cb (cv := zCf VX11_mayFill) (k := 356) (h := (rfl : zCf VX11_mayFill 356 = some CX11_isByWell)), and_imp, exists_eq_left, exists_eq_left', exists_eq_right, exists_eq_right', exists_and_left, exists_and_right, Prod.mk.injEq, zAdd_e, zSub_e, zMul_e, zres_0, zres_4, zres_1, zres_9, zrt_0, zrt_4, zrt_1, zrt_9, List.take_succ_cons, List.take_zero, List.drop_succ_cons, List.drop_zero, List.map_cons, List.map_nil, List.reverse_cons, List.reverse_nil, List.nil_append, List.cons_append, List.length_cons, List.length_nil, zPr_c, List.mem_cons, List.not_mem_nil, ↓zIV_e, zcats, List.sum_cons, List.sum_nil, zpu, zfu, zset_e, zbo, ↓zc_ne00, ↓zc_ne01, ↓zc_ne10, ↓zc_ne11, ↓zc_eq00, ↓zc_eq01, ↓zc_eq10, ↓zc_eq11, zs_80_81, zs_83_81, zs_84_81, zs_85_81, zs_86_81, zs_87_81, zs_88_81, zs_89_81, zs_90_81, zs_91_81, zs_92_81, zs_93_81, h1, h2, h0]
    have hb := zMi_b hpre
    unfold zMb at hb
    have hgn := (zMi_gn hpre).1
    have h13 := fun h => zMi_13 hpre h
    have hln := zMi_ln hpre
    repeat' (first | exact zfr_rf _ _ _ | (refine zfr_st ?_ (by omega) (by omega)) | (refine zfr_cp ?_ (by omega) (by omega)) | (refine zfr_tr ?_ (by assumption)) | (refine zfr_tr ?_ (zfr_mono (by assumption) (by omega) (by omega))) | (refine And.intro ?_ ?_) | (intro _) | (refine Exists.intro (nn - 1) ?_) | (refine Exists.intro 5000000000 ?_) | fail)
    all_goals (try (have T := h13 (by assumption)))
    all_goals (try (have c0 := hc0 (by assumption)))
    all_goals (try (have c1 := hc1 (by assumption)))
    all_goals (try (have q := zLn_at hln (p := x2) (by omega) (by simp only [zw] at *; omega)))
    all_goals (try clear hc0 hc1)
    all_goals (try (simp only [zw] at *))
    all_goals (first | trivial | omega | skip)
  · simp (maxSteps := 3000000) only [↓zwp_s, zrun_n, zrun_c, zgo_any, zgo_bel, ↓zgA_n, ↓zgA_c, ↓zgB_n, ↓zgB_c, ↓zp1_c, ↓zpv_c, ↓ztg_e, ↓zFv_r, ↓zFv_i, ↓zFv_z, ↓reduceIte, ↓zi_aload_n, ↓zi_bipush, ↓zi_getfield, ↓zi_goto, ↓zi_iaload, ↓zi_iconst, ↓zi_ifCond, ↓zi_if_icmp, ↓zi_iinc, ↓zi_iload_n, ↓zi_ireturn, ↓zi_istore_n, zcmp_eq, zcmp_gt, zcmp_ne, ↓zpl_e pX11_13, ↓zo_80_0, ↓zo_80_1, ↓zo_80_2, ↓zo_80_3, ↓zo_80_4, ↓zo_80_5, ↓zo_80_6, ↓zo_80_7, ↓zo_80_8, ↓zo_80_9, ↓zo_80_10, ↓zo_80_11, ↓zo_80_12, ↓zo_80_13, ↓zo_80_14, ↓zo_80_15, ↓zo_80_16, ↓zo_80_17, ↓zo_80_18, ↓zo_80_19, ↓zo_80_20, ↓zo_80_21, ↓zo_80_22, ↓zo_80_23, ↓zo_80_24, ↓za_81, bX11_mayFill_0, bX11_mayFill_10, bX11_mayFill_41, bX11_mayFill_45, bX11_mayFill_46, bX11_mayFill_53, List.size_toArray, zent_n, zent_c, zst_e, zfi0, zfi1, zfi2, zfi3, zcast, Nat.reduceAdd, Nat.reduceSub, Nat.reduceEqDiff, Nat.reduceLT, Nat.reduceLeDiff, Int.reduceAdd, Int.reduceSub, Int.reduceMul, Int.reduceToNat, Int.reduceLE, Int.reduceLT, Int.reduceEq, Int.reduceNeg, Int.reduceNegSucc, Nat.reduceMul, List.zip_cons_cons, List.zip_nil_left, List.zip_nil_right, Int.toNat_natCast, true_and, and_true, eq_self, ne_eq, not_false_eq_true, not_true_eq_false, forall_const, implies_true, false_and, true_or, or_true, false_or, or_false, imp_self, CX11_mayFill, ↓zv_cf (cv := zCf VX11_mayFill) (k := 245) (h := (rfl : zCf VX11_mayFill 245 = some CX11_cellAt)), ↓zv_cb (cv := zCf VX11_mayFill) (k := 272) (h := (rfl : zCf VX11_mayFill 272 = some CX11_isSet)), ↓zv_cf (cv := zCf VX11_mayFill) (k := 338) (h := (rfl : zCf VX11_mayFill 338 = some CX11_front)), ↓zv_cb (cv := zCf VX11_mayFill) (k := 356) (h := (rfl : zCf VX11_mayFill 356 = some CX11_isByWell)), and_imp, exists_eq_left, exists_eq_left', exists_eq_right, exists_eq_right', exists_and_left, exists_and_right, Prod.mk.injEq, zAdd_e, zSub_e, zMul_e, zres_0, zres_4, zres_1, zres_9, zrt_0, zrt_4, zrt_1, zrt_9, List.take_succ_cons, List.take_zero, List.drop_succ_cons, List.drop_zero, List.map_cons, List.map_nil, List.reverse_cons, List.reverse_nil, List.nil_append, List.cons_append, List.length_cons, List.length_nil, zPr_c, List.mem_cons, List.not_mem_nil, ↓zIV_e, zcats, List.sum_cons, List.sum_nil, zpu, zfu, zset_e, zbo, ↓zc_ne00, ↓zc_ne01, ↓zc_ne10, ↓zc_ne11, ↓zc_eq00, ↓zc_eq01, ↓zc_eq10, ↓zc_eq11, zs_80_81, zs_83_81, zs_84_81, zs_85_81, zs_86_81, zs_87_81, zs_88_81, zs_89_81, zs_90_81, zs_91_81, zs_92_81, zs_93_81]
    have hb := zMi_b hpre
    unfold zMb at hb
    have hgn := (zMi_gn hpre).1
    have h13 := fun h => zMi_13 hpre h
    have hln := zMi_ln hpre
    have hg := (hm 81 _ zy_81).2.1 rfl 12 (by decide)
    have hg1 := hg.1
    have hg2 := hg.2
    repeat' (first | exact zfr_rf _ _ _ | (refine zfr_st ?_ (by omega) (by omega)) | (refine zfr_cp ?_ (by omega) (by omega)) | (refine zfr_tr ?_ (by assumption)) | (refine zfr_tr ?_ (zfr_mono (by assumption) (by omega) (by omega))) | (refine And.intro ?_ ?_) | (intro _) | (refine Exists.intro (nn - 1) ?_) | (refine Exists.intro 5000000000 ?_) | fail)
    all_goals (try (have T := h13 (by assumption)))
    all_goals (first | trivial | omega | skip)
def CX11_fills : zCt := ([2], 0, zPr [80] (fun vs mem => match vs with | [t] => (zMi (mem 81)) | _ => False), (fun vs mem r mem' => match vs with | [t] => (zMi (mem' 81) ∧ zKp zpA mem mem') | _ => False))
def VX11_fills : List (Nat × zCt) := [(329, CX11_takes)]
def SX11_fills : List (Nat × zCt) := []
set_option maxHeartbeats 4000000 in
set_option maxRecDepth 100000 in
theorem mX11_fills (l : Launch) : zMet l zLay yX11_fills cX11_fills 2 (some .int) 5 CX11_fills.1 CX11_fills.2.1 CX11_fills.2.2.1 CX11_fills.2.2.2 := by
  refine zMet_of (pl := zPlf PX11) (cv := zCf VX11_fills) (cS := zCf SX11_fills) (B := zBf BX11_fills) (F := 80) (own := RX11) (by decide +kernel) rfl (Or.inl ⟨rfl, rfl⟩) (fun vs h => by obtain ⟨t, rfl⟩ := zlen1 h; exact Nat.le_of_ble_eq_true rfl) PX11_ok zClok_ok zSyok_ok oX11_fills (zAllC_e (zAllC_c (Or.inl (zcal_v (mX11_takes l) (by decide) (by decide) hX11_takes kX11_329 ⟨by decide, by decide +kernel⟩ (ci := 11) rfl rfl rfl)) (zAllC_n))) (zAllC_e (zAllC_n)) ?_
  intro vs mem hvl hok hm hpre
  obtain ⟨t, rfl⟩ := zlen1 hvl
  clear hok hvl
  obtain ⟨hid, hpre⟩ := hpre
  simp only [List.mem_cons, List.not_mem_nil, or_false] at hid
  have hpre : zMi (mem 81) := hpre
  subst hid
  refine ⟨zIf [], zAllI_e zAllI_n, ?_⟩
  simp (maxSteps := 3000000) only [↓zwp_s, zrun_n, zrun_c, zgo_any, zgo_bel, ↓zgA_n, ↓zgA_c, ↓zgB_n, ↓zgB_c, ↓zp1_c, ↓zpv_c, ↓ztg_e, ↓zFv_r, ↓zFv_i, ↓zFv_z, ↓reduceIte, ↓zi_aload_n, ↓zi_bipush, ↓zi_getfield, ↓zi_iaload, ↓zi_iastore, ↓zi_iconst, ↓zi_iload_n, ↓zi_ireturn, ↓zi_istore_n, ↓zi_isub, ↓zpl_e pX11_13, ↓zo_80_0, ↓zo_80_1, ↓zo_80_2, ↓zo_80_3, ↓zo_80_4, ↓zo_80_5, ↓zo_80_6, ↓zo_80_7, ↓zo_80_8, ↓zo_80_9, ↓zo_80_10, ↓zo_80_11, ↓zo_80_12, ↓zo_80_13, ↓zo_80_14, ↓zo_80_15, ↓zo_80_16, ↓zo_80_17, ↓zo_80_18, ↓zo_80_19, ↓zo_80_20, ↓zo_80_21, ↓zo_80_22, ↓zo_80_23, ↓zo_80_24, ↓za_81, bX11_fills_0, List.size_toArray, zent_n, zent_c, zst_e, zfi0, zfi1, zfi2, zfi3, zcast, Nat.reduceAdd, Nat.reduceSub, Nat.reduceEqDiff, Nat.reduceLT, Nat.reduceLeDiff, Int.reduceAdd, Int.reduceSub, Int.reduceMul, Int.reduceToNat, Int.reduceLE, Int.reduceLT, Int.reduceEq, Int.reduceNeg, Int.reduceNegSucc, Nat.reduceMul, List.zip_cons_cons, List.zip_nil_left, List.zip_nil_right, Int.toNat_natCast, true_and, and_true, eq_self, ne_eq, not_false_eq_true, not_true_eq_false, forall_const, implies_true, false_and, true_or, or_true, false_or, or_false, imp_self, CX11_fills, ↓zv_cg (cv := zCf VX11_fills) (k := 329) (h := (rfl : zCf VX11_fills 329 = some CX11_takes)), and_imp, exists_eq_left, exists_eq_left', exists_eq_right, exists_eq_right', exists_and_left, exists_and_right, Prod.mk.injEq, zAdd_e, zSub_e, zMul_e, zres_0, zres_4, zres_1, zres_9, zrt_0, zrt_4, zrt_1, zrt_9, List.take_succ_cons, List.take_zero, List.drop_succ_cons, List.drop_zero, List.map_cons, List.map_nil, List.reverse_cons, List.reverse_nil, List.nil_append, List.cons_append, List.length_cons, List.length_nil, zPr_c, List.mem_cons, List.not_mem_nil, ↓zIV_e, zcats, List.sum_cons, List.sum_nil, zpu, zfu, zset_e, ↓zc_ne00, ↓zc_ne01, ↓zc_ne10, ↓zc_ne11, ↓zc_eq00, ↓zc_eq01, ↓zc_eq10, ↓zc_eq11, zs_80_81, zs_83_81, zs_84_81, zs_85_81, zs_86_81, zs_87_81, zs_88_81, zs_89_81, zs_90_81, zs_91_81, zs_92_81, zs_93_81]
  have hb := zMi_b hpre
  unfold zMb at hb
  have hgn := (zMi_gn hpre).1
  have h13 := fun h => zMi_13 hpre h
  have hln := zMi_ln hpre
  have hw := zMi_water (v := mem 81 3) hpre (by omega) (by omega)
  repeat' (first | (with_reducible assumption) | (with_reducible exact zKp_rf _) | (with_reducible refine zKp_st ?_ (by unfold zpA; omega)) | (with_reducible refine zKp_tr ?_ (zKp_MA (by assumption))) | (with_reducible refine zKp_tr ?_ (zKp_LA (by assumption))) | (with_reducible refine zKp_tr ?_ (by assumption)) | (with_reducible refine zMi_time ?_ (by assumption) (by assumption) (by first | with_reducible assumption | (simp (disch := omega) only [zset_e, reduceIte, zifn]; assumption))) | (with_reducible refine zMi_log ?_ (by assumption) (by assumption) (by assumption)) | (with_reducible refine zMi_free ?_ (by omega)) | (with_reducible refine zMi_rl ?_ (by omega) (by omega) (by omega)) | (with_reducible refine zMi_gn ?_) | (with_reducible refine zMi_w0 ?_) | (with_reducible refine zMi_ln ?_) | (with_reducible refine zMi_19a ?_) | (with_reducible refine zMi_19b ?_) | exact zfr_rf _ _ _ | (refine zfr_st ?_ (by omega) (by omega)) | (refine zfr_cp ?_ (by omega) (by omega)) | (refine zfr_tr ?_ (by assumption)) | (refine zfr_tr ?_ (zfr_mono (by assumption) (by omega) (by omega))) | (refine And.intro ?_ ?_) | (intro _) | (refine Exists.intro (nn - 1) ?_) | (refine Exists.intro 5000000000 ?_) | fail)
  all_goals (first | trivial | omega | skip)
def CX11_mayDig : zCt := ([2], 4, zPr [80] (fun vs mem => match vs with | [t] => (zMi (mem 81)) | _ => False), zbo (fun vs mem => match vs with | [t] => (mem 81 13 = 1 ∧ ¬ zNoB (mem 81) (mem 81 18) ∧ 0 < zstr (mem 81) 3 (mem 81 16).toNat) | _ => False) (fun vs mem => match vs with | [t] => (True) | _ => False))
def VX11_mayDig : List (Nat × zCt) := [(272, CX11_isSet), (311, CX11_strength), (365, CX11_firstBuried)]
def SX11_mayDig : List (Nat × zCt) := []
set_option maxHeartbeats 4000000 in
set_option maxRecDepth 100000 in
theorem mX11_mayDig (l : Launch) : zMet l zLay yX11_mayDig cX11_mayDig 1 (some .boolean) 4 CX11_mayDig.1 CX11_mayDig.2.1 CX11_mayDig.2.2.1 CX11_mayDig.2.2.2 := by
  refine zMet_of (pl := zPlf PX11) (cv := zCf VX11_mayDig) (cS := zCf SX11_mayDig) (B := zBf BX11_mayDig) (F := 80) (own := RX11) (by decide +kernel) rfl (Or.inr (Or.inl ⟨rfl, rfl⟩)) (fun vs h => by obtain ⟨t, rfl⟩ := zlen1 h; exact Nat.le_of_ble_eq_true rfl) PX11_ok zClok_ok zSyok_ok oX11_mayDig (zAllC_e (zAllC_c (Or.inl (zcal_v (mX11_isSet l) (by decide) (by decide) hX11_isSet kX11_272 ⟨by decide, by decide +kernel⟩ (ci := 11) rfl rfl rfl)) (zAllC_c (Or.inl (zcal_v (mX11_strength l) (by decide) (by decide) hX11_strength kX11_311 ⟨by decide, by decide +kernel⟩ (ci := 11) rfl rfl rfl)) (zAllC_c (Or.inl (zcal_v (mX11_firstBuried l) (by decide) (by decide) hX11_firstBuried kX11_365 ⟨by decide, by decide +kernel⟩ (ci := 11) rfl rfl rfl)) (zAllC_n))))) (zAllC_e (zAllC_n)) ?_
  intro vs mem hvl hok hm hpre
  obtain ⟨t, rfl⟩ := zlen1 hvl
  clear hok hvl
  obtain ⟨hid, hpre⟩ := hpre
  simp only [List.mem_cons, List.not_mem_nil, or_false] at hid
  have hpre : zMi (mem 81) := hpre
  subst hid
  refine ⟨zIf [], zAllI_e zAllI_n, ?_⟩
  simp (maxSteps := 3000000) only [↓zwp_s, zrun_n, zrun_c, zgo_any, zgo_bel, ↓zgA_n, ↓zgA_c, ↓zgB_n, ↓zgB_c, ↓zp1_c, ↓zpv_c, ↓ztg_e, ↓zFv_r, ↓zFv_i, ↓zFv_z, ↓reduceIte, ↓zi_aload_n, ↓zi_goto, ↓zi_iconst, ↓zi_ifCond, ↓zi_ireturn, zcmp_eq, zcmp_lt, zcmp_le, ↓zo_80_0, ↓zo_80_1, ↓zo_80_2, ↓zo_80_3, ↓zo_80_4, ↓zo_80_5, ↓zo_80_6, ↓zo_80_7, ↓zo_80_8, ↓zo_80_9, ↓zo_80_10, ↓zo_80_11, ↓zo_80_12, ↓zo_80_13, ↓zo_80_14, ↓zo_80_15, ↓zo_80_16, ↓zo_80_17, ↓zo_80_18, ↓zo_80_19, ↓zo_80_20, ↓zo_80_21, ↓zo_80_22, ↓zo_80_23, ↓zo_80_24, ↓za_81, bX11_mayDig_0, bX11_mayDig_26, bX11_mayDig_27, List.size_toArray, zent_n, zent_c, zst_e, zfi0, zfi1, zfi2, zfi3, zcast, Nat.reduceAdd, Nat.reduceSub, Nat.reduceEqDiff, Nat.reduceLT, Nat.reduceLeDiff, Int.reduceAdd, Int.reduceSub, Int.reduceMul, Int.reduceToNat, Int.reduceLE, Int.reduceLT, Int.reduceEq, Int.reduceNeg, Int.reduceNegSucc, Nat.reduceMul, List.zip_cons_cons, List.zip_nil_left, List.zip_nil_right, Int.toNat_natCast, true_and, and_true, eq_self, ne_eq, not_false_eq_true, not_true_eq_false, forall_const, implies_true, false_and, true_or, or_true, false_or, or_false, imp_self, CX11_mayDig, ↓zv_cb (cv := zCf VX11_mayDig) (k := 272) (h := (rfl : zCf VX11_mayDig 272 = some CX11_isSet)), ↓zv_cp (cv := zCf VX11_mayDig) (k := 311) (h := (rfl : zCf VX11_mayDig 311 = some CX11_strength)), ↓zv_cp (cv := zCf VX11_mayDig) (k := 365) (h := (rfl : zCf VX11_mayDig 365 = some CX11_firstBuried)), and_imp, exists_eq_left, exists_eq_left', exists_eq_right, exists_eq_right', exists_and_left, exists_and_right, Prod.mk.injEq, zAdd_e, zSub_e, zMul_e, zres_0, zres_4, zres_1, zres_9, zrt_0, zrt_4, zrt_1, zrt_9, List.take_succ_cons, List.take_zero, List.drop_succ_cons, List.drop_zero, List.map_cons, List.map_nil, List.reverse_cons, List.reverse_nil, List.nil_append, List.cons_append, List.length_cons, List.length_nil, zPr_c, List.mem_cons, List.not_mem_nil, ↓zIV_e, zcats, List.sum_cons, List.sum_nil, zpu, zfu, zset_e, zbo, ↓zc_ne00, ↓zc_ne01, ↓zc_ne10, ↓zc_ne11, ↓zc_eq00, ↓zc_eq01, ↓zc_eq10, ↓zc_eq11, zs_80_81, zs_83_81, zs_84_81, zs_85_81, zs_86_81, zs_87_81, zs_88_81, zs_89_81, zs_90_81, zs_91_81, zs_92_81, zs_93_81]
  have hb := zMi_b hpre
  unfold zMb at hb
  have hgn := (zMi_gn hpre).1
  have h13 := fun h => zMi_13 hpre h
  have hln := zMi_ln hpre
  repeat' (first | (exact zNoB_not (by assumption) (by assumption)) | (with_reducible assumption) | (with_reducible exact zKp_rf _) | (with_reducible refine zKp_st ?_ (by unfold zpA; omega)) | (with_reducible refine zKp_tr ?_ (zKp_MA (by assumption))) | (with_reducible refine zKp_tr ?_ (zKp_LA (by assumption))) | (with_reducible refine zKp_tr ?_ (by assumption)) | (with_reducible refine zMi_time ?_ (by assumption) (by assumption) (by first | with_reducible assumption | (simp (disch := omega) only [zset_e, reduceIte, zifn]; assumption))) | (with_reducible refine zMi_log ?_ (by assumption) (by assumption) (by assumption)) | (with_reducible refine zMi_free ?_ (by omega)) | (with_reducible refine zMi_rl ?_ (by omega) (by omega) (by omega)) | (with_reducible refine zMi_gn ?_) | (with_reducible refine zMi_w0 ?_) | (with_reducible refine zMi_ln ?_) | (with_reducible refine zMi_19a ?_) | (with_reducible refine zMi_19b ?_) | exact zfr_rf _ _ _ | (refine zfr_st ?_ (by omega) (by omega)) | (refine zfr_cp ?_ (by omega) (by omega)) | (refine zfr_tr ?_ (by assumption)) | (refine zfr_tr ?_ (zfr_mono (by assumption) (by omega) (by omega))) | (refine And.intro ?_ ?_) | (intro _) | (refine Exists.intro (nn - 1) ?_) | (refine Exists.intro 5000000000 ?_) | fail)
  all_goals (first | trivial | omega | skip)
def CX11_digs : zCt := ([2], 0, zPr [80] (fun vs mem => match vs with | [t] => (zMi (mem 81) ∧ ¬ zNoB (mem 81) (mem 81 18) ∧ 0 < zstr (mem 81) 3 (mem 81 16).toNat) | _ => False), (fun vs mem r mem' => match vs with | [t] => (zMi (mem' 81) ∧ zKp zpA mem mem') | _ => False))
def VX11_digs : List (Nat × zCt) := [(245, CX11_cellAt), (311, CX11_strength), (329, CX11_takes), (365, CX11_firstBuried)]
def SX11_digs : List (Nat × zCt) := [(314, CX11_shared)]
set_option maxHeartbeats 4000000 in
set_option maxRecDepth 100000 in
theorem mX11_digs (l : Launch) : zMet l zLay yX11_digs cX11_digs 2 (some .int) 5 CX11_digs.1 CX11_digs.2.1 CX11_digs.2.2.1 CX11_digs.2.2.2 := by
  refine zMet_of (pl := zPlf PX11) (cv := zCf VX11_digs) (cS := zCf SX11_digs) (B := zBf BX11_digs) (F := 80) (own := RX11) (by decide +kernel) rfl (Or.inl ⟨rfl, rfl⟩) (fun vs h => by obtain ⟨t, rfl⟩ := zlen1 h; exact Nat.le_of_ble_eq_true rfl) PX11_ok zClok_ok zSyok_ok oX11_digs (zAllC_e (zAllC_c (Or.inl (zcal_v (mX11_cellAt l) (by decide) (by decide) hX11_cellAt kX11_245 ⟨by decide, by decide +kernel⟩ (ci := 11) rfl rfl rfl)) (zAllC_c (Or.inl (zcal_v (mX11_strength l) (by decide) (by decide) hX11_strength kX11_311 ⟨by decide, by decide +kernel⟩ (ci := 11) rfl rfl rfl)) (zAllC_c (Or.inl (zcal_v (mX11_takes l) (by decide) (by decide) hX11_takes kX11_329 ⟨by decide, by decide +kernel⟩ (ci := 11) rfl rfl rfl)) (zAllC_c (Or.inl (zcal_v (mX11_firstBuried l) (by decide) (by decide) hX11_firstBuried kX11_365 ⟨by decide, by decide +kernel⟩ (ci := 11) rfl rfl rfl)) (zAllC_n)))))) (zAllC_e (zAllC_c (zcal_s (mX11_shared l) (by decide) (by decide) hX11_shared kX11_314 ⟨by decide, by decide +kernel⟩) (zAllC_n))) ?_
  intro vs mem hvl hok hm hpre
  obtain ⟨t, rfl⟩ := zlen1 hvl
  clear hok hvl
  obtain ⟨hid, hpre⟩ := hpre
  simp only [List.mem_cons, List.not_mem_nil, or_false] at hid
  have hpre : zMi (mem 81) ∧ ¬ zNoB (mem 81) (mem 81 18) ∧ 0 < zstr (mem 81) 3 (mem 81 16).toNat := hpre
  subst hid
  refine ⟨zIf [], zAllI_e zAllI_n, ?_⟩
  simp (maxSteps := 3000000) only [↓zwp_s, zrun_n, zrun_c, zgo_any, zgo_bel, ↓zgA_n, ↓zgA_c, ↓zgB_n, ↓zgB_c, ↓zp1_c, ↓zpv_c, ↓ztg_e, ↓zFv_r, ↓zFv_i, ↓zFv_z, ↓reduceIte, ↓zi_aload_n, ↓zi_bipush, ↓zi_getfield, ↓zi_iadd, ↓zi_iastore, ↓zi_iconst, ↓zi_iload_n, ↓zi_ireturn, ↓zi_istore_n, ↓zpl_e pX11_13, ↓zo_80_0, ↓zo_80_1, ↓zo_80_2, ↓zo_80_3, ↓zo_80_4, ↓zo_80_5, ↓zo_80_6, ↓zo_80_7, ↓zo_80_8, ↓zo_80_9, ↓zo_80_10, ↓zo_80_11, ↓zo_80_12, ↓zo_80_13, ↓zo_80_14, ↓zo_80_15, ↓zo_80_16, ↓zo_80_17, ↓zo_80_18, ↓zo_80_19, ↓zo_80_20, ↓zo_80_21, ↓zo_80_22, ↓zo_80_23, ↓zo_80_24, ↓za_81, bX11_digs_0, List.size_toArray, zent_n, zent_c, zst_e, zfi0, zfi1, zfi2, zfi3, zcast, Nat.reduceAdd, Nat.reduceSub, Nat.reduceEqDiff, Nat.reduceLT, Nat.reduceLeDiff, Int.reduceAdd, Int.reduceSub, Int.reduceMul, Int.reduceToNat, Int.reduceLE, Int.reduceLT, Int.reduceEq, Int.reduceNeg, Int.reduceNegSucc, Nat.reduceMul, List.zip_cons_cons, List.zip_nil_left, List.zip_nil_right, Int.toNat_natCast, true_and, and_true, eq_self, ne_eq, not_false_eq_true, not_true_eq_false, forall_const, implies_true, false_and, true_or, or_true, false_or, or_false, imp_self, CX11_digs, ↓zv_cf (cv := zCf VX11_digs) (k := 245) (h := (rfl : zCf VX11_digs 245 = some CX11_cellAt)), ↓zv_cp (cv := zCf VX11_digs) (k := 311) (h := (rfl : zCf VX11_digs 311 = some CX11_strength)), ↓zv_cg (cv := zCf VX11_digs) (k := 329) (h := (rfl : zCf VX11_digs 329 = some CX11_takes)), ↓zv_cp (cv := zCf VX11_digs) (k := 365) (h := (rfl : zCf VX11_digs 365 = some CX11_firstBuried)), ↓zs_cp (cS := zCf SX11_digs) (pl := zPlf PX11) (k := 314) (h := (rfl : zCf SX11_digs 314 = some CX11_shared)) (h2 := rfl), and_imp, exists_eq_left, exists_eq_left', exists_eq_right, exists_eq_right', exists_and_left, exists_and_right, Prod.mk.injEq, zAdd_e, zSub_e, zMul_e, zres_0, zres_4, zres_1, zres_9, zrt_0, zrt_4, zrt_1, zrt_9, List.take_succ_cons, List.take_zero, List.drop_succ_cons, List.drop_zero, List.map_cons, List.map_nil, List.reverse_cons, List.reverse_nil, List.nil_append, List.cons_append, List.length_cons, List.length_nil, zPr_c, List.mem_cons, List.not_mem_nil, ↓zIV_e, zcats, List.sum_cons, List.sum_nil, zpu, zfu, zset_e, ↓zc_ne00, ↓zc_ne01, ↓zc_ne10, ↓zc_ne11, ↓zc_eq00, ↓zc_eq01, ↓zc_eq10, ↓zc_eq11, zs_80_81, zs_83_81, zs_84_81, zs_85_81, zs_86_81, zs_87_81, zs_88_81, zs_89_81, zs_90_81, zs_91_81, zs_92_81, zs_93_81]
  obtain ⟨p1, pb, pst⟩ := hpre
  have hb := zMi_b p1
  unfold zMb at hb
  have hgn := (zMi_gn p1).1
  refine ⟨zMi_ln p1, ?_⟩
  intro r _ _ _ hr
  have hr2 : 0 ≤ r ∧ r < mem 81 18 := by
    rcases hr with h | h
    · exact absurd h.2 pb
    · exact ⟨h.1, h.2.1⟩
  have q := zLn_at (zMi_ln p1) hr2.1 hr2.2
  clear hr
  generalize mem 81 (120 + 4 * mem 81 (196 + r).toNat + 3).toNat = c at *
  simp (disch := omega) only [zifn, zw_id]
  have hST : zstr (zset mem 81 (20 + c).toNat 0 81) 3 (mem 81 16).toNat = zstr (mem 81) 3 (mem 81 16).toNat := by
    refine zstr_c (by omega) (fun j h1 h2 => ?_)
    simp (disch := omega) only [zset_e, reduceIte, zifn]
  simp only [hST]
  repeat' (first | (with_reducible assumption) | (with_reducible exact zKp_rf _) | (with_reducible refine zKp_st ?_ (by unfold zpA; omega)) | (with_reducible refine zKp_tr ?_ (zKp_MA (by assumption))) | (with_reducible refine zKp_tr ?_ (zKp_LA (by assumption))) | (with_reducible refine zKp_tr ?_ (by assumption)) | (with_reducible refine zMi_time ?_ (by assumption) (by assumption) (by first | with_reducible assumption | (simp (disch := omega) only [zset_e, reduceIte, zifn]; assumption))) | (with_reducible refine zMi_log ?_ (by assumption) (by assumption) (by assumption)) | (with_reducible refine zMi_free ?_ (by omega)) | (with_reducible refine zMi_rl ?_ (by omega) (by omega) (by omega)) | (with_reducible refine zMi_gn ?_) | (with_reducible refine zMi_w0 ?_) | (with_reducible refine zMi_ln ?_) | (with_reducible refine zMi_19a ?_) | (with_reducible refine zMi_19b ?_) | exact zfr_rf _ _ _ | (refine zfr_st ?_ (by omega) (by omega)) | (refine zfr_cp ?_ (by omega) (by omega)) | (refine zfr_tr ?_ (by assumption)) | (refine zfr_tr ?_ (zfr_mono (by assumption) (by omega) (by omega))) | (refine And.intro ?_ ?_) | (intro _) | (refine Exists.intro (nn - 1) ?_) | (refine Exists.intro 5000000000 ?_) | fail)
  all_goals (first | trivial | omega | skip)
