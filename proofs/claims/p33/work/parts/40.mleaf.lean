def CX11_in : zCt := ([0, 0, 0], 4, (fun vs mem => match vs with | [v, a, b] => (True) | _ => False), zbo (fun vs mem => match vs with | [v, a, b] => (a ≤ v ∧ v ≤ b) | _ => False) (fun vs mem => match vs with | [v, a, b] => (¬ (a ≤ v ∧ v ≤ b)) | _ => False))
def VX11_in : List (Nat × zCt) := []
def SX11_in : List (Nat × zCt) := []
set_option maxHeartbeats 1000000 in
set_option maxRecDepth 100000 in
theorem mX11_in (l : Launch) : zMet l zLay yX11_in cX11_in 3 (some .boolean) 0 CX11_in.1 CX11_in.2.1 CX11_in.2.2.1 CX11_in.2.2.2 := by
  refine zMet_of (pl := zPlf PX11) (cv := zCf VX11_in) (cS := zCf SX11_in) (B := zBf BX11_in) (F := 80) (own := RX11) (by decide +kernel) rfl (Or.inr (Or.inl ⟨rfl, rfl⟩)) (fun vs h => by obtain ⟨v, a, b, rfl⟩ := zlen3 h; exact Nat.le_of_ble_eq_true rfl) PX11_ok zClok_ok zSyok_ok oX11_in (zAllC_e (zAllC_n)) (zAllC_e (zAllC_n)) ?_
  intro vs mem hvl hok hm hpre
  obtain ⟨v, a, b, rfl⟩ := zlen3 hvl
  have hr_v : -2147483648 ≤ v ∧ v ≤ 2147483647 := (hok (0, v) (by simp [CX11_in])).1 rfl
  have hr_a : -2147483648 ≤ a ∧ a ≤ 2147483647 := (hok (0, a) (by simp [CX11_in])).1 rfl
  have hr_b : -2147483648 ≤ b ∧ b ≤ 2147483647 := (hok (0, b) (by simp [CX11_in])).1 rfl
  clear hok hvl
  have hpre : True := hpre
  refine ⟨zIf [], zAllI_e zAllI_n, ?_⟩
  simp (maxSteps := 3000000) only [↓zwp_s, zrun_n, zrun_c, zgo_any, zgo_bel, ↓zgA_n, ↓zgA_c, ↓zgB_n, ↓zgB_c, ↓zp1_c, ↓zpv_c, ↓ztg_e, ↓zFv_r, ↓zFv_i, ↓zFv_z, ↓reduceIte, ↓zi_goto, ↓zi_iconst, ↓zi_if_icmp, ↓zi_iload_n, ↓zi_ireturn, zcmp_lt, zcmp_gt, bX11_in_0, bX11_in_14, bX11_in_15, List.size_toArray, zent_n, zent_c, zst_e, zfi0, zfi1, zfi2, zfi3, zcast, Nat.reduceAdd, Nat.reduceSub, Nat.reduceEqDiff, Nat.reduceLT, Nat.reduceLeDiff, Int.reduceAdd, Int.reduceSub, Int.reduceMul, Int.reduceToNat, Int.reduceLE, Int.reduceLT, Int.reduceEq, Int.reduceNeg, Int.reduceNegSucc, Nat.reduceMul, List.zip_cons_cons, List.zip_nil_left, List.zip_nil_right, Int.toNat_natCast, true_and, and_true, eq_self, ne_eq, not_false_eq_true, not_true_eq_false, forall_const, implies_true, false_and, true_or, or_true, false_or, or_false, imp_self, CX11_in, and_imp, exists_eq_left, exists_eq_left', exists_eq_right, exists_eq_right', exists_and_left, exists_and_right, Prod.mk.injEq, zAdd_e, zSub_e, zMul_e, zres_0, zres_4, zres_1, zres_9, zrt_0, zrt_4, zrt_1, zrt_9, List.take_succ_cons, List.take_zero, List.drop_succ_cons, List.drop_zero, List.map_cons, List.map_nil, List.reverse_cons, List.reverse_nil, List.nil_append, List.cons_append, List.length_cons, List.length_nil, zPr_c, List.mem_cons, List.not_mem_nil, ↓zIV_e, zcats, List.sum_cons, List.sum_nil, zpu, zfu, zset_e, zbo, ↓zc_ne00, ↓zc_ne01, ↓zc_ne10, ↓zc_ne11, ↓zc_eq00, ↓zc_eq01, ↓zc_eq10, ↓zc_eq11, zs_80_81, zs_83_81, zs_84_81, zs_85_81, zs_86_81, zs_87_81, zs_88_81, zs_89_81, zs_90_81, zs_91_81, zs_92_81, zs_93_81]
  repeat' (first | exact zfr_rf _ _ _ | (refine zfr_st ?_ (by omega) (by omega)) | (refine zfr_cp ?_ (by omega) (by omega)) | (refine zfr_tr ?_ (by assumption)) | (refine zfr_tr ?_ (zfr_mono (by assumption) (by omega) (by omega))) | (refine And.intro ?_ ?_) | (intro _) | (refine Exists.intro (nn - 1) ?_) | (refine Exists.intro 5000000000 ?_) | fail)
  all_goals (try (simp only [zw] at *))
  all_goals (first | trivial | omega | exact (zAnd_b _).1 | exact (zAnd_b _).2 | assumption | (simp; omega) | skip)
def CX11_throwsIf : zCt := ([2, 0, 0], 4, zPr [80] (fun vs mem => match vs with | [t, z, c] => (z = 0 ∨ z = 1) | _ => False), zdt (fun vs mem => match vs with | [t, z, c] => (z) | _ => 0) (fun vs mem => match vs with | [t, z, c] => (if z = 0 then mem else zset mem 80 0 c) | _ => mem))
def VX11_throwsIf : List (Nat × zCt) := []
def SX11_throwsIf : List (Nat × zCt) := []
set_option maxHeartbeats 1000000 in
set_option maxRecDepth 100000 in
theorem mX11_throwsIf (l : Launch) : zMet l zLay yX11_throwsIf cX11_throwsIf 3 (some .boolean) 0 CX11_throwsIf.1 CX11_throwsIf.2.1 CX11_throwsIf.2.2.1 CX11_throwsIf.2.2.2 := by
  refine zMet_of (pl := zPlf PX11) (cv := zCf VX11_throwsIf) (cS := zCf SX11_throwsIf) (B := zBf BX11_throwsIf) (F := 80) (own := RX11) (by decide +kernel) rfl (Or.inr (Or.inl ⟨rfl, rfl⟩)) (fun vs h => by obtain ⟨t, z, c, rfl⟩ := zlen3 h; exact Nat.le_of_ble_eq_true rfl) PX11_ok zClok_ok zSyok_ok oX11_throwsIf (zAllC_e (zAllC_n)) (zAllC_e (zAllC_n)) ?_
  intro vs mem hvl hok hm hpre
  obtain ⟨t, z, c, rfl⟩ := zlen3 hvl
  have hr_z : -2147483648 ≤ z ∧ z ≤ 2147483647 := (hok (0, z) (by simp [CX11_throwsIf])).1 rfl
  have hr_c : -2147483648 ≤ c ∧ c ≤ 2147483647 := (hok (0, c) (by simp [CX11_throwsIf])).1 rfl
  clear hok hvl
  obtain ⟨hid, hpre⟩ := hpre
  simp only [List.mem_cons, List.not_mem_nil, or_false] at hid
  have hpre : z = 0 ∨ z = 1 := hpre
  subst hid
  refine ⟨zIf [], zAllI_e zAllI_n, ?_⟩
  simp (maxSteps := 3000000) only [↓zwp_s, zrun_n, zrun_c, zgo_any, zgo_bel, ↓zgA_n, ↓zgA_c, ↓zgB_n, ↓zgB_c, ↓zp1_c, ↓zpv_c, ↓ztg_e, ↓zFv_r, ↓zFv_i, ↓zFv_z, ↓reduceIte, ↓zi_aload_n, ↓zi_ifCond, ↓zi_iload_n, ↓zi_ireturn, ↓zi_putfield, zcmp_eq, ↓zpl_e pX11_3, ↓zo_80_0, ↓zo_80_1, ↓zo_80_2, ↓zo_80_3, ↓zo_80_4, ↓zo_80_5, ↓zo_80_6, ↓zo_80_7, ↓zo_80_8, ↓zo_80_9, ↓zo_80_10, ↓zo_80_11, ↓zo_80_12, ↓zo_80_13, ↓zo_80_14, ↓zo_80_15, ↓zo_80_16, ↓zo_80_17, ↓zo_80_18, ↓zo_80_19, ↓zo_80_20, ↓zo_80_21, ↓zo_80_22, ↓zo_80_23, ↓zo_80_24, bX11_throwsIf_0, bX11_throwsIf_9, List.size_toArray, zent_n, zent_c, zst_e, zfi0, zfi1, zfi2, zfi3, zcast, Nat.reduceAdd, Nat.reduceSub, Nat.reduceEqDiff, Nat.reduceLT, Nat.reduceLeDiff, Int.reduceAdd, Int.reduceSub, Int.reduceMul, Int.reduceToNat, Int.reduceLE, Int.reduceLT, Int.reduceEq, Int.reduceNeg, Int.reduceNegSucc, Nat.reduceMul, List.zip_cons_cons, List.zip_nil_left, List.zip_nil_right, Int.toNat_natCast, true_and, and_true, eq_self, ne_eq, not_false_eq_true, not_true_eq_false, forall_const, implies_true, false_and, true_or, or_true, false_or, or_false, imp_self, CX11_throwsIf, and_imp, exists_eq_left, exists_eq_left', exists_eq_right, exists_eq_right', exists_and_left, exists_and_right, Prod.mk.injEq, zAdd_e, zSub_e, zMul_e, zres_0, zres_4, zres_1, zres_9, zrt_0, zrt_4, zrt_1, zrt_9, List.take_succ_cons, List.take_zero, List.drop_succ_cons, List.drop_zero, List.map_cons, List.map_nil, List.reverse_cons, List.reverse_nil, List.nil_append, List.cons_append, List.length_cons, List.length_nil, zPr_c, List.mem_cons, List.not_mem_nil, ↓zIV_e, zcats, List.sum_cons, List.sum_nil, zpu, zfu, zset_e, zdt, ↓zc_ne00, ↓zc_ne01, ↓zc_ne10, ↓zc_ne11, ↓zc_eq00, ↓zc_eq01, ↓zc_eq10, ↓zc_eq11, zs_80_81, zs_83_81, zs_84_81, zs_85_81, zs_86_81, zs_87_81, zs_88_81, zs_89_81, zs_90_81, zs_91_81, zs_92_81, zs_93_81]
  repeat' (first | (refine And.intro ?_ ?_) | (intro _))
  all_goals (simp_all <;> omega)
def CX11_noCell : zCt := ([0], 4, (fun vs mem => match vs with | [c] => (True) | _ => False), zbo (fun vs mem => match vs with | [c] => (¬ (0 ≤ c ∧ c ≤ 99)) | _ => False) (fun vs mem => match vs with | [c] => (0 ≤ c ∧ c ≤ 99) | _ => False))
def VX11_noCell : List (Nat × zCt) := []
def SX11_noCell : List (Nat × zCt) := [(232, CX11_in)]
set_option maxHeartbeats 1000000 in
set_option maxRecDepth 100000 in
theorem mX11_noCell (l : Launch) : zMet l zLay yX11_noCell cX11_noCell 1 (some .boolean) 1 CX11_noCell.1 CX11_noCell.2.1 CX11_noCell.2.2.1 CX11_noCell.2.2.2 := by
  refine zMet_of (pl := zPlf PX11) (cv := zCf VX11_noCell) (cS := zCf SX11_noCell) (B := zBf BX11_noCell) (F := 80) (own := RX11) (by decide +kernel) rfl (Or.inr (Or.inl ⟨rfl, rfl⟩)) (fun vs h => by obtain ⟨c, rfl⟩ := zlen1 h; exact Nat.le_of_ble_eq_true rfl) PX11_ok zClok_ok zSyok_ok oX11_noCell (zAllC_e (zAllC_n)) (zAllC_e (zAllC_c (zcal_s (mX11_in l) (by decide) (by decide) hX11_in kX11_232 ⟨by decide, by decide +kernel⟩) (zAllC_n))) ?_
  intro vs mem hvl hok hm hpre
  obtain ⟨c, rfl⟩ := zlen1 hvl
  have hr_c : -2147483648 ≤ c ∧ c ≤ 2147483647 := (hok (0, c) (by simp [CX11_noCell])).1 rfl
  clear hok hvl
  have hpre : True := hpre
  refine ⟨zIf [], zAllI_e zAllI_n, ?_⟩
  simp (maxSteps := 3000000) only [↓zwp_s, zrun_n, zrun_c, zgo_any, zgo_bel, ↓zgA_n, ↓zgA_c, ↓zgB_n, ↓zgB_c, ↓zp1_c, ↓zpv_c, ↓ztg_e, ↓zFv_r, ↓zFv_i, ↓zFv_z, ↓reduceIte, ↓zi_bipush, ↓zi_goto, ↓zi_iconst, ↓zi_ifCond, ↓zi_iload_n, ↓zi_ireturn, zcmp_ne, bX11_noCell_0, bX11_noCell_14, bX11_noCell_15, List.size_toArray, zent_n, zent_c, zst_e, zfi0, zfi1, zfi2, zfi3, zcast, Nat.reduceAdd, Nat.reduceSub, Nat.reduceEqDiff, Nat.reduceLT, Nat.reduceLeDiff, Int.reduceAdd, Int.reduceSub, Int.reduceMul, Int.reduceToNat, Int.reduceLE, Int.reduceLT, Int.reduceEq, Int.reduceNeg, Int.reduceNegSucc, Nat.reduceMul, List.zip_cons_cons, List.zip_nil_left, List.zip_nil_right, Int.toNat_natCast, true_and, and_true, eq_self, ne_eq, not_false_eq_true, not_true_eq_false, forall_const, implies_true, false_and, true_or, or_true, false_or, or_false, imp_self, CX11_noCell, ↓zs_cb (cS := zCf SX11_noCell) (pl := zPlf PX11) (k := 232) (h := (rfl : zCf SX11_noCell 232 = some CX11_in)) (h2 := rfl), and_imp, exists_eq_left, exists_eq_left', exists_eq_right, exists_eq_right', exists_and_left, exists_and_right, Prod.mk.injEq, zAdd_e, zSub_e, zMul_e, zres_0, zres_4, zres_1, zres_9, zrt_0, zrt_4, zrt_1, zrt_9, List.take_succ_cons, List.take_zero, List.drop_succ_cons, List.drop_zero, List.map_cons, List.map_nil, List.reverse_cons, List.reverse_nil, List.nil_append, List.cons_append, List.length_cons, List.length_nil, zPr_c, List.mem_cons, List.not_mem_nil, ↓zIV_e, zcats, List.sum_cons, List.sum_nil, zpu, zfu, zset_e, zbo, ↓zc_ne00, ↓zc_ne01, ↓zc_ne10, ↓zc_ne11, ↓zc_eq00, ↓zc_eq01, ↓zc_eq10, ↓zc_eq11, zs_80_81, zs_83_81, zs_84_81, zs_85_81, zs_86_81, zs_87_81, zs_88_81, zs_89_81, zs_90_81, zs_91_81, zs_92_81, zs_93_81]
  repeat' (first | exact zfr_rf _ _ _ | (refine zfr_st ?_ (by omega) (by omega)) | (refine zfr_cp ?_ (by omega) (by omega)) | (refine zfr_tr ?_ (by assumption)) | (refine zfr_tr ?_ (zfr_mono (by assumption) (by omega) (by omega))) | (refine And.intro ?_ ?_) | (intro _) | (refine Exists.intro (nn - 1) ?_) | (refine Exists.intro 5000000000 ?_) | fail)
  all_goals (try (simp only [zw] at *))
  all_goals (first | trivial | omega | exact (zAnd_b _).1 | exact (zAnd_b _).2 | assumption | (simp; omega) | skip)
def CX11_beside : zCt := ([0, 0], 0, (fun vs mem => match vs with | [c, w] => (0 ≤ c ∧ c ≤ 99) | _ => False), zpu (fun vs mem r => match vs with | [c, w] => (-1 ≤ r ∧ r ≤ 99 ∧ r = zbes c w) | _ => False))
def VX11_beside : List (Nat × zCt) := []
def SX11_beside : List (Nat × zCt) := [(232, CX11_in)]
set_option maxHeartbeats 8000000 in
set_option maxRecDepth 100000 in
theorem mX11_beside (l : Launch) : zMet l zLay yX11_beside cX11_beside 4 (some .int) 1 CX11_beside.1 CX11_beside.2.1 CX11_beside.2.2.1 CX11_beside.2.2.2 := by
  refine zMet_of (pl := zPlf PX11) (cv := zCf VX11_beside) (cS := zCf SX11_beside) (B := zBf BX11_beside) (F := 80) (own := RX11) (by decide +kernel) rfl (Or.inl ⟨rfl, rfl⟩) (fun vs h => by obtain ⟨c, w, rfl⟩ := zlen2 h; exact Nat.le_of_ble_eq_true rfl) PX11_ok zClok_ok zSyok_ok oX11_beside (zAllC_e (zAllC_n)) (zAllC_e (zAllC_c (zcal_s (mX11_in l) (by decide) (by decide) hX11_in kX11_232 ⟨by decide, by decide +kernel⟩) (zAllC_n))) ?_
  intro vs mem hvl hok hm hpre
  obtain ⟨c, w, rfl⟩ := zlen2 hvl
  have hr_c : -2147483648 ≤ c ∧ c ≤ 2147483647 := (hok (0, c) (by simp [CX11_beside])).1 rfl
  have hr_w : -2147483648 ≤ w ∧ w ≤ 2147483647 := (hok (0, w) (by simp [CX11_beside])).1 rfl
  clear hok hvl
  have hpre : 0 ≤ c ∧ c ≤ 99 := hpre
  have e1 : zDiv c 10 = c / 10 := zDiv_nn hr_c ⟨by omega, by omega⟩ hpre.1 (by omega)
  have e3 : zRem c 10 = c % 10 := zRem_nn hr_c ⟨by omega, by omega⟩ hpre.1 (by omega)
  refine ⟨zIf [], zAllI_e zAllI_n, ?_⟩
  simp (maxSteps := 3000000) only [↓zwp_s, zrun_n, zrun_c, zgo_any, zgo_bel, ↓zgA_n, ↓zgA_c, ↓zgB_n, ↓zgB_c, ↓zp1_c, ↓zpv_c, ↓ztg_e, ↓zFv_r, ↓zFv_i, ↓zFv_z, ↓reduceIte, ↓zi_bipush, ↓zi_goto, ↓zi_iadd, ↓zi_iconst, ↓zi_idiv, ↓zi_ifCond, ↓zi_if_icmp, ↓zi_iload_n, ↓zi_imul, ↓zi_irem, ↓zi_ireturn, ↓zi_istore_n, zcmp_ne, zcmp_eq, bX11_beside_0, bX11_beside_13, bX11_beside_22, bX11_beside_23, bX11_beside_38, bX11_beside_46, bX11_beside_47, bX11_beside_78, bX11_beside_79, List.size_toArray, zent_n, zent_c, zst_e, zfi0, zfi1, zfi2, zfi3, zcast, Nat.reduceAdd, Nat.reduceSub, Nat.reduceEqDiff, Nat.reduceLT, Nat.reduceLeDiff, Int.reduceAdd, Int.reduceSub, Int.reduceMul, Int.reduceToNat, Int.reduceLE, Int.reduceLT, Int.reduceEq, Int.reduceNeg, Int.reduceNegSucc, Nat.reduceMul, List.zip_cons_cons, List.zip_nil_left, List.zip_nil_right, Int.toNat_natCast, true_and, and_true, eq_self, ne_eq, not_false_eq_true, not_true_eq_false, forall_const, implies_true, false_and, true_or, or_true, false_or, or_false, imp_self, CX11_beside, ↓zs_cb (cS := zCf SX11_beside) (pl := zPlf PX11) (k := 232) (h := (rfl : zCf SX11_beside 232 = some CX11_in)) (h2 := rfl), and_imp, exists_eq_left, exists_eq_left', exists_eq_right, exists_eq_right', exists_and_left, exists_and_right, Prod.mk.injEq, zAdd_e, zSub_e, zMul_e, zres_0, zres_4, zres_1, zres_9, zrt_0, zrt_4, zrt_1, zrt_9, List.take_succ_cons, List.take_zero, List.drop_succ_cons, List.drop_zero, List.map_cons, List.map_nil, List.reverse_cons, List.reverse_nil, List.nil_append, List.cons_append, List.length_cons, List.length_nil, zPr_c, List.mem_cons, List.not_mem_nil, ↓zIV_e, zcats, List.sum_cons, List.sum_nil, zpu, zfu, zset_e, e1, e3, ↓zc_ne00, ↓zc_ne01, ↓zc_ne10, ↓zc_ne11, ↓zc_eq00, ↓zc_eq01, ↓zc_eq10, ↓zc_eq11, zs_80_81, zs_83_81, zs_84_81, zs_85_81, zs_86_81, zs_87_81, zs_88_81, zs_89_81, zs_90_81, zs_91_81, zs_92_81, zs_93_81]
  repeat' (first | exact zfr_rf _ _ _ | (refine zfr_st ?_ (by omega) (by omega)) | (refine zfr_cp ?_ (by omega) (by omega)) | (refine zfr_tr ?_ (by assumption)) | (refine zfr_tr ?_ (zfr_mono (by assumption) (by omega) (by omega))) | (refine And.intro ?_ ?_) | (intro _) | (refine Exists.intro (nn - 1) ?_) | (refine Exists.intro 5000000000 ?_) | fail)
  all_goals (try (simp (disch := omega) only [zw_id] at *))
  all_goals (try (simp only [zw] at *))
  all_goals (first | trivial | omega | (unfold zbes; (repeat' split) <;> (first | omega | (split at * <;> first | omega | (split at * <;> first | omega | (split at * <;> omega))))) | (split at * <;> omega) | skip)
def CX11_costOf : zCt := ([0], 0, (fun vs mem => match vs with | [k] => (True) | _ => False), zpu (fun vs mem r => match vs with | [k] => (12 ≤ r ∧ r ≤ 40 ∧ r = zcost k) | _ => False))
def VX11_costOf : List (Nat × zCt) := []
def SX11_costOf : List (Nat × zCt) := []
set_option maxHeartbeats 1000000 in
set_option maxRecDepth 100000 in
theorem mX11_costOf (l : Launch) : zMet l zLay yX11_costOf cX11_costOf 1 (some .int) 0 CX11_costOf.1 CX11_costOf.2.1 CX11_costOf.2.2.1 CX11_costOf.2.2.2 := by
  refine zMet_of (pl := zPlf PX11) (cv := zCf VX11_costOf) (cS := zCf SX11_costOf) (B := zBf BX11_costOf) (F := 80) (own := RX11) (by decide +kernel) rfl (Or.inl ⟨rfl, rfl⟩) (fun vs h => by obtain ⟨k, rfl⟩ := zlen1 h; exact Nat.le_of_ble_eq_true rfl) PX11_ok zClok_ok zSyok_ok oX11_costOf (zAllC_e (zAllC_n)) (zAllC_e (zAllC_n)) ?_
  intro vs mem hvl hok hm hpre
  obtain ⟨k, rfl⟩ := zlen1 hvl
  have hr_k : -2147483648 ≤ k ∧ k ≤ 2147483647 := (hok (0, k) (by simp [CX11_costOf])).1 rfl
  clear hok hvl
  have hpre : True := hpre
  refine ⟨zIf [], zAllI_e zAllI_n, ?_⟩
  simp (maxSteps := 3000000) only [↓zwp_s, zrun_n, zrun_c, zgo_any, zgo_bel, ↓zgA_n, ↓zgA_c, ↓zgB_n, ↓zgB_c, ↓zp1_c, ↓zpv_c, ↓ztg_e, ↓zFv_r, ↓zFv_i, ↓zFv_z, ↓reduceIte, ↓zi_bipush, ↓zi_goto, ↓zi_iconst, ↓zi_ifCond, ↓zi_if_icmp, ↓zi_iload_n, ↓zi_ireturn, zcmp_ne, bX11_costOf_0, bX11_costOf_9, bX11_costOf_19, bX11_costOf_21, List.size_toArray, zent_n, zent_c, zst_e, zfi0, zfi1, zfi2, zfi3, zcast, Nat.reduceAdd, Nat.reduceSub, Nat.reduceEqDiff, Nat.reduceLT, Nat.reduceLeDiff, Int.reduceAdd, Int.reduceSub, Int.reduceMul, Int.reduceToNat, Int.reduceLE, Int.reduceLT, Int.reduceEq, Int.reduceNeg, Int.reduceNegSucc, Nat.reduceMul, List.zip_cons_cons, List.zip_nil_left, List.zip_nil_right, Int.toNat_natCast, true_and, and_true, eq_self, ne_eq, not_false_eq_true, not_true_eq_false, forall_const, implies_true, false_and, true_or, or_true, false_or, or_false, imp_self, CX11_costOf, and_imp, exists_eq_left, exists_eq_left', exists_eq_right, exists_eq_right', exists_and_left, exists_and_right, Prod.mk.injEq, zAdd_e, zSub_e, zMul_e, zres_0, zres_4, zres_1, zres_9, zrt_0, zrt_4, zrt_1, zrt_9, List.take_succ_cons, List.take_zero, List.drop_succ_cons, List.drop_zero, List.map_cons, List.map_nil, List.reverse_cons, List.reverse_nil, List.nil_append, List.cons_append, List.length_cons, List.length_nil, zPr_c, List.mem_cons, List.not_mem_nil, ↓zIV_e, zcats, List.sum_cons, List.sum_nil, zpu, zfu, zset_e, ↓zc_ne00, ↓zc_ne01, ↓zc_ne10, ↓zc_ne11, ↓zc_eq00, ↓zc_eq01, ↓zc_eq10, ↓zc_eq11, zs_80_81, zs_83_81, zs_84_81, zs_85_81, zs_86_81, zs_87_81, zs_88_81, zs_89_81, zs_90_81, zs_91_81, zs_92_81, zs_93_81]
  repeat' (first | exact zfr_rf _ _ _ | (refine zfr_st ?_ (by omega) (by omega)) | (refine zfr_cp ?_ (by omega) (by omega)) | (refine zfr_tr ?_ (by assumption)) | (refine zfr_tr ?_ (zfr_mono (by assumption) (by omega) (by omega))) | (refine And.intro ?_ ?_) | (intro _) | (refine Exists.intro (nn - 1) ?_) | (refine Exists.intro 5000000000 ?_) | fail)
  all_goals (first | trivial | omega | (unfold zcost; (repeat' split) <;> omega))
def CX11_textAt : zCt := ([0], 0, (fun vs mem => match vs with | [t0] => (0 ≤ t0 ∧ t0 ≤ 4) | _ => False), zfu (fun vs mem => match vs with | [t0] => (612 + 1061 * t0) | _ => 0))
def VX11_textAt : List (Nat × zCt) := []
def SX11_textAt : List (Nat × zCt) := []
set_option maxHeartbeats 1000000 in
set_option maxRecDepth 100000 in
theorem mX11_textAt (l : Launch) : zMet l zLay yX11_textAt cX11_textAt 1 (some .int) 0 CX11_textAt.1 CX11_textAt.2.1 CX11_textAt.2.2.1 CX11_textAt.2.2.2 := by
  refine zMet_of (pl := zPlf PX11) (cv := zCf VX11_textAt) (cS := zCf SX11_textAt) (B := zBf BX11_textAt) (F := 80) (own := RX11) (by decide +kernel) rfl (Or.inl ⟨rfl, rfl⟩) (fun vs h => by obtain ⟨t0, rfl⟩ := zlen1 h; exact Nat.le_of_ble_eq_true rfl) PX11_ok zClok_ok zSyok_ok oX11_textAt (zAllC_e (zAllC_n)) (zAllC_e (zAllC_n)) ?_
  intro vs mem hvl hok hm hpre
  obtain ⟨t0, rfl⟩ := zlen1 hvl
  have hr_t0 : -2147483648 ≤ t0 ∧ t0 ≤ 2147483647 := (hok (0, t0) (by simp [CX11_textAt])).1 rfl
  clear hok hvl
  have hpre : 0 ≤ t0 ∧ t0 ≤ 4 := hpre
  refine ⟨zIf [], zAllI_e zAllI_n, ?_⟩
  simp (maxSteps := 3000000) only [↓zwp_s, zrun_n, zrun_c, zgo_any, zgo_bel, ↓zgA_n, ↓zgA_c, ↓zgB_n, ↓zgB_c, ↓zp1_c, ↓zpv_c, ↓ztg_e, ↓zFv_r, ↓zFv_i, ↓zFv_z, ↓reduceIte, ↓zi_iadd, ↓zi_iload_n, ↓zi_imul, ↓zi_ireturn, ↓zi_sipush, bX11_textAt_0, List.size_toArray, zent_n, zent_c, zst_e, zfi0, zfi1, zfi2, zfi3, zcast, Nat.reduceAdd, Nat.reduceSub, Nat.reduceEqDiff, Nat.reduceLT, Nat.reduceLeDiff, Int.reduceAdd, Int.reduceSub, Int.reduceMul, Int.reduceToNat, Int.reduceLE, Int.reduceLT, Int.reduceEq, Int.reduceNeg, Int.reduceNegSucc, Nat.reduceMul, List.zip_cons_cons, List.zip_nil_left, List.zip_nil_right, Int.toNat_natCast, true_and, and_true, eq_self, ne_eq, not_false_eq_true, not_true_eq_false, forall_const, implies_true, false_and, true_or, or_true, false_or, or_false, imp_self, CX11_textAt, and_imp, exists_eq_left, exists_eq_left', exists_eq_right, exists_eq_right', exists_and_left, exists_and_right, Prod.mk.injEq, zAdd_e, zSub_e, zMul_e, zres_0, zres_4, zres_1, zres_9, zrt_0, zrt_4, zrt_1, zrt_9, List.take_succ_cons, List.take_zero, List.drop_succ_cons, List.drop_zero, List.map_cons, List.map_nil, List.reverse_cons, List.reverse_nil, List.nil_append, List.cons_append, List.length_cons, List.length_nil, zPr_c, List.mem_cons, List.not_mem_nil, ↓zIV_e, zcats, List.sum_cons, List.sum_nil, zpu, zfu, zset_e, ↓zc_ne00, ↓zc_ne01, ↓zc_ne10, ↓zc_ne11, ↓zc_eq00, ↓zc_eq01, ↓zc_eq10, ↓zc_eq11, zs_80_81, zs_83_81, zs_84_81, zs_85_81, zs_86_81, zs_87_81, zs_88_81, zs_89_81, zs_90_81, zs_91_81, zs_92_81, zs_93_81]
  repeat' (first | exact zfr_rf _ _ _ | (refine zfr_st ?_ (by omega) (by omega)) | (refine zfr_cp ?_ (by omega) (by omega)) | (refine zfr_tr ?_ (by assumption)) | (refine zfr_tr ?_ (zfr_mono (by assumption) (by omega) (by omega))) | (refine And.intro ?_ ?_) | (intro _) | (refine Exists.intro (nn - 1) ?_) | (refine Exists.intro 5000000000 ?_) | fail)
  all_goals (try (simp only [zw] at *))
  all_goals (first | trivial | omega | exact (zAnd_b _).1 | exact (zAnd_b _).2 | assumption | (simp; omega) | skip)
def CX11_opAt : zCt := ([0, 0], 0, (fun vs mem => match vs with | [t0, k] => (0 ≤ t0 ∧ t0 ≤ 4 ∧ 0 ≤ k ∧ k ≤ 1000000) | _ => False), zfu (fun vs mem => match vs with | [t0, k] => (613 + 1061 * t0 + 3 * k) | _ => 0))
def VX11_opAt : List (Nat × zCt) := []
def SX11_opAt : List (Nat × zCt) := [(99, CX11_textAt)]
set_option maxHeartbeats 1000000 in
set_option maxRecDepth 100000 in
theorem mX11_opAt (l : Launch) : zMet l zLay yX11_opAt cX11_opAt 2 (some .int) 1 CX11_opAt.1 CX11_opAt.2.1 CX11_opAt.2.2.1 CX11_opAt.2.2.2 := by
  refine zMet_of (pl := zPlf PX11) (cv := zCf VX11_opAt) (cS := zCf SX11_opAt) (B := zBf BX11_opAt) (F := 80) (own := RX11) (by decide +kernel) rfl (Or.inl ⟨rfl, rfl⟩) (fun vs h => by obtain ⟨t0, k, rfl⟩ := zlen2 h; exact Nat.le_of_ble_eq_true rfl) PX11_ok zClok_ok zSyok_ok oX11_opAt (zAllC_e (zAllC_n)) (zAllC_e (zAllC_c (zcal_s (mX11_textAt l) (by decide) (by decide) hX11_textAt kX11_99 ⟨by decide, by decide +kernel⟩) (zAllC_n))) ?_
  intro vs mem hvl hok hm hpre
  obtain ⟨t0, k, rfl⟩ := zlen2 hvl
  have hr_t0 : -2147483648 ≤ t0 ∧ t0 ≤ 2147483647 := (hok (0, t0) (by simp [CX11_opAt])).1 rfl
  have hr_k : -2147483648 ≤ k ∧ k ≤ 2147483647 := (hok (0, k) (by simp [CX11_opAt])).1 rfl
  clear hok hvl
  have hpre : 0 ≤ t0 ∧ t0 ≤ 4 ∧ 0 ≤ k ∧ k ≤ 1000000 := hpre
  refine ⟨zIf [], zAllI_e zAllI_n, ?_⟩
  simp (maxSteps := 3000000) only [↓zwp_s, zrun_n, zrun_c, zgo_any, zgo_bel, ↓zgA_n, ↓zgA_c, ↓zgB_n, ↓zgB_c, ↓zp1_c, ↓zpv_c, ↓ztg_e, ↓zFv_r, ↓zFv_i, ↓zFv_z, ↓reduceIte, ↓zi_iadd, ↓zi_iconst, ↓zi_iload_n, ↓zi_imul, ↓zi_ireturn, bX11_opAt_0, List.size_toArray, zent_n, zent_c, zst_e, zfi0, zfi1, zfi2, zfi3, zcast, Nat.reduceAdd, Nat.reduceSub, Nat.reduceEqDiff, Nat.reduceLT, Nat.reduceLeDiff, Int.reduceAdd, Int.reduceSub, Int.reduceMul, Int.reduceToNat, Int.reduceLE, Int.reduceLT, Int.reduceEq, Int.reduceNeg, Int.reduceNegSucc, Nat.reduceMul, List.zip_cons_cons, List.zip_nil_left, List.zip_nil_right, Int.toNat_natCast, true_and, and_true, eq_self, ne_eq, not_false_eq_true, not_true_eq_false, forall_const, implies_true, false_and, true_or, or_true, false_or, or_false, imp_self, CX11_opAt, ↓zs_cf (cS := zCf SX11_opAt) (pl := zPlf PX11) (k := 99) (h := (rfl : zCf SX11_opAt 99 = some CX11_textAt)) (h2 := rfl), and_imp, exists_eq_left, exists_eq_left', exists_eq_right, exists_eq_right', exists_and_left, exists_and_right, Prod.mk.injEq, zAdd_e, zSub_e, zMul_e, zres_0, zres_4, zres_1, zres_9, zrt_0, zrt_4, zrt_1, zrt_9, List.take_succ_cons, List.take_zero, List.drop_succ_cons, List.drop_zero, List.map_cons, List.map_nil, List.reverse_cons, List.reverse_nil, List.nil_append, List.cons_append, List.length_cons, List.length_nil, zPr_c, List.mem_cons, List.not_mem_nil, ↓zIV_e, zcats, List.sum_cons, List.sum_nil, zpu, zfu, zset_e, ↓zc_ne00, ↓zc_ne01, ↓zc_ne10, ↓zc_ne11, ↓zc_eq00, ↓zc_eq01, ↓zc_eq10, ↓zc_eq11, zs_80_81, zs_83_81, zs_84_81, zs_85_81, zs_86_81, zs_87_81, zs_88_81, zs_89_81, zs_90_81, zs_91_81, zs_92_81, zs_93_81]
  repeat' (first | exact zfr_rf _ _ _ | (refine zfr_st ?_ (by omega) (by omega)) | (refine zfr_cp ?_ (by omega) (by omega)) | (refine zfr_tr ?_ (by assumption)) | (refine zfr_tr ?_ (zfr_mono (by assumption) (by omega) (by omega))) | (refine And.intro ?_ ?_) | (intro _) | (refine Exists.intro (nn - 1) ?_) | (refine Exists.intro 5000000000 ?_) | fail)
  all_goals (try (simp only [zw] at *))
  all_goals (first | trivial | omega | exact (zAnd_b _).1 | exact (zAnd_b _).2 | assumption | (simp; omega) | skip)
def CX11_stepAt : zCt := ([0, 0], 0, (fun vs mem => match vs with | [t0, k] => (0 ≤ t0 ∧ t0 ≤ 4 ∧ 0 ≤ k ∧ k ≤ 1000000) | _ => False), zfu (fun vs mem => match vs with | [t0, k] => (1273 + 1061 * t0 + 2 * k) | _ => 0))
def VX11_stepAt : List (Nat × zCt) := []
def SX11_stepAt : List (Nat × zCt) := [(99, CX11_textAt)]
set_option maxHeartbeats 1000000 in
set_option maxRecDepth 100000 in
theorem mX11_stepAt (l : Launch) : zMet l zLay yX11_stepAt cX11_stepAt 2 (some .int) 1 CX11_stepAt.1 CX11_stepAt.2.1 CX11_stepAt.2.2.1 CX11_stepAt.2.2.2 := by
  refine zMet_of (pl := zPlf PX11) (cv := zCf VX11_stepAt) (cS := zCf SX11_stepAt) (B := zBf BX11_stepAt) (F := 80) (own := RX11) (by decide +kernel) rfl (Or.inl ⟨rfl, rfl⟩) (fun vs h => by obtain ⟨t0, k, rfl⟩ := zlen2 h; exact Nat.le_of_ble_eq_true rfl) PX11_ok zClok_ok zSyok_ok oX11_stepAt (zAllC_e (zAllC_n)) (zAllC_e (zAllC_c (zcal_s (mX11_textAt l) (by decide) (by decide) hX11_textAt kX11_99 ⟨by decide, by decide +kernel⟩) (zAllC_n))) ?_
  intro vs mem hvl hok hm hpre
  obtain ⟨t0, k, rfl⟩ := zlen2 hvl
  have hr_t0 : -2147483648 ≤ t0 ∧ t0 ≤ 2147483647 := (hok (0, t0) (by simp [CX11_stepAt])).1 rfl
  have hr_k : -2147483648 ≤ k ∧ k ≤ 2147483647 := (hok (0, k) (by simp [CX11_stepAt])).1 rfl
  clear hok hvl
  have hpre : 0 ≤ t0 ∧ t0 ≤ 4 ∧ 0 ≤ k ∧ k ≤ 1000000 := hpre
  refine ⟨zIf [], zAllI_e zAllI_n, ?_⟩
  simp (maxSteps := 3000000) only [↓zwp_s, zrun_n, zrun_c, zgo_any, zgo_bel, ↓zgA_n, ↓zgA_c, ↓zgB_n, ↓zgB_c, ↓zp1_c, ↓zpv_c, ↓ztg_e, ↓zFv_r, ↓zFv_i, ↓zFv_z, ↓reduceIte, ↓zi_iadd, ↓zi_iconst, ↓zi_iload_n, ↓zi_imul, ↓zi_ireturn, ↓zi_sipush, bX11_stepAt_0, List.size_toArray, zent_n, zent_c, zst_e, zfi0, zfi1, zfi2, zfi3, zcast, Nat.reduceAdd, Nat.reduceSub, Nat.reduceEqDiff, Nat.reduceLT, Nat.reduceLeDiff, Int.reduceAdd, Int.reduceSub, Int.reduceMul, Int.reduceToNat, Int.reduceLE, Int.reduceLT, Int.reduceEq, Int.reduceNeg, Int.reduceNegSucc, Nat.reduceMul, List.zip_cons_cons, List.zip_nil_left, List.zip_nil_right, Int.toNat_natCast, true_and, and_true, eq_self, ne_eq, not_false_eq_true, not_true_eq_false, forall_const, implies_true, false_and, true_or, or_true, false_or, or_false, imp_self, CX11_stepAt, ↓zs_cf (cS := zCf SX11_stepAt) (pl := zPlf PX11) (k := 99) (h := (rfl : zCf SX11_stepAt 99 = some CX11_textAt)) (h2 := rfl), and_imp, exists_eq_left, exists_eq_left', exists_eq_right, exists_eq_right', exists_and_left, exists_and_right, Prod.mk.injEq, zAdd_e, zSub_e, zMul_e, zres_0, zres_4, zres_1, zres_9, zrt_0, zrt_4, zrt_1, zrt_9, List.take_succ_cons, List.take_zero, List.drop_succ_cons, List.drop_zero, List.map_cons, List.map_nil, List.reverse_cons, List.reverse_nil, List.nil_append, List.cons_append, List.length_cons, List.length_nil, zPr_c, List.mem_cons, List.not_mem_nil, ↓zIV_e, zcats, List.sum_cons, List.sum_nil, zpu, zfu, zset_e, ↓zc_ne00, ↓zc_ne01, ↓zc_ne10, ↓zc_ne11, ↓zc_eq00, ↓zc_eq01, ↓zc_eq10, ↓zc_eq11, zs_80_81, zs_83_81, zs_84_81, zs_85_81, zs_86_81, zs_87_81, zs_88_81, zs_89_81, zs_90_81, zs_91_81, zs_92_81, zs_93_81]
  repeat' (first | exact zfr_rf _ _ _ | (refine zfr_st ?_ (by omega) (by omega)) | (refine zfr_cp ?_ (by omega) (by omega)) | (refine zfr_tr ?_ (by assumption)) | (refine zfr_tr ?_ (zfr_mono (by assumption) (by omega) (by omega))) | (refine And.intro ?_ ?_) | (intro _) | (refine Exists.intro (nn - 1) ?_) | (refine Exists.intro 5000000000 ?_) | fail)
  all_goals (try (simp only [zw] at *))
  all_goals (first | trivial | omega | exact (zAnd_b _).1 | exact (zAnd_b _).2 | assumption | (simp; omega) | skip)
def CX11_restAt : zCt := ([0, 0], 0, (fun vs mem => match vs with | [c, w] => (0 ≤ c ∧ c ≤ 99 ∧ 0 ≤ w ∧ w ≤ 60) | _ => False), zfu (fun vs mem => match vs with | [c, w] => (61 * c + w) | _ => 0))
def VX11_restAt : List (Nat × zCt) := []
def SX11_restAt : List (Nat × zCt) := []
set_option maxHeartbeats 1000000 in
set_option maxRecDepth 100000 in
theorem mX11_restAt (l : Launch) : zMet l zLay yX11_restAt cX11_restAt 2 (some .int) 0 CX11_restAt.1 CX11_restAt.2.1 CX11_restAt.2.2.1 CX11_restAt.2.2.2 := by
  refine zMet_of (pl := zPlf PX11) (cv := zCf VX11_restAt) (cS := zCf SX11_restAt) (B := zBf BX11_restAt) (F := 80) (own := RX11) (by decide +kernel) rfl (Or.inl ⟨rfl, rfl⟩) (fun vs h => by obtain ⟨c, w, rfl⟩ := zlen2 h; exact Nat.le_of_ble_eq_true rfl) PX11_ok zClok_ok zSyok_ok oX11_restAt (zAllC_e (zAllC_n)) (zAllC_e (zAllC_n)) ?_
  intro vs mem hvl hok hm hpre
  obtain ⟨c, w, rfl⟩ := zlen2 hvl
  have hr_c : -2147483648 ≤ c ∧ c ≤ 2147483647 := (hok (0, c) (by simp [CX11_restAt])).1 rfl
  have hr_w : -2147483648 ≤ w ∧ w ≤ 2147483647 := (hok (0, w) (by simp [CX11_restAt])).1 rfl
  clear hok hvl
  have hpre : 0 ≤ c ∧ c ≤ 99 ∧ 0 ≤ w ∧ w ≤ 60 := hpre
  refine ⟨zIf [], zAllI_e zAllI_n, ?_⟩
  simp (maxSteps := 3000000) only [↓zwp_s, zrun_n, zrun_c, zgo_any, zgo_bel, ↓zgA_n, ↓zgA_c, ↓zgB_n, ↓zgB_c, ↓zp1_c, ↓zpv_c, ↓ztg_e, ↓zFv_r, ↓zFv_i, ↓zFv_z, ↓reduceIte, ↓zi_bipush, ↓zi_iadd, ↓zi_iload_n, ↓zi_imul, ↓zi_ireturn, bX11_restAt_0, List.size_toArray, zent_n, zent_c, zst_e, zfi0, zfi1, zfi2, zfi3, zcast, Nat.reduceAdd, Nat.reduceSub, Nat.reduceEqDiff, Nat.reduceLT, Nat.reduceLeDiff, Int.reduceAdd, Int.reduceSub, Int.reduceMul, Int.reduceToNat, Int.reduceLE, Int.reduceLT, Int.reduceEq, Int.reduceNeg, Int.reduceNegSucc, Nat.reduceMul, List.zip_cons_cons, List.zip_nil_left, List.zip_nil_right, Int.toNat_natCast, true_and, and_true, eq_self, ne_eq, not_false_eq_true, not_true_eq_false, forall_const, implies_true, false_and, true_or, or_true, false_or, or_false, imp_self, CX11_restAt, and_imp, exists_eq_left, exists_eq_left', exists_eq_right, exists_eq_right', exists_and_left, exists_and_right, Prod.mk.injEq, zAdd_e, zSub_e, zMul_e, zres_0, zres_4, zres_1, zres_9, zrt_0, zrt_4, zrt_1, zrt_9, List.take_succ_cons, List.take_zero, List.drop_succ_cons, List.drop_zero, List.map_cons, List.map_nil, List.reverse_cons, List.reverse_nil, List.nil_append, List.cons_append, List.length_cons, List.length_nil, zPr_c, List.mem_cons, List.not_mem_nil, ↓zIV_e, zcats, List.sum_cons, List.sum_nil, zpu, zfu, zset_e, ↓zc_ne00, ↓zc_ne01, ↓zc_ne10, ↓zc_ne11, ↓zc_eq00, ↓zc_eq01, ↓zc_eq10, ↓zc_eq11, zs_80_81, zs_83_81, zs_84_81, zs_85_81, zs_86_81, zs_87_81, zs_88_81, zs_89_81, zs_90_81, zs_91_81, zs_92_81, zs_93_81]
  repeat' (first | exact zfr_rf _ _ _ | (refine zfr_st ?_ (by omega) (by omega)) | (refine zfr_cp ?_ (by omega) (by omega)) | (refine zfr_tr ?_ (by assumption)) | (refine zfr_tr ?_ (zfr_mono (by assumption) (by omega) (by omega))) | (refine And.intro ?_ ?_) | (intro _) | (refine Exists.intro (nn - 1) ?_) | (refine Exists.intro 5000000000 ?_) | fail)
  all_goals (try (simp only [zw] at *))
  all_goals (first | trivial | omega | exact (zAnd_b _).1 | exact (zAnd_b _).2 | assumption | (simp; omega) | skip)
def CX11_shared : zCt := ([0, 0], 0, (fun vs mem => match vs with | [n, s] => (s ≠ 0) | _ => False), zpu (fun vs mem r => match vs with | [n, s] => (True) | _ => False))
def VX11_shared : List (Nat × zCt) := []
def SX11_shared : List (Nat × zCt) := []
set_option maxHeartbeats 1000000 in
set_option maxRecDepth 100000 in
theorem mX11_shared (l : Launch) : zMet l zLay yX11_shared cX11_shared 2 (some .int) 0 CX11_shared.1 CX11_shared.2.1 CX11_shared.2.2.1 CX11_shared.2.2.2 := by
  refine zMet_of (pl := zPlf PX11) (cv := zCf VX11_shared) (cS := zCf SX11_shared) (B := zBf BX11_shared) (F := 80) (own := RX11) (by decide +kernel) rfl (Or.inl ⟨rfl, rfl⟩) (fun vs h => by obtain ⟨n, s, rfl⟩ := zlen2 h; exact Nat.le_of_ble_eq_true rfl) PX11_ok zClok_ok zSyok_ok oX11_shared (zAllC_e (zAllC_n)) (zAllC_e (zAllC_n)) ?_
  intro vs mem hvl hok hm hpre
  obtain ⟨n, s, rfl⟩ := zlen2 hvl
  have hr_n : -2147483648 ≤ n ∧ n ≤ 2147483647 := (hok (0, n) (by simp [CX11_shared])).1 rfl
  have hr_s : -2147483648 ≤ s ∧ s ≤ 2147483647 := (hok (0, s) (by simp [CX11_shared])).1 rfl
  clear hok hvl
  have hpre : s ≠ 0 := hpre
  refine ⟨zIf [], zAllI_e zAllI_n, ?_⟩
  simp (maxSteps := 3000000) only [↓zwp_s, zrun_n, zrun_c, zgo_any, zgo_bel, ↓zgA_n, ↓zgA_c, ↓zgB_n, ↓zgB_c, ↓zp1_c, ↓zpv_c, ↓ztg_e, ↓zFv_r, ↓zFv_i, ↓zFv_z, ↓reduceIte, ↓zi_iadd, ↓zi_iconst, ↓zi_idiv, ↓zi_iload_n, ↓zi_imul, ↓zi_ireturn, ↓zi_isub, bX11_shared_0, List.size_toArray, zent_n, zent_c, zst_e, zfi0, zfi1, zfi2, zfi3, zcast, Nat.reduceAdd, Nat.reduceSub, Nat.reduceEqDiff, Nat.reduceLT, Nat.reduceLeDiff, Int.reduceAdd, Int.reduceSub, Int.reduceMul, Int.reduceToNat, Int.reduceLE, Int.reduceLT, Int.reduceEq, Int.reduceNeg, Int.reduceNegSucc, Nat.reduceMul, List.zip_cons_cons, List.zip_nil_left, List.zip_nil_right, Int.toNat_natCast, true_and, and_true, eq_self, ne_eq, not_false_eq_true, not_true_eq_false, forall_const, implies_true, false_and, true_or, or_true, false_or, or_false, imp_self, CX11_shared, and_imp, exists_eq_left, exists_eq_left', exists_eq_right, exists_eq_right', exists_and_left, exists_and_right, Prod.mk.injEq, zAdd_e, zSub_e, zMul_e, zres_0, zres_4, zres_1, zres_9, zrt_0, zrt_4, zrt_1, zrt_9, List.take_succ_cons, List.take_zero, List.drop_succ_cons, List.drop_zero, List.map_cons, List.map_nil, List.reverse_cons, List.reverse_nil, List.nil_append, List.cons_append, List.length_cons, List.length_nil, zPr_c, List.mem_cons, List.not_mem_nil, ↓zIV_e, zcats, List.sum_cons, List.sum_nil, zpu, zfu, zset_e, ↓zc_ne00, ↓zc_ne01, ↓zc_ne10, ↓zc_ne11, ↓zc_eq00, ↓zc_eq01, ↓zc_eq10, ↓zc_eq11, zs_80_81, zs_83_81, zs_84_81, zs_85_81, zs_86_81, zs_87_81, zs_88_81, zs_89_81, zs_90_81, zs_91_81, zs_92_81, zs_93_81]
  repeat' (first | exact zfr_rf _ _ _ | (refine zfr_st ?_ (by omega) (by omega)) | (refine zfr_cp ?_ (by omega) (by omega)) | (refine zfr_tr ?_ (by assumption)) | (refine zfr_tr ?_ (zfr_mono (by assumption) (by omega) (by omega))) | (refine And.intro ?_ ?_) | (intro _) | (refine Exists.intro (nn - 1) ?_) | (refine Exists.intro 5000000000 ?_) | fail)
  all_goals (try (simp only [zw] at *))
  all_goals (first | trivial | omega | exact (zAnd_b _).1 | exact (zAnd_b _).2 | assumption | (simp; omega) | skip)
def CX11_apart : zCt := ([0, 0], 0, (fun vs mem => match vs with | [a, b] => (True) | _ => False), zpu (fun vs mem r => match vs with | [a, b] => (True) | _ => False))
def VX11_apart : List (Nat × zCt) := []
def SX11_apart : List (Nat × zCt) := [(341, CJ9_abs_0f7a4)]
set_option maxHeartbeats 1000000 in
set_option maxRecDepth 100000 in
theorem mX11_apart (l : Launch) : zMet l zLay yX11_apart cX11_apart 2 (some .int) 1 CX11_apart.1 CX11_apart.2.1 CX11_apart.2.2.1 CX11_apart.2.2.2 := by
  refine zMet_of (pl := zPlf PX11) (cv := zCf VX11_apart) (cS := zCf SX11_apart) (B := zBf BX11_apart) (F := 80) (own := RX11) (by decide +kernel) rfl (Or.inl ⟨rfl, rfl⟩) (fun vs h => by obtain ⟨a, b, rfl⟩ := zlen2 h; exact Nat.le_of_ble_eq_true rfl) PX11_ok zClok_ok zSyok_ok oX11_apart (zAllC_e (zAllC_n)) (zAllC_e (zAllC_c (zcal_s (mJ9_abs_0f7a4 l) (by decide) (by decide) hJ9_abs_0f7a4 kX11_341 ⟨by decide, by decide +kernel⟩) (zAllC_n))) ?_
  intro vs mem hvl hok hm hpre
  obtain ⟨a, b, rfl⟩ := zlen2 hvl
  have hr_a : -2147483648 ≤ a ∧ a ≤ 2147483647 := (hok (0, a) (by simp [CX11_apart])).1 rfl
  have hr_b : -2147483648 ≤ b ∧ b ≤ 2147483647 := (hok (0, b) (by simp [CX11_apart])).1 rfl
  clear hok hvl
  have hpre : True := hpre
  refine ⟨zIf [], zAllI_e zAllI_n, ?_⟩
  simp (maxSteps := 3000000) only [↓zwp_s, zrun_n, zrun_c, zgo_any, zgo_bel, ↓zgA_n, ↓zgA_c, ↓zgB_n, ↓zgB_c, ↓zp1_c, ↓zpv_c, ↓ztg_e, ↓zFv_r, ↓zFv_i, ↓zFv_z, ↓reduceIte, ↓zi_iload_n, ↓zi_ireturn, ↓zi_isub, bX11_apart_0, List.size_toArray, zent_n, zent_c, zst_e, zfi0, zfi1, zfi2, zfi3, zcast, Nat.reduceAdd, Nat.reduceSub, Nat.reduceEqDiff, Nat.reduceLT, Nat.reduceLeDiff, Int.reduceAdd, Int.reduceSub, Int.reduceMul, Int.reduceToNat, Int.reduceLE, Int.reduceLT, Int.reduceEq, Int.reduceNeg, Int.reduceNegSucc, Nat.reduceMul, List.zip_cons_cons, List.zip_nil_left, List.zip_nil_right, Int.toNat_natCast, true_and, and_true, eq_self, ne_eq, not_false_eq_true, not_true_eq_false, forall_const, implies_true, false_and, true_or, or_true, false_or, or_false, imp_self, CX11_apart, ↓zs_cp (cS := zCf SX11_apart) (pl := zPlf PX11) (k := 341) (h := (rfl : zCf SX11_apart 341 = some CJ9_abs_0f7a4)) (h2 := rfl), and_imp, exists_eq_left, exists_eq_left', exists_eq_right, exists_eq_right', exists_and_left, exists_and_right, Prod.mk.injEq, zAdd_e, zSub_e, zMul_e, zres_0, zres_4, zres_1, zres_9, zrt_0, zrt_4, zrt_1, zrt_9, List.take_succ_cons, List.take_zero, List.drop_succ_cons, List.drop_zero, List.map_cons, List.map_nil, List.reverse_cons, List.reverse_nil, List.nil_append, List.cons_append, List.length_cons, List.length_nil, zPr_c, List.mem_cons, List.not_mem_nil, ↓zIV_e, zcats, List.sum_cons, List.sum_nil, zpu, zfu, zset_e, ↓zc_ne00, ↓zc_ne01, ↓zc_ne10, ↓zc_ne11, ↓zc_eq00, ↓zc_eq01, ↓zc_eq10, ↓zc_eq11, zs_80_81, zs_83_81, zs_84_81, zs_85_81, zs_86_81, zs_87_81, zs_88_81, zs_89_81, zs_90_81, zs_91_81, zs_92_81, zs_93_81]
  repeat' (first | exact zfr_rf _ _ _ | (refine zfr_st ?_ (by omega) (by omega)) | (refine zfr_cp ?_ (by omega) (by omega)) | (refine zfr_tr ?_ (by assumption)) | (refine zfr_tr ?_ (zfr_mono (by assumption) (by omega) (by omega))) | (refine And.intro ?_ ?_) | (intro _) | (refine Exists.intro (nn - 1) ?_) | (refine Exists.intro 5000000000 ?_) | fail)
  all_goals (try (simp only [zw] at *))
  all_goals (first | trivial | omega | exact (zAnd_b _).1 | exact (zAnd_b _).2 | assumption | (simp; omega) | skip)
