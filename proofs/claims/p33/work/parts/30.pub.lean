def CX10_feed : zCt := ([2, 0, 0, 0, 0, 0], 0, zPr [0] (fun vs mem => match vs with | [t, a, b, c, d, e] => (0 ≤ mem 53 1 ∧ mem 53 1 ≤ 400) | _ => False), (fun vs mem r mem' => match vs with | [t, a, b, c, d, e] => ((if mem 53 1 + 20 ≤ 400 then zfr 53 54 mem mem' ∧ r = mem 53 1 + 20 ∧ mem' 53 1 = mem 53 1 + 20 else r = -1 ∧ mem' = mem)) | _ => False))
def VX10_feed : List (Nat × zCt) := [(66, CX7_hasRoom), (72, CX7_append)]
def SX10_feed : List (Nat × zCt) := []
set_option maxHeartbeats 4000000 in
set_option maxRecDepth 100000 in
theorem mX10_feed (l : Launch) : zMet l zLay yX10_feed cX10_feed 7 (some .int) 1 CX10_feed.1 CX10_feed.2.1 CX10_feed.2.2.1 CX10_feed.2.2.2 := by
  refine zMet_of (pl := zPlf PX10) (cv := zCf VX10_feed) (cS := zCf SX10_feed) (B := zBf BX10_feed) (F := 80) (own := RX10) (by decide +kernel) rfl (Or.inl ⟨rfl, rfl⟩) (fun vs h => by obtain ⟨t, a, b, c, d, e, rfl⟩ := zlen6 h; exact Nat.le_of_ble_eq_true rfl) PX10_ok zClok_ok zSyok_ok oX10_feed (zAllC_e (zAllC_c (Or.inl (zcal_v (mX7_hasRoom l) (by decide) (by decide) hX7_hasRoom kX10_66 ⟨by decide, by decide +kernel⟩ (ci := 7) rfl rfl rfl)) (zAllC_c (Or.inl (zcal_v (mX7_append l) (by decide) (by decide) hX7_append kX10_72 ⟨by decide, by decide +kernel⟩ (ci := 7) rfl rfl rfl)) (zAllC_n)))) (zAllC_e (zAllC_n)) ?_
  intro vs mem hvl hok hm hpre
  obtain ⟨t, a, b, c, d, e, rfl⟩ := zlen6 hvl
  have hr_a : -2147483648 ≤ a ∧ a ≤ 2147483647 := (hok (0, a) (by simp [CX10_feed])).1 rfl
  have hr_b : -2147483648 ≤ b ∧ b ≤ 2147483647 := (hok (0, b) (by simp [CX10_feed])).1 rfl
  have hr_c : -2147483648 ≤ c ∧ c ≤ 2147483647 := (hok (0, c) (by simp [CX10_feed])).1 rfl
  have hr_d : -2147483648 ≤ d ∧ d ≤ 2147483647 := (hok (0, d) (by simp [CX10_feed])).1 rfl
  have hr_e : -2147483648 ≤ e ∧ e ≤ 2147483647 := (hok (0, e) (by simp [CX10_feed])).1 rfl
  clear hok hvl
  obtain ⟨hid, hpre⟩ := hpre
  simp only [List.mem_cons, List.not_mem_nil, or_false] at hid
  have hpre : 0 ≤ mem 53 1 ∧ mem 53 1 ≤ 400 := hpre
  subst hid
  refine ⟨zIf [], zAllI_e zAllI_n, ?_⟩
  simp (maxSteps := 3000000) only [↓zwp_s, zrun_n, zrun_c, zgo_any, zgo_bel, ↓zgA_n, ↓zgA_c, ↓zgB_n, ↓zgB_c, ↓zp1_c, ↓zpv_c, ↓ztg_e, ↓zFv_r, ↓zFv_i, ↓zFv_z, ↓reduceIte, ↓zi_aload, ↓zi_aload_n, ↓zi_astore, ↓zi_getfield, ↓zi_iconst, ↓zi_ifCond, ↓zi_iload, ↓zi_iload_n, ↓zi_ireturn, zcmp_ne, ↓zpl_e pX10_33, ↓zpl_e pX10_62, ↓zpl_e pX10_76, ↓zo_0_0, ↓zo_0_1, ↓zo_0_2, ↓zo_0_3, ↓zo_0_4, ↓zo_0_5, ↓zo_0_6, ↓zo_0_7, ↓zo_0_8, ↓zo_48_0, ↓zo_48_1, ↓zo_48_2, ↓zo_48_3, ↓zo_48_4, ↓zo_48_5, ↓zo_53_0, ↓zo_53_1, ↓za_54, bX10_feed_0, bX10_feed_19, List.size_toArray, zent_n, zent_c, zst_e, zfi0, zfi1, zfi2, zfi3, zcast, Nat.reduceAdd, Nat.reduceSub, Nat.reduceEqDiff, Nat.reduceLT, Nat.reduceLeDiff, Int.reduceAdd, Int.reduceSub, Int.reduceMul, Int.reduceToNat, Int.reduceLE, Int.reduceLT, Int.reduceEq, Int.reduceNeg, Int.reduceNegSucc, Nat.reduceMul, List.zip_cons_cons, List.zip_nil_left, List.zip_nil_right, Int.toNat_natCast, true_and, and_true, eq_self, ne_eq, not_false_eq_true, not_true_eq_false, forall_const, implies_true, false_and, true_or, or_true, false_or, or_false, imp_self, CX10_feed, ↓zv_cf (cv := zCf VX10_feed) (k := 66) (h := (rfl : zCf VX10_feed 66 = some CX7_hasRoom)), ↓zv_cg (cv := zCf VX10_feed) (k := 72) (h := (rfl : zCf VX10_feed 72 = some CX7_append)), and_imp, exists_eq_left, exists_eq_left', exists_eq_right, exists_eq_right', exists_and_left, exists_and_right, Prod.mk.injEq, zAdd_e, zSub_e, zMul_e, zres_0, zres_4, zres_1, zres_9, zrt_0, zrt_4, zrt_1, zrt_9, List.take_succ_cons, List.take_zero, List.drop_succ_cons, List.drop_zero, List.map_cons, List.map_nil, List.reverse_cons, List.reverse_nil, List.nil_append, List.cons_append, List.length_cons, List.length_nil, zPr_c, List.mem_cons, List.not_mem_nil, ↓zIV_e, zcats, List.sum_cons, List.sum_nil, zpu, zfu, zset_e]
  rw [zw_id (by omega) (by omega)]
  by_cases h20 : mem 53 1 + 20 ≤ 400
  · rw [if_pos h20]
    simp only [reduceIte, h20]
    repeat' (first | exact zfr_rf _ _ _ | (refine zfr_st ?_ (by omega) (by omega)) | (refine zfr_cp ?_ (by omega) (by omega)) | (refine zfr_tr ?_ (by assumption)) | (refine zfr_tr ?_ (zfr_mono (by assumption) (by omega) (by omega))) | (refine And.intro ?_ ?_) | (intro _) | (refine Exists.intro (nn - 1) ?_) | (refine Exists.intro 5000000000 ?_) | fail)
    all_goals (try (simp only [zw] at *))
    all_goals (first | trivial | omega | exact (zAnd_b _).1 | exact (zAnd_b _).2 | assumption | (simp; omega) | skip)
  · rw [if_neg h20]
    simp [h20]
def CX10_end : zCt := ([2, 0], 4, zPr [0] (fun vs mem => match vs with | [t, n] => (True) | _ => False), (fun vs mem r mem' => match vs with | [t, n] => ((if 0 ≤ n ∧ n ≤ mem 53 1 then r = 1 ∧ mem' = zset mem 53 1 n else r = 0 ∧ mem' = mem)) | _ => False))
def VX10_end : List (Nat × zCt) := [(79, CX7_cut)]
def SX10_end : List (Nat × zCt) := []
set_option maxHeartbeats 1000000 in
set_option maxRecDepth 100000 in
theorem mX10_end (l : Launch) : zMet l zLay yX10_end cX10_end 2 (some .boolean) 1 CX10_end.1 CX10_end.2.1 CX10_end.2.2.1 CX10_end.2.2.2 := by
  refine zMet_of (pl := zPlf PX10) (cv := zCf VX10_end) (cS := zCf SX10_end) (B := zBf BX10_end) (F := 80) (own := RX10) (by decide +kernel) rfl (Or.inr (Or.inl ⟨rfl, rfl⟩)) (fun vs h => by obtain ⟨t, n, rfl⟩ := zlen2 h; exact Nat.le_of_ble_eq_true rfl) PX10_ok zClok_ok zSyok_ok oX10_end (zAllC_e (zAllC_c (Or.inl (zcal_v (mX7_cut l) (by decide) (by decide) hX7_cut kX10_79 ⟨by decide, by decide +kernel⟩ (ci := 7) rfl rfl rfl)) (zAllC_n))) (zAllC_e (zAllC_n)) ?_
  intro vs mem hvl hok hm hpre
  obtain ⟨t, n, rfl⟩ := zlen2 hvl
  have hr_n : -2147483648 ≤ n ∧ n ≤ 2147483647 := (hok (0, n) (by simp [CX10_end])).1 rfl
  clear hok hvl
  obtain ⟨hid, hpre⟩ := hpre
  simp only [List.mem_cons, List.not_mem_nil, or_false] at hid
  have hpre : True := hpre
  subst hid
  refine ⟨zIf [], zAllI_e zAllI_n, ?_⟩
  simp (maxSteps := 3000000) only [↓zwp_s, zrun_n, zrun_c, zgo_any, zgo_bel, ↓zgA_n, ↓zgA_c, ↓zgB_n, ↓zgB_c, ↓zp1_c, ↓zpv_c, ↓ztg_e, ↓zFv_r, ↓zFv_i, ↓zFv_z, ↓reduceIte, ↓zi_aload_n, ↓zi_getfield, ↓zi_iload_n, ↓zi_ireturn, ↓zpl_e pX10_33, ↓zpl_e pX10_62, ↓zo_0_0, ↓zo_0_1, ↓zo_0_2, ↓zo_0_3, ↓zo_0_4, ↓zo_0_5, ↓zo_0_6, ↓zo_0_7, ↓zo_0_8, ↓zo_48_0, ↓zo_48_1, ↓zo_48_2, ↓zo_48_3, ↓zo_48_4, ↓zo_48_5, ↓zo_53_0, ↓zo_53_1, ↓za_54, bX10_end_0, List.size_toArray, zent_n, zent_c, zst_e, zfi0, zfi1, zfi2, zfi3, zcast, Nat.reduceAdd, Nat.reduceSub, Nat.reduceEqDiff, Nat.reduceLT, Nat.reduceLeDiff, Int.reduceAdd, Int.reduceSub, Int.reduceMul, Int.reduceToNat, Int.reduceLE, Int.reduceLT, Int.reduceEq, Int.reduceNeg, Int.reduceNegSucc, Nat.reduceMul, List.zip_cons_cons, List.zip_nil_left, List.zip_nil_right, Int.toNat_natCast, true_and, and_true, eq_self, ne_eq, not_false_eq_true, not_true_eq_false, forall_const, implies_true, false_and, true_or, or_true, false_or, or_false, imp_self, CX10_end, ↓zv_cg (cv := zCf VX10_end) (k := 79) (h := (rfl : zCf VX10_end 79 = some CX7_cut)), and_imp, exists_eq_left, exists_eq_left', exists_eq_right, exists_eq_right', exists_and_left, exists_and_right, Prod.mk.injEq, zAdd_e, zSub_e, zMul_e, zres_0, zres_4, zres_1, zres_9, zrt_0, zrt_4, zrt_1, zrt_9, List.take_succ_cons, List.take_zero, List.drop_succ_cons, List.drop_zero, List.map_cons, List.map_nil, List.reverse_cons, List.reverse_nil, List.nil_append, List.cons_append, List.length_cons, List.length_nil, zPr_c, List.mem_cons, List.not_mem_nil, ↓zIV_e, zcats, List.sum_cons, List.sum_nil, zpu, zfu, zset_e]
  repeat' (first | (refine And.intro ?_ ?_) | (intro _))
  all_goals (first | assumption | skip)
  all_goals (rename_i h
             by_cases hq : 0 ≤ n ∧ n ≤ mem 53 1
             · rw [if_pos hq] at h; exact Or.inr h.1
             · rw [if_neg hq] at h; exact Or.inl h.1)
def CX10_fault : zCt := ([2], 0, zPr [0] (fun vs mem => match vs with | [t] => (True) | _ => False), zpu (fun vs mem r => match vs with | [t] => (True) | _ => False))
def VX10_fault : List (Nat × zCt) := []
def SX10_fault : List (Nat × zCt) := []
set_option maxHeartbeats 1000000 in
set_option maxRecDepth 100000 in
theorem mX10_fault (l : Launch) : zMet l zLay yX10_fault cX10_fault 1 (some .int) 0 CX10_fault.1 CX10_fault.2.1 CX10_fault.2.2.1 CX10_fault.2.2.2 := by
  refine zMet_of (pl := zPlf PX10) (cv := zCf VX10_fault) (cS := zCf SX10_fault) (B := zBf BX10_fault) (F := 80) (own := RX10) (by decide +kernel) rfl (Or.inl ⟨rfl, rfl⟩) (fun vs h => by obtain ⟨t, rfl⟩ := zlen1 h; exact Nat.le_of_ble_eq_true rfl) PX10_ok zClok_ok zSyok_ok oX10_fault (zAllC_e (zAllC_n)) (zAllC_e (zAllC_n)) ?_
  intro vs mem hvl hok hm hpre
  obtain ⟨t, rfl⟩ := zlen1 hvl
  clear hok hvl
  obtain ⟨hid, hpre⟩ := hpre
  simp only [List.mem_cons, List.not_mem_nil, or_false] at hid
  have hpre : True := hpre
  subst hid
  refine ⟨zIf [], zAllI_e zAllI_n, ?_⟩
  simp (maxSteps := 3000000) only [↓zwp_s, zrun_n, zrun_c, zgo_any, zgo_bel, ↓zgA_n, ↓zgA_c, ↓zgB_n, ↓zgB_c, ↓zp1_c, ↓zpv_c, ↓ztg_e, ↓zFv_r, ↓zFv_i, ↓zFv_z, ↓reduceIte, ↓zi_aload_n, ↓zi_getfield, ↓zi_ireturn, ↓zpl_e pX10_43, ↓zo_0_0, ↓zo_0_1, ↓zo_0_2, ↓zo_0_3, ↓zo_0_4, ↓zo_0_5, ↓zo_0_6, ↓zo_0_7, ↓zo_0_8, bX10_fault_0, List.size_toArray, zent_n, zent_c, zst_e, zfi0, zfi1, zfi2, zfi3, zcast, Nat.reduceAdd, Nat.reduceSub, Nat.reduceEqDiff, Nat.reduceLT, Nat.reduceLeDiff, Int.reduceAdd, Int.reduceSub, Int.reduceMul, Int.reduceToNat, Int.reduceLE, Int.reduceLT, Int.reduceEq, Int.reduceNeg, Int.reduceNegSucc, Nat.reduceMul, List.zip_cons_cons, List.zip_nil_left, List.zip_nil_right, Int.toNat_natCast, true_and, and_true, eq_self, ne_eq, not_false_eq_true, not_true_eq_false, forall_const, implies_true, false_and, true_or, or_true, false_or, or_false, imp_self, CX10_fault, and_imp, exists_eq_left, exists_eq_left', exists_eq_right, exists_eq_right', exists_and_left, exists_and_right, Prod.mk.injEq, zAdd_e, zSub_e, zMul_e, zres_0, zres_4, zres_1, zres_9, zrt_0, zrt_4, zrt_1, zrt_9, List.take_succ_cons, List.take_zero, List.drop_succ_cons, List.drop_zero, List.map_cons, List.map_nil, List.reverse_cons, List.reverse_nil, List.nil_append, List.cons_append, List.length_cons, List.length_nil, zPr_c, List.mem_cons, List.not_mem_nil, ↓zIV_e, zcats, List.sum_cons, List.sum_nil, zpu, zfu, zset_e]
  all_goals trivial
def CX10_where : zCt := ([2], 0, zPr [0] (fun vs mem => match vs with | [t] => (True) | _ => False), zpu (fun vs mem r => match vs with | [t] => (True) | _ => False))
def VX10_where : List (Nat × zCt) := []
def SX10_where : List (Nat × zCt) := []
set_option maxHeartbeats 1000000 in
set_option maxRecDepth 100000 in
theorem mX10_where (l : Launch) : zMet l zLay yX10_where cX10_where 1 (some .int) 0 CX10_where.1 CX10_where.2.1 CX10_where.2.2.1 CX10_where.2.2.2 := by
  refine zMet_of (pl := zPlf PX10) (cv := zCf VX10_where) (cS := zCf SX10_where) (B := zBf BX10_where) (F := 80) (own := RX10) (by decide +kernel) rfl (Or.inl ⟨rfl, rfl⟩) (fun vs h => by obtain ⟨t, rfl⟩ := zlen1 h; exact Nat.le_of_ble_eq_true rfl) PX10_ok zClok_ok zSyok_ok oX10_where (zAllC_e (zAllC_n)) (zAllC_e (zAllC_n)) ?_
  intro vs mem hvl hok hm hpre
  obtain ⟨t, rfl⟩ := zlen1 hvl
  clear hok hvl
  obtain ⟨hid, hpre⟩ := hpre
  simp only [List.mem_cons, List.not_mem_nil, or_false] at hid
  have hpre : True := hpre
  subst hid
  refine ⟨zIf [], zAllI_e zAllI_n, ?_⟩
  simp (maxSteps := 3000000) only [↓zwp_s, zrun_n, zrun_c, zgo_any, zgo_bel, ↓zgA_n, ↓zgA_c, ↓zgB_n, ↓zgB_c, ↓zp1_c, ↓zpv_c, ↓ztg_e, ↓zFv_r, ↓zFv_i, ↓zFv_z, ↓reduceIte, ↓zi_aload_n, ↓zi_getfield, ↓zi_ireturn, ↓zpl_e pX10_10, ↓zpl_e pX10_121, ↓zo_0_0, ↓zo_0_1, ↓zo_0_2, ↓zo_0_3, ↓zo_0_4, ↓zo_0_5, ↓zo_0_6, ↓zo_0_7, ↓zo_0_8, ↓zo_1_0, ↓zo_1_1, ↓zo_1_2, ↓zo_1_3, ↓zo_1_4, ↓zo_1_5, ↓zo_1_6, ↓zo_1_7, ↓zo_1_8, ↓zo_1_9, bX10_where_0, List.size_toArray, zent_n, zent_c, zst_e, zfi0, zfi1, zfi2, zfi3, zcast, Nat.reduceAdd, Nat.reduceSub, Nat.reduceEqDiff, Nat.reduceLT, Nat.reduceLeDiff, Int.reduceAdd, Int.reduceSub, Int.reduceMul, Int.reduceToNat, Int.reduceLE, Int.reduceLT, Int.reduceEq, Int.reduceNeg, Int.reduceNegSucc, Nat.reduceMul, List.zip_cons_cons, List.zip_nil_left, List.zip_nil_right, Int.toNat_natCast, true_and, and_true, eq_self, ne_eq, not_false_eq_true, not_true_eq_false, forall_const, implies_true, false_and, true_or, or_true, false_or, or_false, imp_self, CX10_where, and_imp, exists_eq_left, exists_eq_left', exists_eq_right, exists_eq_right', exists_and_left, exists_and_right, Prod.mk.injEq, zAdd_e, zSub_e, zMul_e, zres_0, zres_4, zres_1, zres_9, zrt_0, zrt_4, zrt_1, zrt_9, List.take_succ_cons, List.take_zero, List.drop_succ_cons, List.drop_zero, List.map_cons, List.map_nil, List.reverse_cons, List.reverse_nil, List.nil_append, List.cons_append, List.length_cons, List.length_nil, zPr_c, List.mem_cons, List.not_mem_nil, ↓zIV_e, zcats, List.sum_cons, List.sum_nil, zpu, zfu, zset_e]
  all_goals trivial
def CX10_line : zCt := ([2, 0, 0], 0, zPr [0] (fun vs mem => match vs with | [t, p, z] => (True) | _ => False), zpu (fun vs mem r => match vs with | [t, p, z] => (True) | _ => False))
def VX10_line : List (Nat × zCt) := [(279, CX8_railAt), (282, CX8_cellAt)]
def SX10_line : List (Nat × zCt) := []
set_option maxHeartbeats 1000000 in
set_option maxRecDepth 100000 in
theorem mX10_line (l : Launch) : zMet l zLay yX10_line cX10_line 3 (some .int) 1 CX10_line.1 CX10_line.2.1 CX10_line.2.2.1 CX10_line.2.2.2 := by
  refine zMet_of (pl := zPlf PX10) (cv := zCf VX10_line) (cS := zCf SX10_line) (B := zBf BX10_line) (F := 80) (own := RX10) (by decide +kernel) rfl (Or.inl ⟨rfl, rfl⟩) (fun vs h => by obtain ⟨t, p, z, rfl⟩ := zlen3 h; exact Nat.le_of_ble_eq_true rfl) PX10_ok zClok_ok zSyok_ok oX10_line (zAllC_e (zAllC_c (Or.inl (zcal_v (mX8_railAt l) (by decide) (by decide) hX8_railAt kX10_279 ⟨by decide, by decide +kernel⟩ (ci := 8) rfl rfl rfl)) (zAllC_c (Or.inl (zcal_v (mX8_cellAt l) (by decide) (by decide) hX8_cellAt kX10_282 ⟨by decide, by decide +kernel⟩ (ci := 8) rfl rfl rfl)) (zAllC_n)))) (zAllC_e (zAllC_n)) ?_
  intro vs mem hvl hok hm hpre
  obtain ⟨t, p, z, rfl⟩ := zlen3 hvl
  have hr_p : -2147483648 ≤ p ∧ p ≤ 2147483647 := (hok (0, p) (by simp [CX10_line])).1 rfl
  have hr_z : -2147483648 ≤ z ∧ z ≤ 2147483647 := (hok (0, z) (by simp [CX10_line])).1 rfl
  clear hok hvl
  obtain ⟨hid, hpre⟩ := hpre
  simp only [List.mem_cons, List.not_mem_nil, or_false] at hid
  have hpre : True := hpre
  subst hid
  refine ⟨zIf [], zAllI_e zAllI_n, ?_⟩
  simp (maxSteps := 3000000) only [↓zwp_s, zrun_n, zrun_c, zgo_any, zgo_bel, ↓zgA_n, ↓zgA_c, ↓zgB_n, ↓zgB_c, ↓zp1_c, ↓zpv_c, ↓ztg_e, ↓zFv_r, ↓zFv_i, ↓zFv_z, ↓reduceIte, ↓zi_aload_n, ↓zi_getfield, ↓zi_goto, ↓zi_ifCond, ↓zi_iload_n, ↓zi_ireturn, zcmp_eq, ↓zpl_e pX10_10, ↓zpl_e pX10_144, ↓zo_0_0, ↓zo_0_1, ↓zo_0_2, ↓zo_0_3, ↓zo_0_4, ↓zo_0_5, ↓zo_0_6, ↓zo_0_7, ↓zo_0_8, ↓zo_1_0, ↓zo_1_1, ↓zo_1_2, ↓zo_1_3, ↓zo_1_4, ↓zo_1_5, ↓zo_1_6, ↓zo_1_7, ↓zo_1_8, ↓zo_1_9, ↓zo_5_0, ↓zo_5_1, ↓zo_5_2, ↓zo_5_3, ↓zo_5_4, ↓zo_5_5, ↓zo_5_6, ↓zo_5_7, ↓zo_5_8, bX10_line_0, bX10_line_18, bX10_line_29, List.size_toArray, zent_n, zent_c, zst_e, zfi0, zfi1, zfi2, zfi3, zcast, Nat.reduceAdd, Nat.reduceSub, Nat.reduceEqDiff, Nat.reduceLT, Nat.reduceLeDiff, Int.reduceAdd, Int.reduceSub, Int.reduceMul, Int.reduceToNat, Int.reduceLE, Int.reduceLT, Int.reduceEq, Int.reduceNeg, Int.reduceNegSucc, Nat.reduceMul, List.zip_cons_cons, List.zip_nil_left, List.zip_nil_right, Int.toNat_natCast, true_and, and_true, eq_self, ne_eq, not_false_eq_true, not_true_eq_false, forall_const, implies_true, false_and, true_or, or_true, false_or, or_false, imp_self, CX10_line, ↓zv_cp (cv := zCf VX10_line) (k := 279) (h := (rfl : zCf VX10_line 279 = some CX8_railAt)), ↓zv_cp (cv := zCf VX10_line) (k := 282) (h := (rfl : zCf VX10_line 282 = some CX8_cellAt)), and_imp, exists_eq_left, exists_eq_left', exists_eq_right, exists_eq_right', exists_and_left, exists_and_right, Prod.mk.injEq, zAdd_e, zSub_e, zMul_e, zres_0, zres_4, zres_1, zres_9, zrt_0, zrt_4, zrt_1, zrt_9, List.take_succ_cons, List.take_zero, List.drop_succ_cons, List.drop_zero, List.map_cons, List.map_nil, List.reverse_cons, List.reverse_nil, List.nil_append, List.cons_append, List.length_cons, List.length_nil, zPr_c, List.mem_cons, List.not_mem_nil, ↓zIV_e, zcats, List.sum_cons, List.sum_nil, zpu, zfu, zset_e]
  repeat' (first | exact zfr_rf _ _ _ | (refine zfr_st ?_ (by omega) (by omega)) | (refine zfr_cp ?_ (by omega) (by omega)) | (refine zfr_tr ?_ (by assumption)) | (refine zfr_tr ?_ (zfr_mono (by assumption) (by omega) (by omega))) | (refine And.intro ?_ ?_) | (intro _) | (refine Exists.intro (nn - 1) ?_) | (refine Exists.intro 5000000000 ?_) | fail)
  all_goals (try (simp only [zw] at *))
  all_goals (first | trivial | omega | exact (zAnd_b _).1 | exact (zAnd_b _).2 | assumption | (simp; omega) | skip)
def CX10_joints : zCt := ([2, 0], 0, zPr [0] (fun vs mem => match vs with | [t, z] => (True) | _ => False), zpu (fun vs mem r => match vs with | [t, z] => (True) | _ => False))
def VX10_joints : List (Nat × zCt) := [(301, CX9_storeOf), (304, CX8_firstJointAbove), (307, CX8_widestJoint)]
def SX10_joints : List (Nat × zCt) := []
set_option maxHeartbeats 1000000 in
set_option maxRecDepth 100000 in
theorem mX10_joints (l : Launch) : zMet l zLay yX10_joints cX10_joints 2 (some .int) 4 CX10_joints.1 CX10_joints.2.1 CX10_joints.2.2.1 CX10_joints.2.2.2 := by
  refine zMet_of (pl := zPlf PX10) (cv := zCf VX10_joints) (cS := zCf SX10_joints) (B := zBf BX10_joints) (F := 80) (own := RX10) (by decide +kernel) rfl (Or.inl ⟨rfl, rfl⟩) (fun vs h => by obtain ⟨t, z, rfl⟩ := zlen2 h; exact Nat.le_of_ble_eq_true rfl) PX10_ok zClok_ok zSyok_ok oX10_joints (zAllC_e (zAllC_c (Or.inl (zcal_v (mX9_storeOf l) (by decide) (by decide) hX9_storeOf kX10_301 ⟨by decide, by decide +kernel⟩ (ci := 9) rfl rfl rfl)) (zAllC_c (Or.inl (zcal_v (mX8_firstJointAbove l) (by decide) (by decide) hX8_firstJointAbove kX10_304 ⟨by decide, by decide +kernel⟩ (ci := 8) rfl rfl rfl)) (zAllC_c (Or.inl (zcal_v (mX8_widestJoint l) (by decide) (by decide) hX8_widestJoint kX10_307 ⟨by decide, by decide +kernel⟩ (ci := 8) rfl rfl rfl)) (zAllC_n))))) (zAllC_e (zAllC_n)) ?_
  intro vs mem hvl hok hm hpre
  obtain ⟨t, z, rfl⟩ := zlen2 hvl
  have hr_z : -2147483648 ≤ z ∧ z ≤ 2147483647 := (hok (0, z) (by simp [CX10_joints])).1 rfl
  clear hok hvl
  obtain ⟨hid, hpre⟩ := hpre
  simp only [List.mem_cons, List.not_mem_nil, or_false] at hid
  have hpre : True := hpre
  subst hid
  refine ⟨zIf [], zAllI_e zAllI_n, ?_⟩
  simp (maxSteps := 3000000) only [↓zwp_s, zrun_n, zrun_c, zgo_any, zgo_bel, ↓zgA_n, ↓zgA_c, ↓zgB_n, ↓zgB_c, ↓zp1_c, ↓zpv_c, ↓ztg_e, ↓zFv_r, ↓zFv_i, ↓zFv_z, ↓reduceIte, ↓zi_aload_n, ↓zi_getfield, ↓zi_goto, ↓zi_iconst, ↓zi_ifCond, ↓zi_iload_n, ↓zi_ireturn, zcmp_eq, ↓zpl_e pX10_10, ↓zpl_e pX10_144, ↓zo_0_0, ↓zo_0_1, ↓zo_0_2, ↓zo_0_3, ↓zo_0_4, ↓zo_0_5, ↓zo_0_6, ↓zo_0_7, ↓zo_0_8, ↓zo_1_0, ↓zo_1_1, ↓zo_1_2, ↓zo_1_3, ↓zo_1_4, ↓zo_1_5, ↓zo_1_6, ↓zo_1_7, ↓zo_1_8, ↓zo_1_9, ↓zo_5_0, ↓zo_5_1, ↓zo_5_2, ↓zo_5_3, ↓zo_5_4, ↓zo_5_5, ↓zo_5_6, ↓zo_5_7, ↓zo_5_8, bX10_joints_0, bX10_joints_25, bX10_joints_35, List.size_toArray, zent_n, zent_c, zst_e, zfi0, zfi1, zfi2, zfi3, zcast, Nat.reduceAdd, Nat.reduceSub, Nat.reduceEqDiff, Nat.reduceLT, Nat.reduceLeDiff, Int.reduceAdd, Int.reduceSub, Int.reduceMul, Int.reduceToNat, Int.reduceLE, Int.reduceLT, Int.reduceEq, Int.reduceNeg, Int.reduceNegSucc, Nat.reduceMul, List.zip_cons_cons, List.zip_nil_left, List.zip_nil_right, Int.toNat_natCast, true_and, and_true, eq_self, ne_eq, not_false_eq_true, not_true_eq_false, forall_const, implies_true, false_and, true_or, or_true, false_or, or_false, imp_self, CX10_joints, ↓zv_cp (cv := zCf VX10_joints) (k := 301) (h := (rfl : zCf VX10_joints 301 = some CX9_storeOf)), ↓zv_cp (cv := zCf VX10_joints) (k := 304) (h := (rfl : zCf VX10_joints 304 = some CX8_firstJointAbove)), ↓zv_cp (cv := zCf VX10_joints) (k := 307) (h := (rfl : zCf VX10_joints 307 = some CX8_widestJoint)), and_imp, exists_eq_left, exists_eq_left', exists_eq_right, exists_eq_right', exists_and_left, exists_and_right, Prod.mk.injEq, zAdd_e, zSub_e, zMul_e, zres_0, zres_4, zres_1, zres_9, zrt_0, zrt_4, zrt_1, zrt_9, List.take_succ_cons, List.take_zero, List.drop_succ_cons, List.drop_zero, List.map_cons, List.map_nil, List.reverse_cons, List.reverse_nil, List.nil_append, List.cons_append, List.length_cons, List.length_nil, zPr_c, List.mem_cons, List.not_mem_nil, ↓zIV_e, zcats, List.sum_cons, List.sum_nil, zpu, zfu, zset_e]
  repeat' (first | exact zfr_rf _ _ _ | (refine zfr_st ?_ (by omega) (by omega)) | (refine zfr_cp ?_ (by omega) (by omega)) | (refine zfr_tr ?_ (by assumption)) | (refine zfr_tr ?_ (zfr_mono (by assumption) (by omega) (by omega))) | (refine And.intro ?_ ?_) | (intro _) | (refine Exists.intro (nn - 1) ?_) | (refine Exists.intro 5000000000 ?_) | fail)
  all_goals (try (simp only [zw] at *))
  all_goals (first | trivial | omega | exact (zAnd_b _).1 | exact (zAnd_b _).2 | assumption | (simp; omega) | skip)
def CX10_worn : zCt := ([2], 0, zPr [0] (fun vs mem => match vs with | [t] => (True) | _ => False), zpu (fun vs mem r => match vs with | [t] => (True) | _ => False))
def VX10_worn : List (Nat × zCt) := [(310, CX8_mostWorn)]
def SX10_worn : List (Nat × zCt) := []
set_option maxHeartbeats 1000000 in
set_option maxRecDepth 100000 in
theorem mX10_worn (l : Launch) : zMet l zLay yX10_worn cX10_worn 1 (some .int) 3 CX10_worn.1 CX10_worn.2.1 CX10_worn.2.2.1 CX10_worn.2.2.2 := by
  refine zMet_of (pl := zPlf PX10) (cv := zCf VX10_worn) (cS := zCf SX10_worn) (B := zBf BX10_worn) (F := 80) (own := RX10) (by decide +kernel) rfl (Or.inl ⟨rfl, rfl⟩) (fun vs h => by obtain ⟨t, rfl⟩ := zlen1 h; exact Nat.le_of_ble_eq_true rfl) PX10_ok zClok_ok zSyok_ok oX10_worn (zAllC_e (zAllC_c (Or.inl (zcal_v (mX8_mostWorn l) (by decide) (by decide) hX8_mostWorn kX10_310 ⟨by decide, by decide +kernel⟩ (ci := 8) rfl rfl rfl)) (zAllC_n))) (zAllC_e (zAllC_n)) ?_
  intro vs mem hvl hok hm hpre
  obtain ⟨t, rfl⟩ := zlen1 hvl
  clear hok hvl
  obtain ⟨hid, hpre⟩ := hpre
  simp only [List.mem_cons, List.not_mem_nil, or_false] at hid
  have hpre : True := hpre
  subst hid
  refine ⟨zIf [], zAllI_e zAllI_n, ?_⟩
  simp (maxSteps := 3000000) only [↓zwp_s, zrun_n, zrun_c, zgo_any, zgo_bel, ↓zgA_n, ↓zgA_c, ↓zgB_n, ↓zgB_c, ↓zp1_c, ↓zpv_c, ↓ztg_e, ↓zFv_r, ↓zFv_i, ↓zFv_z, ↓reduceIte, ↓zi_aload_n, ↓zi_getfield, ↓zi_ireturn, ↓zpl_e pX10_10, ↓zpl_e pX10_144, ↓zo_0_0, ↓zo_0_1, ↓zo_0_2, ↓zo_0_3, ↓zo_0_4, ↓zo_0_5, ↓zo_0_6, ↓zo_0_7, ↓zo_0_8, ↓zo_1_0, ↓zo_1_1, ↓zo_1_2, ↓zo_1_3, ↓zo_1_4, ↓zo_1_5, ↓zo_1_6, ↓zo_1_7, ↓zo_1_8, ↓zo_1_9, ↓zo_5_0, ↓zo_5_1, ↓zo_5_2, ↓zo_5_3, ↓zo_5_4, ↓zo_5_5, ↓zo_5_6, ↓zo_5_7, ↓zo_5_8, bX10_worn_0, List.size_toArray, zent_n, zent_c, zst_e, zfi0, zfi1, zfi2, zfi3, zcast, Nat.reduceAdd, Nat.reduceSub, Nat.reduceEqDiff, Nat.reduceLT, Nat.reduceLeDiff, Int.reduceAdd, Int.reduceSub, Int.reduceMul, Int.reduceToNat, Int.reduceLE, Int.reduceLT, Int.reduceEq, Int.reduceNeg, Int.reduceNegSucc, Nat.reduceMul, List.zip_cons_cons, List.zip_nil_left, List.zip_nil_right, Int.toNat_natCast, true_and, and_true, eq_self, ne_eq, not_false_eq_true, not_true_eq_false, forall_const, implies_true, false_and, true_or, or_true, false_or, or_false, imp_self, CX10_worn, ↓zv_cp (cv := zCf VX10_worn) (k := 310) (h := (rfl : zCf VX10_worn 310 = some CX8_mostWorn)), and_imp, exists_eq_left, exists_eq_left', exists_eq_right, exists_eq_right', exists_and_left, exists_and_right, Prod.mk.injEq, zAdd_e, zSub_e, zMul_e, zres_0, zres_4, zres_1, zres_9, zrt_0, zrt_4, zrt_1, zrt_9, List.take_succ_cons, List.take_zero, List.drop_succ_cons, List.drop_zero, List.map_cons, List.map_nil, List.reverse_cons, List.reverse_nil, List.nil_append, List.cons_append, List.length_cons, List.length_nil, zPr_c, List.mem_cons, List.not_mem_nil, ↓zIV_e, zcats, List.sum_cons, List.sum_nil, zpu, zfu, zset_e]
  repeat' (first | exact zfr_rf _ _ _ | (refine zfr_st ?_ (by omega) (by omega)) | (refine zfr_cp ?_ (by omega) (by omega)) | (refine zfr_tr ?_ (by assumption)) | (refine zfr_tr ?_ (zfr_mono (by assumption) (by omega) (by omega))) | (refine And.intro ?_ ?_) | (intro _) | (refine Exists.intro (nn - 1) ?_) | (refine Exists.intro 5000000000 ?_) | fail)
  all_goals (try (simp only [zw] at *))
  all_goals (first | trivial | omega | exact (zAnd_b _).1 | exact (zAnd_b _).2 | assumption | (simp; omega) | skip)
def CX10_few : zCt := ([2], 4, zPr [0] (fun vs mem => match vs with | [t] => (True) | _ => False), zpu (fun vs mem r => match vs with | [t] => (r = 0 ∨ r = 1) | _ => False))
def VX10_few : List (Nat × zCt) := [(301, CX9_storeOf), (313, CX8_inState)]
def SX10_few : List (Nat × zCt) := []
set_option maxHeartbeats 1000000 in
set_option maxRecDepth 100000 in
theorem mX10_few (l : Launch) : zMet l zLay yX10_few cX10_few 1 (some .boolean) 3 CX10_few.1 CX10_few.2.1 CX10_few.2.2.1 CX10_few.2.2.2 := by
  refine zMet_of (pl := zPlf PX10) (cv := zCf VX10_few) (cS := zCf SX10_few) (B := zBf BX10_few) (F := 80) (own := RX10) (by decide +kernel) rfl (Or.inr (Or.inl ⟨rfl, rfl⟩)) (fun vs h => by obtain ⟨t, rfl⟩ := zlen1 h; exact Nat.le_of_ble_eq_true rfl) PX10_ok zClok_ok zSyok_ok oX10_few (zAllC_e (zAllC_c (Or.inl (zcal_v (mX9_storeOf l) (by decide) (by decide) hX9_storeOf kX10_301 ⟨by decide, by decide +kernel⟩ (ci := 9) rfl rfl rfl)) (zAllC_c (Or.inl (zcal_v (mX8_inState l) (by decide) (by decide) hX8_inState kX10_313 ⟨by decide, by decide +kernel⟩ (ci := 8) rfl rfl rfl)) (zAllC_n)))) (zAllC_e (zAllC_n)) ?_
  intro vs mem hvl hok hm hpre
  obtain ⟨t, rfl⟩ := zlen1 hvl
  clear hok hvl
  obtain ⟨hid, hpre⟩ := hpre
  simp only [List.mem_cons, List.not_mem_nil, or_false] at hid
  have hpre : True := hpre
  subst hid
  refine ⟨zIf [], zAllI_e zAllI_n, ?_⟩
  simp (maxSteps := 3000000) only [↓zwp_s, zrun_n, zrun_c, zgo_any, zgo_bel, ↓zgA_n, ↓zgA_c, ↓zgB_n, ↓zgB_c, ↓zp1_c, ↓zpv_c, ↓ztg_e, ↓zFv_r, ↓zFv_i, ↓zFv_z, ↓reduceIte, ↓zi_aload_n, ↓zi_bipush, ↓zi_getfield, ↓zi_goto, ↓zi_iadd, ↓zi_iconst, ↓zi_if_icmp, ↓zi_ireturn, zcmp_le, ↓zpl_e pX10_10, ↓zpl_e pX10_144, ↓zo_0_0, ↓zo_0_1, ↓zo_0_2, ↓zo_0_3, ↓zo_0_4, ↓zo_0_5, ↓zo_0_6, ↓zo_0_7, ↓zo_0_8, ↓zo_1_0, ↓zo_1_1, ↓zo_1_2, ↓zo_1_3, ↓zo_1_4, ↓zo_1_5, ↓zo_1_6, ↓zo_1_7, ↓zo_1_8, ↓zo_1_9, ↓zo_5_0, ↓zo_5_1, ↓zo_5_2, ↓zo_5_3, ↓zo_5_4, ↓zo_5_5, ↓zo_5_6, ↓zo_5_7, ↓zo_5_8, bX10_few_0, bX10_few_39, bX10_few_40, List.size_toArray, zent_n, zent_c, zst_e, zfi0, zfi1, zfi2, zfi3, zcast, Nat.reduceAdd, Nat.reduceSub, Nat.reduceEqDiff, Nat.reduceLT, Nat.reduceLeDiff, Int.reduceAdd, Int.reduceSub, Int.reduceMul, Int.reduceToNat, Int.reduceLE, Int.reduceLT, Int.reduceEq, Int.reduceNeg, Int.reduceNegSucc, Nat.reduceMul, List.zip_cons_cons, List.zip_nil_left, List.zip_nil_right, Int.toNat_natCast, true_and, and_true, eq_self, ne_eq, not_false_eq_true, not_true_eq_false, forall_const, implies_true, false_and, true_or, or_true, false_or, or_false, imp_self, CX10_few, ↓zv_cp (cv := zCf VX10_few) (k := 301) (h := (rfl : zCf VX10_few 301 = some CX9_storeOf)), ↓zv_cp (cv := zCf VX10_few) (k := 313) (h := (rfl : zCf VX10_few 313 = some CX8_inState)), and_imp, exists_eq_left, exists_eq_left', exists_eq_right, exists_eq_right', exists_and_left, exists_and_right, Prod.mk.injEq, zAdd_e, zSub_e, zMul_e, zres_0, zres_4, zres_1, zres_9, zrt_0, zrt_4, zrt_1, zrt_9, List.take_succ_cons, List.take_zero, List.drop_succ_cons, List.drop_zero, List.map_cons, List.map_nil, List.reverse_cons, List.reverse_nil, List.nil_append, List.cons_append, List.length_cons, List.length_nil, zPr_c, List.mem_cons, List.not_mem_nil, ↓zIV_e, zcats, List.sum_cons, List.sum_nil, zpu, zfu, zset_e]
  repeat' (first | exact zfr_rf _ _ _ | (refine zfr_st ?_ (by omega) (by omega)) | (refine zfr_cp ?_ (by omega) (by omega)) | (refine zfr_tr ?_ (by assumption)) | (refine zfr_tr ?_ (zfr_mono (by assumption) (by omega) (by omega))) | (refine And.intro ?_ ?_) | (intro _) | (refine Exists.intro (nn - 1) ?_) | (refine Exists.intro 5000000000 ?_) | fail)
  all_goals (try (simp only [zw] at *))
  all_goals (first | trivial | omega | exact (zAnd_b _).1 | exact (zAnd_b _).2 | assumption | (simp; omega) | skip)
def CX10_count : zCt := ([2, 0], 0, zPr [0] (fun vs mem => match vs with | [t, k] => (True) | _ => False), zpu (fun vs mem r => match vs with | [t, k] => (True) | _ => False))
def VX10_count : List (Nat × zCt) := [(301, CX9_storeOf), (313, CX8_inState), (333, CX0_dunes), (336, CX8_buriedIn), (347, CX1_allMen)]
def SX10_count : List (Nat × zCt) := []
set_option maxHeartbeats 4000000 in
set_option maxRecDepth 100000 in
theorem mX10_count (l : Launch) : zMet l zLay yX10_count cX10_count 2 (some .int) 4 CX10_count.1 CX10_count.2.1 CX10_count.2.2.1 CX10_count.2.2.2 := by
  refine zMet_of (pl := zPlf PX10) (cv := zCf VX10_count) (cS := zCf SX10_count) (B := zBf BX10_count) (F := 80) (own := RX10) (by decide +kernel) rfl (Or.inl ⟨rfl, rfl⟩) (fun vs h => by obtain ⟨t, k, rfl⟩ := zlen2 h; exact Nat.le_of_ble_eq_true rfl) PX10_ok zClok_ok zSyok_ok oX10_count (zAllC_e (zAllC_c (Or.inl (zcal_v (mX9_storeOf l) (by decide) (by decide) hX9_storeOf kX10_301 ⟨by decide, by decide +kernel⟩ (ci := 9) rfl rfl rfl)) (zAllC_c (Or.inl (zcal_v (mX8_inState l) (by decide) (by decide) hX8_inState kX10_313 ⟨by decide, by decide +kernel⟩ (ci := 8) rfl rfl rfl)) (zAllC_c (Or.inl (zcal_v (mX0_dunes l) (by decide) (by decide) hX0_dunes kX10_333 ⟨by decide, by decide +kernel⟩ (ci := 0) rfl rfl rfl)) (zAllC_c (Or.inl (zcal_v (mX8_buriedIn l) (by decide) (by decide) hX8_buriedIn kX10_336 ⟨by decide, by decide +kernel⟩ (ci := 8) rfl rfl rfl)) (zAllC_c (Or.inl (zcal_v (mX1_allMen l) (by decide) (by decide) hX1_allMen kX10_347 ⟨by decide, by decide +kernel⟩ (ci := 1) rfl rfl rfl)) (zAllC_n))))))) (zAllC_e (zAllC_n)) ?_
  intro vs mem hvl hok hm hpre
  obtain ⟨t, k, rfl⟩ := zlen2 hvl
  have hr_k : -2147483648 ≤ k ∧ k ≤ 2147483647 := (hok (0, k) (by simp [CX10_count])).1 rfl
  clear hok hvl
  obtain ⟨hid, hpre⟩ := hpre
  simp only [List.mem_cons, List.not_mem_nil, or_false] at hid
  have hpre : True := hpre
  subst hid
  refine ⟨zIf [], zAllI_e zAllI_n, ?_⟩
  simp (maxSteps := 3000000) only [↓zwp_s, zrun_n, zrun_c, zgo_any, zgo_bel, ↓zgA_n, ↓zgA_c, ↓zgB_n, ↓zgB_c, ↓zp1_c, ↓zpv_c, ↓ztg_e, ↓zFv_r, ↓zFv_i, ↓zFv_z, ↓reduceIte, ↓zi_aload_n, ↓zi_getfield, ↓zi_iconst, ↓zi_iload_n, ↓zi_ireturn, ↓zi_tableswitch, ↓zswT_n, ↓zswT_c, ↓zpl_e pX10_10, ↓zpl_e pX10_135, ↓zpl_e pX10_144, ↓zpl_e pX10_161, ↓zpl_e pX10_271, ↓zpl_e pX10_316, ↓zpl_e pX10_340, ↓zpl_e pX10_341, ↓zpl_e pX10_344, ↓zpl_e pX10_350, ↓zpl_e pX10_351, ↓zo_0_0, ↓zo_0_1, ↓zo_0_2, ↓zo_0_3, ↓zo_0_4, ↓zo_0_5, ↓zo_0_6, ↓zo_0_7, ↓zo_0_8, ↓zo_1_0, ↓zo_1_1, ↓zo_1_2, ↓zo_1_3, ↓zo_1_4, ↓zo_1_5, ↓zo_1_6, ↓zo_1_7, ↓zo_1_8, ↓zo_1_9, ↓zo_2_0, ↓zo_2_1, ↓zo_2_2, ↓zo_5_0, ↓zo_5_1, ↓zo_5_2, ↓zo_5_3, ↓zo_5_4, ↓zo_5_5, ↓zo_5_6, ↓zo_5_7, ↓zo_5_8, ↓zo_12_0, ↓zo_12_1, ↓zo_12_2, ↓zo_12_3, ↓zo_16_0, ↓zo_16_1, ↓zo_16_2, ↓zo_16_3, ↓zo_16_4, ↓zo_16_5, ↓zo_16_6, bX10_count_0, bX10_count_68, bX10_count_76, bX10_count_87, bX10_count_99, bX10_count_110, bX10_count_119, bX10_count_128, bX10_count_137, bX10_count_145, bX10_count_163, bX10_count_174, bX10_count_185, bX10_count_196, bX10_count_204, List.size_toArray, zent_n, zent_c, zst_e, zfi0, zfi1, zfi2, zfi3, zcast, Nat.reduceAdd, Nat.reduceSub, Nat.reduceEqDiff, Nat.reduceLT, Nat.reduceLeDiff, Int.reduceAdd, Int.reduceSub, Int.reduceMul, Int.reduceToNat, Int.reduceLE, Int.reduceLT, Int.reduceEq, Int.reduceNeg, Int.reduceNegSucc, Nat.reduceMul, List.zip_cons_cons, List.zip_nil_left, List.zip_nil_right, Int.toNat_natCast, true_and, and_true, eq_self, ne_eq, not_false_eq_true, not_true_eq_false, forall_const, implies_true, false_and, true_or, or_true, false_or, or_false, imp_self, CX10_count, ↓zv_cp (cv := zCf VX10_count) (k := 301) (h := (rfl : zCf VX10_count 301 = some CX9_storeOf)), ↓zv_cp (cv := zCf VX10_count) (k := 313) (h := (rfl : zCf VX10_count 313 = some CX8_inState)), ↓zv_cp (cv := zCf VX10_count) (k := 333) (h := (rfl : zCf VX10_count 333 = some CX0_dunes)), ↓zv_cp (cv := zCf VX10_count) (k := 336) (h := (rfl : zCf VX10_count 336 = some CX8_buriedIn)), ↓zv_cp (cv := zCf VX10_count) (k := 347) (h := (rfl : zCf VX10_count 347 = some CX1_allMen)), and_imp, exists_eq_left, exists_eq_left', exists_eq_right, exists_eq_right', exists_and_left, exists_and_right, Prod.mk.injEq, zAdd_e, zSub_e, zMul_e, zres_0, zres_4, zres_1, zres_9, zrt_0, zrt_4, zrt_1, zrt_9, List.take_succ_cons, List.take_zero, List.drop_succ_cons, List.drop_zero, List.map_cons, List.map_nil, List.reverse_cons, List.reverse_nil, List.nil_append, List.cons_append, List.length_cons, List.length_nil, zPr_c, List.mem_cons, List.not_mem_nil, ↓zIV_e, zcats, List.sum_cons, List.sum_nil, zpu, zfu, zset_e]
  repeat' (first | exact zfr_rf _ _ _ | (refine zfr_st ?_ (by omega) (by omega)) | (refine zfr_cp ?_ (by omega) (by omega)) | (refine zfr_tr ?_ (by assumption)) | (refine zfr_tr ?_ (zfr_mono (by assumption) (by omega) (by omega))) | (refine And.intro ?_ ?_) | (intro _) | (refine Exists.intro (nn - 1) ?_) | (refine Exists.intro 5000000000 ?_) | fail)
  all_goals (try (simp only [zw] at *))
  all_goals (first | trivial | omega | exact (zAnd_b _).1 | exact (zAnd_b _).2 | assumption | (simp; omega) | skip)
def CX10_image : zCt := ([2], 9, zPr [0] (fun vs mem => match vs with | [t] => (True) | _ => False), (fun vs mem r mem' => match vs with | [t] => (∃ m1 : zM, zfr 23 44 mem m1 ∧ m1 27 4 = mem 5 4 ∧ m1 27 8 = mem 5 8 ∧ m1 44 7 = mem 22 7 ∧ m1 34 3 = mem 12 3 ∧ (∀ i, i < 4 → m1 37 i = mem 15 i) ∧ mem' = zset m1 0 2 1) | _ => False))
def VX10_image : List (Nat × zCt) := [(354, CX9_copyFrom)]
def SX10_image : List (Nat × zCt) := []
set_option maxHeartbeats 1000000 in
set_option maxRecDepth 100000 in
theorem mX10_image (l : Launch) : zMet l zLay yX10_image cX10_image 1 none 2 CX10_image.1 CX10_image.2.1 CX10_image.2.2.1 CX10_image.2.2.2 := by
  refine zMet_of (pl := zPlf PX10) (cv := zCf VX10_image) (cS := zCf SX10_image) (B := zBf BX10_image) (F := 80) (own := RX10) (by decide +kernel) rfl (Or.inr (Or.inr (Or.inr ⟨rfl, rfl⟩))) (fun vs h => by obtain ⟨t, rfl⟩ := zlen1 h; exact Nat.le_of_ble_eq_true rfl) PX10_ok zClok_ok zSyok_ok oX10_image (zAllC_e (zAllC_c (Or.inl (zcal_v (mX9_copyFrom l) (by decide) (by decide) hX9_copyFrom kX10_354 ⟨by decide, by decide +kernel⟩ (ci := 9) rfl rfl rfl)) (zAllC_n))) (zAllC_e (zAllC_n)) ?_
  intro vs mem hvl hok hm hpre
  obtain ⟨t, rfl⟩ := zlen1 hvl
  clear hok hvl
  obtain ⟨hid, hpre⟩ := hpre
  simp only [List.mem_cons, List.not_mem_nil, or_false] at hid
  have hpre : True := hpre
  subst hid
  refine ⟨zIf [], zAllI_e zAllI_n, ?_⟩
  simp (maxSteps := 3000000) only [↓zwp_s, zrun_n, zrun_c, zgo_any, zgo_bel, ↓zgA_n, ↓zgA_c, ↓zgB_n, ↓zgB_c, ↓zp1_c, ↓zpv_c, ↓ztg_e, ↓zFv_r, ↓zFv_i, ↓zFv_z, ↓reduceIte, ↓zi_aload_n, ↓zi_getfield, ↓zi_iconst, ↓zi_putfield, ↓zi_return_, ↓zpl_e pX10_10, ↓zpl_e pX10_16, ↓zpl_e pX10_19, ↓zo_0_0, ↓zo_0_1, ↓zo_0_2, ↓zo_0_3, ↓zo_0_4, ↓zo_0_5, ↓zo_0_6, ↓zo_0_7, ↓zo_0_8, ↓zo_1_0, ↓zo_1_1, ↓zo_1_2, ↓zo_1_3, ↓zo_1_4, ↓zo_1_5, ↓zo_1_6, ↓zo_1_7, ↓zo_1_8, ↓zo_1_9, ↓zo_23_0, ↓zo_23_1, ↓zo_23_2, ↓zo_23_3, ↓zo_23_4, ↓zo_23_5, ↓zo_23_6, ↓zo_23_7, ↓zo_23_8, ↓zo_23_9, bX10_image_0, List.size_toArray, zent_n, zent_c, zst_e, zfi0, zfi1, zfi2, zfi3, zcast, Nat.reduceAdd, Nat.reduceSub, Nat.reduceEqDiff, Nat.reduceLT, Nat.reduceLeDiff, Int.reduceAdd, Int.reduceSub, Int.reduceMul, Int.reduceToNat, Int.reduceLE, Int.reduceLT, Int.reduceEq, Int.reduceNeg, Int.reduceNegSucc, Nat.reduceMul, List.zip_cons_cons, List.zip_nil_left, List.zip_nil_right, Int.toNat_natCast, true_and, and_true, eq_self, ne_eq, not_false_eq_true, not_true_eq_false, forall_const, implies_true, false_and, true_or, or_true, false_or, or_false, imp_self, CX10_image, ↓zv_cg (cv := zCf VX10_image) (k := 354) (h := (rfl : zCf VX10_image 354 = some CX9_copyFrom)), and_imp, exists_eq_left, exists_eq_left', exists_eq_right, exists_eq_right', exists_and_left, exists_and_right, Prod.mk.injEq, zAdd_e, zSub_e, zMul_e, zres_0, zres_4, zres_1, zres_9, zrt_0, zrt_4, zrt_1, zrt_9, List.take_succ_cons, List.take_zero, List.drop_succ_cons, List.drop_zero, List.map_cons, List.map_nil, List.reverse_cons, List.reverse_nil, List.nil_append, List.cons_append, List.length_cons, List.length_nil, zPr_c, List.mem_cons, List.not_mem_nil, ↓zIV_e, zcats, List.sum_cons, List.sum_nil, zpu, zfu, zset_e]
  intro r m1 _ _ f1 f2 f3 f4 f5 f6
  exact ⟨m1, f1, f2, f3, f4, f5, f6, rfl⟩
def CX10_back : zCt := ([2], 4, zPr [0] (fun vs mem => match vs with | [t] => (True) | _ => False), (fun vs mem r mem' => match vs with | [t] => ((mem 0 2 = 0 → r = 0 ∧ mem' = mem) ∧ (¬ mem 0 2 = 0 → r = 1 ∧ zfr 1 22 mem mem' ∧ mem' 5 4 = mem 27 4 ∧ mem' 5 8 = mem 27 8 ∧ mem' 22 7 = mem 44 7 ∧ mem' 12 3 = mem 34 3 ∧ (∀ i, i < 4 → mem' 15 i = mem 37 i))) | _ => False))
def VX10_back : List (Nat × zCt) := [(354, CX9_copyFrom)]
def SX10_back : List (Nat × zCt) := []
set_option maxHeartbeats 1000000 in
set_option maxRecDepth 100000 in
theorem mX10_back (l : Launch) : zMet l zLay yX10_back cX10_back 1 (some .boolean) 2 CX10_back.1 CX10_back.2.1 CX10_back.2.2.1 CX10_back.2.2.2 := by
  refine zMet_of (pl := zPlf PX10) (cv := zCf VX10_back) (cS := zCf SX10_back) (B := zBf BX10_back) (F := 80) (own := RX10) (by decide +kernel) rfl (Or.inr (Or.inl ⟨rfl, rfl⟩)) (fun vs h => by obtain ⟨t, rfl⟩ := zlen1 h; exact Nat.le_of_ble_eq_true rfl) PX10_ok zClok_ok zSyok_ok oX10_back (zAllC_e (zAllC_c (Or.inl (zcal_v (mX9_copyFrom l) (by decide) (by decide) hX9_copyFrom kX10_354 ⟨by decide, by decide +kernel⟩ (ci := 9) rfl rfl rfl)) (zAllC_n))) (zAllC_e (zAllC_n)) ?_
  intro vs mem hvl hok hm hpre
  obtain ⟨t, rfl⟩ := zlen1 hvl
  clear hok hvl
  obtain ⟨hid, hpre⟩ := hpre
  simp only [List.mem_cons, List.not_mem_nil, or_false] at hid
  have hpre : True := hpre
  subst hid
  refine ⟨zIf [], zAllI_e zAllI_n, ?_⟩
  simp (maxSteps := 3000000) only [↓zwp_s, zrun_n, zrun_c, zgo_any, zgo_bel, ↓zgA_n, ↓zgA_c, ↓zgB_n, ↓zgB_c, ↓zp1_c, ↓zpv_c, ↓ztg_e, ↓zFv_r, ↓zFv_i, ↓zFv_z, ↓reduceIte, ↓zi_aload_n, ↓zi_getfield, ↓zi_iconst, ↓zi_ifCond, ↓zi_ireturn, zcmp_ne, ↓zpl_e pX10_10, ↓zpl_e pX10_16, ↓zpl_e pX10_19, ↓zo_0_0, ↓zo_0_1, ↓zo_0_2, ↓zo_0_3, ↓zo_0_4, ↓zo_0_5, ↓zo_0_6, ↓zo_0_7, ↓zo_0_8, ↓zo_1_0, ↓zo_1_1, ↓zo_1_2, ↓zo_1_3, ↓zo_1_4, ↓zo_1_5, ↓zo_1_6, ↓zo_1_7, ↓zo_1_8, ↓zo_1_9, ↓zo_23_0, ↓zo_23_1, ↓zo_23_2, ↓zo_23_3, ↓zo_23_4, ↓zo_23_5, ↓zo_23_6, ↓zo_23_7, ↓zo_23_8, ↓zo_23_9, bX10_back_0, bX10_back_9, List.size_toArray, zent_n, zent_c, zst_e, zfi0, zfi1, zfi2, zfi3, zcast, Nat.reduceAdd, Nat.reduceSub, Nat.reduceEqDiff, Nat.reduceLT, Nat.reduceLeDiff, Int.reduceAdd, Int.reduceSub, Int.reduceMul, Int.reduceToNat, Int.reduceLE, Int.reduceLT, Int.reduceEq, Int.reduceNeg, Int.reduceNegSucc, Nat.reduceMul, List.zip_cons_cons, List.zip_nil_left, List.zip_nil_right, Int.toNat_natCast, true_and, and_true, eq_self, ne_eq, not_false_eq_true, not_true_eq_false, forall_const, implies_true, false_and, true_or, or_true, false_or, or_false, imp_self, CX10_back, ↓zv_cg (cv := zCf VX10_back) (k := 354) (h := (rfl : zCf VX10_back 354 = some CX9_copyFrom)), and_imp, exists_eq_left, exists_eq_left', exists_eq_right, exists_eq_right', exists_and_left, exists_and_right, Prod.mk.injEq, zAdd_e, zSub_e, zMul_e, zres_0, zres_4, zres_1, zres_9, zrt_0, zrt_4, zrt_1, zrt_9, List.take_succ_cons, List.take_zero, List.drop_succ_cons, List.drop_zero, List.map_cons, List.map_nil, List.reverse_cons, List.reverse_nil, List.nil_append, List.cons_append, List.length_cons, List.length_nil, zPr_c, List.mem_cons, List.not_mem_nil, ↓zIV_e, zcats, List.sum_cons, List.sum_nil, zpu, zfu, zset_e]
  intro h r m1 _ _ f1 f2 f3 f4 f5 f6
  exact ⟨fun h0 => absurd h0 h, fun _ => ⟨f1, f2, f3, f4, f5, f6⟩⟩
