def CX11_men : zCt := ([2], 0, zPr [80] (fun vs mem => match vs with | [t] => (zGn (mem 81)) | _ => False), zpu (fun vs mem r => match vs with | [t] => (0 ≤ r ∧ r ≤ 120) | _ => False))
def VX11_men : List (Nat × zCt) := []
def SX11_men : List (Nat × zCt) := []
set_option maxHeartbeats 1000000 in
set_option maxRecDepth 100000 in
theorem mX11_men (l : Launch) : zMet l zLay yX11_men cX11_men 3 (some .int) 0 CX11_men.1 CX11_men.2.1 CX11_men.2.2.1 CX11_men.2.2.2 := by
  refine zMet_of (pl := zPlf PX11) (cv := zCf VX11_men) (cS := zCf SX11_men) (B := zBf BX11_men) (F := 80) (own := RX11) (by decide +kernel) rfl (Or.inl ⟨rfl, rfl⟩) (fun vs h => by obtain ⟨t, rfl⟩ := zlen1 h; exact Nat.le_of_ble_eq_true rfl) PX11_ok zClok_ok zSyok_ok oX11_men (zAllC_e (zAllC_n)) (zAllC_e (zAllC_n)) ?_
  intro vs mem hvl hok hm hpre
  obtain ⟨t, rfl⟩ := zlen1 hvl
  clear hok hvl
  obtain ⟨hid, hpre⟩ := hpre
  simp only [List.mem_cons, List.not_mem_nil, or_false] at hid
  have hpre : zGn (mem 81) := hpre
  subst hid
  refine ⟨zIf [(4, (fun nq ls st m => (ls 1).1 = 0 ∧ (ls 2).1 = 0 ∧ ls 0 = (2, 80) ∧ st = [] ∧ m = mem ∧ (0 ≤ (ls 2).2 ∧ (ls 2).2 ≤ mem 81 16 ∧ 0 ≤ (ls 1).2 ∧ (ls 1).2 ≤ 30 * (ls 2).2 ∧ (4 - (ls 2).2).toNat ≤ nq)))], zAllI_e (zAllI_c ?_ (zAllI_n)), ?_⟩
  · intro nn ls st mem1 hm1 hl1 hJ
    obtain ⟨ht1, ht2, h0, rfl, rfl, hc⟩ := hJ
    obtain ⟨x1, h1⟩ : ∃ x, ls 1 = (0, x) := ⟨_, Prod.ext ht1 rfl⟩
    obtain ⟨x2, h2⟩ : ∃ x, ls 2 = (0, x) := ⟨_, Prod.ext ht2 rfl⟩
    simp only [h1, h2] at hc
    obtain ⟨hc0, hc1, hc2, hc3, hc4⟩ := hc
    simp (maxSteps := 3000000) only [↓zwp_s, zrun_n, zrun_c, zgo_any, zgo_bel, ↓zgA_n, ↓zgA_c, ↓zgB_n, ↓zgB_c, ↓zp1_c, ↓zpv_c, ↓ztg_e, ↓zFv_r, ↓zFv_i, ↓zFv_z, ↓reduceIte, ↓zi_aload_n, ↓zi_bipush, ↓zi_getfield, ↓zi_goto, ↓zi_iadd, ↓zi_iaload, ↓zi_iconst, ↓zi_if_icmp, ↓zi_iinc, ↓zi_iload_n, ↓zi_imul, ↓zi_ireturn, ↓zi_istore_n, ↓zi_sipush, zcmp_ge, ↓zpl_e pX11_13, ↓zo_80_0, ↓zo_80_1, ↓zo_80_2, ↓zo_80_3, ↓zo_80_4, ↓zo_80_5, ↓zo_80_6, ↓zo_80_7, ↓zo_80_8, ↓zo_80_9, ↓zo_80_10, ↓zo_80_11, ↓zo_80_12, ↓zo_80_13, ↓zo_80_14, ↓zo_80_15, ↓zo_80_16, ↓zo_80_17, ↓zo_80_18, ↓zo_80_19, ↓zo_80_20, ↓zo_80_21, ↓zo_80_22, ↓zo_80_23, ↓zo_80_24, ↓za_81, bX11_men_0, bX11_men_4, bX11_men_38, List.size_toArray, zent_n, zent_c, zst_e, zfi0, zfi1, zfi2, zfi3, zcast, Nat.reduceAdd, Nat.reduceSub, Nat.reduceEqDiff, Nat.reduceLT, Nat.reduceLeDiff, Int.reduceAdd, Int.reduceSub, Int.reduceMul, Int.reduceToNat, Int.reduceLE, Int.reduceLT, Int.reduceEq, Int.reduceNeg, Int.reduceNegSucc, Nat.reduceMul, List.zip_cons_cons, List.zip_nil_left, List.zip_nil_right, Int.toNat_natCast, true_and, and_true, eq_self, ne_eq, not_false_eq_true, not_true_eq_false, forall_const, implies_true, false_and, true_or, or_true, false_or, or_false, imp_self, CX11_men, and_imp, exists_eq_left, exists_eq_left', exists_eq_right, exists_eq_right', exists_and_left, exists_and_right, Prod.mk.injEq, zAdd_e, zSub_e, zMul_e, zres_0, zres_4, zres_1, zres_9, zrt_0, zrt_4, zrt_1, zrt_9, List.take_succ_cons, List.take_zero, List.drop_succ_cons, List.drop_zero, List.map_cons, List.map_nil, List.reverse_cons, List.reverse_nil, List.nil_append, List.cons_append, List.length_cons, List.length_nil, zPr_c, List.mem_cons, List.not_mem_nil, ↓zIV_e, zcats, List.sum_cons, List.sum_nil, zpu, zfu, zset_e, h1, h2, h0]
    obtain ⟨⟨g0, g1⟩, q2⟩ := hpre
    have q3 := fun h => q2 x2 (by omega) h
    clear q2
    have e1 : zw (3 * x2) = 3 * x2 := zw_id (by omega) (by omega)
    have e2 : zw (184 + 3 * x2) = 184 + 3 * x2 := zw_id (by omega) (by omega)
    have e3 : zw (184 + 3 * x2 + 1) = 184 + 3 * x2 + 1 := zw_id (by omega) (by omega)
    have e4 : zw (x2 + 1) = x2 + 1 := zw_id (by omega) (by omega)
    simp only [e1, e2, e3, e4]
    clear e1 e2 e3
    repeat' (first | exact zfr_rf _ _ _ | (refine zfr_st ?_ (by omega) (by omega)) | (refine zfr_cp ?_ (by omega) (by omega)) | (refine zfr_tr ?_ (by assumption)) | (refine zfr_tr ?_ (zfr_mono (by assumption) (by omega) (by omega))) | (refine And.intro ?_ ?_) | (intro _) | (refine Exists.intro (nn - 1) ?_) | (refine Exists.intro 5000000000 ?_) | fail)
    all_goals (try (have q4 := q3 (by omega)))
    all_goals (try clear q3)
    all_goals (try (simp only [zw] at *))
    all_goals (first | trivial | omega | assumption | (simp; omega) | skip)
  · simp (maxSteps := 3000000) only [↓zwp_s, zrun_n, zrun_c, zgo_any, zgo_bel, ↓zgA_n, ↓zgA_c, ↓zgB_n, ↓zgB_c, ↓zp1_c, ↓zpv_c, ↓ztg_e, ↓zFv_r, ↓zFv_i, ↓zFv_z, ↓reduceIte, ↓zi_aload_n, ↓zi_bipush, ↓zi_getfield, ↓zi_goto, ↓zi_iadd, ↓zi_iaload, ↓zi_iconst, ↓zi_if_icmp, ↓zi_iinc, ↓zi_iload_n, ↓zi_imul, ↓zi_ireturn, ↓zi_istore_n, ↓zi_sipush, zcmp_ge, ↓zpl_e pX11_13, ↓zo_80_0, ↓zo_80_1, ↓zo_80_2, ↓zo_80_3, ↓zo_80_4, ↓zo_80_5, ↓zo_80_6, ↓zo_80_7, ↓zo_80_8, ↓zo_80_9, ↓zo_80_10, ↓zo_80_11, ↓zo_80_12, ↓zo_80_13, ↓zo_80_14, ↓zo_80_15, ↓zo_80_16, ↓zo_80_17, ↓zo_80_18, ↓zo_80_19, ↓zo_80_20, ↓zo_80_21, ↓zo_80_22, ↓zo_80_23, ↓zo_80_24, ↓za_81, bX11_men_0, bX11_men_4, bX11_men_38, List.size_toArray, zent_n, zent_c, zst_e, zfi0, zfi1, zfi2, zfi3, zcast, Nat.reduceAdd, Nat.reduceSub, Nat.reduceEqDiff, Nat.reduceLT, Nat.reduceLeDiff, Int.reduceAdd, Int.reduceSub, Int.reduceMul, Int.reduceToNat, Int.reduceLE, Int.reduceLT, Int.reduceEq, Int.reduceNeg, Int.reduceNegSucc, Nat.reduceMul, List.zip_cons_cons, List.zip_nil_left, List.zip_nil_right, Int.toNat_natCast, true_and, and_true, eq_self, ne_eq, not_false_eq_true, not_true_eq_false, forall_const, implies_true, false_and, true_or, or_true, false_or, or_false, imp_self, CX11_men, and_imp, exists_eq_left, exists_eq_left', exists_eq_right, exists_eq_right', exists_and_left, exists_and_right, Prod.mk.injEq, zAdd_e, zSub_e, zMul_e, zres_0, zres_4, zres_1, zres_9, zrt_0, zrt_4, zrt_1, zrt_9, List.take_succ_cons, List.take_zero, List.drop_succ_cons, List.drop_zero, List.map_cons, List.map_nil, List.reverse_cons, List.reverse_nil, List.nil_append, List.cons_append, List.length_cons, List.length_nil, zPr_c, List.mem_cons, List.not_mem_nil, ↓zIV_e, zcats, List.sum_cons, List.sum_nil, zpu, zfu, zset_e]
    obtain ⟨⟨g0, g1⟩, q2⟩ := hpre
    clear q2
    repeat' (first | exact zfr_rf _ _ _ | (refine zfr_st ?_ (by omega) (by omega)) | (refine zfr_cp ?_ (by omega) (by omega)) | (refine zfr_tr ?_ (by assumption)) | (refine zfr_tr ?_ (zfr_mono (by assumption) (by omega) (by omega))) | (refine And.intro ?_ ?_) | (intro _) | (refine Exists.intro (nn - 1) ?_) | (refine Exists.intro 5000000000 ?_) | fail)
    all_goals (try (simp only [zw] at *))
    all_goals (first | trivial | omega | exact (zAnd_b _).1 | exact (zAnd_b _).2 | assumption | (simp; omega) | skip)
def CX11_strength : zCt := ([2, 0], 0, zPr [80] (fun vs mem => match vs with | [t, k] => (0 ≤ mem 81 16 ∧ mem 81 16 ≤ 4) | _ => False), zpu (fun vs mem r => match vs with | [t, k] => (r = zstr (mem 81) k (mem 81 16).toNat) | _ => False))
def VX11_strength : List (Nat × zCt) := []
def SX11_strength : List (Nat × zCt) := []
set_option maxHeartbeats 4000000 in
set_option maxRecDepth 100000 in
theorem mX11_strength (l : Launch) : zMet l zLay yX11_strength cX11_strength 4 (some .int) 0 CX11_strength.1 CX11_strength.2.1 CX11_strength.2.2.1 CX11_strength.2.2.2 := by
  refine zMet_of (pl := zPlf PX11) (cv := zCf VX11_strength) (cS := zCf SX11_strength) (B := zBf BX11_strength) (F := 80) (own := RX11) (by decide +kernel) rfl (Or.inl ⟨rfl, rfl⟩) (fun vs h => by obtain ⟨t, k, rfl⟩ := zlen2 h; exact Nat.le_of_ble_eq_true rfl) PX11_ok zClok_ok zSyok_ok oX11_strength (zAllC_e (zAllC_n)) (zAllC_e (zAllC_n)) ?_
  intro vs mem hvl hok hm hpre
  obtain ⟨t, k, rfl⟩ := zlen2 hvl
  have hr_k : -2147483648 ≤ k ∧ k ≤ 2147483647 := (hok (0, k) (by simp [CX11_strength])).1 rfl
  clear hok hvl
  obtain ⟨hid, hpre⟩ := hpre
  simp only [List.mem_cons, List.not_mem_nil, or_false] at hid
  have hpre : 0 ≤ mem 81 16 ∧ mem 81 16 ≤ 4 := hpre
  subst hid
  refine ⟨zIf [(4, (fun nq ls st m => (ls 1).1 = 0 ∧ (ls 2).1 = 0 ∧ (ls 3).1 = 0 ∧ ls 0 = (2, 80) ∧ st = [] ∧ m = mem ∧ (0 ≤ (ls 3).2 ∧ (ls 3).2 ≤ mem 81 16 ∧ (ls 1).2 = k ∧ (ls 2).2 = zstr (mem 81) k (ls 3).2.toNat ∧ (4 - (ls 3).2).toNat ≤ nq)))], zAllI_e (zAllI_c ?_ (zAllI_n)), ?_⟩
  · intro nn ls st mem1 hm1 hl1 hJ
    obtain ⟨ht1, ht2, ht3, h0, rfl, rfl, hc⟩ := hJ
    obtain ⟨x1, h1⟩ : ∃ x, ls 1 = (0, x) := ⟨_, Prod.ext ht1 rfl⟩
    obtain ⟨x2, h2⟩ : ∃ x, ls 2 = (0, x) := ⟨_, Prod.ext ht2 rfl⟩
    obtain ⟨x3, h3⟩ : ∃ x, ls 3 = (0, x) := ⟨_, Prod.ext ht3 rfl⟩
    simp only [h1, h2, h3] at hc
    obtain ⟨hc0, hc1, hc2, hc3, hc4⟩ := hc
    simp (maxSteps := 3000000) only [↓zwp_s, zrun_n, zrun_c, zgo_any, zgo_bel, ↓zgA_n, ↓zgA_c, ↓zgB_n, ↓zgB_c, ↓zp1_c, ↓zpv_c, ↓ztg_e, ↓zFv_r, ↓zFv_i, ↓zFv_z, ↓reduceIte, ↓zi_aload_n, ↓zi_bipush, ↓zi_getfield, ↓zi_goto, ↓zi_iadd, ↓zi_iaload, ↓zi_iconst, ↓zi_if_icmp, ↓zi_iinc, ↓zi_iload_n, ↓zi_imul, ↓zi_ireturn, ↓zi_istore_n, ↓zi_sipush, zcmp_ge, zcmp_ne, ↓zpl_e pX11_13, ↓zo_80_0, ↓zo_80_1, ↓zo_80_2, ↓zo_80_3, ↓zo_80_4, ↓zo_80_5, ↓zo_80_6, ↓zo_80_7, ↓zo_80_8, ↓zo_80_9, ↓zo_80_10, ↓zo_80_11, ↓zo_80_12, ↓zo_80_13, ↓zo_80_14, ↓zo_80_15, ↓zo_80_16, ↓zo_80_17, ↓zo_80_18, ↓zo_80_19, ↓zo_80_20, ↓zo_80_21, ↓zo_80_22, ↓zo_80_23, ↓zo_80_24, ↓za_81, bX11_strength_0, bX11_strength_4, bX11_strength_49, bX11_strength_50, bX11_strength_58, List.size_toArray, zent_n, zent_c, zst_e, zfi0, zfi1, zfi2, zfi3, zcast, Nat.reduceAdd, Nat.reduceSub, Nat.reduceEqDiff, Nat.reduceLT, Nat.reduceLeDiff, Int.reduceAdd, Int.reduceSub, Int.reduceMul, Int.reduceToNat, Int.reduceLE, Int.reduceLT, Int.reduceEq, Int.reduceNeg, Int.reduceNegSucc, Nat.reduceMul, List.zip_cons_cons, List.zip_nil_left, List.zip_nil_right, Int.toNat_natCast, true_and, and_true, eq_self, ne_eq, not_false_eq_true, not_true_eq_false, forall_const, implies_true, false_and, true_or, or_true, false_or, or_false, imp_self, CX11_strength, and_imp, exists_eq_left, exists_eq_left', exists_eq_right, exists_eq_right', exists_and_left, exists_and_right, Prod.mk.injEq, zAdd_e, zSub_e, zMul_e, zres_0, zres_4, zres_1, zres_9, zrt_0, zrt_4, zrt_1, zrt_9, List.take_succ_cons, List.take_zero, List.drop_succ_cons, List.drop_zero, List.map_cons, List.map_nil, List.reverse_cons, List.reverse_nil, List.nil_append, List.cons_append, List.length_cons, List.length_nil, zPr_c, List.mem_cons, List.not_mem_nil, ↓zIV_e, zcats, List.sum_cons, List.sum_nil, zpu, zfu, zset_e, h1, h2, h3, h0]
    subst hc2
    have e5 := zstr_s (f := mem1 81) (k := x1) (x := x3) (by omega)
    have e1 : zw (3 * x3) = 3 * x3 := zw_id (by omega) (by omega)
    have e2 : zw (184 + 3 * x3) = 184 + 3 * x3 := zw_id (by omega) (by omega)
    have e3 : zw (184 + 3 * x3 + 2) = 184 + 3 * x3 + 2 := zw_id (by omega) (by omega)
    have e4 : zw (x3 + 1) = x3 + 1 := zw_id (by omega) (by omega)
    simp only [e1, e2, e3, e4]
    clear e1 e2 e3
    repeat' (first | exact zfr_rf _ _ _ | (refine zfr_st ?_ (by omega) (by omega)) | (refine zfr_cp ?_ (by omega) (by omega)) | (refine zfr_tr ?_ (by assumption)) | (refine zfr_tr ?_ (zfr_mono (by assumption) (by omega) (by omega))) | (refine And.intro ?_ ?_) | (intro _) | (refine Exists.intro (nn - 1) ?_) | (refine Exists.intro 5000000000 ?_) | fail)
    all_goals (first | trivial | omega | (rw [e5, if_pos (by assumption), ← hc3]; done) | (rw [e5, if_neg (by assumption), ← hc3]; done) | (rw [e5, if_pos (by omega), ← hc3]; done) | (rw [e5, if_neg (by omega), ← hc3]; done) | (rw [show mem1 81 16 = x3 by omega]; exact hc3) | skip)
  · simp (maxSteps := 3000000) only [↓zwp_s, zrun_n, zrun_c, zgo_any, zgo_bel, ↓zgA_n, ↓zgA_c, ↓zgB_n, ↓zgB_c, ↓zp1_c, ↓zpv_c, ↓ztg_e, ↓zFv_r, ↓zFv_i, ↓zFv_z, ↓reduceIte, ↓zi_aload_n, ↓zi_bipush, ↓zi_getfield, ↓zi_goto, ↓zi_iadd, ↓zi_iaload, ↓zi_iconst, ↓zi_if_icmp, ↓zi_iinc, ↓zi_iload_n, ↓zi_imul, ↓zi_ireturn, ↓zi_istore_n, ↓zi_sipush, zcmp_ge, zcmp_ne, ↓zpl_e pX11_13, ↓zo_80_0, ↓zo_80_1, ↓zo_80_2, ↓zo_80_3, ↓zo_80_4, ↓zo_80_5, ↓zo_80_6, ↓zo_80_7, ↓zo_80_8, ↓zo_80_9, ↓zo_80_10, ↓zo_80_11, ↓zo_80_12, ↓zo_80_13, ↓zo_80_14, ↓zo_80_15, ↓zo_80_16, ↓zo_80_17, ↓zo_80_18, ↓zo_80_19, ↓zo_80_20, ↓zo_80_21, ↓zo_80_22, ↓zo_80_23, ↓zo_80_24, ↓za_81, bX11_strength_0, bX11_strength_4, bX11_strength_49, bX11_strength_50, bX11_strength_58, List.size_toArray, zent_n, zent_c, zst_e, zfi0, zfi1, zfi2, zfi3, zcast, Nat.reduceAdd, Nat.reduceSub, Nat.reduceEqDiff, Nat.reduceLT, Nat.reduceLeDiff, Int.reduceAdd, Int.reduceSub, Int.reduceMul, Int.reduceToNat, Int.reduceLE, Int.reduceLT, Int.reduceEq, Int.reduceNeg, Int.reduceNegSucc, Nat.reduceMul, List.zip_cons_cons, List.zip_nil_left, List.zip_nil_right, Int.toNat_natCast, true_and, and_true, eq_self, ne_eq, not_false_eq_true, not_true_eq_false, forall_const, implies_true, false_and, true_or, or_true, false_or, or_false, imp_self, CX11_strength, and_imp, exists_eq_left, exists_eq_left', exists_eq_right, exists_eq_right', exists_and_left, exists_and_right, Prod.mk.injEq, zAdd_e, zSub_e, zMul_e, zres_0, zres_4, zres_1, zres_9, zrt_0, zrt_4, zrt_1, zrt_9, List.take_succ_cons, List.take_zero, List.drop_succ_cons, List.drop_zero, List.map_cons, List.map_nil, List.reverse_cons, List.reverse_nil, List.nil_append, List.cons_append, List.length_cons, List.length_nil, zPr_c, List.mem_cons, List.not_mem_nil, ↓zIV_e, zcats, List.sum_cons, List.sum_nil, zpu, zfu, zset_e]
    repeat' (first | exact zfr_rf _ _ _ | (refine zfr_st ?_ (by omega) (by omega)) | (refine zfr_cp ?_ (by omega) (by omega)) | (refine zfr_tr ?_ (by assumption)) | (refine zfr_tr ?_ (zfr_mono (by assumption) (by omega) (by omega))) | (refine And.intro ?_ ?_) | (intro _) | (refine Exists.intro (nn - 1) ?_) | (refine Exists.intro 5000000000 ?_) | fail)
    all_goals (first | trivial | omega | rfl | skip)
def CX11_carried : zCt := ([2], 0, zPr [80] (fun vs mem => match vs with | [t] => (0 ≤ mem 81 15 ∧ mem 81 15 ≤ 16) | _ => False), zpu (fun vs mem r => match vs with | [t] => (r = zcar (mem 81) (mem 81 15).toNat) | _ => False))
def VX11_carried : List (Nat × zCt) := [(239, CX11_ofRail)]
def SX11_carried : List (Nat × zCt) := []
set_option maxHeartbeats 1000000 in
set_option maxRecDepth 100000 in
theorem mX11_carried (l : Launch) : zMet l zLay yX11_carried cX11_carried 3 (some .int) 1 CX11_carried.1 CX11_carried.2.1 CX11_carried.2.2.1 CX11_carried.2.2.2 := by
  refine zMet_of (pl := zPlf PX11) (cv := zCf VX11_carried) (cS := zCf SX11_carried) (B := zBf BX11_carried) (F := 80) (own := RX11) (by decide +kernel) rfl (Or.inl ⟨rfl, rfl⟩) (fun vs h => by obtain ⟨t, rfl⟩ := zlen1 h; exact Nat.le_of_ble_eq_true rfl) PX11_ok zClok_ok zSyok_ok oX11_carried (zAllC_e (zAllC_c (Or.inl (zcal_v (mX11_ofRail l) (by decide) (by decide) hX11_ofRail kX11_239 ⟨by decide, by decide +kernel⟩ (ci := 11) rfl rfl rfl)) (zAllC_n))) (zAllC_e (zAllC_n)) ?_
  intro vs mem hvl hok hm hpre
  obtain ⟨t, rfl⟩ := zlen1 hvl
  clear hok hvl
  obtain ⟨hid, hpre⟩ := hpre
  simp only [List.mem_cons, List.not_mem_nil, or_false] at hid
  have hpre : 0 ≤ mem 81 15 ∧ mem 81 15 ≤ 16 := hpre
  subst hid
  refine ⟨zIf [(4, (fun nq ls st m => (ls 1).1 = 0 ∧ (ls 2).1 = 0 ∧ ls 0 = (2, 80) ∧ st = [] ∧ m = mem ∧ (0 ≤ (ls 2).2 ∧ (ls 2).2 ≤ mem 81 15 ∧ (ls 1).2 = zcar (mem 81) (ls 2).2.toNat ∧ (16 - (ls 2).2).toNat ≤ nq)))], zAllI_e (zAllI_c ?_ (zAllI_n)), ?_⟩
  · intro nn ls st mem1 hm1 hl1 hJ
    obtain ⟨ht1, ht2, h0, rfl, rfl, hc⟩ := hJ
    obtain ⟨x1, h1⟩ : ∃ x, ls 1 = (0, x) := ⟨_, Prod.ext ht1 rfl⟩
    obtain ⟨x2, h2⟩ : ∃ x, ls 2 = (0, x) := ⟨_, Prod.ext ht2 rfl⟩
    simp only [h1, h2] at hc
    obtain ⟨hc0, hc1, hc2, hc3⟩ := hc
    simp (maxSteps := 3000000) only [↓zwp_s, zrun_n, zrun_c, zgo_any, zgo_bel, ↓zgA_n, ↓zgA_c, ↓zgB_n, ↓zgB_c, ↓zp1_c, ↓zpv_c, ↓ztg_e, ↓zFv_r, ↓zFv_i, ↓zFv_z, ↓reduceIte, ↓zi_aload_n, ↓zi_bipush, ↓zi_getfield, ↓zi_goto, ↓zi_iadd, ↓zi_iaload, ↓zi_iconst, ↓zi_if_icmp, ↓zi_iinc, ↓zi_iload_n, ↓zi_ireturn, ↓zi_istore_n, zcmp_ge, zcmp_ne, ↓zpl_e pX11_13, ↓zo_80_0, ↓zo_80_1, ↓zo_80_2, ↓zo_80_3, ↓zo_80_4, ↓zo_80_5, ↓zo_80_6, ↓zo_80_7, ↓zo_80_8, ↓zo_80_9, ↓zo_80_10, ↓zo_80_11, ↓zo_80_12, ↓zo_80_13, ↓zo_80_14, ↓zo_80_15, ↓zo_80_16, ↓zo_80_17, ↓zo_80_18, ↓zo_80_19, ↓zo_80_20, ↓zo_80_21, ↓zo_80_22, ↓zo_80_23, ↓zo_80_24, ↓za_81, bX11_carried_0, bX11_carried_4, bX11_carried_30, bX11_carried_31, bX11_carried_39, List.size_toArray, zent_n, zent_c, zst_e, zfi0, zfi1, zfi2, zfi3, zcast, Nat.reduceAdd, Nat.reduceSub, Nat.reduceEqDiff, Nat.reduceLT, Nat.reduceLeDiff, Int.reduceAdd, Int.reduceSub, Int.reduceMul, Int.reduceToNat, Int.reduceLE, Int.reduceLT, Int.reduceEq, Int.reduceNeg, Int.reduceNegSucc, Nat.reduceMul, List.zip_cons_cons, List.zip_nil_left, List.zip_nil_right, Int.toNat_natCast, true_and, and_true, eq_self, ne_eq, not_false_eq_true, not_true_eq_false, forall_const, implies_true, false_and, true_or, or_true, false_or, or_false, imp_self, CX11_carried, ↓zv_cf (cv := zCf VX11_carried) (k := 239) (h := (rfl : zCf VX11_carried 239 = some CX11_ofRail)), and_imp, exists_eq_left, exists_eq_left', exists_eq_right, exists_eq_right', exists_and_left, exists_and_right, Prod.mk.injEq, zAdd_e, zSub_e, zMul_e, zres_0, zres_4, zres_1, zres_9, zrt_0, zrt_4, zrt_1, zrt_9, List.take_succ_cons, List.take_zero, List.drop_succ_cons, List.drop_zero, List.map_cons, List.map_nil, List.reverse_cons, List.reverse_nil, List.nil_append, List.cons_append, List.length_cons, List.length_nil, zPr_c, List.mem_cons, List.not_mem_nil, ↓zIV_e, zcats, List.sum_cons, List.sum_nil, zpu, zfu, zset_e, h1, h2, h0]
    have e5 := zcar_s (f := mem1 81) (x := x2) (by omega)
    have e6 := zcar_b (mem1 81) x2.toNat
    have e4 : zw (x2 + 1) = x2 + 1 := zw_id (by omega) (by omega)
    simp only [e4]
    repeat' (first | exact zfr_rf _ _ _ | (refine zfr_st ?_ (by omega) (by omega)) | (refine zfr_cp ?_ (by omega) (by omega)) | (refine zfr_tr ?_ (by assumption)) | (refine zfr_tr ?_ (zfr_mono (by assumption) (by omega) (by omega))) | (refine And.intro ?_ ?_) | (intro _) | (refine Exists.intro (nn - 1) ?_) | (refine Exists.intro 5000000000 ?_) | fail)
    all_goals (first | trivial | omega | (rw [e5, if_pos (by omega), ← hc2, zw_id (by omega) (by omega)]; done) | (rw [e5, if_neg (by omega), ← hc2, zw_id (by omega) (by omega)]; done) | (rw [show mem1 81 15 = x2 by omega]; exact hc2) | skip)
  · simp (maxSteps := 3000000) only [↓zwp_s, zrun_n, zrun_c, zgo_any, zgo_bel, ↓zgA_n, ↓zgA_c, ↓zgB_n, ↓zgB_c, ↓zp1_c, ↓zpv_c, ↓ztg_e, ↓zFv_r, ↓zFv_i, ↓zFv_z, ↓reduceIte, ↓zi_aload_n, ↓zi_bipush, ↓zi_getfield, ↓zi_goto, ↓zi_iadd, ↓zi_iaload, ↓zi_iconst, ↓zi_if_icmp, ↓zi_iinc, ↓zi_iload_n, ↓zi_ireturn, ↓zi_istore_n, zcmp_ge, zcmp_ne, ↓zpl_e pX11_13, ↓zo_80_0, ↓zo_80_1, ↓zo_80_2, ↓zo_80_3, ↓zo_80_4, ↓zo_80_5, ↓zo_80_6, ↓zo_80_7, ↓zo_80_8, ↓zo_80_9, ↓zo_80_10, ↓zo_80_11, ↓zo_80_12, ↓zo_80_13, ↓zo_80_14, ↓zo_80_15, ↓zo_80_16, ↓zo_80_17, ↓zo_80_18, ↓zo_80_19, ↓zo_80_20, ↓zo_80_21, ↓zo_80_22, ↓zo_80_23, ↓zo_80_24, ↓za_81, bX11_carried_0, bX11_carried_4, bX11_carried_30, bX11_carried_31, bX11_carried_39, List.size_toArray, zent_n, zent_c, zst_e, zfi0, zfi1, zfi2, zfi3, zcast, Nat.reduceAdd, Nat.reduceSub, Nat.reduceEqDiff, Nat.reduceLT, Nat.reduceLeDiff, Int.reduceAdd, Int.reduceSub, Int.reduceMul, Int.reduceToNat, Int.reduceLE, Int.reduceLT, Int.reduceEq, Int.reduceNeg, Int.reduceNegSucc, Nat.reduceMul, List.zip_cons_cons, List.zip_nil_left, List.zip_nil_right, Int.toNat_natCast, true_and, and_true, eq_self, ne_eq, not_false_eq_true, not_true_eq_false, forall_const, implies_true, false_and, true_or, or_true, false_or, or_false, imp_self, CX11_carried, ↓zv_cf (cv := zCf VX11_carried) (k := 239) (h := (rfl : zCf VX11_carried 239 = some CX11_ofRail)), and_imp, exists_eq_left, exists_eq_left', exists_eq_right, exists_eq_right', exists_and_left, exists_and_right, Prod.mk.injEq, zAdd_e, zSub_e, zMul_e, zres_0, zres_4, zres_1, zres_9, zrt_0, zrt_4, zrt_1, zrt_9, List.take_succ_cons, List.take_zero, List.drop_succ_cons, List.drop_zero, List.map_cons, List.map_nil, List.reverse_cons, List.reverse_nil, List.nil_append, List.cons_append, List.length_cons, List.length_nil, zPr_c, List.mem_cons, List.not_mem_nil, ↓zIV_e, zcats, List.sum_cons, List.sum_nil, zpu, zfu, zset_e]
    repeat' (first | exact zfr_rf _ _ _ | (refine zfr_st ?_ (by omega) (by omega)) | (refine zfr_cp ?_ (by omega) (by omega)) | (refine zfr_tr ?_ (by assumption)) | (refine zfr_tr ?_ (zfr_mono (by assumption) (by omega) (by omega))) | (refine And.intro ?_ ?_) | (intro _) | (refine Exists.intro (nn - 1) ?_) | (refine Exists.intro 5000000000 ?_) | fail)
    all_goals (first | trivial | omega | rfl | skip)
def CX11_leastCarried : zCt := ([2], 0, zPr [80] (fun vs mem => match vs with | [t] => (0 ≤ mem 81 15 ∧ mem 81 15 ≤ 16) | _ => False), zpu (fun vs mem r => match vs with | [t] => ((r = -1 ∧ zNoC (mem 81) (mem 81 15)) ∨ (0 ≤ r ∧ r < mem 81 15 ∧ mem 81 (120 + 4 * r + 2).toNat = 1)) | _ => False))
def VX11_leastCarried : List (Nat × zCt) := [(239, CX11_ofRail)]
def SX11_leastCarried : List (Nat × zCt) := []
set_option maxHeartbeats 1000000 in
set_option maxRecDepth 100000 in
theorem mX11_leastCarried (l : Launch) : zMet l zLay yX11_leastCarried cX11_leastCarried 2 (some .int) 1 CX11_leastCarried.1 CX11_leastCarried.2.1 CX11_leastCarried.2.2.1 CX11_leastCarried.2.2.2 := by
  refine zMet_of (pl := zPlf PX11) (cv := zCf VX11_leastCarried) (cS := zCf SX11_leastCarried) (B := zBf BX11_leastCarried) (F := 80) (own := RX11) (by decide +kernel) rfl (Or.inl ⟨rfl, rfl⟩) (fun vs h => by obtain ⟨t, rfl⟩ := zlen1 h; exact Nat.le_of_ble_eq_true rfl) PX11_ok zClok_ok zSyok_ok oX11_leastCarried (zAllC_e (zAllC_c (Or.inl (zcal_v (mX11_ofRail l) (by decide) (by decide) hX11_ofRail kX11_239 ⟨by decide, by decide +kernel⟩ (ci := 11) rfl rfl rfl)) (zAllC_n))) (zAllC_e (zAllC_n)) ?_
  intro vs mem hvl hok hm hpre
  obtain ⟨t, rfl⟩ := zlen1 hvl
  clear hok hvl
  obtain ⟨hid, hpre⟩ := hpre
  simp only [List.mem_cons, List.not_mem_nil, or_false] at hid
  have hpre : 0 ≤ mem 81 15 ∧ mem 81 15 ≤ 16 := hpre
  subst hid
  refine ⟨zIf [(2, (fun nq ls st m => (ls 1).1 = 0 ∧ ls 0 = (2, 80) ∧ st = [] ∧ m = mem ∧ (0 ≤ (ls 1).2 ∧ (ls 1).2 ≤ mem 81 15 ∧ zNoC (mem 81) (ls 1).2 ∧ (16 - (ls 1).2).toNat ≤ nq)))], zAllI_e (zAllI_c ?_ (zAllI_n)), ?_⟩
  · intro nn ls st mem1 hm1 hl1 hJ
    obtain ⟨ht1, h0, rfl, rfl, hc⟩ := hJ
    obtain ⟨x1, h1⟩ : ∃ x, ls 1 = (0, x) := ⟨_, Prod.ext ht1 rfl⟩
    simp only [h1] at hc
    obtain ⟨hc0, hc1, hc2, hc3⟩ := hc
    simp (maxSteps := 3000000) only [↓zwp_s, zrun_n, zrun_c, zgo_any, zgo_bel, ↓zgA_n, ↓zgA_c, ↓zgB_n, ↓zgB_c, ↓zp1_c, ↓zpv_c, ↓ztg_e, ↓zFv_r, ↓zFv_i, ↓zFv_z, ↓reduceIte, ↓zi_aload_n, ↓zi_bipush, ↓zi_getfield, ↓zi_goto, ↓zi_iaload, ↓zi_iconst, ↓zi_if_icmp, ↓zi_iinc, ↓zi_iload_n, ↓zi_ireturn, ↓zi_istore_n, zcmp_ge, zcmp_eq, zcmp_ne, ↓zpl_e pX11_13, ↓zo_80_0, ↓zo_80_1, ↓zo_80_2, ↓zo_80_3, ↓zo_80_4, ↓zo_80_5, ↓zo_80_6, ↓zo_80_7, ↓zo_80_8, ↓zo_80_9, ↓zo_80_10, ↓zo_80_11, ↓zo_80_12, ↓zo_80_13, ↓zo_80_14, ↓zo_80_15, ↓zo_80_16, ↓zo_80_17, ↓zo_80_18, ↓zo_80_19, ↓zo_80_20, ↓zo_80_21, ↓zo_80_22, ↓zo_80_23, ↓zo_80_24, ↓za_81, bX11_leastCarried_0, bX11_leastCarried_2, bX11_leastCarried_29, bX11_leastCarried_44, bX11_leastCarried_45, List.size_toArray, zent_n, zent_c, zst_e, zfi0, zfi1, zfi2, zfi3, zcast, Nat.reduceAdd, Nat.reduceSub, Nat.reduceEqDiff, Nat.reduceLT, Nat.reduceLeDiff, Int.reduceAdd, Int.reduceSub, Int.reduceMul, Int.reduceToNat, Int.reduceLE, Int.reduceLT, Int.reduceEq, Int.reduceNeg, Int.reduceNegSucc, Nat.reduceMul, List.zip_cons_cons, List.zip_nil_left, List.zip_nil_right, Int.toNat_natCast, true_and, and_true, eq_self, ne_eq, not_false_eq_true, not_true_eq_false, forall_const, implies_true, false_and, true_or, or_true, false_or, or_false, imp_self, CX11_leastCarried, ↓zv_cf (cv := zCf VX11_leastCarried) (k := 239) (h := (rfl : zCf VX11_leastCarried 239 = some CX11_ofRail)), and_imp, exists_eq_left, exists_eq_left', exists_eq_right, exists_eq_right', exists_and_left, exists_and_right, Prod.mk.injEq, zAdd_e, zSub_e, zMul_e, zres_0, zres_4, zres_1, zres_9, zrt_0, zrt_4, zrt_1, zrt_9, List.take_succ_cons, List.take_zero, List.drop_succ_cons, List.drop_zero, List.map_cons, List.map_nil, List.reverse_cons, List.reverse_nil, List.nil_append, List.cons_append, List.length_cons, List.length_nil, zPr_c, List.mem_cons, List.not_mem_nil, ↓zIV_e, zcats, List.sum_cons, List.sum_nil, zpu, zfu, zset_e, h1, h0]
    have e4 : zw (x1 + 1) = x1 + 1 := zw_id (by omega) (by omega)
    simp only [e4]
    repeat' (first | exact zNoC_e hc2 (by omega) | exact zNoC_s hc2 (by assumption) | exact zfr_rf _ _ _ | (refine zfr_st ?_ (by omega) (by omega)) | (refine zfr_cp ?_ (by omega) (by omega)) | (refine zfr_tr ?_ (by assumption)) | (refine zfr_tr ?_ (zfr_mono (by assumption) (by omega) (by omega))) | (refine And.intro ?_ ?_) | (intro _) | (refine Exists.intro (nn - 1) ?_) | (refine Exists.intro 5000000000 ?_) | fail)
    all_goals (first | trivial | omega | (right; exact ⟨by omega, by omega, by omega⟩) | skip)
  · simp (maxSteps := 3000000) only [↓zwp_s, zrun_n, zrun_c, zgo_any, zgo_bel, ↓zgA_n, ↓zgA_c, ↓zgB_n, ↓zgB_c, ↓zp1_c, ↓zpv_c, ↓ztg_e, ↓zFv_r, ↓zFv_i, ↓zFv_z, ↓reduceIte, ↓zi_aload_n, ↓zi_bipush, ↓zi_getfield, ↓zi_goto, ↓zi_iaload, ↓zi_iconst, ↓zi_if_icmp, ↓zi_iinc, ↓zi_iload_n, ↓zi_ireturn, ↓zi_istore_n, zcmp_ge, zcmp_eq, zcmp_ne, ↓zpl_e pX11_13, ↓zo_80_0, ↓zo_80_1, ↓zo_80_2, ↓zo_80_3, ↓zo_80_4, ↓zo_80_5, ↓zo_80_6, ↓zo_80_7, ↓zo_80_8, ↓zo_80_9, ↓zo_80_10, ↓zo_80_11, ↓zo_80_12, ↓zo_80_13, ↓zo_80_14, ↓zo_80_15, ↓zo_80_16, ↓zo_80_17, ↓zo_80_18, ↓zo_80_19, ↓zo_80_20, ↓zo_80_21, ↓zo_80_22, ↓zo_80_23, ↓zo_80_24, ↓za_81, bX11_leastCarried_0, bX11_leastCarried_2, bX11_leastCarried_29, bX11_leastCarried_44, bX11_leastCarried_45, List.size_toArray, zent_n, zent_c, zst_e, zfi0, zfi1, zfi2, zfi3, zcast, Nat.reduceAdd, Nat.reduceSub, Nat.reduceEqDiff, Nat.reduceLT, Nat.reduceLeDiff, Int.reduceAdd, Int.reduceSub, Int.reduceMul, Int.reduceToNat, Int.reduceLE, Int.reduceLT, Int.reduceEq, Int.reduceNeg, Int.reduceNegSucc, Nat.reduceMul, List.zip_cons_cons, List.zip_nil_left, List.zip_nil_right, Int.toNat_natCast, true_and, and_true, eq_self, ne_eq, not_false_eq_true, not_true_eq_false, forall_const, implies_true, false_and, true_or, or_true, false_or, or_false, imp_self, CX11_leastCarried, ↓zv_cf (cv := zCf VX11_leastCarried) (k := 239) (h := (rfl : zCf VX11_leastCarried 239 = some CX11_ofRail)), and_imp, exists_eq_left, exists_eq_left', exists_eq_right, exists_eq_right', exists_and_left, exists_and_right, Prod.mk.injEq, zAdd_e, zSub_e, zMul_e, zres_0, zres_4, zres_1, zres_9, zrt_0, zrt_4, zrt_1, zrt_9, List.take_succ_cons, List.take_zero, List.drop_succ_cons, List.drop_zero, List.map_cons, List.map_nil, List.reverse_cons, List.reverse_nil, List.nil_append, List.cons_append, List.length_cons, List.length_nil, zPr_c, List.mem_cons, List.not_mem_nil, ↓zIV_e, zcats, List.sum_cons, List.sum_nil, zpu, zfu, zset_e]
    repeat' (first | exact zNoC_0 _ | exact zfr_rf _ _ _ | (refine zfr_st ?_ (by omega) (by omega)) | (refine zfr_cp ?_ (by omega) (by omega)) | (refine zfr_tr ?_ (by assumption)) | (refine zfr_tr ?_ (zfr_mono (by assumption) (by omega) (by omega))) | (refine And.intro ?_ ?_) | (intro _) | (refine Exists.intro (nn - 1) ?_) | (refine Exists.intro 5000000000 ?_) | fail)
    all_goals (first | trivial | omega | skip)
def CX11_dunes : zCt := ([2], 0, zPr [80] (fun vs mem => match vs with | [t] => (True) | _ => False), zpu (fun vs mem r => match vs with | [t] => (True) | _ => False))
def VX11_dunes : List (Nat × zCt) := [(262, CX11_kindAt)]
def SX11_dunes : List (Nat × zCt) := []
set_option maxHeartbeats 1000000 in
set_option maxRecDepth 100000 in
theorem mX11_dunes (l : Launch) : zMet l zLay yX11_dunes cX11_dunes 3 (some .int) 1 CX11_dunes.1 CX11_dunes.2.1 CX11_dunes.2.2.1 CX11_dunes.2.2.2 := by
  refine zMet_of (pl := zPlf PX11) (cv := zCf VX11_dunes) (cS := zCf SX11_dunes) (B := zBf BX11_dunes) (F := 80) (own := RX11) (by decide +kernel) rfl (Or.inl ⟨rfl, rfl⟩) (fun vs h => by obtain ⟨t, rfl⟩ := zlen1 h; exact Nat.le_of_ble_eq_true rfl) PX11_ok zClok_ok zSyok_ok oX11_dunes (zAllC_e (zAllC_c (Or.inl (zcal_v (mX11_kindAt l) (by decide) (by decide) hX11_kindAt kX11_262 ⟨by decide, by decide +kernel⟩ (ci := 11) rfl rfl rfl)) (zAllC_n))) (zAllC_e (zAllC_n)) ?_
  intro vs mem hvl hok hm hpre
  obtain ⟨t, rfl⟩ := zlen1 hvl
  clear hok hvl
  obtain ⟨hid, hpre⟩ := hpre
  simp only [List.mem_cons, List.not_mem_nil, or_false] at hid
  have hpre : True := hpre
  subst hid
  refine ⟨zIf [(4, (fun nq ls st m => (ls 1).1 = 0 ∧ (ls 2).1 = 0 ∧ ls 0 = (2, 80) ∧ st = [] ∧ m = mem ∧ (0 ≤ (ls 2).2 ∧ (ls 2).2 ≤ 100 ∧ (100 - (ls 2).2).toNat ≤ nq)))], zAllI_e (zAllI_c ?_ (zAllI_n)), ?_⟩
  · intro nn ls st mem1 hm1 hl1 hJ
    obtain ⟨ht1, ht2, h0, rfl, rfl, hc⟩ := hJ
    obtain ⟨x1, h1⟩ : ∃ x, ls 1 = (0, x) := ⟨_, Prod.ext ht1 rfl⟩
    obtain ⟨x2, h2⟩ : ∃ x, ls 2 = (0, x) := ⟨_, Prod.ext ht2 rfl⟩
    simp only [h1, h2] at hc
    obtain ⟨hc0, hc1, hc2⟩ := hc
    simp (maxSteps := 3000000) only [↓zwp_s, zrun_n, zrun_c, zgo_any, zgo_bel, ↓zgA_n, ↓zgA_c, ↓zgB_n, ↓zgB_c, ↓zp1_c, ↓zpv_c, ↓ztg_e, ↓zFv_r, ↓zFv_i, ↓zFv_z, ↓reduceIte, ↓zi_aload_n, ↓zi_bipush, ↓zi_goto, ↓zi_iadd, ↓zi_iconst, ↓zi_if_icmp, ↓zi_iinc, ↓zi_iload_n, ↓zi_ireturn, ↓zi_istore_n, zcmp_ge, zcmp_ne, ↓zo_80_0, ↓zo_80_1, ↓zo_80_2, ↓zo_80_3, ↓zo_80_4, ↓zo_80_5, ↓zo_80_6, ↓zo_80_7, ↓zo_80_8, ↓zo_80_9, ↓zo_80_10, ↓zo_80_11, ↓zo_80_12, ↓zo_80_13, ↓zo_80_14, ↓zo_80_15, ↓zo_80_16, ↓zo_80_17, ↓zo_80_18, ↓zo_80_19, ↓zo_80_20, ↓zo_80_21, ↓zo_80_22, ↓zo_80_23, ↓zo_80_24, ↓za_81, bX11_dunes_0, bX11_dunes_4, bX11_dunes_24, bX11_dunes_25, bX11_dunes_33, List.size_toArray, zent_n, zent_c, zst_e, zfi0, zfi1, zfi2, zfi3, zcast, Nat.reduceAdd, Nat.reduceSub, Nat.reduceEqDiff, Nat.reduceLT, Nat.reduceLeDiff, Int.reduceAdd, Int.reduceSub, Int.reduceMul, Int.reduceToNat, Int.reduceLE, Int.reduceLT, Int.reduceEq, Int.reduceNeg, Int.reduceNegSucc, Nat.reduceMul, List.zip_cons_cons, List.zip_nil_left, List.zip_nil_right, Int.toNat_natCast, true_and, and_true, eq_self, ne_eq, not_false_eq_true, not_true_eq_false, forall_const, implies_true, false_and, true_or, or_true, false_or, or_false, imp_self, CX11_dunes, ↓zv_cf (cv := zCf VX11_dunes) (k := 262) (h := (rfl : zCf VX11_dunes 262 = some CX11_kindAt)), and_imp, exists_eq_left, exists_eq_left', exists_eq_right, exists_eq_right', exists_and_left, exists_and_right, Prod.mk.injEq, zAdd_e, zSub_e, zMul_e, zres_0, zres_4, zres_1, zres_9, zrt_0, zrt_4, zrt_1, zrt_9, List.take_succ_cons, List.take_zero, List.drop_succ_cons, List.drop_zero, List.map_cons, List.map_nil, List.reverse_cons, List.reverse_nil, List.nil_append, List.cons_append, List.length_cons, List.length_nil, zPr_c, List.mem_cons, List.not_mem_nil, ↓zIV_e, zcats, List.sum_cons, List.sum_nil, zpu, zfu, zset_e, h1, h2, h0]
    repeat' (first | exact zfr_rf _ _ _ | (refine zfr_st ?_ (by omega) (by omega)) | (refine zfr_cp ?_ (by omega) (by omega)) | (refine zfr_tr ?_ (by assumption)) | (refine zfr_tr ?_ (zfr_mono (by assumption) (by omega) (by omega))) | (refine And.intro ?_ ?_) | (intro _) | (refine Exists.intro (nn - 1) ?_) | (refine Exists.intro 5000000000 ?_) | fail)
    all_goals (try (simp only [zw] at *))
    all_goals (first | trivial | omega | exact (zAnd_b _).1 | exact (zAnd_b _).2 | assumption | (simp; omega) | skip)
  · simp (maxSteps := 3000000) only [↓zwp_s, zrun_n, zrun_c, zgo_any, zgo_bel, ↓zgA_n, ↓zgA_c, ↓zgB_n, ↓zgB_c, ↓zp1_c, ↓zpv_c, ↓ztg_e, ↓zFv_r, ↓zFv_i, ↓zFv_z, ↓reduceIte, ↓zi_aload_n, ↓zi_bipush, ↓zi_goto, ↓zi_iadd, ↓zi_iconst, ↓zi_if_icmp, ↓zi_iinc, ↓zi_iload_n, ↓zi_ireturn, ↓zi_istore_n, zcmp_ge, zcmp_ne, ↓zo_80_0, ↓zo_80_1, ↓zo_80_2, ↓zo_80_3, ↓zo_80_4, ↓zo_80_5, ↓zo_80_6, ↓zo_80_7, ↓zo_80_8, ↓zo_80_9, ↓zo_80_10, ↓zo_80_11, ↓zo_80_12, ↓zo_80_13, ↓zo_80_14, ↓zo_80_15, ↓zo_80_16, ↓zo_80_17, ↓zo_80_18, ↓zo_80_19, ↓zo_80_20, ↓zo_80_21, ↓zo_80_22, ↓zo_80_23, ↓zo_80_24, ↓za_81, bX11_dunes_0, bX11_dunes_4, bX11_dunes_24, bX11_dunes_25, bX11_dunes_33, List.size_toArray, zent_n, zent_c, zst_e, zfi0, zfi1, zfi2, zfi3, zcast, Nat.reduceAdd, Nat.reduceSub, Nat.reduceEqDiff, Nat.reduceLT, Nat.reduceLeDiff, Int.reduceAdd, Int.reduceSub, Int.reduceMul, Int.reduceToNat, Int.reduceLE, Int.reduceLT, Int.reduceEq, Int.reduceNeg, Int.reduceNegSucc, Nat.reduceMul, List.zip_cons_cons, List.zip_nil_left, List.zip_nil_right, Int.toNat_natCast, true_and, and_true, eq_self, ne_eq, not_false_eq_true, not_true_eq_false, forall_const, implies_true, false_and, true_or, or_true, false_or, or_false, imp_self, CX11_dunes, ↓zv_cf (cv := zCf VX11_dunes) (k := 262) (h := (rfl : zCf VX11_dunes 262 = some CX11_kindAt)), and_imp, exists_eq_left, exists_eq_left', exists_eq_right, exists_eq_right', exists_and_left, exists_and_right, Prod.mk.injEq, zAdd_e, zSub_e, zMul_e, zres_0, zres_4, zres_1, zres_9, zrt_0, zrt_4, zrt_1, zrt_9, List.take_succ_cons, List.take_zero, List.drop_succ_cons, List.drop_zero, List.map_cons, List.map_nil, List.reverse_cons, List.reverse_nil, List.nil_append, List.cons_append, List.length_cons, List.length_nil, zPr_c, List.mem_cons, List.not_mem_nil, ↓zIV_e, zcats, List.sum_cons, List.sum_nil, zpu, zfu, zset_e]
    repeat' (first | exact zfr_rf _ _ _ | (refine zfr_st ?_ (by omega) (by omega)) | (refine zfr_cp ?_ (by omega) (by omega)) | (refine zfr_tr ?_ (by assumption)) | (refine zfr_tr ?_ (zfr_mono (by assumption) (by omega) (by omega))) | (refine And.intro ?_ ?_) | (intro _) | (refine Exists.intro (nn - 1) ?_) | (refine Exists.intro 5000000000 ?_) | fail)
    all_goals (try (simp only [zw] at *))
    all_goals (first | trivial | omega | exact (zAnd_b _).1 | exact (zAnd_b _).2 | assumption | (simp; omega) | skip)
def CX11_isStore : zCt := ([2, 0, 0], 4, zPr [80] (fun vs mem => match vs with | [t, k, n] => (True) | _ => False), zpu (fun vs mem r => match vs with | [t, k, n] => (r = 0 ∨ r = 1) | _ => False))
def VX11_isStore : List (Nat × zCt) := []
def SX11_isStore : List (Nat × zCt) := [(232, CX11_in)]
set_option maxHeartbeats 4000000 in
set_option maxRecDepth 100000 in
theorem mX11_isStore (l : Launch) : zMet l zLay yX11_isStore cX11_isStore 3 (some .boolean) 1 CX11_isStore.1 CX11_isStore.2.1 CX11_isStore.2.2.1 CX11_isStore.2.2.2 := by
  refine zMet_of (pl := zPlf PX11) (cv := zCf VX11_isStore) (cS := zCf SX11_isStore) (B := zBf BX11_isStore) (F := 80) (own := RX11) (by decide +kernel) rfl (Or.inr (Or.inl ⟨rfl, rfl⟩)) (fun vs h => by obtain ⟨t, k, n, rfl⟩ := zlen3 h; exact Nat.le_of_ble_eq_true rfl) PX11_ok zClok_ok zSyok_ok oX11_isStore (zAllC_e (zAllC_n)) (zAllC_e (zAllC_c (zcal_s (mX11_in l) (by decide) (by decide) hX11_in kX11_232 ⟨by decide, by decide +kernel⟩) (zAllC_n))) ?_
  intro vs mem hvl hok hm hpre
  obtain ⟨t, k, n, rfl⟩ := zlen3 hvl
  have hr_k : -2147483648 ≤ k ∧ k ≤ 2147483647 := (hok (0, k) (by simp [CX11_isStore])).1 rfl
  have hr_n : -2147483648 ≤ n ∧ n ≤ 2147483647 := (hok (0, n) (by simp [CX11_isStore])).1 rfl
  clear hok hvl
  obtain ⟨hid, hpre⟩ := hpre
  simp only [List.mem_cons, List.not_mem_nil, or_false] at hid
  have hpre : True := hpre
  subst hid
  refine ⟨zIf [], zAllI_e zAllI_n, ?_⟩
  simp (maxSteps := 3000000) only [↓zwp_s, zrun_n, zrun_c, zgo_any, zgo_bel, ↓zgA_n, ↓zgA_c, ↓zgB_n, ↓zgB_c, ↓zp1_c, ↓zpv_c, ↓ztg_e, ↓zFv_r, ↓zFv_i, ↓zFv_z, ↓reduceIte, ↓zi_aload_n, ↓zi_bipush, ↓zi_getfield, ↓zi_iaload, ↓zi_iconst, ↓zi_iload_n, ↓zi_ireturn, ↓zi_sipush, ↓zi_tableswitch, ↓zswT_n, ↓zswT_c, ↓zpl_e pX11_13, ↓zo_80_0, ↓zo_80_1, ↓zo_80_2, ↓zo_80_3, ↓zo_80_4, ↓zo_80_5, ↓zo_80_6, ↓zo_80_7, ↓zo_80_8, ↓zo_80_9, ↓zo_80_10, ↓zo_80_11, ↓zo_80_12, ↓zo_80_13, ↓zo_80_14, ↓zo_80_15, ↓zo_80_16, ↓zo_80_17, ↓zo_80_18, ↓zo_80_19, ↓zo_80_20, ↓zo_80_21, ↓zo_80_22, ↓zo_80_23, ↓zo_80_24, ↓za_81, bX11_isStore_0, bX11_isStore_48, bX11_isStore_57, bX11_isStore_69, bX11_isStore_77, bX11_isStore_85, bX11_isStore_93, bX11_isStore_101, bX11_isStore_108, List.size_toArray, zent_n, zent_c, zst_e, zfi0, zfi1, zfi2, zfi3, zcast, Nat.reduceAdd, Nat.reduceSub, Nat.reduceEqDiff, Nat.reduceLT, Nat.reduceLeDiff, Int.reduceAdd, Int.reduceSub, Int.reduceMul, Int.reduceToNat, Int.reduceLE, Int.reduceLT, Int.reduceEq, Int.reduceNeg, Int.reduceNegSucc, Nat.reduceMul, List.zip_cons_cons, List.zip_nil_left, List.zip_nil_right, Int.toNat_natCast, true_and, and_true, eq_self, ne_eq, not_false_eq_true, not_true_eq_false, forall_const, implies_true, false_and, true_or, or_true, false_or, or_false, imp_self, CX11_isStore, ↓zs_cf (cS := zCf SX11_isStore) (pl := zPlf PX11) (k := 232) (h := (rfl : zCf SX11_isStore 232 = some CX11_in)) (h2 := rfl), and_imp, exists_eq_left, exists_eq_left', exists_eq_right, exists_eq_right', exists_and_left, exists_and_right, Prod.mk.injEq, zAdd_e, zSub_e, zMul_e, zres_0, zres_4, zres_1, zres_9, zrt_0, zrt_4, zrt_1, zrt_9, List.take_succ_cons, List.take_zero, List.drop_succ_cons, List.drop_zero, List.map_cons, List.map_nil, List.reverse_cons, List.reverse_nil, List.nil_append, List.cons_append, List.length_cons, List.length_nil, zPr_c, List.mem_cons, List.not_mem_nil, ↓zIV_e, zcats, List.sum_cons, List.sum_nil, zpu, zfu, zset_e]
  repeat' (first | exact zfr_rf _ _ _ | (refine zfr_st ?_ (by omega) (by omega)) | (refine zfr_cp ?_ (by omega) (by omega)) | (refine zfr_tr ?_ (by assumption)) | (refine zfr_tr ?_ (zfr_mono (by assumption) (by omega) (by omega))) | (refine And.intro ?_ ?_) | (intro _) | (refine Exists.intro (nn - 1) ?_) | (refine Exists.intro 5000000000 ?_) | fail)
  all_goals (try (simp only [zw] at *))
  all_goals (first | trivial | omega | exact (zAnd_b _).1 | exact (zAnd_b _).2 | assumption | (simp; omega) | skip)
