def CX11_comesOn : zCt := ([2, 0, 0], 9, zPr [80] (fun vs mem => match vs with | [t, a, c] => (0 ≤ a ∧ a < 16 ∧ 0 ≤ c ∧ c ≤ 99 ∧ 0 ≤ mem 81 18 ∧ mem 81 18 ≤ 15) | _ => False), (fun vs mem r mem' => match vs with | [t, a, c] => (zCo a c mem mem') | _ => False))
def VX11_comesOn : List (Nat × zCt) := [(242, CX11_lineMany), (262, CX11_kindAt), (265, CX11_setsRail)]
def SX11_comesOn : List (Nat × zCt) := []
set_option maxHeartbeats 8000000 in
set_option maxRecDepth 100000 in
theorem mX11_comesOn (l : Launch) : zMet l zLay yX11_comesOn cX11_comesOn 3 none 1 CX11_comesOn.1 CX11_comesOn.2.1 CX11_comesOn.2.2.1 CX11_comesOn.2.2.2 := by
  refine zMet_of (pl := zPlf PX11) (cv := zCf VX11_comesOn) (cS := zCf SX11_comesOn) (B := zBf BX11_comesOn) (F := 80) (own := RX11) (by decide +kernel) rfl (Or.inr (Or.inr (Or.inr ⟨rfl, rfl⟩))) (fun vs h => by obtain ⟨t, a, c, rfl⟩ := zlen3 h; exact Nat.le_of_ble_eq_true rfl) PX11_ok zClok_ok zSyok_ok oX11_comesOn (zAllC_e (zAllC_c (Or.inl (zcal_v (mX11_lineMany l) (by decide) (by decide) hX11_lineMany kX11_242 ⟨by decide, by decide +kernel⟩ (ci := 11) rfl rfl rfl)) (zAllC_c (Or.inl (zcal_v (mX11_kindAt l) (by decide) (by decide) hX11_kindAt kX11_262 ⟨by decide, by decide +kernel⟩ (ci := 11) rfl rfl rfl)) (zAllC_c (Or.inl (zcal_v (mX11_setsRail l) (by decide) (by decide) hX11_setsRail kX11_265 ⟨by decide, by decide +kernel⟩ (ci := 11) rfl rfl rfl)) (zAllC_n))))) (zAllC_e (zAllC_n)) ?_
  intro vs mem hvl hok hm hpre
  obtain ⟨t, a, c, rfl⟩ := zlen3 hvl
  have hr_a : -2147483648 ≤ a ∧ a ≤ 2147483647 := (hok (0, a) (by simp [CX11_comesOn])).1 rfl
  have hr_c : -2147483648 ≤ c ∧ c ≤ 2147483647 := (hok (0, c) (by simp [CX11_comesOn])).1 rfl
  clear hok hvl
  obtain ⟨hid, hpre⟩ := hpre
  simp only [List.mem_cons, List.not_mem_nil, or_false] at hid
  have hpre : 0 ≤ a ∧ a < 16 ∧ 0 ≤ c ∧ c ≤ 99 ∧ 0 ≤ mem 81 18 ∧ mem 81 18 ≤ 15 := hpre
  subst hid
  refine ⟨zIf [], zAllI_e zAllI_n, ?_⟩
  simp (maxSteps := 3000000) only [↓zwp_s, zrun_n, zrun_c, zgo_any, zgo_bel, ↓zgA_n, ↓zgA_c, ↓zgB_n, ↓zgB_c, ↓zp1_c, ↓zpv_c, ↓ztg_e, ↓zFv_r, ↓zFv_i, ↓zFv_z, ↓reduceIte, ↓zi_aload_n, ↓zi_bipush, ↓zi_dup2, ↓zi_getfield, ↓zi_iadd, ↓zi_iaload, ↓zi_iastore, ↓zi_iconst, ↓zi_if_icmp, ↓zi_iload_n, ↓zi_return_, ↓zi_sipush, zcmp_ne, ↓zpl_e pX11_13, ↓zo_80_0, ↓zo_80_1, ↓zo_80_2, ↓zo_80_3, ↓zo_80_4, ↓zo_80_5, ↓zo_80_6, ↓zo_80_7, ↓zo_80_8, ↓zo_80_9, ↓zo_80_10, ↓zo_80_11, ↓zo_80_12, ↓zo_80_13, ↓zo_80_14, ↓zo_80_15, ↓zo_80_16, ↓zo_80_17, ↓zo_80_18, ↓zo_80_19, ↓zo_80_20, ↓zo_80_21, ↓zo_80_22, ↓zo_80_23, ↓zo_80_24, ↓za_81, bX11_comesOn_0, bX11_comesOn_33, List.size_toArray, zent_n, zent_c, zst_e, zfi0, zfi1, zfi2, zfi3, zcast, Nat.reduceAdd, Nat.reduceSub, Nat.reduceEqDiff, Nat.reduceLT, Nat.reduceLeDiff, Int.reduceAdd, Int.reduceSub, Int.reduceMul, Int.reduceToNat, Int.reduceLE, Int.reduceLT, Int.reduceEq, Int.reduceNeg, Int.reduceNegSucc, Nat.reduceMul, List.zip_cons_cons, List.zip_nil_left, List.zip_nil_right, Int.toNat_natCast, true_and, and_true, eq_self, ne_eq, not_false_eq_true, not_true_eq_false, forall_const, implies_true, false_and, true_or, or_true, false_or, or_false, imp_self, CX11_comesOn, ↓zv_cf (cv := zCf VX11_comesOn) (k := 242) (h := (rfl : zCf VX11_comesOn 242 = some CX11_lineMany)), ↓zv_cf (cv := zCf VX11_comesOn) (k := 262) (h := (rfl : zCf VX11_comesOn 262 = some CX11_kindAt)), ↓zv_cg (cv := zCf VX11_comesOn) (k := 265) (h := (rfl : zCf VX11_comesOn 265 = some CX11_setsRail)), and_imp, exists_eq_left, exists_eq_left', exists_eq_right, exists_eq_right', exists_and_left, exists_and_right, Prod.mk.injEq, zAdd_e, zSub_e, zMul_e, zres_0, zres_4, zres_1, zres_9, zrt_0, zrt_4, zrt_1, zrt_9, List.take_succ_cons, List.take_zero, List.drop_succ_cons, List.drop_zero, List.map_cons, List.map_nil, List.reverse_cons, List.reverse_nil, List.nil_append, List.cons_append, List.length_cons, List.length_nil, zPr_c, List.mem_cons, List.not_mem_nil, ↓zIV_e, zcats, List.sum_cons, List.sum_nil, zpu, zfu, zset_e]
  obtain ⟨a0, a1, c0, c1, L0, L1⟩ := hpre
  refine ⟨⟨a0, a1⟩, ?_⟩
  intro _ m1 _ _ e1
  refine ⟨⟨a0, a1⟩, ?_⟩
  intro _ m2 _ _ e2
  have e18 : m2 81 18 = mem 81 18 := by
    rw [e2, e1]; simp only [zset_e, reduceIte]; rw [if_neg (by omega), if_neg (by omega)]
  have ezc : zw (20 + c) = 20 + c := zw_id (by omega) (by omega)
  have n18 : ¬ (18 = (20 + c).toNat) := by omega
  have ezl : zw (196 + mem 81 18) = 196 + mem 81 18 := zw_id (by omega) (by omega)
  have n19 : ¬ (18 = (196 + mem 81 18).toNat) := by omega
  have el1 : zw (mem 81 18 + 1) = mem 81 18 + 1 := zw_id (by omega) (by omega)
  simp only [ezc, n18, e18, if_false, ezl, n19, el1]
  have k1 := zCo_1 (m := mem) (a := a) (c := c) rfl a0 a1 L0 L1
  have k2 := zCo_2 (m := mem) (a := a) (c := c) (v := 0) rfl a0 a1 L0 L1 c0 c1
  rw [← e1, ← e2] at k1 k2
  refine ⟨⟨by omega, by omega⟩, fun _ _ _ => ⟨fun _ _ _ _ => ⟨⟨by omega, by omega⟩, k1⟩, fun _ => ⟨⟨by omega, by omega⟩, fun _ _ _ => ⟨⟨by omega, by omega⟩, k2⟩⟩⟩⟩
def CX11_isWay : zCt := ([2, 0, 0, 0], 4, zPr [80] (fun vs mem => match vs with | [t, c, w, n] => (0 ≤ c ∧ c ≤ 99 ∧ n ≤ 16) | _ => False), (fun vs mem r mem' => match vs with | [t, c, w, n] => ((r = 0 ∨ r = 1) ∧ zKp zp85 mem mem' ∧ (r = 1 → zRow n mem')) | _ => False))
def VX11_isWay : List (Nat × zCt) := [(262, CX11_kindAt)]
def SX11_isWay : List (Nat × zCt) := [(275, CX11_beside)]
set_option maxHeartbeats 8000000 in
set_option maxRecDepth 100000 in
theorem mX11_isWay (l : Launch) : zMet l zLay yX11_isWay cX11_isWay 6 (some .boolean) 2 CX11_isWay.1 CX11_isWay.2.1 CX11_isWay.2.2.1 CX11_isWay.2.2.2 := by
  refine zMet_of (pl := zPlf PX11) (cv := zCf VX11_isWay) (cS := zCf SX11_isWay) (B := zBf BX11_isWay) (F := 80) (own := RX11) (by decide +kernel) rfl (Or.inr (Or.inl ⟨rfl, rfl⟩)) (fun vs h => by obtain ⟨t, c, w, n, rfl⟩ := zlen4 h; exact Nat.le_of_ble_eq_true rfl) PX11_ok zClok_ok zSyok_ok oX11_isWay (zAllC_e (zAllC_c (Or.inl (zcal_v (mX11_kindAt l) (by decide) (by decide) hX11_kindAt kX11_262 ⟨by decide, by decide +kernel⟩ (ci := 11) rfl rfl rfl)) (zAllC_n))) (zAllC_e (zAllC_c (zcal_s (mX11_beside l) (by decide) (by decide) hX11_beside kX11_275 ⟨by decide, by decide +kernel⟩) (zAllC_n))) ?_
  intro vs mem hvl hok hm hpre
  obtain ⟨t, c, w, n, rfl⟩ := zlen4 hvl
  have hr_c : -2147483648 ≤ c ∧ c ≤ 2147483647 := (hok (0, c) (by simp [CX11_isWay])).1 rfl
  have hr_w : -2147483648 ≤ w ∧ w ≤ 2147483647 := (hok (0, w) (by simp [CX11_isWay])).1 rfl
  have hr_n : -2147483648 ≤ n ∧ n ≤ 2147483647 := (hok (0, n) (by simp [CX11_isWay])).1 rfl
  clear hok hvl
  obtain ⟨hid, hpre⟩ := hpre
  simp only [List.mem_cons, List.not_mem_nil, or_false] at hid
  have hpre : 0 ≤ c ∧ c ≤ 99 ∧ n ≤ 16 := hpre
  subst hid
  refine ⟨zIf [(6, (fun nq ls st m => (ls 1).1 = 0 ∧ (ls 2).1 = 0 ∧ (ls 3).1 = 0 ∧ (ls 4).1 = 0 ∧ (ls 5).1 = 0 ∧ ls 0 = (2, 80) ∧ st = [] ∧ ((zKp zp85 mem m) ∧ -1 ≤ (ls 4).2 ∧ (ls 4).2 ≤ 99 ∧ 0 ≤ (ls 5).2 ∧ (ls 5).2 ≤ 16 ∧ (ls 3).2 = n ∧ zRow (ls 5).2 m ∧ (16 - (ls 5).2).toNat ≤ nq)))], zAllI_e (zAllI_c ?_ (zAllI_n)), ?_⟩
  · intro nn ls st mem1 hm1 hl1 hJ
    obtain ⟨ht1, ht2, ht3, ht4, ht5, h0, rfl, hc⟩ := hJ
    obtain ⟨x1, h1⟩ : ∃ x, ls 1 = (0, x) := ⟨_, Prod.ext ht1 rfl⟩
    obtain ⟨x2, h2⟩ : ∃ x, ls 2 = (0, x) := ⟨_, Prod.ext ht2 rfl⟩
    obtain ⟨x3, h3⟩ : ∃ x, ls 3 = (0, x) := ⟨_, Prod.ext ht3 rfl⟩
    obtain ⟨x4, h4⟩ : ∃ x, ls 4 = (0, x) := ⟨_, Prod.ext ht4 rfl⟩
    obtain ⟨x5, h5⟩ : ∃ x, ls 5 = (0, x) := ⟨_, Prod.ext ht5 rfl⟩
    simp only [h1, h2, h3, h4, h5] at hc
    obtain ⟨hc0, hc1, hc2, hc3, hc4, hc5, hc6, hc7⟩ := hc
    simp (maxSteps := 3000000) only [↓zwp_s, zrun_n, zrun_c, zgo_any, zgo_bel, ↓zgA_n, ↓zgA_c, ↓zgB_n, ↓zgB_c, ↓zp1_c, ↓zpv_c, ↓ztg_e, ↓zFv_r, ↓zFv_i, ↓zFv_z, ↓reduceIte, ↓zi_aload_n, ↓zi_getfield, ↓zi_goto, ↓zi_iastore, ↓zi_iconst, ↓zi_ifCond, ↓zi_if_icmp, ↓zi_iinc, ↓zi_iload, ↓zi_iload_n, ↓zi_ireturn, ↓zi_istore, zcmp_ge, zcmp_lt, zcmp_ne, ↓zpl_e pX11_30, ↓zo_80_0, ↓zo_80_1, ↓zo_80_2, ↓zo_80_3, ↓zo_80_4, ↓zo_80_5, ↓zo_80_6, ↓zo_80_7, ↓zo_80_8, ↓zo_80_9, ↓zo_80_10, ↓zo_80_11, ↓zo_80_12, ↓zo_80_13, ↓zo_80_14, ↓zo_80_15, ↓zo_80_16, ↓zo_80_17, ↓zo_80_18, ↓zo_80_19, ↓zo_80_20, ↓zo_80_21, ↓zo_80_22, ↓zo_80_23, ↓zo_80_24, ↓za_81, ↓za_85, bX11_isWay_0, bX11_isWay_6, bX11_isWay_27, bX11_isWay_29, bX11_isWay_52, List.size_toArray, zent_n, zent_c, zst_e, zfi0, zfi1, zfi2, zfi3, zcast, Nat.reduceAdd, Nat.reduceSub, Nat.reduceEqDiff, Nat.reduceLT, Nat.reduceLeDiff, Int.reduceAdd, Int.reduceSub, Int.reduceMul, Int.reduceToNat, Int.reduceLE, Int.reduceLT, Int.reduceEq, Int.reduceNeg, Int.reduceNegSucc, Nat.reduceMul, List.zip_cons_cons, List.zip_nil_left, List.zip_nil_right, Int.toNat_natCast, true_and, and_true, eq_self, ne_eq, not_false_eq_true, not_true_eq_false, forall_const, implies_true, false_and, true_or, or_true, false_or, or_false, imp_self, CX11_isWay, ↓zv_cf (cv := zCf VX11_isWay) (k := 262) (h := (rfl : zCf VX11_isWay 262 = some CX11_kindAt)), ↓zs_cp (cS := zCf SX11_isWay) (pl := zPlf PX11) (k := 275) (h := (rfl : zCf SX11_isWay 275 = some CX11_beside)) (h2 := rfl), and_imp, exists_eq_left, exists_eq_left', exists_eq_right, exists_eq_right', exists_and_left, exists_and_right, Prod.mk.injEq, zAdd_e, zSub_e, zMul_e, zres_0, zres_4, zres_1, zres_9, zrt_0, zrt_4, zrt_1, zrt_9, List.take_succ_cons, List.take_zero, List.drop_succ_cons, List.drop_zero, List.map_cons, List.map_nil, List.reverse_cons, List.reverse_nil, List.nil_append, List.cons_append, List.length_cons, List.length_nil, zPr_c, List.mem_cons, List.not_mem_nil, ↓zIV_e, zcats, List.sum_cons, List.sum_nil, zpu, zfu, zset_e, h1, h2, h3, h4, h5, h0]
    repeat' (first | assumption | (exact zRow_m (by assumption) (by omega)) | (rw [zw_id (by omega) (by omega)]; exact zRow_s (by assumption) (by omega) ⟨by omega, by omega⟩) | (exact zKp_rf _) | (exact zRow_0 _) | (refine zKp_st ?_ (by unfold zp85; omega)) | exact zfr_rf _ _ _ | (refine zfr_st ?_ (by omega) (by omega)) | (refine zfr_cp ?_ (by omega) (by omega)) | (refine zfr_tr ?_ (by assumption)) | (refine zfr_tr ?_ (zfr_mono (by assumption) (by omega) (by omega))) | (refine And.intro ?_ ?_) | (intro _) | (refine Exists.intro (nn - 1) ?_) | (refine Exists.intro 5000000000 ?_) | fail)
    all_goals (first | trivial | omega | assumption | (rw [zw_id (by omega) (by omega)]; exact zRow_s (by assumption) (by omega) ⟨by omega, by omega⟩) | (exact zRow_m (by assumption) (by omega)) | (simp only [zw] at *; omega) | skip)
  · simp (maxSteps := 3000000) only [↓zwp_s, zrun_n, zrun_c, zgo_any, zgo_bel, ↓zgA_n, ↓zgA_c, ↓zgB_n, ↓zgB_c, ↓zp1_c, ↓zpv_c, ↓ztg_e, ↓zFv_r, ↓zFv_i, ↓zFv_z, ↓reduceIte, ↓zi_aload_n, ↓zi_getfield, ↓zi_goto, ↓zi_iastore, ↓zi_iconst, ↓zi_ifCond, ↓zi_if_icmp, ↓zi_iinc, ↓zi_iload, ↓zi_iload_n, ↓zi_ireturn, ↓zi_istore, zcmp_ge, zcmp_lt, zcmp_ne, ↓zpl_e pX11_30, ↓zo_80_0, ↓zo_80_1, ↓zo_80_2, ↓zo_80_3, ↓zo_80_4, ↓zo_80_5, ↓zo_80_6, ↓zo_80_7, ↓zo_80_8, ↓zo_80_9, ↓zo_80_10, ↓zo_80_11, ↓zo_80_12, ↓zo_80_13, ↓zo_80_14, ↓zo_80_15, ↓zo_80_16, ↓zo_80_17, ↓zo_80_18, ↓zo_80_19, ↓zo_80_20, ↓zo_80_21, ↓zo_80_22, ↓zo_80_23, ↓zo_80_24, ↓za_81, ↓za_85, bX11_isWay_0, bX11_isWay_6, bX11_isWay_27, bX11_isWay_29, bX11_isWay_52, List.size_toArray, zent_n, zent_c, zst_e, zfi0, zfi1, zfi2, zfi3, zcast, Nat.reduceAdd, Nat.reduceSub, Nat.reduceEqDiff, Nat.reduceLT, Nat.reduceLeDiff, Int.reduceAdd, Int.reduceSub, Int.reduceMul, Int.reduceToNat, Int.reduceLE, Int.reduceLT, Int.reduceEq, Int.reduceNeg, Int.reduceNegSucc, Nat.reduceMul, List.zip_cons_cons, List.zip_nil_left, List.zip_nil_right, Int.toNat_natCast, true_and, and_true, eq_self, ne_eq, not_false_eq_true, not_true_eq_false, forall_const, implies_true, false_and, true_or, or_true, false_or, or_false, imp_self, CX11_isWay, ↓zv_cf (cv := zCf VX11_isWay) (k := 262) (h := (rfl : zCf VX11_isWay 262 = some CX11_kindAt)), ↓zs_cp (cS := zCf SX11_isWay) (pl := zPlf PX11) (k := 275) (h := (rfl : zCf SX11_isWay 275 = some CX11_beside)) (h2 := rfl), and_imp, exists_eq_left, exists_eq_left', exists_eq_right, exists_eq_right', exists_and_left, exists_and_right, Prod.mk.injEq, zAdd_e, zSub_e, zMul_e, zres_0, zres_4, zres_1, zres_9, zrt_0, zrt_4, zrt_1, zrt_9, List.take_succ_cons, List.take_zero, List.drop_succ_cons, List.drop_zero, List.map_cons, List.map_nil, List.reverse_cons, List.reverse_nil, List.nil_append, List.cons_append, List.length_cons, List.length_nil, zPr_c, List.mem_cons, List.not_mem_nil, ↓zIV_e, zcats, List.sum_cons, List.sum_nil, zpu, zfu, zset_e]
    repeat' (first | assumption | (exact zRow_m (by assumption) (by omega)) | (rw [zw_id (by omega) (by omega)]; exact zRow_s (by assumption) (by omega) ⟨by omega, by omega⟩) | (exact zKp_rf _) | (exact zRow_0 _) | (refine zKp_st ?_ (by unfold zp85; omega)) | exact zfr_rf _ _ _ | (refine zfr_st ?_ (by omega) (by omega)) | (refine zfr_cp ?_ (by omega) (by omega)) | (refine zfr_tr ?_ (by assumption)) | (refine zfr_tr ?_ (zfr_mono (by assumption) (by omega) (by omega))) | (refine And.intro ?_ ?_) | (intro _) | (refine Exists.intro (nn - 1) ?_) | (refine Exists.intro 5000000000 ?_) | fail)
    all_goals (first | trivial | omega | assumption | (rw [zw_id (by omega) (by omega)]; exact zRow_s (by assumption) (by omega) ⟨by omega, by omega⟩) | (exact zRow_m (by assumption) (by omega)) | (simp only [zw] at *; omega) | skip)
