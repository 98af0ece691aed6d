def CX11_path : zCt := ([2, 0, 0, 0], 0, zPr [80] (fun vs mem => match vs with | [t, e, k, v] => (0 ≤ e ∧ e ≤ 99 ∧ zMi (mem 81) ∧ mem 81 13 = 1 ∧ zFx mem e (mem 81 3) ∧ mem 90 (61 * zend (mem 81) + mem 81 2).toNat < 1152921504606846976) | _ => False), (fun vs mem r mem' => match vs with | [t, e, k, v] => (zKp zpZ mem mem') | _ => False))
def VX11_path : List (Nat × zCt) := [(242, CX11_lineMany), (245, CX11_cellAt), (262, CX11_kindAt), (411, CX11_stepOf)]
def SX11_path : List (Nat × zCt) := [(326, CX11_costOf)]
set_option maxHeartbeats 8000000 in
set_option maxRecDepth 100000 in
theorem mX11_path (l : Launch) : zMet l zLay yX11_path cX11_path 9 (some .int) 3 CX11_path.1 CX11_path.2.1 CX11_path.2.2.1 CX11_path.2.2.2 := by
  refine zMet_of (pl := zPlf PX11) (cv := zCf VX11_path) (cS := zCf SX11_path) (B := zBf BX11_path) (F := 120) (own := RX11) (by decide +kernel) rfl (Or.inl ⟨rfl, rfl⟩) (fun vs h => by obtain ⟨t, e, k, v, rfl⟩ := zlen4 h; exact Nat.le_of_ble_eq_true rfl) PX11_ok zClok_ok zSyok_ok oX11_path (zAllC_e (zAllC_c (Or.inl (zcal_v (mX11_lineMany l) (by decide) (by decide) hX11_lineMany kX11_242 ⟨by decide, by decide +kernel⟩ (ci := 11) rfl rfl rfl)) (zAllC_c (Or.inl (zcal_v (mX11_cellAt l) (by decide) (by decide) hX11_cellAt kX11_245 ⟨by decide, by decide +kernel⟩ (ci := 11) rfl rfl rfl)) (zAllC_c (Or.inl (zcal_v (mX11_kindAt l) (by decide) (by decide) hX11_kindAt kX11_262 ⟨by decide, by decide +kernel⟩ (ci := 11) rfl rfl rfl)) (zAllC_c (Or.inl (zcal_v (mX11_stepOf l) (by decide) (by decide) hX11_stepOf kX11_411 ⟨by decide, by decide +kernel⟩ (ci := 11) rfl rfl rfl)) (zAllC_n)))))) (zAllC_e (zAllC_c (zcal_s (mX11_costOf l) (by decide) (by decide) hX11_costOf kX11_326 ⟨by decide, by decide +kernel⟩) (zAllC_n))) ?_
  intro vs mem hvl hok hm hpre
  obtain ⟨t, e, k, v, rfl⟩ := zlen4 hvl
  have hr_e : -2147483648 ≤ e ∧ e ≤ 2147483647 := (hok (0, e) (by simp [CX11_path])).1 rfl
  have hr_k : -2147483648 ≤ k ∧ k ≤ 2147483647 := (hok (0, k) (by simp [CX11_path])).1 rfl
  have hr_v : -2147483648 ≤ v ∧ v ≤ 2147483647 := (hok (0, v) (by simp [CX11_path])).1 rfl
  clear hok hvl
  obtain ⟨hid, hpre⟩ := hpre
  simp only [List.mem_cons, List.not_mem_nil, or_false] at hid
  have hpre : 0 ≤ e ∧ e ≤ 99 ∧ zMi (mem 81) ∧ mem 81 13 = 1 ∧ zFx mem e (mem 81 3) ∧ mem 90 (61 * zend (mem 81) + mem 81 2).toNat < 1152921504606846976 := hpre
  obtain ⟨e0, e1, p1, p13, pfx, prs⟩ := hpre
  subst hid
  refine ⟨zIf [(36, (fun nq ls st m => (ls 1).1 = 0 ∧ (ls 2).1 = 0 ∧ (ls 3).1 = 0 ∧ (ls 4).1 = 0 ∧ (ls 5).1 = 0 ∧ (ls 6).1 = 0 ∧ (ls 7).1 = 0 ∧ ls 0 = (2, 80) ∧ st = [] ∧ ((zKp zpZ mem m) ∧ (ls 1).2 = e ∧ 0 ≤ (ls 4).2 ∧ (ls 4).2 ≤ 99 ∧ 0 ≤ (ls 5).2 ∧ (ls 5).2 ≤ mem 81 3 ∧ m 90 (61 * (ls 4).2 + (ls 5).2).toNat < 1152921504606846976 ∧ (m 90 (61 * (ls 4).2 + (ls 5).2).toNat).toNat ≤ nq)))], zAllI_e (zAllI_c ?_ (zAllI_n)), ?_⟩
  · intro nn ls st mem1 hm1 hl1 hJ
    obtain ⟨ht1, ht2, ht3, ht4, ht5, ht6, ht7, h0, rfl, hc⟩ := hJ
    obtain ⟨x1, h1⟩ : ∃ x, ls 1 = (0, x) := ⟨_, Prod.ext ht1 rfl⟩
    obtain ⟨x2, h2⟩ : ∃ x, ls 2 = (0, x) := ⟨_, Prod.ext ht2 rfl⟩
    obtain ⟨x3, h3⟩ : ∃ x, ls 3 = (0, x) := ⟨_, Prod.ext ht3 rfl⟩
    obtain ⟨x4, h4⟩ : ∃ x, ls 4 = (0, x) := ⟨_, Prod.ext ht4 rfl⟩
    obtain ⟨x5, h5⟩ : ∃ x, ls 5 = (0, x) := ⟨_, Prod.ext ht5 rfl⟩
    obtain ⟨x6, h6⟩ : ∃ x, ls 6 = (0, x) := ⟨_, Prod.ext ht6 rfl⟩
    obtain ⟨x7, h7⟩ : ∃ x, ls 7 = (0, x) := ⟨_, Prod.ext ht7 rfl⟩
    simp only [h1, h2, h3, h4, h5, h6, h7] at hc
    obtain ⟨hc0, hc1, hc2, hc3, hc4, hc5, hc6, hc7⟩ := hc
    simp (maxSteps := 3000000) only [↓zwp_s, zrun_n, zrun_c, zgo_any, zgo_bel, ↓zgA_n, ↓zgA_c, ↓zgB_n, ↓zgB_c, ↓zp1_c, ↓zpv_c, ↓ztg_e, ↓zFv_r, ↓zFv_i, ↓zFv_z, ↓reduceIte, ↓zi_aload_n, ↓zi_dup, ↓zi_getfield, ↓zi_goto, ↓zi_iadd, ↓zi_iaload, ↓zi_iconst, ↓zi_ifCond, ↓zi_if_icmp, ↓zi_iinc, ↓zi_iload, ↓zi_iload_n, ↓zi_ireturn, ↓zi_istore, ↓zi_isub, ↓zi_putfield, zcmp_eq, zcmp_ge, zcmp_ne, zcmp_gt, ↓zpl_e pX11_13, ↓zpl_e pX11_405, ↓zpl_e pX11_408, ↓zo_80_0, ↓zo_80_1, ↓zo_80_2, ↓zo_80_3, ↓zo_80_4, ↓zo_80_5, ↓zo_80_6, ↓zo_80_7, ↓zo_80_8, ↓zo_80_9, ↓zo_80_10, ↓zo_80_11, ↓zo_80_12, ↓zo_80_13, ↓zo_80_14, ↓zo_80_15, ↓zo_80_16, ↓zo_80_17, ↓zo_80_18, ↓zo_80_19, ↓zo_80_20, ↓zo_80_21, ↓zo_80_22, ↓zo_80_23, ↓zo_80_24, ↓za_81, ↓za_90, ↓za_91, bX11_path_0, bX11_path_36, bX11_path_78, bX11_path_111, bX11_path_136, bX11_path_137, bX11_path_144, List.size_toArray, zent_n, zent_c, zst_e, zfi0, zfi1, zfi2, zfi3, zcast, Nat.reduceAdd, Nat.reduceSub, Nat.reduceEqDiff, Nat.reduceLT, Nat.reduceLeDiff, Int.reduceAdd, Int.reduceSub, Int.reduceMul, Int.reduceToNat, Int.reduceLE, Int.reduceLT, Int.reduceEq, Int.reduceNeg, Int.reduceNegSucc, Nat.reduceMul, List.zip_cons_cons, List.zip_nil_left, List.zip_nil_right, Int.toNat_natCast, true_and, and_true, eq_self, ne_eq, not_false_eq_true, not_true_eq_false, forall_const, implies_true, false_and, true_or, or_true, false_or, or_false, imp_self, CX11_path, ↓zv_cf (cv := zCf VX11_path) (k := 242) (h := (rfl : zCf VX11_path 242 = some CX11_lineMany)), ↓zv_cf (cv := zCf VX11_path) (k := 245) (h := (rfl : zCf VX11_path 245 = some CX11_cellAt)), ↓zv_cf (cv := zCf VX11_path) (k := 262) (h := (rfl : zCf VX11_path 262 = some CX11_kindAt)), ↓zv_cp (cv := zCf VX11_path) (k := 411) (h := (rfl : zCf VX11_path 411 = some CX11_stepOf)), ↓zs_cp (cS := zCf SX11_path) (pl := zPlf PX11) (k := 326) (h := (rfl : zCf SX11_path 326 = some CX11_costOf)) (h2 := rfl), and_imp, exists_eq_left, exists_eq_left', exists_eq_right, exists_eq_right', exists_and_left, exists_and_right, Prod.mk.injEq, zAdd_e, zSub_e, zMul_e, zres_0, zres_4, zres_1, zres_9, zrt_0, zrt_4, zrt_1, zrt_9, List.take_succ_cons, List.take_zero, List.drop_succ_cons, List.drop_zero, List.map_cons, List.map_nil, List.reverse_cons, List.reverse_nil, List.nil_append, List.cons_append, List.length_cons, List.length_nil, zPr_c, List.mem_cons, List.not_mem_nil, ↓zIV_e, zcats, List.sum_cons, List.sum_nil, zpu, zfu, zset_e, zLAdd_e, zLMul_e, zfj0, zfj1, ↓zc_ne00, ↓zc_ne01, ↓zc_ne10, ↓zc_ne11, ↓zc_eq00, ↓zc_eq01, ↓zc_eq10, ↓zc_eq11, zs_80_81, zs_83_81, zs_84_81, zs_85_81, zs_86_81, zs_87_81, zs_88_81, zs_89_81, zs_90_81, zs_91_81, zs_92_81, zs_93_81, h1, h2, h3, h4, h5, h6, h7, h0]
    have T := zMi_13 p1 p13
    have hb := zMi_b p1
    unfold zMb at hb
    have e81 := zpZ_e hc0 81 (by omega)
    have fx1 : zFx mem1 e (mem 81 3) := zFx_k pfx e81 (zpZ_e hc0 90 (by omega)) (zpZ_e hc0 91 (by omega)) (zpZ_e hc0 92 (by omega))
    simp only [e81]
    refine ⟨fun _ => hc0, fun hne => ⟨⟨hc2, hc3, hc4, hc5, by omega, fx1.1.1⟩, ?_⟩⟩
    intro r _ _ _ hr
    have hgo : ∀ (w r2 : Int) (v : Int), w ≤ mem 81 3 → zSo mem1 x4 w 4 r2 → ¬ r2 < 0 → mem1 90 (61 * x4 + w).toNat ≤ mem1 90 (61 * x4 + x5).toNat → (0 ≤ r2 ∧ r2 ≤ 99) ∧ 1 ≤ w ∧ ∃ n', n' < nn ∧ zKp zpZ mem (zset (zset mem1 80 22 (zw (mem1 80 22 + 1))) 80 23 v) ∧ x1 = e ∧ 0 ≤ r2 ∧ r2 ≤ 99 ∧ 0 ≤ zw (w + -1) ∧ zw (w + -1) ≤ mem 81 3 ∧ mem1 90 (61 * r2 + zw (w + -1)).toNat < 1152921504606846976 ∧ (mem1 90 (61 * r2 + zw (w + -1)).toNat).toNat ≤ n' := fun w r2 v hw h2 h3 h4 => by
      obtain ⟨q1, q2, q3, q4, q5⟩ := zPa_1 fx1 hw h2 h3
      have ew : zw (w + -1) = w - 1 := by rw [zw_id (by omega) (by omega)]; omega
      rw [ew]
      exact ⟨⟨q1, q2⟩, q3, nn - 1, by omega, zKp_st (zKp_st hc0 (by unfold zpZ; omega)) (by unfold zpZ; omega), hc1, q1, q2, by omega, by omega, by omega, by omega⟩
    refine ⟨fun h0 => ?_, fun h0 => ⟨⟨hc2, hc3, by omega, by omega, by omega, fx1.1.1⟩, ?_⟩⟩
    · have g := fun v => hgo x5 r v hc5 hr (by omega) (Int.le_refl _)
      have g0 := (g 0).1
      exact ⟨⟨by omega, by omega⟩, fun _ _ _ k _ _ _ _ _ _ => ⟨fun _ => ⟨fun _ => (g _).2.2, fun _ => (g _).2.2⟩, fun _ => ⟨fun _ => (g _).2.2, fun _ => (g _).2.2⟩⟩⟩
    · intro r2 _ _ _ hr2
      obtain ⟨z1, z2, z3⟩ := zPa_2 fx1 hc2 hc3 hc4 hc5 (by omega) hc6 hr (by omega)
      have g := fun v => hgo (mem 81 3) r2 v (Int.le_refl _) hr2 (z3 r2 hr2) (by omega)
      have g0 := (g 0).1
      exact ⟨⟨by omega, by omega⟩, fun _ _ _ k _ _ _ _ _ _ => ⟨fun _ => ⟨fun _ => (g _).2.2, fun _ => (g _).2.2⟩, fun _ => ⟨fun _ => (g _).2.2, fun _ => (g _).2.2⟩⟩⟩
  · simp (maxSteps := 3000000) only [↓zwp_s, zrun_n, zrun_c, zgo_any, zgo_bel, ↓zgA_n, ↓zgA_c, ↓zgB_n, ↓zgB_c, ↓zp1_c, ↓zpv_c, ↓ztg_e, ↓zFv_r, ↓zFv_i, ↓zFv_z, ↓reduceIte, ↓zi_aload_n, ↓zi_dup, ↓zi_getfield, ↓zi_goto, ↓zi_iadd, ↓zi_iaload, ↓zi_iconst, ↓zi_ifCond, ↓zi_if_icmp, ↓zi_iinc, ↓zi_iload, ↓zi_iload_n, ↓zi_ireturn, ↓zi_istore, ↓zi_isub, ↓zi_putfield, zcmp_eq, zcmp_ge, zcmp_ne, zcmp_gt, ↓zpl_e pX11_13, ↓zpl_e pX11_405, ↓zpl_e pX11_408, ↓zo_80_0, ↓zo_80_1, ↓zo_80_2, ↓zo_80_3, ↓zo_80_4, ↓zo_80_5, ↓zo_80_6, ↓zo_80_7, ↓zo_80_8, ↓zo_80_9, ↓zo_80_10, ↓zo_80_11, ↓zo_80_12, ↓zo_80_13, ↓zo_80_14, ↓zo_80_15, ↓zo_80_16, ↓zo_80_17, ↓zo_80_18, ↓zo_80_19, ↓zo_80_20, ↓zo_80_21, ↓zo_80_22, ↓zo_80_23, ↓zo_80_24, ↓za_81, ↓za_90, ↓za_91, bX11_path_0, bX11_path_36, bX11_path_78, bX11_path_111, bX11_path_136, bX11_path_137, bX11_path_144, List.size_toArray, zent_n, zent_c, zst_e, zfi0, zfi1, zfi2, zfi3, zcast, Nat.reduceAdd, Nat.reduceSub, Nat.reduceEqDiff, Nat.reduceLT, Nat.reduceLeDiff, Int.reduceAdd, Int.reduceSub, Int.reduceMul, Int.reduceToNat, Int.reduceLE, Int.reduceLT, Int.reduceEq, Int.reduceNeg, Int.reduceNegSucc, Nat.reduceMul, List.zip_cons_cons, List.zip_nil_left, List.zip_nil_right, Int.toNat_natCast, true_and, and_true, eq_self, ne_eq, not_false_eq_true, not_true_eq_false, forall_const, implies_true, false_and, true_or, or_true, false_or, or_false, imp_self, CX11_path, ↓zv_cf (cv := zCf VX11_path) (k := 242) (h := (rfl : zCf VX11_path 242 = some CX11_lineMany)), ↓zv_cf (cv := zCf VX11_path) (k := 245) (h := (rfl : zCf VX11_path 245 = some CX11_cellAt)), ↓zv_cf (cv := zCf VX11_path) (k := 262) (h := (rfl : zCf VX11_path 262 = some CX11_kindAt)), ↓zv_cp (cv := zCf VX11_path) (k := 411) (h := (rfl : zCf VX11_path 411 = some CX11_stepOf)), ↓zs_cp (cS := zCf SX11_path) (pl := zPlf PX11) (k := 326) (h := (rfl : zCf SX11_path 326 = some CX11_costOf)) (h2 := rfl), and_imp, exists_eq_left, exists_eq_left', exists_eq_right, exists_eq_right', exists_and_left, exists_and_right, Prod.mk.injEq, zAdd_e, zSub_e, zMul_e, zres_0, zres_4, zres_1, zres_9, zrt_0, zrt_4, zrt_1, zrt_9, List.take_succ_cons, List.take_zero, List.drop_succ_cons, List.drop_zero, List.map_cons, List.map_nil, List.reverse_cons, List.reverse_nil, List.nil_append, List.cons_append, List.length_cons, List.length_nil, zPr_c, List.mem_cons, List.not_mem_nil, ↓zIV_e, zcats, List.sum_cons, List.sum_nil, zpu, zfu, zset_e, zLAdd_e, zLMul_e, zfj0, zfj1, ↓zc_ne00, ↓zc_ne01, ↓zc_ne10, ↓zc_ne11, ↓zc_eq00, ↓zc_eq01, ↓zc_eq10, ↓zc_eq11, zs_80_81, zs_83_81, zs_84_81, zs_85_81, zs_86_81, zs_87_81, zs_88_81, zs_89_81, zs_90_81, zs_91_81, zs_92_81, zs_93_81]
    have T := zMi_13 p1 p13
    have hb := zMi_b p1
    unfold zMb at hb
    obtain ⟨l1, l2, l3, l4, l5⟩ := zLn_end (zMi_ln p1) (by omega)
    have ez : zw (mem 81 18 - 1) = mem 81 18 - 1 := zw_id (by omega) (by omega)
    simp only [ez]
    exact fun _ _ _ => ⟨⟨by omega, by omega, l2, l3⟩, fun _ _ _ => ⟨zKp_st (zKp_st (zKp_rf _) (by unfold zpZ; omega)) (by unfold zpZ; omega), l4, l5, by omega, by omega, prs, _, Nat.le_refl _⟩⟩
def CX11_hasWay : zCt := ([2, 0], 4, zPr [80] (fun vs mem => match vs with | [t, e] => (0 ≤ e ∧ e ≤ 99 ∧ zMi (mem 81) ∧ mem 81 13 = 1) | _ => False), (fun vs mem r mem' => match vs with | [t, e] => ((r = 0 ∨ r = 1) ∧ zKp zpQ mem mem' ∧ zFx mem' e (mem 81 3) ∧ (r = 1 → mem' 90 (61 * zend (mem 81) + mem 81 2).toNat < 1152921504606846976)) | _ => False))
def VX11_hasWay : List (Nat × zCt) := [(242, CX11_lineMany), (245, CX11_cellAt), (414, CX11_finds)]
def SX11_hasWay : List (Nat × zCt) := [(390, CX11_restAt)]
set_option maxHeartbeats 8000000 in
set_option maxRecDepth 100000 in
theorem mX11_hasWay (l : Launch) : zMet l zLay yX11_hasWay cX11_hasWay 2 (some .boolean) 5 CX11_hasWay.1 CX11_hasWay.2.1 CX11_hasWay.2.2.1 CX11_hasWay.2.2.2 := by
  refine zMet_of (pl := zPlf PX11) (cv := zCf VX11_hasWay) (cS := zCf SX11_hasWay) (B := zBf BX11_hasWay) (F := 80) (own := RX11) (by decide +kernel) rfl (Or.inr (Or.inl ⟨rfl, rfl⟩)) (fun vs h => by obtain ⟨t, e, rfl⟩ := zlen2 h; exact Nat.le_of_ble_eq_true rfl) PX11_ok zClok_ok zSyok_ok oX11_hasWay (zAllC_e (zAllC_c (Or.inl (zcal_v (mX11_lineMany l) (by decide) (by decide) hX11_lineMany kX11_242 ⟨by decide, by decide +kernel⟩ (ci := 11) rfl rfl rfl)) (zAllC_c (Or.inl (zcal_v (mX11_cellAt l) (by decide) (by decide) hX11_cellAt kX11_245 ⟨by decide, by decide +kernel⟩ (ci := 11) rfl rfl rfl)) (zAllC_c (Or.inl (zcal_v (mX11_finds l) (by decide) (by decide) hX11_finds kX11_414 ⟨by decide, by decide +kernel⟩ (ci := 11) rfl rfl rfl)) (zAllC_n))))) (zAllC_e (zAllC_c (zcal_s (mX11_restAt l) (by decide) (by decide) hX11_restAt kX11_390 ⟨by decide, by decide +kernel⟩) (zAllC_n))) ?_
  intro vs mem hvl hok hm hpre
  obtain ⟨t, e, rfl⟩ := zlen2 hvl
  have hr_e : -2147483648 ≤ e ∧ e ≤ 2147483647 := (hok (0, e) (by simp [CX11_hasWay])).1 rfl
  clear hok hvl
  obtain ⟨hid, hpre⟩ := hpre
  simp only [List.mem_cons, List.not_mem_nil, or_false] at hid
  have hpre : 0 ≤ e ∧ e ≤ 99 ∧ zMi (mem 81) ∧ mem 81 13 = 1 := hpre
  subst hid
  refine ⟨zIf [], zAllI_e zAllI_n, ?_⟩
  simp (maxSteps := 3000000) only [↓zwp_s, zrun_n, zrun_c, zgo_any, zgo_bel, ↓zgA_n, ↓zgA_c, ↓zgB_n, ↓zgB_c, ↓zp1_c, ↓zpv_c, ↓ztg_e, ↓zFv_r, ↓zFv_i, ↓zFv_z, ↓reduceIte, ↓zi_aload_n, ↓zi_getfield, ↓zi_goto, ↓zi_iaload, ↓zi_iconst, ↓zi_ifCond, ↓zi_iload_n, ↓zi_ireturn, ↓zi_isub, ↓zi_laload, ↓zi_lcmp, ↓zi_ldc2_w, zcmp_ge, ↓zpl_e pX11_13, ↓zpl_e pX11_46, ↓zpl_e pX11_386, ↓zo_80_0, ↓zo_80_1, ↓zo_80_2, ↓zo_80_3, ↓zo_80_4, ↓zo_80_5, ↓zo_80_6, ↓zo_80_7, ↓zo_80_8, ↓zo_80_9, ↓zo_80_10, ↓zo_80_11, ↓zo_80_12, ↓zo_80_13, ↓zo_80_14, ↓zo_80_15, ↓zo_80_16, ↓zo_80_17, ↓zo_80_18, ↓zo_80_19, ↓zo_80_20, ↓zo_80_21, ↓zo_80_22, ↓zo_80_23, ↓zo_80_24, ↓za_81, ↓za_90, bX11_hasWay_0, bX11_hasWay_40, bX11_hasWay_41, List.size_toArray, zent_n, zent_c, zst_e, zfi0, zfi1, zfi2, zfi3, zcast, Nat.reduceAdd, Nat.reduceSub, Nat.reduceEqDiff, Nat.reduceLT, Nat.reduceLeDiff, Int.reduceAdd, Int.reduceSub, Int.reduceMul, Int.reduceToNat, Int.reduceLE, Int.reduceLT, Int.reduceEq, Int.reduceNeg, Int.reduceNegSucc, Nat.reduceMul, List.zip_cons_cons, List.zip_nil_left, List.zip_nil_right, Int.toNat_natCast, true_and, and_true, eq_self, ne_eq, not_false_eq_true, not_true_eq_false, forall_const, implies_true, false_and, true_or, or_true, false_or, or_false, imp_self, CX11_hasWay, ↓zv_cf (cv := zCf VX11_hasWay) (k := 242) (h := (rfl : zCf VX11_hasWay 242 = some CX11_lineMany)), ↓zv_cf (cv := zCf VX11_hasWay) (k := 245) (h := (rfl : zCf VX11_hasWay 245 = some CX11_cellAt)), ↓zv_cg (cv := zCf VX11_hasWay) (k := 414) (h := (rfl : zCf VX11_hasWay 414 = some CX11_finds)), ↓zs_cf (cS := zCf SX11_hasWay) (pl := zPlf PX11) (k := 390) (h := (rfl : zCf SX11_hasWay 390 = some CX11_restAt)) (h2 := rfl), and_imp, exists_eq_left, exists_eq_left', exists_eq_right, exists_eq_right', exists_and_left, exists_and_right, Prod.mk.injEq, zAdd_e, zSub_e, zMul_e, zres_0, zres_4, zres_1, zres_9, zrt_0, zrt_4, zrt_1, zrt_9, List.take_succ_cons, List.take_zero, List.drop_succ_cons, List.drop_zero, List.map_cons, List.map_nil, List.reverse_cons, List.reverse_nil, List.nil_append, List.cons_append, List.length_cons, List.length_nil, zPr_c, List.mem_cons, List.not_mem_nil, ↓zIV_e, zcats, List.sum_cons, List.sum_nil, zpu, zfu, zset_e, zLAdd_e, zLMul_e, zfj0, zfj1, ↓zc_ne00, ↓zc_ne01, ↓zc_ne10, ↓zc_ne11, ↓zc_eq00, ↓zc_eq01, ↓zc_eq10, ↓zc_eq11, zs_80_81, zs_83_81, zs_84_81, zs_85_81, zs_86_81, zs_87_81, zs_88_81, zs_89_81, zs_90_81, zs_91_81, zs_92_81, zs_93_81]
  obtain ⟨e0, e1, p1, p13⟩ := hpre
  have T := zMi_13 p1 p13
  have hb := zMi_b p1
  unfold zMb at hb
  obtain ⟨l1, l2, l3, l4, l5⟩ := zLn_end (zMi_ln p1) (by omega)
  have ez : zw (mem 81 18 - 1) = mem 81 18 - 1 := zw_id (by omega) (by omega)
  refine ⟨⟨e0, e1, p1⟩, ?_⟩
  intro _ m2 _ _ hq hf
  have e81 : m2 81 = mem 81 := funext (fun j => hq 81 j (by unfold zpQ; omega))
  unfold zend at l4 l5 ⊢
  simp only [e81, ez]
  generalize mem 81 (120 + 4 * mem 81 (196 + (mem 81 18 - 1)).toNat + 3).toNat = z at *
  exact fun _ _ _ => ⟨⟨by omega, by omega, l2, l3⟩, fun _ _ _ => ⟨⟨l4, l5, by omega, by omega⟩, fun _ _ _ => ⟨⟨by omega, by omega⟩, fun h => ⟨hq, hf, fun z => z.elim⟩, fun h => ⟨hq, hf, zLcmp_lt (by omega)⟩⟩⟩⟩
def CX11_route : zCt := ([2, 0, 0], 0, zPr [80] (fun vs mem => match vs with | [t, c, k] => (zMi (mem 81)) | _ => False), (fun vs mem r mem' => match vs with | [t, c, k] => (zMK mem mem') | _ => False))
def VX11_route : List (Nat × zCt) := [(228, CX11_throwsIf), (242, CX11_lineMany), (245, CX11_cellAt), (272, CX11_isSet), (417, CX11_isNoEnd), (420, CX11_hasWay), (423, CX11_path)]
def SX11_route : List (Nat × zCt) := [(248, CX11_noCell), (390, CX11_restAt)]
set_option maxHeartbeats 8000000 in
set_option maxRecDepth 100000 in
theorem mX11_route (l : Launch) : zMet l zLay yX11_route cX11_route 4 (some .int) 6 CX11_route.1 CX11_route.2.1 CX11_route.2.2.1 CX11_route.2.2.2 := by
  refine zMet_of (pl := zPlf PX11) (cv := zCf VX11_route) (cS := zCf SX11_route) (B := zBf BX11_route) (F := 80) (own := RX11) (by decide +kernel) rfl (Or.inl ⟨rfl, rfl⟩) (fun vs h => by obtain ⟨t, c, k, rfl⟩ := zlen3 h; exact Nat.le_of_ble_eq_true rfl) PX11_ok zClok_ok zSyok_ok oX11_route (zAllC_e (zAllC_c (Or.inl (zcal_v (mX11_throwsIf l) (by decide) (by decide) hX11_throwsIf kX11_228 ⟨by decide, by decide +kernel⟩ (ci := 11) rfl rfl rfl)) (zAllC_c (Or.inl (zcal_v (mX11_lineMany l) (by decide) (by decide) hX11_lineMany kX11_242 ⟨by decide, by decide +kernel⟩ (ci := 11) rfl rfl rfl)) (zAllC_c (Or.inl (zcal_v (mX11_cellAt l) (by decide) (by decide) hX11_cellAt kX11_245 ⟨by decide, by decide +kernel⟩ (ci := 11) rfl rfl rfl)) (zAllC_c (Or.inl (zcal_v (mX11_isSet l) (by decide) (by decide) hX11_isSet kX11_272 ⟨by decide, by decide +kernel⟩ (ci := 11) rfl rfl rfl)) (zAllC_c (Or.inl (zcal_v (mX11_isNoEnd l) (by decide) (by decide) hX11_isNoEnd kX11_417 ⟨by decide, by decide +kernel⟩ (ci := 11) rfl rfl rfl)) (zAllC_c (Or.inl (zcal_v (mX11_hasWay l) (by decide) (by decide) hX11_hasWay kX11_420 ⟨by decide, by decide +kernel⟩ (ci := 11) rfl rfl rfl)) (zAllC_c (Or.inl (zcal_v (mX11_path l) (by decide) (by decide) hX11_path kX11_423 ⟨by decide, by decide +kernel⟩ (ci := 11) rfl rfl rfl)) (zAllC_n))))))))) (zAllC_e (zAllC_c (zcal_s (mX11_noCell l) (by decide) (by decide) hX11_noCell kX11_248 ⟨by decide, by decide +kernel⟩) (zAllC_c (zcal_s (mX11_restAt l) (by decide) (by decide) hX11_restAt kX11_390 ⟨by decide, by decide +kernel⟩) (zAllC_n)))) ?_
  intro vs mem hvl hok hm hpre
  obtain ⟨t, c, k, rfl⟩ := zlen3 hvl
  have hr_c : -2147483648 ≤ c ∧ c ≤ 2147483647 := (hok (0, c) (by simp [CX11_route])).1 rfl
  have hr_k : -2147483648 ≤ k ∧ k ≤ 2147483647 := (hok (0, k) (by simp [CX11_route])).1 rfl
  clear hok hvl
  obtain ⟨hid, hpre⟩ := hpre
  simp only [List.mem_cons, List.not_mem_nil, or_false] at hid
  have hpre : zMi (mem 81) := hpre
  subst hid
  refine ⟨zIf [], zAllI_e zAllI_n, ?_⟩
  simp (maxSteps := 3000000) only [↓zwp_s, zrun_n, zrun_c, zgo_any, zgo_bel, ↓zgA_n, ↓zgA_c, ↓zgB_n, ↓zgB_c, ↓zp1_c, ↓zpv_c, ↓ztg_e, ↓zFv_r, ↓zFv_i, ↓zFv_z, ↓reduceIte, ↓zi_aload_n, ↓zi_bipush, ↓zi_getfield, ↓zi_goto, ↓zi_iaload, ↓zi_iconst, ↓zi_ifCond, ↓zi_if_icmp, ↓zi_iload_n, ↓zi_ireturn, ↓zi_istore_n, ↓zi_isub, ↓zi_l2i, ↓zi_laload, ↓zi_ldc2_w, ↓zi_ldiv, ↓zi_putfield, zcmp_ne, zcmp_ge, zcmp_eq, ↓zpl_e pX11_3, ↓zpl_e pX11_13, ↓zpl_e pX11_46, ↓zpl_e pX11_388, ↓zpl_e pX11_405, ↓zo_80_0, ↓zo_80_1, ↓zo_80_2, ↓zo_80_3, ↓zo_80_4, ↓zo_80_5, ↓zo_80_6, ↓zo_80_7, ↓zo_80_8, ↓zo_80_9, ↓zo_80_10, ↓zo_80_11, ↓zo_80_12, ↓zo_80_13, ↓zo_80_14, ↓zo_80_15, ↓zo_80_16, ↓zo_80_17, ↓zo_80_18, ↓zo_80_19, ↓zo_80_20, ↓zo_80_21, ↓zo_80_22, ↓zo_80_23, ↓zo_80_24, ↓za_81, ↓za_90, bX11_route_0, bX11_route_32, bX11_route_36, bX11_route_37, bX11_route_56, bX11_route_57, bX11_route_64, bX11_route_66, bX11_route_76, bX11_route_111, bX11_route_130, bX11_route_131, List.size_toArray, zent_n, zent_c, zst_e, zfi0, zfi1, zfi2, zfi3, zcast, Nat.reduceAdd, Nat.reduceSub, Nat.reduceEqDiff, Nat.reduceLT, Nat.reduceLeDiff, Int.reduceAdd, Int.reduceSub, Int.reduceMul, Int.reduceToNat, Int.reduceLE, Int.reduceLT, Int.reduceEq, Int.reduceNeg, Int.reduceNegSucc, Nat.reduceMul, List.zip_cons_cons, List.zip_nil_left, List.zip_nil_right, Int.toNat_natCast, true_and, and_true, eq_self, ne_eq, not_false_eq_true, not_true_eq_false, forall_const, implies_true, false_and, true_or, or_true, false_or, or_false, imp_self, CX11_route, ↓zv_cd (cv := zCf VX11_route) (k := 228) (h := (rfl : zCf VX11_route 228 = some CX11_throwsIf)), ↓zv_cf (cv := zCf VX11_route) (k := 242) (h := (rfl : zCf VX11_route 242 = some CX11_lineMany)), ↓zv_cf (cv := zCf VX11_route) (k := 245) (h := (rfl : zCf VX11_route 245 = some CX11_cellAt)), ↓zv_cb (cv := zCf VX11_route) (k := 272) (h := (rfl : zCf VX11_route 272 = some CX11_isSet)), ↓zv_cb (cv := zCf VX11_route) (k := 417) (h := (rfl : zCf VX11_route 417 = some CX11_isNoEnd)), ↓zv_cg (cv := zCf VX11_route) (k := 420) (h := (rfl : zCf VX11_route 420 = some CX11_hasWay)), ↓zv_cg (cv := zCf VX11_route) (k := 423) (h := (rfl : zCf VX11_route 423 = some CX11_path)), ↓zs_cb (cS := zCf SX11_route) (pl := zPlf PX11) (k := 248) (h := (rfl : zCf SX11_route 248 = some CX11_noCell)) (h2 := rfl), ↓zs_cf (cS := zCf SX11_route) (pl := zPlf PX11) (k := 390) (h := (rfl : zCf SX11_route 390 = some CX11_restAt)) (h2 := rfl), and_imp, exists_eq_left, exists_eq_left', exists_eq_right, exists_eq_right', exists_and_left, exists_and_right, Prod.mk.injEq, zAdd_e, zSub_e, zMul_e, zres_0, zres_4, zres_1, zres_9, zrt_0, zrt_4, zrt_1, zrt_9, List.take_succ_cons, List.take_zero, List.drop_succ_cons, List.drop_zero, List.map_cons, List.map_nil, List.reverse_cons, List.reverse_nil, List.nil_append, List.cons_append, List.length_cons, List.length_nil, zPr_c, List.mem_cons, List.not_mem_nil, ↓zIV_e, zcats, List.sum_cons, List.sum_nil, zpu, zfu, zset_e, zLAdd_e, zLMul_e, zfj0, zfj1, ↓zc_ne00, ↓zc_ne01, ↓zc_ne10, ↓zc_ne11, ↓zc_eq00, ↓zc_eq01, ↓zc_eq10, ↓zc_eq11, zs_80_81, zs_83_81, zs_84_81, zs_85_81, zs_86_81, zs_87_81, zs_88_81, zs_89_81, zs_90_81, zs_91_81, zs_92_81, zs_93_81]
  have hb := zMi_b hpre
  unfold zMb at hb
  have h800 : zMK mem (zset mem 80 0 0) := zMK_o (zMK_rf hpre) (by omega) (by unfold zpP; omega)
  have h80 : ∀ v, zMK mem (zset (zset mem 80 0 0) 80 0 v) := fun v => zMK_o h800 (by omega) (by unfold zpP; omega)
  intro _
  refine ⟨fun _ _ => h80 1, fun c0 c1 _ => ⟨⟨c0, c1, zMi_ln hpre⟩, fun _ => ⟨fun _ => h80 2, fun hk _ _ => ⟨fun h13 _ => ⟨⟨c0, c1, hpre, h13⟩, ?_⟩, fun _ _ => h80 3⟩, fun _ _ => h80 2⟩⟩⟩
  intro r m2 _ _ _ hr hq hf hfar
  have e81 : m2 81 = mem 81 := funext (fun j => (hq 81 j (by unfold zpQ; omega)).trans (by rw [zs_80_81]))
  have hmk : zMK mem m2 := zMK_Q h800 hq
  simp only [e81]
  refine ⟨fun hr0 => ⟨fun hk1 => ⟨⟨c0, c1, hpre, h13, hf, hfar (by omega)⟩, fun _ m3 _ _ _ hz => ⟨fun _ => zMK_Z hmk hz, fun _ => zMK_Z hmk hz⟩⟩, fun hk1 => ?_⟩, fun _ => hmk⟩
  have T := zMi_13 hpre h13
  obtain ⟨l1, l2, l3, l4, l5⟩ := zLn_end (zMi_ln hpre) (by omega)
  unfold zend at l4 l5
  have ez : zw (mem 81 18 - 1) = mem 81 18 - 1 := zw_id (by omega) (by omega)
  simp only [ez]
  generalize mem 81 (120 + 4 * mem 81 (196 + (mem 81 18 - 1)).toNat + 3).toNat = z at *
  exact fun _ _ _ => ⟨⟨by omega, by omega, by omega, by omega⟩, fun _ _ _ => ⟨⟨by omega, by omega, by omega, by omega⟩, fun _ _ _ => ⟨⟨by omega, by omega⟩, hmk⟩⟩⟩
def CX11_reach : zCt := ([2, 0, 0], 0, zPr [80] (fun vs mem => match vs with | [t, c, k] => (zMi (mem 81)) | _ => False), (fun vs mem r mem' => match vs with | [t, c, k] => (zMK mem mem') | _ => False))
def VX11_reach : List (Nat × zCt) := [(228, CX11_throwsIf), (272, CX11_isSet), (417, CX11_isNoEnd), (420, CX11_hasWay), (423, CX11_path)]
def SX11_reach : List (Nat × zCt) := [(248, CX11_noCell)]
set_option maxHeartbeats 8000000 in
set_option maxRecDepth 100000 in
theorem mX11_reach (l : Launch) : zMet l zLay yX11_reach cX11_reach 3 (some .int) 6 CX11_reach.1 CX11_reach.2.1 CX11_reach.2.2.1 CX11_reach.2.2.2 := by
  refine zMet_of (pl := zPlf PX11) (cv := zCf VX11_reach) (cS := zCf SX11_reach) (B := zBf BX11_reach) (F := 80) (own := RX11) (by decide +kernel) rfl (Or.inl ⟨rfl, rfl⟩) (fun vs h => by obtain ⟨t, c, k, rfl⟩ := zlen3 h; exact Nat.le_of_ble_eq_true rfl) PX11_ok zClok_ok zSyok_ok oX11_reach (zAllC_e (zAllC_c (Or.inl (zcal_v (mX11_throwsIf l) (by decide) (by decide) hX11_throwsIf kX11_228 ⟨by decide, by decide +kernel⟩ (ci := 11) rfl rfl rfl)) (zAllC_c (Or.inl (zcal_v (mX11_isSet l) (by decide) (by decide) hX11_isSet kX11_272 ⟨by decide, by decide +kernel⟩ (ci := 11) rfl rfl rfl)) (zAllC_c (Or.inl (zcal_v (mX11_isNoEnd l) (by decide) (by decide) hX11_isNoEnd kX11_417 ⟨by decide, by decide +kernel⟩ (ci := 11) rfl rfl rfl)) (zAllC_c (Or.inl (zcal_v (mX11_hasWay l) (by decide) (by decide) hX11_hasWay kX11_420 ⟨by decide, by decide +kernel⟩ (ci := 11) rfl rfl rfl)) (zAllC_c (Or.inl (zcal_v (mX11_path l) (by decide) (by decide) hX11_path kX11_423 ⟨by decide, by decide +kernel⟩ (ci := 11) rfl rfl rfl)) (zAllC_n))))))) (zAllC_e (zAllC_c (zcal_s (mX11_noCell l) (by decide) (by decide) hX11_noCell kX11_248 ⟨by decide, by decide +kernel⟩) (zAllC_n))) ?_
  intro vs mem hvl hok hm hpre
  obtain ⟨t, c, k, rfl⟩ := zlen3 hvl
  have hr_c : -2147483648 ≤ c ∧ c ≤ 2147483647 := (hok (0, c) (by simp [CX11_reach])).1 rfl
  have hr_k : -2147483648 ≤ k ∧ k ≤ 2147483647 := (hok (0, k) (by simp [CX11_reach])).1 rfl
  clear hok hvl
  obtain ⟨hid, hpre⟩ := hpre
  simp only [List.mem_cons, List.not_mem_nil, or_false] at hid
  have hpre : zMi (mem 81) := hpre
  subst hid
  refine ⟨zIf [], zAllI_e zAllI_n, ?_⟩
  simp (maxSteps := 3000000) only [↓zwp_s, zrun_n, zrun_c, zgo_any, zgo_bel, ↓zgA_n, ↓zgA_c, ↓zgB_n, ↓zgB_c, ↓zp1_c, ↓zpv_c, ↓ztg_e, ↓zFv_r, ↓zFv_i, ↓zFv_z, ↓reduceIte, ↓zi_aload_n, ↓zi_getfield, ↓zi_goto, ↓zi_iconst, ↓zi_ifCond, ↓zi_iload_n, ↓zi_ireturn, ↓zi_pop, ↓zi_putfield, zcmp_ne, zcmp_ge, zcmp_eq, ↓zpl_e pX11_3, ↓zpl_e pX11_408, ↓zo_80_0, ↓zo_80_1, ↓zo_80_2, ↓zo_80_3, ↓zo_80_4, ↓zo_80_5, ↓zo_80_6, ↓zo_80_7, ↓zo_80_8, ↓zo_80_9, ↓zo_80_10, ↓zo_80_11, ↓zo_80_12, ↓zo_80_13, ↓zo_80_14, ↓zo_80_15, ↓zo_80_16, ↓zo_80_17, ↓zo_80_18, ↓zo_80_19, ↓zo_80_20, ↓zo_80_21, ↓zo_80_22, ↓zo_80_23, ↓zo_80_24, ↓za_81, ↓za_90, bX11_reach_0, bX11_reach_30, bX11_reach_34, bX11_reach_35, bX11_reach_54, bX11_reach_55, bX11_reach_62, bX11_reach_64, bX11_reach_74, List.size_toArray, zent_n, zent_c, zst_e, zfi0, zfi1, zfi2, zfi3, zcast, Nat.reduceAdd, Nat.reduceSub, Nat.reduceEqDiff, Nat.reduceLT, Nat.reduceLeDiff, Int.reduceAdd, Int.reduceSub, Int.reduceMul, Int.reduceToNat, Int.reduceLE, Int.reduceLT, Int.reduceEq, Int.reduceNeg, Int.reduceNegSucc, Nat.reduceMul, List.zip_cons_cons, List.zip_nil_left, List.zip_nil_right, Int.toNat_natCast, true_and, and_true, eq_self, ne_eq, not_false_eq_true, not_true_eq_false, forall_const, implies_true, false_and, true_or, or_true, false_or, or_false, imp_self, CX11_reach, ↓zv_cd (cv := zCf VX11_reach) (k := 228) (h := (rfl : zCf VX11_reach 228 = some CX11_throwsIf)), ↓zv_cb (cv := zCf VX11_reach) (k := 272) (h := (rfl : zCf VX11_reach 272 = some CX11_isSet)), ↓zv_cb (cv := zCf VX11_reach) (k := 417) (h := (rfl : zCf VX11_reach 417 = some CX11_isNoEnd)), ↓zv_cg (cv := zCf VX11_reach) (k := 420) (h := (rfl : zCf VX11_reach 420 = some CX11_hasWay)), ↓zv_cg (cv := zCf VX11_reach) (k := 423) (h := (rfl : zCf VX11_reach 423 = some CX11_path)), ↓zs_cb (cS := zCf SX11_reach) (pl := zPlf PX11) (k := 248) (h := (rfl : zCf SX11_reach 248 = some CX11_noCell)) (h2 := rfl), and_imp, exists_eq_left, exists_eq_left', exists_eq_right, exists_eq_right', exists_and_left, exists_and_right, Prod.mk.injEq, zAdd_e, zSub_e, zMul_e, zres_0, zres_4, zres_1, zres_9, zrt_0, zrt_4, zrt_1, zrt_9, List.take_succ_cons, List.take_zero, List.drop_succ_cons, List.drop_zero, List.map_cons, List.map_nil, List.reverse_cons, List.reverse_nil, List.nil_append, List.cons_append, List.length_cons, List.length_nil, zPr_c, List.mem_cons, List.not_mem_nil, ↓zIV_e, zcats, List.sum_cons, List.sum_nil, zpu, zfu, zset_e, zLAdd_e, zLMul_e, zfj0, zfj1, ↓zc_ne00, ↓zc_ne01, ↓zc_ne10, ↓zc_ne11, ↓zc_eq00, ↓zc_eq01, ↓zc_eq10, ↓zc_eq11, zs_80_81, zs_83_81, zs_84_81, zs_85_81, zs_86_81, zs_87_81, zs_88_81, zs_89_81, zs_90_81, zs_91_81, zs_92_81, zs_93_81]
  have hb := zMi_b hpre
  unfold zMb at hb
  have h800 : zMK mem (zset mem 80 0 0) := zMK_o (zMK_rf hpre) (by omega) (by unfold zpP; omega)
  have h80 : ∀ v, zMK mem (zset (zset mem 80 0 0) 80 0 v) := fun v => zMK_o h800 (by omega) (by unfold zpP; omega)
  intro _
  refine ⟨fun _ _ => h80 1, fun c0 c1 _ => ⟨⟨c0, c1, zMi_ln hpre⟩, fun _ => ⟨fun _ => h80 2, fun hk _ _ => ⟨fun h13 _ => ⟨⟨c0, c1, hpre, h13⟩, ?_⟩, fun _ _ => h80 3⟩, fun _ _ => h80 2⟩⟩⟩
  intro r m2 _ _ _ hr hq hf hfar
  have e81 : m2 81 = mem 81 := funext (fun j => (hq 81 j (by unfold zpQ; omega)).trans (by rw [zs_80_81]))
  have hmk : zMK mem m2 := zMK_Q h800 hq
  simp only [e81]
  exact ⟨fun hr0 => ⟨⟨c0, c1, hpre, h13, hf, hfar (by omega)⟩, fun _ m3 _ _ _ hz => zMK_Z hmk hz⟩, fun _ => hmk⟩
