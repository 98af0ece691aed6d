def CX11_readAll : zCt := ([2], 4, zPr [80] (fun vs mem => match vs with | [t] => (mem 80 6 = 0 ∧ 0 ≤ mem 80 7 ∧ mem 80 7 ≤ 400 ∧ mem 80 9 = 0 ∧ mem 80 12 = 0 ∧ mem 80 13 = 0) | _ => False), zbm (fun vs mem mem' => match vs with | [t] => (zKp zpX mem mem' ∧ mem' 80 12 ≤ 200 ∧ zSg (mem' 81) 4 0 (mem' 80 12) 0 (mem' 80 13)) | _ => False) (fun vs mem mem' => match vs with | [t] => (zKp zpX mem mem') | _ => False))
def VX11_readAll : List (Nat × zCt) := [(79, CX11_blanks), (190, (CX11_readRow 0))]
def SX11_readAll : List (Nat × zCt) := []
set_option maxHeartbeats 1000000 in
set_option maxRecDepth 100000 in
theorem mX11_readAll (l : Launch) : zMet l zLay yX11_readAll cX11_readAll 1 (some .boolean) 84 CX11_readAll.1 CX11_readAll.2.1 CX11_readAll.2.2.1 CX11_readAll.2.2.2 := by
  refine zMet_of (pl := zPlf PX11) (cv := zCf VX11_readAll) (cS := zCf SX11_readAll) (B := zBf BX11_readAll) (F := 80) (own := RX11) (by decide +kernel) rfl (Or.inr (Or.inl ⟨rfl, rfl⟩)) (fun vs h => by obtain ⟨t, rfl⟩ := zlen1 h; exact Nat.le_of_ble_eq_true rfl) PX11_ok zClok_ok zSyok_ok oX11_readAll (zAllC_e (zAllC_c (Or.inl (zcal_v (mX11_blanks l) (by decide) (by decide) hX11_blanks kX11_79 ⟨by decide, by decide +kernel⟩ (ci := 11) rfl rfl rfl)) (zAllC_c (Or.inl (zcal_v (mX11_readRow0 l) (by decide) (by decide) hX11_readRow kX11_190 ⟨by decide, by decide +kernel⟩ (ci := 11) rfl rfl rfl)) (zAllC_n)))) (zAllC_e (zAllC_n)) ?_
  intro vs mem hvl hok hm hpre
  obtain ⟨t, rfl⟩ := zlen1 hvl
  clear hok hvl
  obtain ⟨hid, hpre⟩ := hpre
  simp only [List.mem_cons, List.not_mem_nil, or_false] at hid
  have hpre : mem 80 6 = 0 ∧ 0 ≤ mem 80 7 ∧ mem 80 7 ≤ 400 ∧ mem 80 9 = 0 ∧ mem 80 12 = 0 ∧ mem 80 13 = 0 := hpre
  subst hid
  refine ⟨zIf [], zAllI_e zAllI_n, ?_⟩
  simp (maxSteps := 3000000) only [↓zwp_s, zrun_n, zrun_c, zgo_any, zgo_bel, ↓zgA_n, ↓zgA_c, ↓zgB_n, ↓zgB_c, ↓zp1_c, ↓zpv_c, ↓ztg_e, ↓zFv_r, ↓zFv_i, ↓zFv_z, ↓reduceIte, ↓zi_aload_n, ↓zi_getfield, ↓zi_goto, ↓zi_iconst, ↓zi_ifCond, ↓zi_if_icmp, ↓zi_ireturn, zcmp_ne, ↓zpl_e pX11_66, ↓zpl_e pX11_69, ↓zo_80_0, ↓zo_80_1, ↓zo_80_2, ↓zo_80_3, ↓zo_80_4, ↓zo_80_5, ↓zo_80_6, ↓zo_80_7, ↓zo_80_8, ↓zo_80_9, ↓zo_80_10, ↓zo_80_11, ↓zo_80_12, ↓zo_80_13, ↓zo_80_14, ↓zo_80_15, ↓zo_80_16, ↓zo_80_17, ↓zo_80_18, ↓zo_80_19, ↓zo_80_20, ↓zo_80_21, ↓zo_80_22, ↓zo_80_23, ↓zo_80_24, bX11_readAll_0, bX11_readAll_17, bX11_readAll_26, bX11_readAll_45, bX11_readAll_46, List.size_toArray, zent_n, zent_c, zst_e, zfi0, zfi1, zfi2, zfi3, zcast, Nat.reduceAdd, Nat.reduceSub, Nat.reduceEqDiff, Nat.reduceLT, Nat.reduceLeDiff, Int.reduceAdd, Int.reduceSub, Int.reduceMul, Int.reduceToNat, Int.reduceLE, Int.reduceLT, Int.reduceEq, Int.reduceNeg, Int.reduceNegSucc, Nat.reduceMul, List.zip_cons_cons, List.zip_nil_left, List.zip_nil_right, Int.toNat_natCast, true_and, and_true, eq_self, ne_eq, not_false_eq_true, not_true_eq_false, forall_const, implies_true, false_and, true_or, or_true, false_or, or_false, imp_self, CX11_readAll, ↓zv_cg (cv := zCf VX11_readAll) (k := 79) (h := (rfl : zCf VX11_readAll 79 = some CX11_blanks)), ↓zv_cm (cv := zCf VX11_readAll) (k := 190) (h := (rfl : zCf VX11_readAll 190 = some (CX11_readRow 0))), and_imp, exists_eq_left, exists_eq_left', exists_eq_right, exists_eq_right', exists_and_left, exists_and_right, Prod.mk.injEq, zAdd_e, zSub_e, zMul_e, zres_0, zres_4, zres_1, zres_9, zrt_0, zrt_4, zrt_1, zrt_9, List.take_succ_cons, List.take_zero, List.drop_succ_cons, List.drop_zero, List.map_cons, List.map_nil, List.reverse_cons, List.reverse_nil, List.nil_append, List.cons_append, List.length_cons, List.length_nil, zPr_c, List.mem_cons, List.not_mem_nil, ↓zIV_e, zcats, List.sum_cons, List.sum_nil, zpu, zfu, zset_e, zbm, ↓zc_ne00, ↓zc_ne01, ↓zc_ne10, ↓zc_ne11, ↓zc_eq00, ↓zc_eq01, ↓zc_eq10, ↓zc_eq11, zs_80_81, zs_83_81, zs_84_81, zs_85_81, zs_86_81, zs_87_81, zs_88_81, zs_89_81, zs_90_81, zs_91_81, zs_92_81, zs_93_81]
  obtain ⟨p1, p2, p3, p4, p5, p6⟩ := hpre
  refine ⟨⟨by omega, by omega, by omega⟩, ?_⟩
  intro _ m1 _ _ k1 k2 k3 k4
  have e7 := k1 80 7 (by unfold zpK; omega)
  have e9 := k1 80 9 (by unfold zpK; omega)
  have e12 := k1 80 12 (by unfold zpK; omega)
  have e13 := k1 80 13 (by unfold zpK; omega)
  have G1 : zGd m1 := by unfold zGd; omega
  refine ⟨fun hn => ⟨⟨G1, by omega⟩, fun m2 _ => ⟨fun h2 => ?_, fun h2 => zKp_tr (zKp_KX k1) h2⟩⟩, fun hn => ⟨zKp_KX k1, by omega, by rw [show m1 80 12 = 0 by omega]; exact zSg_0⟩⟩
  have g2 := h2.1
  unfold zGd at g2
  have XX := zKp_tr (zKp_KX k1) (zKp_DX h2.2.2.1)
  refine ⟨⟨by omega, by omega, by omega⟩, ?_⟩
  intro _ m3 _ _ l1 l2 l3 l4
  refine ⟨fun _ => zKp_tr XX (zKp_KX l1), fun _ => ⟨zKp_tr XX (zKp_KX l1), ?_, ?_⟩⟩
  · rw [l1 80 12 (by unfold zpK; omega)]; omega
  · have e81 : m3 81 = m2 81 := funext (fun j => l1 81 j (by unfold zpK; omega))
    have s := h2.2.2.2.2.2.1 0 (by omega) (by omega)
    rw [show m1 80 12 = 0 by omega] at s
    rw [e81, l1 80 12 (by unfold zpK; omega), l1 80 13 (by unfold zpK; omega)]
    exact s
def CX11_orders : zCt := ([2], 0, zPr [80] (fun vs mem => match vs with | [t] => (zMi (mem 81) ∧ zTz (mem 81) ∧ 0 ≤ mem 80 5 ∧ mem 80 5 ≤ 400) | _ => False), (fun vs mem r mem' => match vs with | [t] => (zMi (mem' 81) ∧ zTz (mem' 81) ∧ mem' 80 5 = 0 ∧ zKp zpU mem mem') | _ => False))
def VX11_orders : List (Nat × zCt) := [(225, CX11_readAll), (228, CX11_throwsIf)]
def SX11_orders : List (Nat × zCt) := [(99, CX11_textAt)]
set_option maxHeartbeats 4000000 in
set_option maxRecDepth 100000 in
theorem mX11_orders (l : Launch) : zMet l zLay yX11_orders cX11_orders 4 (some .int) 85 CX11_orders.1 CX11_orders.2.1 CX11_orders.2.2.1 CX11_orders.2.2.2 := by
  refine zMet_of (pl := zPlf PX11) (cv := zCf VX11_orders) (cS := zCf SX11_orders) (B := zBf BX11_orders) (F := 80) (own := RX11) (by decide +kernel) rfl (Or.inl ⟨rfl, rfl⟩) (fun vs h => by obtain ⟨t, rfl⟩ := zlen1 h; exact Nat.le_of_ble_eq_true rfl) PX11_ok zClok_ok zSyok_ok oX11_orders (zAllC_e (zAllC_c (Or.inl (zcal_v (mX11_readAll l) (by decide) (by decide) hX11_readAll kX11_225 ⟨by decide, by decide +kernel⟩ (ci := 11) rfl rfl rfl)) (zAllC_c (Or.inl (zcal_v (mX11_throwsIf l) (by decide) (by decide) hX11_throwsIf kX11_228 ⟨by decide, by decide +kernel⟩ (ci := 11) rfl rfl rfl)) (zAllC_n)))) (zAllC_e (zAllC_c (zcal_s (mX11_textAt l) (by decide) (by decide) hX11_textAt kX11_99 ⟨by decide, by decide +kernel⟩) (zAllC_n))) ?_
  intro vs mem hvl hok hm hpre
  obtain ⟨t, rfl⟩ := zlen1 hvl
  clear hok hvl
  obtain ⟨hid, hpre⟩ := hpre
  simp only [List.mem_cons, List.not_mem_nil, or_false] at hid
  have hpre : zMi (mem 81) ∧ zTz (mem 81) ∧ 0 ≤ mem 80 5 ∧ mem 80 5 ≤ 400 := hpre
  subst hid
  refine ⟨zIf [(125, (fun nq ls st m => (ls 1).1 = 0 ∧ (ls 2).1 = 0 ∧ (ls 3).1 = 0 ∧ ls 0 = (2, 80) ∧ st = [] ∧ ((∃ m0 : zM, zKp zpY mem m0 ∧ m0 80 5 = 0 ∧ m0 80 12 ≤ 200 ∧ zSg (m0 81) 4 0 (m0 80 12) 0 (m0 80 13) ∧ zCy (mem 81 17) (ls 3).2 (zset m0 81 4856 (m0 80 12)) m) ∧ (ls 2).2 = mem 81 17 ∧ mem 81 17 < 4 ∧ 0 ≤ (ls 3).2 ∧ (ls 3).2 ≤ 1061 ∧ (1061 - (ls 3).2).toNat ≤ nq)))], zAllI_e (zAllI_c ?_ (zAllI_n)), ?_⟩
  · intro nn ls st mem1 hm1 hl1 hJ
    obtain ⟨ht1, ht2, ht3, h0, rfl, hc⟩ := hJ
    obtain ⟨x1, h1⟩ : ∃ x, ls 1 = (0, x) := ⟨_, Prod.ext ht1 rfl⟩
    obtain ⟨x2, h2⟩ : ∃ x, ls 2 = (0, x) := ⟨_, Prod.ext ht2 rfl⟩
    obtain ⟨x3, h3⟩ : ∃ x, ls 3 = (0, x) := ⟨_, Prod.ext ht3 rfl⟩
    simp only [h1, h2, h3] at hc
    obtain ⟨hc0, hc1, hc2, hc3, hc4, hc5⟩ := hc
    simp (maxSteps := 3000000) only [↓zwp_s, zrun_n, zrun_c, zgo_any, zgo_bel, ↓zgA_n, ↓zgA_c, ↓zgB_n, ↓zgB_c, ↓zp1_c, ↓zpv_c, ↓ztg_e, ↓zFv_r, ↓zFv_i, ↓zFv_z, ↓reduceIte, ↓zi_aload_n, ↓zi_bipush, ↓zi_dup2, ↓zi_getfield, ↓zi_goto, ↓zi_iadd, ↓zi_iaload, ↓zi_iastore, ↓zi_iconst, ↓zi_ifCond, ↓zi_if_icmp, ↓zi_iinc, ↓zi_iload_n, ↓zi_ireturn, ↓zi_istore_n, ↓zi_putfield, ↓zi_sipush, zcmp_eq, zcmp_ne, zcmp_ge, ↓zpl_e pX11_3, ↓zpl_e pX11_13, ↓zpl_e pX11_24, ↓zpl_e pX11_63, ↓zpl_e pX11_66, ↓zpl_e pX11_69, ↓zpl_e pX11_76, ↓zpl_e pX11_103, ↓zpl_e pX11_110, ↓zpl_e pX11_116, ↓zo_80_0, ↓zo_80_1, ↓zo_80_2, ↓zo_80_3, ↓zo_80_4, ↓zo_80_5, ↓zo_80_6, ↓zo_80_7, ↓zo_80_8, ↓zo_80_9, ↓zo_80_10, ↓zo_80_11, ↓zo_80_12, ↓zo_80_13, ↓zo_80_14, ↓zo_80_15, ↓zo_80_16, ↓zo_80_17, ↓zo_80_18, ↓zo_80_19, ↓zo_80_20, ↓zo_80_21, ↓zo_80_22, ↓zo_80_23, ↓zo_80_24, ↓za_81, bX11_orders_0, bX11_orders_52, bX11_orders_56, bX11_orders_68, bX11_orders_69, bX11_orders_92, bX11_orders_93, bX11_orders_100, bX11_orders_102, bX11_orders_125, bX11_orders_160, List.size_toArray, zent_n, zent_c, zst_e, zfi0, zfi1, zfi2, zfi3, zcast, Nat.reduceAdd, Nat.reduceSub, Nat.reduceEqDiff, Nat.reduceLT, Nat.reduceLeDiff, Int.reduceAdd, Int.reduceSub, Int.reduceMul, Int.reduceToNat, Int.reduceLE, Int.reduceLT, Int.reduceEq, Int.reduceNeg, Int.reduceNegSucc, Nat.reduceMul, List.zip_cons_cons, List.zip_nil_left, List.zip_nil_right, Int.toNat_natCast, true_and, and_true, eq_self, ne_eq, not_false_eq_true, not_true_eq_false, forall_const, implies_true, false_and, true_or, or_true, false_or, or_false, imp_self, CX11_orders, ↓zv_cm (cv := zCf VX11_orders) (k := 225) (h := (rfl : zCf VX11_orders 225 = some CX11_readAll)), ↓zv_cd (cv := zCf VX11_orders) (k := 228) (h := (rfl : zCf VX11_orders 228 = some CX11_throwsIf)), ↓zs_cf (cS := zCf SX11_orders) (pl := zPlf PX11) (k := 99) (h := (rfl : zCf SX11_orders 99 = some CX11_textAt)) (h2 := rfl), and_imp, exists_eq_left, exists_eq_left', exists_eq_right, exists_eq_right', exists_and_left, exists_and_right, Prod.mk.injEq, zAdd_e, zSub_e, zMul_e, zres_0, zres_4, zres_1, zres_9, zrt_0, zrt_4, zrt_1, zrt_9, List.take_succ_cons, List.take_zero, List.drop_succ_cons, List.drop_zero, List.map_cons, List.map_nil, List.reverse_cons, List.reverse_nil, List.nil_append, List.cons_append, List.length_cons, List.length_nil, zPr_c, List.mem_cons, List.not_mem_nil, ↓zIV_e, zcats, List.sum_cons, List.sum_nil, zpu, zfu, zset_e, ↓zc_ne00, ↓zc_ne01, ↓zc_ne10, ↓zc_ne11, ↓zc_eq00, ↓zc_eq01, ↓zc_eq10, ↓zc_eq11, zs_80_81, zs_83_81, zs_84_81, zs_85_81, zs_86_81, zs_87_81, zs_88_81, zs_89_81, zs_90_81, zs_91_81, zs_92_81, zs_93_81, h1, h2, h3, h0]
    obtain ⟨p1, p2, p3, p4⟩ := hpre
    have hb := zMi_b p1
    unfold zMb at hb
    obtain ⟨m0, q1, q2, q3, q4, q5⟩ := hc0
    have e17 : mem1 81 17 = mem 81 17 := by rw [q5.1 81 17 (by omega), zset_e, if_pos rfl, if_neg (by omega), q1 81 17 (by unfold zpY; omega)]
    refine ⟨fun h => ?_, fun h => ?_⟩
    · rw [e17, zw_id (by omega) (by omega)]
      obtain rfl : x3 = 1061 := by omega
      have Z := zOr_end p1 p2 q1 q2 q3 q4 hc2 rfl q5
      exact ⟨Z.1, Z.2.1, Z.2.2.1, Z.2.2.2⟩
    · subst hc1
      refine ⟨⟨by omega, by omega⟩, fun _ _ _ _ => ?_⟩
      rw [zw_id (x := 4856 + x3) (by omega) (by omega), zw_id (x := 612 + 1061 * mem 81 17 + x3) (by omega) (by omega), zw_id (x := x3 + 1) (by omega) (by omega)]
      refine ⟨⟨by omega, by omega⟩, ⟨by omega, by omega⟩, nn - 1, by omega, ⟨m0, q1, q2, q3, q4, zCy_s q5 (by omega) (by omega) (by omega) (by omega)⟩, ?_⟩
      omega
  · simp (maxSteps := 3000000) only [↓zwp_s, zrun_n, zrun_c, zgo_any, zgo_bel, ↓zgA_n, ↓zgA_c, ↓zgB_n, ↓zgB_c, ↓zp1_c, ↓zpv_c, ↓ztg_e, ↓zFv_r, ↓zFv_i, ↓zFv_z, ↓reduceIte, ↓zi_aload_n, ↓zi_bipush, ↓zi_dup2, ↓zi_getfield, ↓zi_goto, ↓zi_iadd, ↓zi_iaload, ↓zi_iastore, ↓zi_iconst, ↓zi_ifCond, ↓zi_if_icmp, ↓zi_iinc, ↓zi_iload_n, ↓zi_ireturn, ↓zi_istore_n, ↓zi_putfield, ↓zi_sipush, zcmp_eq, zcmp_ne, zcmp_ge, ↓zpl_e pX11_3, ↓zpl_e pX11_13, ↓zpl_e pX11_24, ↓zpl_e pX11_63, ↓zpl_e pX11_66, ↓zpl_e pX11_69, ↓zpl_e pX11_76, ↓zpl_e pX11_103, ↓zpl_e pX11_110, ↓zpl_e pX11_116, ↓zo_80_0, ↓zo_80_1, ↓zo_80_2, ↓zo_80_3, ↓zo_80_4, ↓zo_80_5, ↓zo_80_6, ↓zo_80_7, ↓zo_80_8, ↓zo_80_9, ↓zo_80_10, ↓zo_80_11, ↓zo_80_12, ↓zo_80_13, ↓zo_80_14, ↓zo_80_15, ↓zo_80_16, ↓zo_80_17, ↓zo_80_18, ↓zo_80_19, ↓zo_80_20, ↓zo_80_21, ↓zo_80_22, ↓zo_80_23, ↓zo_80_24, ↓za_81, bX11_orders_0, bX11_orders_52, bX11_orders_56, bX11_orders_68, bX11_orders_69, bX11_orders_92, bX11_orders_93, bX11_orders_100, bX11_orders_102, bX11_orders_125, bX11_orders_160, List.size_toArray, zent_n, zent_c, zst_e, zfi0, zfi1, zfi2, zfi3, zcast, Nat.reduceAdd, Nat.reduceSub, Nat.reduceEqDiff, Nat.reduceLT, Nat.reduceLeDiff, Int.reduceAdd, Int.reduceSub, Int.reduceMul, Int.reduceToNat, Int.reduceLE, Int.reduceLT, Int.reduceEq, Int.reduceNeg, Int.reduceNegSucc, Nat.reduceMul, List.zip_cons_cons, List.zip_nil_left, List.zip_nil_right, Int.toNat_natCast, true_and, and_true, eq_self, ne_eq, not_false_eq_true, not_true_eq_false, forall_const, implies_true, false_and, true_or, or_true, false_or, or_false, imp_self, CX11_orders, ↓zv_cm (cv := zCf VX11_orders) (k := 225) (h := (rfl : zCf VX11_orders 225 = some CX11_readAll)), ↓zv_cd (cv := zCf VX11_orders) (k := 228) (h := (rfl : zCf VX11_orders 228 = some CX11_throwsIf)), ↓zs_cf (cS := zCf SX11_orders) (pl := zPlf PX11) (k := 99) (h := (rfl : zCf SX11_orders 99 = some CX11_textAt)) (h2 := rfl), and_imp, exists_eq_left, exists_eq_left', exists_eq_right, exists_eq_right', exists_and_left, exists_and_right, Prod.mk.injEq, zAdd_e, zSub_e, zMul_e, zres_0, zres_4, zres_1, zres_9, zrt_0, zrt_4, zrt_1, zrt_9, List.take_succ_cons, List.take_zero, List.drop_succ_cons, List.drop_zero, List.map_cons, List.map_nil, List.reverse_cons, List.reverse_nil, List.nil_append, List.cons_append, List.length_cons, List.length_nil, zPr_c, List.mem_cons, List.not_mem_nil, ↓zIV_e, zcats, List.sum_cons, List.sum_nil, zpu, zfu, zset_e, ↓zc_ne00, ↓zc_ne01, ↓zc_ne10, ↓zc_ne11, ↓zc_eq00, ↓zc_eq01, ↓zc_eq10, ↓zc_eq11, zs_80_81, zs_83_81, zs_84_81, zs_85_81, zs_86_81, zs_87_81, zs_88_81, zs_89_81, zs_90_81, zs_91_81, zs_92_81, zs_93_81]
    obtain ⟨p1, p2, p3, p4⟩ := hpre
    have hb := zMi_b p1
    unfold zMb at hb
    have Y0 : zKp zpY mem (zset (zset (zset (zset (zset (zset (zset mem 80 0 0) 80 7 (mem 80 5)) 80 5 0) 80 6 0) 80 9 0) 80 12 0) 80 13 0) := by
      repeat' (first | exact zKp_rf _ | refine zKp_st ?_ (by unfold zpY; omega))
    refine ⟨⟨by omega, by omega⟩, fun m1 _ => ?_⟩
    have fin : zKp zpX (zset (zset (zset (zset (zset (zset (zset mem 80 0 0) 80 7 (mem 80 5)) 80 5 0) 80 6 0) 80 9 0) 80 12 0) 80 13 0) m1 → zKp zpY mem m1 ∧ m1 80 5 = 0 ∧ zMi (m1 81) ∧ zTz (m1 81) := fun k1 => by
      have Y1 := zKp_tr Y0 (zKp_XY k1)
      have e81 : ∀ j, j < 4857 → m1 81 j = mem 81 j := fun j hj => Y1 81 j (by unfold zpY; omega)
      refine ⟨Y1, (k1 80 5 (by unfold zpX; omega)).trans rfl, zMi_ext p1 (fun j hj => e81 j (by omega)), fun t t0 t1 => ?_⟩
      rw [e81 17 (by omega)] at t1
      obtain ⟨lev, h⟩ := p2 t t0 t1
      exact ⟨lev, zTk_t h t0 (fun j _ _ => e81 j (by omega))⟩
    refine ⟨fun k1 n1 s1 _ => ?_, fun k1 _ => ?_⟩
    · obtain ⟨Y1, h5, z1, z2⟩ := fin k1
      have e17 := Y1 81 17 (by unfold zpY; omega)
      refine ⟨fun h4 _ _ => ⟨⟨zset m1 80 10 (-1), zKp_st Y1 (by unfold zpY; omega), h5, n1, s1, zCy_0 _ _⟩, ?_⟩, fun h4 _ => ⟨z1, z2, h5, zKp_YU (zKp_st (zKp_st Y1 (by unfold zpY; omega)) (by unfold zpY; omega))⟩⟩
      exact ⟨e17, by omega, 1061, by omega⟩
    · obtain ⟨Y1, h5, z1, z2⟩ := fin k1
      exact ⟨z1, z2, h5, zKp_YU (zKp_st (zKp_st Y1 (by unfold zpY; omega)) (by unfold zpY; omega))⟩
