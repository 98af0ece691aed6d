def CX11_readAtom (d : Int) : zCt := ([2], 4, zPr [80] (fun vs mem => match vs with | [t] => (zGd mem ∧ mem 80 9 = d) | _ => False), zbm (fun vs mem mem' => match vs with | [t] => (zAtd d mem mem') | _ => False) (fun vs mem mem' => match vs with | [t] => (zKp zpX mem mem') | _ => False))
def CX11_readAllOf (d : Int) : zCt := ([2], 4, zPr [80] (fun vs mem => match vs with | [t] => (zGd mem ∧ mem 80 9 = d) | _ => False), zbm (fun vs mem mem' => match vs with | [t] => (zAtd d mem mem') | _ => False) (fun vs mem mem' => match vs with | [t] => (zKp zpX mem mem') | _ => False))
def CX11_readCond (d : Int) : zCt := ([2], 4, zPr [80] (fun vs mem => match vs with | [t] => (zGd mem ∧ mem 80 9 = d) | _ => False), zbm (fun vs mem mem' => match vs with | [t] => (zAtd d mem mem') | _ => False) (fun vs mem mem' => match vs with | [t] => (zKp zpX mem mem') | _ => False))
def VX11_readAllOf (d : Int) : List (Nat × zCt) := [(151, CX11_passes), (154, (CX11_readAtom (d))), (157, CX11_emits)]
def SX11_readAllOf (_d : Int) : List (Nat × zCt) := []
set_option maxHeartbeats 4000000 in
set_option maxRecDepth 100000 in
theorem mX11_readAllOf (l : Launch) (d : Int) (LV : Nat) (hLV : 30 ≤ LV) (L_readAtom : Nat) (hl_readAtom : L_readAtom < LV) (h_readAtom : zMet l zLay yX11_readAtom cX11_readAtom 3 (some .boolean) L_readAtom (CX11_readAtom (d)).1 (CX11_readAtom (d)).2.1 (CX11_readAtom (d)).2.2.1 (CX11_readAtom (d)).2.2.2) : zMet l zLay yX11_readAllOf cX11_readAllOf 1 (some .boolean) LV (CX11_readAllOf d).1 (CX11_readAllOf d).2.1 (CX11_readAllOf d).2.2.1 (CX11_readAllOf d).2.2.2 := by
  refine zMet_of (pl := zPlf PX11) (cv := zCf (VX11_readAllOf d)) (cS := zCf (SX11_readAllOf d)) (B := zBf BX11_readAllOf) (F := 80) (own := RX11) (by decide +kernel) rfl (Or.inr (Or.inl ⟨rfl, rfl⟩)) (fun vs h => by obtain ⟨t, rfl⟩ := zlen1 h; exact Nat.le_of_ble_eq_true rfl) PX11_ok zClok_ok zSyok_ok oX11_readAllOf (zAllC_e (zAllC_c (Or.inl (zcal_v (mX11_passes l) (by omega) (by decide) hX11_passes kX11_151 ⟨by decide, by decide +kernel⟩ (ci := 11) rfl rfl rfl)) (zAllC_c (Or.inl (zcal_v h_readAtom hl_readAtom (by decide) hX11_readAtom kX11_154 ⟨by decide, by decide +kernel⟩ (ci := 11) rfl rfl rfl)) (zAllC_c (Or.inl (zcal_v (mX11_emits l) (by omega) (by decide) hX11_emits kX11_157 ⟨by decide, by decide +kernel⟩ (ci := 11) rfl rfl rfl)) (zAllC_n))))) (zAllC_e (zAllC_n)) ?_
  intro vs mem hvl hok hm hpre
  obtain ⟨t, rfl⟩ := zlen1 hvl
  clear hok hvl
  obtain ⟨hid, hpre⟩ := hpre
  simp only [List.mem_cons, List.not_mem_nil, or_false] at hid
  have hp0 : zGd mem ∧ mem 80 9 = d := hpre
  subst hid
  refine ⟨zIf [(9, (fun nq ls st m => ls 0 = (2, 80) ∧ st = [] ∧ ((zAtd d mem m) ∧ True ∧ (400 - m 80 6).toNat ≤ nq)))], zAllI_e (zAllI_c ?_ (zAllI_n)), ?_⟩
  · intro nn ls st mem1 hm1 hl1 hJ
    obtain ⟨h0, rfl, hc⟩ := hJ
    
    obtain ⟨hc0, hc1, hc2⟩ := hc
    simp (maxSteps := 3000000) only [↓zwp_s, zrun_n, zrun_c, zgo_any, zgo_bel, ↓zgA_n, ↓zgA_c, ↓zgB_n, ↓zgB_c, ↓zp1_c, ↓zpv_c, ↓ztg_e, ↓zFv_r, ↓zFv_i, ↓zFv_z, ↓reduceIte, ↓zi_aload_n, ↓zi_bipush, ↓zi_iconst, ↓zi_ifCond, ↓zi_ireturn, ↓zi_ldc, zcmp_ne, zcmp_eq, ↓zpl_e pX11_168, ↓zo_80_0, ↓zo_80_1, ↓zo_80_2, ↓zo_80_3, ↓zo_80_4, ↓zo_80_5, ↓zo_80_6, ↓zo_80_7, ↓zo_80_8, ↓zo_80_9, ↓zo_80_10, ↓zo_80_11, ↓zo_80_12, ↓zo_80_13, ↓zo_80_14, ↓zo_80_15, ↓zo_80_16, ↓zo_80_17, ↓zo_80_18, ↓zo_80_19, ↓zo_80_20, ↓zo_80_21, ↓zo_80_22, ↓zo_80_23, ↓zo_80_24, bX11_readAllOf_0, bX11_readAllOf_9, bX11_readAllOf_35, bX11_readAllOf_37, List.size_toArray, zent_n, zent_c, zst_e, zfi0, zfi1, zfi2, zfi3, zcast, Nat.reduceAdd, Nat.reduceSub, Nat.reduceEqDiff, Nat.reduceLT, Nat.reduceLeDiff, Int.reduceAdd, Int.reduceSub, Int.reduceMul, Int.reduceToNat, Int.reduceLE, Int.reduceLT, Int.reduceEq, Int.reduceNeg, Int.reduceNegSucc, Nat.reduceMul, List.zip_cons_cons, List.zip_nil_left, List.zip_nil_right, Int.toNat_natCast, true_and, and_true, eq_self, ne_eq, not_false_eq_true, not_true_eq_false, forall_const, implies_true, false_and, true_or, or_true, false_or, or_false, imp_self, CX11_readAllOf, ↓zv_cm (cv := zCf (VX11_readAllOf d)) (k := 151) (h := (rfl : zCf (VX11_readAllOf d) 151 = some CX11_passes)), ↓zv_cm (cv := zCf (VX11_readAllOf d)) (k := 154) (h := (rfl : zCf (VX11_readAllOf d) 154 = some (CX11_readAtom (d)))), ↓zv_cm (cv := zCf (VX11_readAllOf d)) (k := 157) (h := (rfl : zCf (VX11_readAllOf d) 157 = some CX11_emits)), and_imp, exists_eq_left, exists_eq_left', exists_eq_right, exists_eq_right', exists_and_left, exists_and_right, Prod.mk.injEq, zAdd_e, zSub_e, zMul_e, zres_0, zres_4, zres_1, zres_9, zrt_0, zrt_4, zrt_1, zrt_9, List.take_succ_cons, List.take_zero, List.drop_succ_cons, List.drop_zero, List.map_cons, List.map_nil, List.reverse_cons, List.reverse_nil, List.nil_append, List.cons_append, List.length_cons, List.length_nil, zPr_c, List.mem_cons, List.not_mem_nil, ↓zIV_e, zcats, List.sum_cons, List.sum_nil, zpu, zfu, zset_e, zbm, ↓zc_ne00, ↓zc_ne01, ↓zc_ne10, ↓zc_ne11, ↓zc_eq00, ↓zc_eq01, ↓zc_eq10, ↓zc_eq11, zs_80_81, zs_83_81, zs_84_81, zs_85_81, zs_86_81, zs_87_81, zs_88_81, zs_89_81, zs_90_81, zs_91_81, zs_92_81, zs_93_81, h0]
    obtain ⟨g1, g2⟩ := hp0
    have hG1 := hc0.1
    have hg := hG1
    unfold zGd at hg
    have e9 : mem1 80 9 = d := hc0.2.1
    refine ⟨⟨by omega, by omega, by omega⟩, ?_⟩
    intro m2 _
    refine ⟨fun k1 k2 k3 k4 => ?_, fun k1 k2 k3 k4 => zAt_on hc0 k1 k2 (by omega) k4⟩
    rw [zLv_27] at k3
    have G2 := zGd_on hG1 k1 k2 (by omega) k4
    have e92 : m2 80 9 = mem1 80 9 := zK_9 k1
    refine ⟨⟨G2, by omega⟩, ?_⟩
    intro m3 _
    refine ⟨fun h3 => ?_, fun h3 => ?_⟩
    · have g3 := h3.1
      unfold zGd at g3
      have l6 := h3.2.2.2.2.2
      have l := zHs_lt h3.2.2.2.2.1
      refine ⟨⟨by omega, by omega⟩, ?_⟩
      intro m4 _
      refine ⟨fun h4 => ?_, fun z => z.elim⟩
      have A := zAt_and (w := 18) g1 hc0 k1 (by omega) h3 (by omega)
      rw [← h4] at A
      have e6 : m4 80 6 = m3 80 6 := by rw [h4]; exact zEm_o (by omega)
      exact ⟨nn - 1, by omega, A, by omega⟩
    · exact zKp_tr (zKp_tr (zKp_DX hc0.2.2.1) (zKp_KX k1)) h3
  · simp (maxSteps := 3000000) only [↓zwp_s, zrun_n, zrun_c, zgo_any, zgo_bel, ↓zgA_n, ↓zgA_c, ↓zgB_n, ↓zgB_c, ↓zp1_c, ↓zpv_c, ↓ztg_e, ↓zFv_r, ↓zFv_i, ↓zFv_z, ↓reduceIte, ↓zi_aload_n, ↓zi_bipush, ↓zi_iconst, ↓zi_ifCond, ↓zi_ireturn, ↓zi_ldc, zcmp_ne, zcmp_eq, ↓zpl_e pX11_168, ↓zo_80_0, ↓zo_80_1, ↓zo_80_2, ↓zo_80_3, ↓zo_80_4, ↓zo_80_5, ↓zo_80_6, ↓zo_80_7, ↓zo_80_8, ↓zo_80_9, ↓zo_80_10, ↓zo_80_11, ↓zo_80_12, ↓zo_80_13, ↓zo_80_14, ↓zo_80_15, ↓zo_80_16, ↓zo_80_17, ↓zo_80_18, ↓zo_80_19, ↓zo_80_20, ↓zo_80_21, ↓zo_80_22, ↓zo_80_23, ↓zo_80_24, bX11_readAllOf_0, bX11_readAllOf_9, bX11_readAllOf_35, bX11_readAllOf_37, List.size_toArray, zent_n, zent_c, zst_e, zfi0, zfi1, zfi2, zfi3, zcast, Nat.reduceAdd, Nat.reduceSub, Nat.reduceEqDiff, Nat.reduceLT, Nat.reduceLeDiff, Int.reduceAdd, Int.reduceSub, Int.reduceMul, Int.reduceToNat, Int.reduceLE, Int.reduceLT, Int.reduceEq, Int.reduceNeg, Int.reduceNegSucc, Nat.reduceMul, List.zip_cons_cons, List.zip_nil_left, List.zip_nil_right, Int.toNat_natCast, true_and, and_true, eq_self, ne_eq, not_false_eq_true, not_true_eq_false, forall_const, implies_true, false_and, true_or, or_true, false_or, or_false, imp_self, CX11_readAllOf, ↓zv_cm (cv := zCf (VX11_readAllOf d)) (k := 151) (h := (rfl : zCf (VX11_readAllOf d) 151 = some CX11_passes)), ↓zv_cm (cv := zCf (VX11_readAllOf d)) (k := 154) (h := (rfl : zCf (VX11_readAllOf d) 154 = some (CX11_readAtom (d)))), ↓zv_cm (cv := zCf (VX11_readAllOf d)) (k := 157) (h := (rfl : zCf (VX11_readAllOf d) 157 = some CX11_emits)), and_imp, exists_eq_left, exists_eq_left', exists_eq_right, exists_eq_right', exists_and_left, exists_and_right, Prod.mk.injEq, zAdd_e, zSub_e, zMul_e, zres_0, zres_4, zres_1, zres_9, zrt_0, zrt_4, zrt_1, zrt_9, List.take_succ_cons, List.take_zero, List.drop_succ_cons, List.drop_zero, List.map_cons, List.map_nil, List.reverse_cons, List.reverse_nil, List.nil_append, List.cons_append, List.length_cons, List.length_nil, zPr_c, List.mem_cons, List.not_mem_nil, ↓zIV_e, zcats, List.sum_cons, List.sum_nil, zpu, zfu, zset_e, zbm, ↓zc_ne00, ↓zc_ne01, ↓zc_ne10, ↓zc_ne11, ↓zc_eq00, ↓zc_eq01, ↓zc_eq10, ↓zc_eq11, zs_80_81, zs_83_81, zs_84_81, zs_85_81, zs_86_81, zs_87_81, zs_88_81, zs_89_81, zs_90_81, zs_91_81, zs_92_81, zs_93_81]
    exact ⟨hp0, fun m2 _ h => ⟨h, _, Nat.le_refl _⟩⟩
def VX11_readCond (d : Int) : List (Nat × zCt) := [(151, CX11_passes), (157, CX11_emits), (170, (CX11_readAllOf (d)))]
def SX11_readCond (_d : Int) : List (Nat × zCt) := []
set_option maxHeartbeats 4000000 in
set_option maxRecDepth 100000 in
theorem mX11_readCond (l : Launch) (d : Int) (LV : Nat) (hLV : 30 ≤ LV) (L_readAllOf : Nat) (hl_readAllOf : L_readAllOf < LV) (h_readAllOf : zMet l zLay yX11_readAllOf cX11_readAllOf 1 (some .boolean) L_readAllOf (CX11_readAllOf (d)).1 (CX11_readAllOf (d)).2.1 (CX11_readAllOf (d)).2.2.1 (CX11_readAllOf (d)).2.2.2) : zMet l zLay yX11_readCond cX11_readCond 1 (some .boolean) LV (CX11_readCond d).1 (CX11_readCond d).2.1 (CX11_readCond d).2.2.1 (CX11_readCond d).2.2.2 := by
  refine zMet_of (pl := zPlf PX11) (cv := zCf (VX11_readCond d)) (cS := zCf (SX11_readCond d)) (B := zBf BX11_readCond) (F := 80) (own := RX11) (by decide +kernel) rfl (Or.inr (Or.inl ⟨rfl, rfl⟩)) (fun vs h => by obtain ⟨t, rfl⟩ := zlen1 h; exact Nat.le_of_ble_eq_true rfl) PX11_ok zClok_ok zSyok_ok oX11_readCond (zAllC_e (zAllC_c (Or.inl (zcal_v (mX11_passes l) (by omega) (by decide) hX11_passes kX11_151 ⟨by decide, by decide +kernel⟩ (ci := 11) rfl rfl rfl)) (zAllC_c (Or.inl (zcal_v (mX11_emits l) (by omega) (by decide) hX11_emits kX11_157 ⟨by decide, by decide +kernel⟩ (ci := 11) rfl rfl rfl)) (zAllC_c (Or.inl (zcal_v h_readAllOf hl_readAllOf (by decide) hX11_readAllOf kX11_170 ⟨by decide, by decide +kernel⟩ (ci := 11) rfl rfl rfl)) (zAllC_n))))) (zAllC_e (zAllC_n)) ?_
  intro vs mem hvl hok hm hpre
  obtain ⟨t, rfl⟩ := zlen1 hvl
  clear hok hvl
  obtain ⟨hid, hpre⟩ := hpre
  simp only [List.mem_cons, List.not_mem_nil, or_false] at hid
  have hp0 : zGd mem ∧ mem 80 9 = d := hpre
  subst hid
  refine ⟨zIf [(9, (fun nq ls st m => ls 0 = (2, 80) ∧ st = [] ∧ ((zAtd d mem m) ∧ True ∧ (400 - m 80 6).toNat ≤ nq)))], zAllI_e (zAllI_c ?_ (zAllI_n)), ?_⟩
  · intro nn ls st mem1 hm1 hl1 hJ
    obtain ⟨h0, rfl, hc⟩ := hJ
    
    obtain ⟨hc0, hc1, hc2⟩ := hc
    simp (maxSteps := 3000000) only [↓zwp_s, zrun_n, zrun_c, zgo_any, zgo_bel, ↓zgA_n, ↓zgA_c, ↓zgB_n, ↓zgB_c, ↓zp1_c, ↓zpv_c, ↓ztg_e, ↓zFv_r, ↓zFv_i, ↓zFv_z, ↓reduceIte, ↓zi_aload_n, ↓zi_bipush, ↓zi_iconst, ↓zi_ifCond, ↓zi_ireturn, ↓zi_ldc, zcmp_ne, zcmp_eq, ↓zpl_e pX11_173, ↓zo_80_0, ↓zo_80_1, ↓zo_80_2, ↓zo_80_3, ↓zo_80_4, ↓zo_80_5, ↓zo_80_6, ↓zo_80_7, ↓zo_80_8, ↓zo_80_9, ↓zo_80_10, ↓zo_80_11, ↓zo_80_12, ↓zo_80_13, ↓zo_80_14, ↓zo_80_15, ↓zo_80_16, ↓zo_80_17, ↓zo_80_18, ↓zo_80_19, ↓zo_80_20, ↓zo_80_21, ↓zo_80_22, ↓zo_80_23, ↓zo_80_24, bX11_readCond_0, bX11_readCond_9, bX11_readCond_35, bX11_readCond_37, List.size_toArray, zent_n, zent_c, zst_e, zfi0, zfi1, zfi2, zfi3, zcast, Nat.reduceAdd, Nat.reduceSub, Nat.reduceEqDiff, Nat.reduceLT, Nat.reduceLeDiff, Int.reduceAdd, Int.reduceSub, Int.reduceMul, Int.reduceToNat, Int.reduceLE, Int.reduceLT, Int.reduceEq, Int.reduceNeg, Int.reduceNegSucc, Nat.reduceMul, List.zip_cons_cons, List.zip_nil_left, List.zip_nil_right, Int.toNat_natCast, true_and, and_true, eq_self, ne_eq, not_false_eq_true, not_true_eq_false, forall_const, implies_true, false_and, true_or, or_true, false_or, or_false, imp_self, CX11_readCond, ↓zv_cm (cv := zCf (VX11_readCond d)) (k := 151) (h := (rfl : zCf (VX11_readCond d) 151 = some CX11_passes)), ↓zv_cm (cv := zCf (VX11_readCond d)) (k := 157) (h := (rfl : zCf (VX11_readCond d) 157 = some CX11_emits)), ↓zv_cm (cv := zCf (VX11_readCond d)) (k := 170) (h := (rfl : zCf (VX11_readCond d) 170 = some (CX11_readAllOf (d)))), and_imp, exists_eq_left, exists_eq_left', exists_eq_right, exists_eq_right', exists_and_left, exists_and_right, Prod.mk.injEq, zAdd_e, zSub_e, zMul_e, zres_0, zres_4, zres_1, zres_9, zrt_0, zrt_4, zrt_1, zrt_9, List.take_succ_cons, List.take_zero, List.drop_succ_cons, List.drop_zero, List.map_cons, List.map_nil, List.reverse_cons, List.reverse_nil, List.nil_append, List.cons_append, List.length_cons, List.length_nil, zPr_c, List.mem_cons, List.not_mem_nil, ↓zIV_e, zcats, List.sum_cons, List.sum_nil, zpu, zfu, zset_e, zbm, ↓zc_ne00, ↓zc_ne01, ↓zc_ne10, ↓zc_ne11, ↓zc_eq00, ↓zc_eq01, ↓zc_eq10, ↓zc_eq11, zs_80_81, zs_83_81, zs_84_81, zs_85_81, zs_86_81, zs_87_81, zs_88_81, zs_89_81, zs_90_81, zs_91_81, zs_92_81, zs_93_81, h0]
    obtain ⟨g1, g2⟩ := hp0
    have hG1 := hc0.1
    have hg := hG1
    unfold zGd at hg
    have e9 : mem1 80 9 = d := hc0.2.1
    refine ⟨⟨by omega, by omega, by omega⟩, ?_⟩
    intro m2 _
    refine ⟨fun k1 k2 k3 k4 => ?_, fun k1 k2 k3 k4 => zAt_on hc0 k1 k2 (by omega) k4⟩
    rw [zLv_28] at k3
    have G2 := zGd_on hG1 k1 k2 (by omega) k4
    have e92 : m2 80 9 = mem1 80 9 := zK_9 k1
    refine ⟨⟨G2, by omega⟩, ?_⟩
    intro m3 _
    refine ⟨fun h3 => ?_, fun h3 => ?_⟩
    · have g3 := h3.1
      unfold zGd at g3
      have l6 := h3.2.2.2.2.2
      have l := zHs_lt h3.2.2.2.2.1
      refine ⟨⟨by omega, by omega⟩, ?_⟩
      intro m4 _
      refine ⟨fun h4 => ?_, fun z => z.elim⟩
      have A := zAt_and (w := 19) g1 hc0 k1 (by omega) h3 (by omega)
      rw [← h4] at A
      have e6 : m4 80 6 = m3 80 6 := by rw [h4]; exact zEm_o (by omega)
      exact ⟨nn - 1, by omega, A, by omega⟩
    · exact zKp_tr (zKp_tr (zKp_DX hc0.2.2.1) (zKp_KX k1)) h3
  · simp (maxSteps := 3000000) only [↓zwp_s, zrun_n, zrun_c, zgo_any, zgo_bel, ↓zgA_n, ↓zgA_c, ↓zgB_n, ↓zgB_c, ↓zp1_c, ↓zpv_c, ↓ztg_e, ↓zFv_r, ↓zFv_i, ↓zFv_z, ↓reduceIte, ↓zi_aload_n, ↓zi_bipush, ↓zi_iconst, ↓zi_ifCond, ↓zi_ireturn, ↓zi_ldc, zcmp_ne, zcmp_eq, ↓zpl_e pX11_173, ↓zo_80_0, ↓zo_80_1, ↓zo_80_2, ↓zo_80_3, ↓zo_80_4, ↓zo_80_5, ↓zo_80_6, ↓zo_80_7, ↓zo_80_8, ↓zo_80_9, ↓zo_80_10, ↓zo_80_11, ↓zo_80_12, ↓zo_80_13, ↓zo_80_14, ↓zo_80_15, ↓zo_80_16, ↓zo_80_17, ↓zo_80_18, ↓zo_80_19, ↓zo_80_20, ↓zo_80_21, ↓zo_80_22, ↓zo_80_23, ↓zo_80_24, bX11_readCond_0, bX11_readCond_9, bX11_readCond_35, bX11_readCond_37, List.size_toArray, zent_n, zent_c, zst_e, zfi0, zfi1, zfi2, zfi3, zcast, Nat.reduceAdd, Nat.reduceSub, Nat.reduceEqDiff, Nat.reduceLT, Nat.reduceLeDiff, Int.reduceAdd, Int.reduceSub, Int.reduceMul, Int.reduceToNat, Int.reduceLE, Int.reduceLT, Int.reduceEq, Int.reduceNeg, Int.reduceNegSucc, Nat.reduceMul, List.zip_cons_cons, List.zip_nil_left, List.zip_nil_right, Int.toNat_natCast, true_and, and_true, eq_self, ne_eq, not_false_eq_true, not_true_eq_false, forall_const, implies_true, false_and, true_or, or_true, false_or, or_false, imp_self, CX11_readCond, ↓zv_cm (cv := zCf (VX11_readCond d)) (k := 151) (h := (rfl : zCf (VX11_readCond d) 151 = some CX11_passes)), ↓zv_cm (cv := zCf (VX11_readCond d)) (k := 157) (h := (rfl : zCf (VX11_readCond d) 157 = some CX11_emits)), ↓zv_cm (cv := zCf (VX11_readCond d)) (k := 170) (h := (rfl : zCf (VX11_readCond d) 170 = some (CX11_readAllOf (d)))), and_imp, exists_eq_left, exists_eq_left', exists_eq_right, exists_eq_right', exists_and_left, exists_and_right, Prod.mk.injEq, zAdd_e, zSub_e, zMul_e, zres_0, zres_4, zres_1, zres_9, zrt_0, zrt_4, zrt_1, zrt_9, List.take_succ_cons, List.take_zero, List.drop_succ_cons, List.drop_zero, List.map_cons, List.map_nil, List.reverse_cons, List.reverse_nil, List.nil_append, List.cons_append, List.length_cons, List.length_nil, zPr_c, List.mem_cons, List.not_mem_nil, ↓zIV_e, zcats, List.sum_cons, List.sum_nil, zpu, zfu, zset_e, zbm, ↓zc_ne00, ↓zc_ne01, ↓zc_ne10, ↓zc_ne11, ↓zc_eq00, ↓zc_eq01, ↓zc_eq10, ↓zc_eq11, zs_80_81, zs_83_81, zs_84_81, zs_85_81, zs_86_81, zs_87_81, zs_88_81, zs_89_81, zs_90_81, zs_91_81, zs_92_81, zs_93_81]
    exact ⟨hp0, fun m2 _ h => ⟨h, _, Nat.le_refl _⟩⟩
