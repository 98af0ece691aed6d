def CX11_readOrder (d : Int) : zCt := ([2], 4, zPr [80] (fun vs mem => match vs with | [t] => (zGd mem ∧ mem 80 9 = d) | _ => False), zbm (fun vs mem mem' => match vs with | [t] => (zRw d d 0 mem mem') | _ => False) (fun vs mem mem' => match vs with | [t] => (zKp zpX mem mem') | _ => False))
def CX11_readRow (d : Int) : zCt := ([2], 4, zPr [80] (fun vs mem => match vs with | [t] => (zGd mem ∧ mem 80 9 = d) | _ => False), zbm (fun vs mem mem' => match vs with | [t] => (zRw d d 0 mem mem') | _ => False) (fun vs mem mem' => match vs with | [t] => (zKp zpX mem mem') | _ => False))
def CX11_readAgain (d : Int) : zCt := ([2], 4, zPr [80] (fun vs mem => match vs with | [t] => (zGd mem ∧ mem 80 9 = d ∧ 2 * mem 80 12 + 2 ≤ mem 80 6) | _ => False), zbm (fun vs mem mem' => match vs with | [t] => (zRw d d 2 mem mem') | _ => False) (fun vs mem mem' => match vs with | [t] => (zKp zpX mem mem') | _ => False))
def CX11_readTest (d : Int) : zCt := ([2, 0], 4, zPr [80] (fun vs mem => match vs with | [t, z] => ((z = 0 ∨ z = 1) ∧ zGd mem ∧ mem 80 9 = d ∧ 2 * mem 80 12 + 2 ≤ mem 80 6) | _ => False), zbm (fun vs mem mem' => match vs with | [t, z] => (zRw d d 2 mem mem') | _ => False) (fun vs mem mem' => match vs with | [t, z] => (zKp zpX mem mem') | _ => False))
def VX11_readAgain (d : Int) : List (Nat × zCt) := [(146, CX11_closes), (165, CX11_number), (183, CX11_puts), (187, CX11_opens), (190, (CX11_readRow (d + 1)))]
def SX11_readAgain (_d : Int) : List (Nat × zCt) := []
set_option maxHeartbeats 4000000 in
set_option maxRecDepth 100000 in
theorem mX11_readAgain (l : Launch) (d : Int) (LV : Nat) (hLV : 30 ≤ LV) (L_readRow : Nat) (hl_readRow : L_readRow < LV) (h_readRow : zMet l zLay yX11_readRow cX11_readRow 1 (some .boolean) L_readRow (CX11_readRow (d + 1)).1 (CX11_readRow (d + 1)).2.1 (CX11_readRow (d + 1)).2.2.1 (CX11_readRow (d + 1)).2.2.2) : zMet l zLay yX11_readAgain cX11_readAgain 3 (some .boolean) LV (CX11_readAgain d).1 (CX11_readAgain d).2.1 (CX11_readAgain d).2.2.1 (CX11_readAgain d).2.2.2 := by
  refine zMet_of (pl := zPlf PX11) (cv := zCf (VX11_readAgain d)) (cS := zCf (SX11_readAgain d)) (B := zBf BX11_readAgain) (F := 80) (own := RX11) (by decide +kernel) rfl (Or.inr (Or.inl ⟨rfl, rfl⟩)) (fun vs h => by obtain ⟨t, rfl⟩ := zlen1 h; exact Nat.le_of_ble_eq_true rfl) PX11_ok zClok_ok zSyok_ok oX11_readAgain (zAllC_e (zAllC_c (Or.inl (zcal_v (mX11_closes l) (by omega) (by decide) hX11_closes kX11_146 ⟨by decide, by decide +kernel⟩ (ci := 11) rfl rfl rfl)) (zAllC_c (Or.inl (zcal_v (mX11_number l) (by omega) (by decide) hX11_number kX11_165 ⟨by decide, by decide +kernel⟩ (ci := 11) rfl rfl rfl)) (zAllC_c (Or.inl (zcal_v (mX11_puts l) (by omega) (by decide) hX11_puts kX11_183 ⟨by decide, by decide +kernel⟩ (ci := 11) rfl rfl rfl)) (zAllC_c (Or.inl (zcal_v (mX11_opens l) (by omega) (by decide) hX11_opens kX11_187 ⟨by decide, by decide +kernel⟩ (ci := 11) rfl rfl rfl)) (zAllC_c (Or.inl (zcal_v h_readRow hl_readRow (by decide) hX11_readRow kX11_190 ⟨by decide, by decide +kernel⟩ (ci := 11) rfl rfl rfl)) (zAllC_n))))))) (zAllC_e (zAllC_n)) ?_
  intro vs mem hvl hok hm hpre
  obtain ⟨t, rfl⟩ := zlen1 hvl
  clear hok hvl
  obtain ⟨hid, hpre⟩ := hpre
  simp only [List.mem_cons, List.not_mem_nil, or_false] at hid
  have hp0 : zGd mem ∧ mem 80 9 = d ∧ 2 * mem 80 12 + 2 ≤ mem 80 6 := hpre
  subst hid
  refine ⟨zIf [], zAllI_e zAllI_n, ?_⟩
  simp (maxSteps := 3000000) only [↓zwp_s, zrun_n, zrun_c, zgo_any, zgo_bel, ↓zgA_n, ↓zgA_c, ↓zgB_n, ↓zgB_c, ↓zp1_c, ↓zpv_c, ↓ztg_e, ↓zFv_r, ↓zFv_i, ↓zFv_z, ↓reduceIte, ↓zi_aload_n, ↓zi_bipush, ↓zi_iconst, ↓zi_ifCond, ↓zi_iload_n, ↓zi_ireturn, ↓zi_istore_n, ↓zi_pop, zcmp_ge, zcmp_eq, zcmp_ne, ↓zo_80_0, ↓zo_80_1, ↓zo_80_2, ↓zo_80_3, ↓zo_80_4, ↓zo_80_5, ↓zo_80_6, ↓zo_80_7, ↓zo_80_8, ↓zo_80_9, ↓zo_80_10, ↓zo_80_11, ↓zo_80_12, ↓zo_80_13, ↓zo_80_14, ↓zo_80_15, ↓zo_80_16, ↓zo_80_17, ↓zo_80_18, ↓zo_80_19, ↓zo_80_20, ↓zo_80_21, ↓zo_80_22, ↓zo_80_23, ↓zo_80_24, bX11_readAgain_0, bX11_readAgain_14, bX11_readAgain_48, bX11_readAgain_50, List.size_toArray, zent_n, zent_c, zst_e, zfi0, zfi1, zfi2, zfi3, zcast, Nat.reduceAdd, Nat.reduceSub, Nat.reduceEqDiff, Nat.reduceLT, Nat.reduceLeDiff, Int.reduceAdd, Int.reduceSub, Int.reduceMul, Int.reduceToNat, Int.reduceLE, Int.reduceLT, Int.reduceEq, Int.reduceNeg, Int.reduceNegSucc, Nat.reduceMul, List.zip_cons_cons, List.zip_nil_left, List.zip_nil_right, Int.toNat_natCast, true_and, and_true, eq_self, ne_eq, not_false_eq_true, not_true_eq_false, forall_const, implies_true, false_and, true_or, or_true, false_or, or_false, imp_self, CX11_readAgain, ↓zv_cm (cv := zCf (VX11_readAgain d)) (k := 146) (h := (rfl : zCf (VX11_readAgain d) 146 = some CX11_closes)), ↓zv_cg (cv := zCf (VX11_readAgain d)) (k := 165) (h := (rfl : zCf (VX11_readAgain d) 165 = some CX11_number)), ↓zv_cg (cv := zCf (VX11_readAgain d)) (k := 183) (h := (rfl : zCf (VX11_readAgain d) 183 = some CX11_puts)), ↓zv_cm (cv := zCf (VX11_readAgain d)) (k := 187) (h := (rfl : zCf (VX11_readAgain d) 187 = some CX11_opens)), ↓zv_cm (cv := zCf (VX11_readAgain d)) (k := 190) (h := (rfl : zCf (VX11_readAgain d) 190 = some (CX11_readRow (d + 1)))), and_imp, exists_eq_left, exists_eq_left', exists_eq_right, exists_eq_right', exists_and_left, exists_and_right, Prod.mk.injEq, zAdd_e, zSub_e, zMul_e, zres_0, zres_4, zres_1, zres_9, zrt_0, zrt_4, zrt_1, zrt_9, List.take_succ_cons, List.take_zero, List.drop_succ_cons, List.drop_zero, List.map_cons, List.map_nil, List.reverse_cons, List.reverse_nil, List.nil_append, List.cons_append, List.length_cons, List.length_nil, zPr_c, List.mem_cons, List.not_mem_nil, ↓zIV_e, zcats, List.sum_cons, List.sum_nil, zpu, zfu, zset_e, zdt, zbm, ↓zc_ne00, ↓zc_ne01, ↓zc_ne10, ↓zc_ne11, ↓zc_eq00, ↓zc_eq01, ↓zc_eq10, ↓zc_eq11, zs_80_81, zs_83_81, zs_84_81, zs_85_81, zs_86_81, zs_87_81, zs_88_81, zs_89_81, zs_90_81, zs_91_81, zs_92_81, zs_93_81]
  obtain ⟨g1, g2, g3⟩ := hp0
  have hg := g1
  unfold zGd at hg
  refine ⟨⟨by omega, by omega, by omega⟩, ?_⟩
  intro n m1 _ _ _ hn k1 k2 k3 k4
  have K1x := zKp_KX k1
  have G1 := zGd_on g1 k1 k2 (by omega) k4
  have gg1 := G1
  unfold zGd at gg1
  have e9 := zK_9 k1
  have e12 : m1 80 12 = mem 80 12 := k1 80 12 (by unfold zpK; omega)
  refine ⟨fun h0 => ?_, fun _ => K1x⟩
  refine ⟨⟨by omega, by omega⟩, ?_⟩
  intro r M1 _ _ _ hr hM
  have hM1 : M1 = zPu m1 8 n 0 := hM
  have M1p6 : M1 80 6 = m1 80 6 := by rw [hM1]; exact zPu_o (by omega)
  have M1p7 : M1 80 7 = m1 80 7 := by rw [hM1]; exact zPu_o (by omega)
  have M1p8 : M1 80 8 = m1 80 8 := by rw [hM1]; exact zPu_o (by omega)
  have M1p9 : M1 80 9 = m1 80 9 := by rw [hM1]; exact zPu_o (by omega)
  have M1p13 : M1 80 13 = m1 80 13 := by rw [hM1]; exact zPu_o (by omega)
  have M1p12 : M1 80 12 = m1 80 12 + 1 := by rw [hM1]; exact zPu_12
  have GM1 : zGd M1 := by rw [hM1]; exact zPu_G G1 (by omega)
  have XM : zKp zpX mem M1 := by rw [hM1]; exact zPu_X K1x (by omega)
  refine ⟨⟨by omega, by omega, by omega, by omega, by omega⟩, ?_⟩
  intro m2 _
  refine ⟨fun o1 o2 o3 o4 o5 o6 => ?_, fun o1 => zKp_tr XM (zKp_OX o1)⟩
  have X2 : zKp zpX mem m2 := zKp_tr XM (zKp_OX o1)
  have o7 := o1 80 7 (by unfold zpO; omega)
  have o12 := o1 80 12 (by unfold zpO; omega)
  have o13 := o1 80 13 (by unfold zpO; omega)
  have gM1 := GM1
  unfold zGd at gM1
  have G2 : zGd m2 := by unfold zGd; omega
  refine ⟨⟨G2, by omega⟩, ?_⟩
  intro m3 _
  refine ⟨fun q3 => ?_, fun q3 => zKp_tr X2 q3⟩
  have gq := q3.1
  unfold zGd at gq
  have d3 := q3.2.1
  refine ⟨⟨by omega, by omega, by omega, by omega, by omega⟩, ?_⟩
  intro m4 _
  refine ⟨fun c1 c2 c3 c4 c5 => ?_, fun c1 => zKp_tr (zKp_tr X2 (zKp_DX q3.2.2.1)) (zKp_OX c1)⟩
  have B := zRw_br (d := d) GM1 (by omega) o1 o2 o3 q3 c1 c2 c3 c4 c5
  have gB := B.1
  unfold zGd at gB
  have r4 := B.2.2.2.1
  rw [hM1] at B
  refine ⟨⟨by omega, by omega⟩, ?_⟩
  intro r5 M5 _ _ _ hr5 hM5
  have h5 : M5 = zPu m4 11 (m1 80 12) 0 := by rw [← hr]; exact hM5
  rw [h5]
  exact zRw_again g1 g2 (by omega) g3 k1 (by omega) B
def VX11_readTest (d : Int) : List (Nat × zCt) := [(143, (CX11_readCond (d))), (146, CX11_closes), (183, CX11_puts), (187, CX11_opens), (190, (CX11_readRow (d + 1)))]
def SX11_readTest (_d : Int) : List (Nat × zCt) := [(106, CX11_opAt)]
set_option maxHeartbeats 4000000 in
set_option maxRecDepth 100000 in
theorem mX11_readTest (l : Launch) (d : Int) (LV : Nat) (hLV : 30 ≤ LV) (L_readCond : Nat) (hl_readCond : L_readCond < LV) (h_readCond : zMet l zLay yX11_readCond cX11_readCond 1 (some .boolean) L_readCond (CX11_readCond (d)).1 (CX11_readCond (d)).2.1 (CX11_readCond (d)).2.2.1 (CX11_readCond (d)).2.2.2) (L_readRow : Nat) (hl_readRow : L_readRow < LV) (h_readRow : zMet l zLay yX11_readRow cX11_readRow 1 (some .boolean) L_readRow (CX11_readRow (d + 1)).1 (CX11_readRow (d + 1)).2.1 (CX11_readRow (d + 1)).2.2.1 (CX11_readRow (d + 1)).2.2.2) : zMet l zLay yX11_readTest cX11_readTest 4 (some .boolean) LV (CX11_readTest d).1 (CX11_readTest d).2.1 (CX11_readTest d).2.2.1 (CX11_readTest d).2.2.2 := by
  refine zMet_of (pl := zPlf PX11) (cv := zCf (VX11_readTest d)) (cS := zCf (SX11_readTest d)) (B := zBf BX11_readTest) (F := 80) (own := RX11) (by decide +kernel) rfl (Or.inr (Or.inl ⟨rfl, rfl⟩)) (fun vs h => by obtain ⟨t, z, rfl⟩ := zlen2 h; exact Nat.le_of_ble_eq_true rfl) PX11_ok zClok_ok zSyok_ok oX11_readTest (zAllC_e (zAllC_c (Or.inl (zcal_v h_readCond hl_readCond (by decide) hX11_readCond kX11_143 ⟨by decide, by decide +kernel⟩ (ci := 11) rfl rfl rfl)) (zAllC_c (Or.inl (zcal_v (mX11_closes l) (by omega) (by decide) hX11_closes kX11_146 ⟨by decide, by decide +kernel⟩ (ci := 11) rfl rfl rfl)) (zAllC_c (Or.inl (zcal_v (mX11_puts l) (by omega) (by decide) hX11_puts kX11_183 ⟨by decide, by decide +kernel⟩ (ci := 11) rfl rfl rfl)) (zAllC_c (Or.inl (zcal_v (mX11_opens l) (by omega) (by decide) hX11_opens kX11_187 ⟨by decide, by decide +kernel⟩ (ci := 11) rfl rfl rfl)) (zAllC_c (Or.inl (zcal_v h_readRow hl_readRow (by decide) hX11_readRow kX11_190 ⟨by decide, by decide +kernel⟩ (ci := 11) rfl rfl rfl)) (zAllC_n))))))) (zAllC_e (zAllC_c (zcal_s (mX11_opAt l) (by omega) (by decide) hX11_opAt kX11_106 ⟨by decide, by decide +kernel⟩) (zAllC_n))) ?_
  intro vs mem hvl hok hm hpre
  obtain ⟨t, z, rfl⟩ := zlen2 hvl
  have hr_z : -2147483648 ≤ z ∧ z ≤ 2147483647 := (hok (0, z) (by simp [CX11_readTest])).1 rfl
  clear hok hvl
  obtain ⟨hid, hpre⟩ := hpre
  simp only [List.mem_cons, List.not_mem_nil, or_false] at hid
  have hp0 : (z = 0 ∨ z = 1) ∧ zGd mem ∧ mem 80 9 = d ∧ 2 * mem 80 12 + 2 ≤ mem 80 6 := hpre
  obtain ⟨hz, hp1⟩ := hp0
  subst hid
  rcases hz with rfl | rfl
  · refine ⟨zIf [], zAllI_e zAllI_n, ?_⟩
    simp (maxSteps := 3000000) only [↓zwp_s, zrun_n, zrun_c, zgo_any, zgo_bel, ↓zgA_n, ↓zgA_c, ↓zgB_n, ↓zgB_c, ↓zp1_c, ↓zpv_c, ↓ztg_e, ↓zFv_r, ↓zFv_i, ↓zFv_z, ↓reduceIte, ↓zi_aload_n, ↓zi_bipush, ↓zi_getfield, ↓zi_goto, ↓zi_iadd, ↓zi_iastore, ↓zi_iconst, ↓zi_ifCond, ↓zi_iload_n, ↓zi_imul, ↓zi_ireturn, ↓zi_istore_n, ↓zi_pop, ↓zi_sipush, zcmp_eq, zcmp_ne, ↓zpl_e pX11_13, ↓zpl_e pX11_103, ↓zpl_e pX11_110, ↓zo_80_0, ↓zo_80_1, ↓zo_80_2, ↓zo_80_3, ↓zo_80_4, ↓zo_80_5, ↓zo_80_6, ↓zo_80_7, ↓zo_80_8, ↓zo_80_9, ↓zo_80_10, ↓zo_80_11, ↓zo_80_12, ↓zo_80_13, ↓zo_80_14, ↓zo_80_15, ↓zo_80_16, ↓zo_80_17, ↓zo_80_18, ↓zo_80_19, ↓zo_80_20, ↓zo_80_21, ↓zo_80_22, ↓zo_80_23, ↓zo_80_24, ↓za_81, bX11_readTest_0, bX11_readTest_13, bX11_readTest_27, bX11_readTest_37, bX11_readTest_39, bX11_readTest_79, bX11_readTest_81, bX11_readTest_94, List.size_toArray, zent_n, zent_c, zst_e, zfi0, zfi1, zfi2, zfi3, zcast, Nat.reduceAdd, Nat.reduceSub, Nat.reduceEqDiff, Nat.reduceLT, Nat.reduceLeDiff, Int.reduceAdd, Int.reduceSub, Int.reduceMul, Int.reduceToNat, Int.reduceLE, Int.reduceLT, Int.reduceEq, Int.reduceNeg, Int.reduceNegSucc, Nat.reduceMul, List.zip_cons_cons, List.zip_nil_left, List.zip_nil_right, Int.toNat_natCast, true_and, and_true, eq_self, ne_eq, not_false_eq_true, not_true_eq_false, forall_const, implies_true, false_and, true_or, or_true, false_or, or_false, imp_self, CX11_readTest, ↓zv_cm (cv := zCf (VX11_readTest d)) (k := 143) (h := (rfl : zCf (VX11_readTest d) 143 = some (CX11_readCond (d)))), ↓zv_cm (cv := zCf (VX11_readTest d)) (k := 146) (h := (rfl : zCf (VX11_readTest d) 146 = some CX11_closes)), ↓zv_cg (cv := zCf (VX11_readTest d)) (k := 183) (h := (rfl : zCf (VX11_readTest d) 183 = some CX11_puts)), ↓zv_cm (cv := zCf (VX11_readTest d)) (k := 187) (h := (rfl : zCf (VX11_readTest d) 187 = some CX11_opens)), ↓zv_cm (cv := zCf (VX11_readTest d)) (k := 190) (h := (rfl : zCf (VX11_readTest d) 190 = some (CX11_readRow (d + 1)))), ↓zs_cf (cS := zCf (SX11_readTest d)) (pl := zPlf PX11) (k := 106) (h := (rfl : zCf (SX11_readTest d) 106 = some CX11_opAt)) (h2 := rfl), and_imp, exists_eq_left, exists_eq_left', exists_eq_right, exists_eq_right', exists_and_left, exists_and_right, Prod.mk.injEq, zAdd_e, zSub_e, zMul_e, zres_0, zres_4, zres_1, zres_9, zrt_0, zrt_4, zrt_1, zrt_9, List.take_succ_cons, List.take_zero, List.drop_succ_cons, List.drop_zero, List.map_cons, List.map_nil, List.reverse_cons, List.reverse_nil, List.nil_append, List.cons_append, List.length_cons, List.length_nil, zPr_c, List.mem_cons, List.not_mem_nil, ↓zIV_e, zcats, List.sum_cons, List.sum_nil, zpu, zfu, zset_e, zdt, zbm, ↓zc_ne00, ↓zc_ne01, ↓zc_ne10, ↓zc_ne11, ↓zc_eq00, ↓zc_eq01, ↓zc_eq10, ↓zc_eq11, zs_80_81, zs_83_81, zs_84_81, zs_85_81, zs_86_81, zs_87_81, zs_88_81, zs_89_81, zs_90_81, zs_91_81, zs_92_81, zs_93_81]
    obtain ⟨g1, g2, g3⟩ := hp1
    have hg := g1
    unfold zGd at hg
    refine ⟨⟨g1, g2⟩, ?_⟩
    intro m1 _ A1
    have gA := A1.1
    unfold zGd at gA
    have lA := zHs_lt A1.2.2.2.2.1
    have a12 := A1.2.2.2.1
    have a9 := A1.2.1
    have a6 := A1.2.2.2.2.2
    refine ⟨⟨by omega, by omega⟩, ?_⟩
    intro r M1 _ _ _ hr hM
    have hn : zw (zw (mem 80 13 * 200) + m1 80 13) = 200 * mem 80 13 + m1 80 13 := by rw [zw_id (x := mem 80 13 * 200) (by omega) (by omega), zw_id (by omega) (by omega)]; omega
    have hM1 : M1 = zPu m1 9 (200 * mem 80 13 + m1 80 13) 0 := by rw [← hn]; exact hM
    have M1p6 : M1 80 6 = m1 80 6 := by rw [hM1]; exact zPu_o (by omega)
    have M1p7 : M1 80 7 = m1 80 7 := by rw [hM1]; exact zPu_o (by omega)
    have M1p8 : M1 80 8 = m1 80 8 := by rw [hM1]; exact zPu_o (by omega)
    have M1p9 : M1 80 9 = m1 80 9 := by rw [hM1]; exact zPu_o (by omega)
    have M1p13 : M1 80 13 = m1 80 13 := by rw [hM1]; exact zPu_o (by omega)
    have M1p12 : M1 80 12 = m1 80 12 + 1 := by rw [hM1]; exact zPu_12
    have GM1 : zGd M1 := by rw [hM1]; exact zPu_G A1.1 (by omega)
    have XM : zKp zpX mem M1 := by rw [hM1]; exact zPu_X (zKp_DX A1.2.2.1) (by omega)
    refine ⟨⟨by omega, by omega, by omega, by omega, by omega⟩, ?_⟩
    intro m2 _
    refine ⟨fun o1 o2 o3 o4 o5 o6 => ?_, fun o1 => zKp_tr XM (zKp_OX o1)⟩
    have X2 : zKp zpX mem m2 := zKp_tr XM (zKp_OX o1)
    have o7 := o1 80 7 (by unfold zpO; omega)
    have o12 := o1 80 12 (by unfold zpO; omega)
    have o13 := o1 80 13 (by unfold zpO; omega)
    have gM1 := GM1
    unfold zGd at gM1
    have G2 : zGd m2 := by unfold zGd; omega
    refine ⟨⟨G2, by omega⟩, ?_⟩
    intro m3 _
    refine ⟨fun q3 => ?_, fun q3 => zKp_tr X2 q3⟩
    have gq := q3.1
    unfold zGd at gq
    have d3 := q3.2.1
    refine ⟨⟨by omega, by omega, by omega, by omega, by omega⟩, ?_⟩
    intro m4 _
    refine ⟨fun c1 c2 c3 c4 c5 => ?_, fun c1 => zKp_tr (zKp_tr X2 (zKp_DX q3.2.2.1)) (zKp_OX c1)⟩
    have B := zRw_br (d := d) GM1 (by omega) o1 o2 o3 q3 c1 c2 c3 c4 c5
    have gB := B.1
    unfold zGd at gB
    have r4 := B.2.2.2.1
    rw [hM1] at B
    have e : zw (4857 + 3 * r + 2) = 4857 + 3 * m1 80 12 + 2 := by rw [hr, zw_id (by omega) (by omega)]
    rw [e]
    exact ⟨⟨by omega, by omega⟩, fun _ _ _ => ⟨⟨by omega, by omega⟩, zRw_if g1 (by omega) g3 A1 rfl B⟩⟩
  · refine ⟨zIf [], zAllI_e zAllI_n, ?_⟩
    simp (maxSteps := 3000000) only [↓zwp_s, zrun_n, zrun_c, zgo_any, zgo_bel, ↓zgA_n, ↓zgA_c, ↓zgB_n, ↓zgB_c, ↓zp1_c, ↓zpv_c, ↓ztg_e, ↓zFv_r, ↓zFv_i, ↓zFv_z, ↓reduceIte, ↓zi_aload_n, ↓zi_bipush, ↓zi_getfield, ↓zi_goto, ↓zi_iadd, ↓zi_iastore, ↓zi_iconst, ↓zi_ifCond, ↓zi_iload_n, ↓zi_imul, ↓zi_ireturn, ↓zi_istore_n, ↓zi_pop, ↓zi_sipush, zcmp_eq, zcmp_ne, ↓zpl_e pX11_13, ↓zpl_e pX11_103, ↓zpl_e pX11_110, ↓zo_80_0, ↓zo_80_1, ↓zo_80_2, ↓zo_80_3, ↓zo_80_4, ↓zo_80_5, ↓zo_80_6, ↓zo_80_7, ↓zo_80_8, ↓zo_80_9, ↓zo_80_10, ↓zo_80_11, ↓zo_80_12, ↓zo_80_13, ↓zo_80_14, ↓zo_80_15, ↓zo_80_16, ↓zo_80_17, ↓zo_80_18, ↓zo_80_19, ↓zo_80_20, ↓zo_80_21, ↓zo_80_22, ↓zo_80_23, ↓zo_80_24, ↓za_81, bX11_readTest_0, bX11_readTest_13, bX11_readTest_27, bX11_readTest_37, bX11_readTest_39, bX11_readTest_79, bX11_readTest_81, bX11_readTest_94, List.size_toArray, zent_n, zent_c, zst_e, zfi0, zfi1, zfi2, zfi3, zcast, Nat.reduceAdd, Nat.reduceSub, Nat.reduceEqDiff, Nat.reduceLT, Nat.reduceLeDiff, Int.reduceAdd, Int.reduceSub, Int.reduceMul, Int.reduceToNat, Int.reduceLE, Int.reduceLT, Int.reduceEq, Int.reduceNeg, Int.reduceNegSucc, Nat.reduceMul, List.zip_cons_cons, List.zip_nil_left, List.zip_nil_right, Int.toNat_natCast, true_and, and_true, eq_self, ne_eq, not_false_eq_true, not_true_eq_false, forall_const, implies_true, false_and, true_or, or_true, false_or, or_false, imp_self, CX11_readTest, ↓zv_cm (cv := zCf (VX11_readTest d)) (k := 143) (h := (rfl : zCf (VX11_readTest d) 143 = some (CX11_readCond (d)))), ↓zv_cm (cv := zCf (VX11_readTest d)) (k := 146) (h := (rfl : zCf (VX11_readTest d) 146 = some CX11_closes)), ↓zv_cg (cv := zCf (VX11_readTest d)) (k := 183) (h := (rfl : zCf (VX11_readTest d) 183 = some CX11_puts)), ↓zv_cm (cv := zCf (VX11_readTest d)) (k := 187) (h := (rfl : zCf (VX11_readTest d) 187 = some CX11_opens)), ↓zv_cm (cv := zCf (VX11_readTest d)) (k := 190) (h := (rfl : zCf (VX11_readTest d) 190 = some (CX11_readRow (d + 1)))), ↓zs_cf (cS := zCf (SX11_readTest d)) (pl := zPlf PX11) (k := 106) (h := (rfl : zCf (SX11_readTest d) 106 = some CX11_opAt)) (h2 := rfl), and_imp, exists_eq_left, exists_eq_left', exists_eq_right, exists_eq_right', exists_and_left, exists_and_right, Prod.mk.injEq, zAdd_e, zSub_e, zMul_e, zres_0, zres_4, zres_1, zres_9, zrt_0, zrt_4, zrt_1, zrt_9, List.take_succ_cons, List.take_zero, List.drop_succ_cons, List.drop_zero, List.map_cons, List.map_nil, List.reverse_cons, List.reverse_nil, List.nil_append, List.cons_append, List.length_cons, List.length_nil, zPr_c, List.mem_cons, List.not_mem_nil, ↓zIV_e, zcats, List.sum_cons, List.sum_nil, zpu, zfu, zset_e, zdt, zbm, ↓zc_ne00, ↓zc_ne01, ↓zc_ne10, ↓zc_ne11, ↓zc_eq00, ↓zc_eq01, ↓zc_eq10, ↓zc_eq11, zs_80_81, zs_83_81, zs_84_81, zs_85_81, zs_86_81, zs_87_81, zs_88_81, zs_89_81, zs_90_81, zs_91_81, zs_92_81, zs_93_81]
    obtain ⟨g1, g2, g3⟩ := hp1
    have hg := g1
    unfold zGd at hg
    refine ⟨⟨by omega, by omega⟩, ?_⟩
    intro r0 M0 _ _ _ hr0 hMz
    have hM0 : M0 = zPu mem 7 0 0 := hMz
    have M0p6 : M0 80 6 = mem 80 6 := by rw [hM0]; exact zPu_o (by omega)
    have M0p7 : M0 80 7 = mem 80 7 := by rw [hM0]; exact zPu_o (by omega)
    have M0p8 : M0 80 8 = mem 80 8 := by rw [hM0]; exact zPu_o (by omega)
    have M0p9 : M0 80 9 = mem 80 9 := by rw [hM0]; exact zPu_o (by omega)
    have M0p13 : M0 80 13 = mem 80 13 := by rw [hM0]; exact zPu_o (by omega)
    have M0p12 : M0 80 12 = mem 80 12 + 1 := by rw [hM0]; exact zPu_12
    have GM0 : zGd M0 := by rw [hM0]; exact zPu_G g1 (by omega)
    have X0 : zKp zpX mem M0 := by rw [hM0]; exact zPu_X (zKp_rf mem) (by omega)
    refine ⟨⟨GM0, by omega⟩, ?_⟩
    intro m1 _
    refine ⟨fun A1 => ?_, fun k => zKp_tr X0 k⟩
    have gA := A1.1
    unfold zGd at gA
    have lA := zHs_lt A1.2.2.2.2.1
    have a12 := A1.2.2.2.1
    have a9 := A1.2.1
    have a6 := A1.2.2.2.2.2
    refine ⟨⟨by omega, by omega⟩, ?_⟩
    intro r M1 _ _ _ hr hM
    have hn : zw (zw (M0 80 13 * 200) + m1 80 13) = 200 * mem 80 13 + m1 80 13 := by rw [zw_id (x := M0 80 13 * 200) (by omega) (by omega), zw_id (by omega) (by omega)]; omega
    have hM1 : M1 = zPu m1 10 (200 * mem 80 13 + m1 80 13) 0 := by rw [← hn]; exact hM
    have M1p6 : M1 80 6 = m1 80 6 := by rw [hM1]; exact zPu_o (by omega)
    have M1p7 : M1 80 7 = m1 80 7 := by rw [hM1]; exact zPu_o (by omega)
    have M1p8 : M1 80 8 = m1 80 8 := by rw [hM1]; exact zPu_o (by omega)
    have M1p9 : M1 80 9 = m1 80 9 := by rw [hM1]; exact zPu_o (by omega)
    have M1p13 : M1 80 13 = m1 80 13 := by rw [hM1]; exact zPu_o (by omega)
    have M1p12 : M1 80 12 = m1 80 12 + 1 := by rw [hM1]; exact zPu_12
    have GM1 : zGd M1 := by rw [hM1]; exact zPu_G A1.1 (by omega)
    have XM : zKp zpX mem M1 := by rw [hM1]; exact zPu_X (zKp_tr X0 (zKp_DX A1.2.2.1)) (by omega)
    refine ⟨⟨by omega, by omega, by omega, by omega, by omega⟩, ?_⟩
    intro m2 _
    refine ⟨fun o1 o2 o3 o4 o5 o6 => ?_, fun o1 => zKp_tr XM (zKp_OX o1)⟩
    have X2 : zKp zpX mem m2 := zKp_tr XM (zKp_OX o1)
    have o7 := o1 80 7 (by unfold zpO; omega)
    have o12 := o1 80 12 (by unfold zpO; omega)
    have o13 := o1 80 13 (by unfold zpO; omega)
    have gM1 := GM1
    unfold zGd at gM1
    have G2 : zGd m2 := by unfold zGd; omega
    refine ⟨⟨G2, by omega⟩, ?_⟩
    intro m3 _
    refine ⟨fun q3 => ?_, fun q3 => zKp_tr X2 q3⟩
    have gq := q3.1
    unfold zGd at gq
    have d3 := q3.2.1
    refine ⟨⟨by omega, by omega, by omega, by omega, by omega⟩, ?_⟩
    intro m4 _
    refine ⟨fun c1 c2 c3 c4 c5 => ?_, fun c1 => zKp_tr (zKp_tr X2 (zKp_DX q3.2.2.1)) (zKp_OX c1)⟩
    have B := zRw_br (d := d) GM1 (by omega) o1 o2 o3 q3 c1 c2 c3 c4 c5
    have gB := B.1
    unfold zGd at gB
    have r4 := B.2.2.2.1
    rw [hM1] at B
    refine ⟨⟨by omega, by omega⟩, ?_⟩
    intro r5 M5 _ _ _ hr5 hMf
    have hM5 : M5 = zPu m4 11 (m1 80 12) 0 := by rw [← hr]; exact hMf
    have e5 : M5 80 12 = m4 80 12 + 1 := by rw [hM5]; exact zPu_12
    have e : zw (4857 + 3 * r + 2) = 4857 + 3 * m1 80 12 + 2 := by rw [hr, zw_id (by omega) (by omega)]
    rw [e, e5, hM5]
    rw [hM0] at A1
    exact ⟨⟨by omega, by omega⟩, fun _ _ _ => ⟨⟨by omega, by omega⟩, zRw_while g1 (by omega) g3 A1 rfl B⟩⟩
def VX11_readOrder (d : Int) : List (Nat × zCt) := [(92, CX11_letters), (95, CX11_isWord), (165, CX11_number), (183, CX11_puts), (205, (CX11_readAgain (d))), (210, (CX11_readTest (d))), (219, CX11_wayAt)]
def SX11_readOrder (_d : Int) : List (Nat × zCt) := []
set_option maxHeartbeats 4000000 in
set_option maxRecDepth 100000 in
theorem mX11_readOrder (l : Launch) (d : Int) (LV : Nat) (hLV : 30 ≤ LV) (L_readAgain : Nat) (hl_readAgain : L_readAgain < LV) (h_readAgain : zMet l zLay yX11_readAgain cX11_readAgain 3 (some .boolean) L_readAgain (CX11_readAgain (d)).1 (CX11_readAgain (d)).2.1 (CX11_readAgain (d)).2.2.1 (CX11_readAgain (d)).2.2.2) (L_readTest : Nat) (hl_readTest : L_readTest < LV) (h_readTest : zMet l zLay yX11_readTest cX11_readTest 4 (some .boolean) L_readTest (CX11_readTest (d)).1 (CX11_readTest (d)).2.1 (CX11_readTest (d)).2.2.1 (CX11_readTest (d)).2.2.2) : zMet l zLay yX11_readOrder cX11_readOrder 3 (some .boolean) LV (CX11_readOrder d).1 (CX11_readOrder d).2.1 (CX11_readOrder d).2.2.1 (CX11_readOrder d).2.2.2 := by
  refine zMet_of (pl := zPlf PX11) (cv := zCf (VX11_readOrder d)) (cS := zCf (SX11_readOrder d)) (B := zBf BX11_readOrder) (F := 80) (own := RX11) (by decide +kernel) rfl (Or.inr (Or.inl ⟨rfl, rfl⟩)) (fun vs h => by obtain ⟨t, rfl⟩ := zlen1 h; exact Nat.le_of_ble_eq_true rfl) PX11_ok zClok_ok zSyok_ok oX11_readOrder (zAllC_e (zAllC_c (Or.inl (zcal_v (mX11_letters l) (by omega) (by decide) hX11_letters kX11_92 ⟨by decide, by decide +kernel⟩ (ci := 11) rfl rfl rfl)) (zAllC_c (Or.inl (zcal_v (mX11_isWord l) (by omega) (by decide) hX11_isWord kX11_95 ⟨by decide, by decide +kernel⟩ (ci := 11) rfl rfl rfl)) (zAllC_c (Or.inl (zcal_v (mX11_number l) (by omega) (by decide) hX11_number kX11_165 ⟨by decide, by decide +kernel⟩ (ci := 11) rfl rfl rfl)) (zAllC_c (Or.inl (zcal_v (mX11_puts l) (by omega) (by decide) hX11_puts kX11_183 ⟨by decide, by decide +kernel⟩ (ci := 11) rfl rfl rfl)) (zAllC_c (Or.inl (zcal_v h_readAgain hl_readAgain (by decide) hX11_readAgain kX11_205 ⟨by decide, by decide +kernel⟩ (ci := 11) rfl rfl rfl)) (zAllC_c (Or.inl (zcal_v h_readTest hl_readTest (by decide) hX11_readTest kX11_210 ⟨by decide, by decide +kernel⟩ (ci := 11) rfl rfl rfl)) (zAllC_c (Or.inl (zcal_v (mX11_wayAt l) (by omega) (by decide) hX11_wayAt kX11_219 ⟨by decide, by decide +kernel⟩ (ci := 11) rfl rfl rfl)) (zAllC_n))))))))) (zAllC_e (zAllC_n)) ?_
  intro vs mem hvl hok hm hpre
  obtain ⟨t, rfl⟩ := zlen1 hvl
  clear hok hvl
  obtain ⟨hid, hpre⟩ := hpre
  simp only [List.mem_cons, List.not_mem_nil, or_false] at hid
  have hp0 : zGd mem ∧ mem 80 9 = d := hpre
  subst hid
  refine ⟨zIf [], zAllI_e zAllI_n, ?_⟩
  simp (maxSteps := 3000000) only [↓zwp_s, zrun_n, zrun_c, zgo_any, zgo_bel, ↓zgA_n, ↓zgA_c, ↓zgB_n, ↓zgB_c, ↓zp1_c, ↓zpv_c, ↓ztg_e, ↓zFv_r, ↓zFv_i, ↓zFv_z, ↓reduceIte, ↓zi_aload_n, ↓zi_bipush, ↓zi_getfield, ↓zi_goto, ↓zi_iconst, ↓zi_ifCond, ↓zi_iload_n, ↓zi_ireturn, ↓zi_istore_n, ↓zi_ldc, ↓zi_pop, ↓zi_sipush, zcmp_eq, zcmp_lt, zcmp_le, zcmp_ne, ↓zpl_e pX11_76, ↓zpl_e pX11_193, ↓zpl_e pX11_195, ↓zpl_e pX11_197, ↓zpl_e pX11_199, ↓zpl_e pX11_201, ↓zpl_e pX11_203, ↓zpl_e pX11_208, ↓zpl_e pX11_214, ↓zpl_e pX11_216, ↓zpl_e pX11_217, ↓zo_80_0, ↓zo_80_1, ↓zo_80_2, ↓zo_80_3, ↓zo_80_4, ↓zo_80_5, ↓zo_80_6, ↓zo_80_7, ↓zo_80_8, ↓zo_80_9, ↓zo_80_10, ↓zo_80_11, ↓zo_80_12, ↓zo_80_13, ↓zo_80_14, ↓zo_80_15, ↓zo_80_16, ↓zo_80_17, ↓zo_80_18, ↓zo_80_19, ↓zo_80_20, ↓zo_80_21, ↓zo_80_22, ↓zo_80_23, ↓zo_80_24, bX11_readOrder_0, bX11_readOrder_32, bX11_readOrder_33, bX11_readOrder_34, bX11_readOrder_57, bX11_readOrder_58, bX11_readOrder_59, bX11_readOrder_82, bX11_readOrder_83, bX11_readOrder_84, bX11_readOrder_107, bX11_readOrder_108, bX11_readOrder_109, bX11_readOrder_132, bX11_readOrder_133, bX11_readOrder_134, bX11_readOrder_148, bX11_readOrder_163, bX11_readOrder_178, bX11_readOrder_213, bX11_readOrder_214, bX11_readOrder_215, bX11_readOrder_226, bX11_readOrder_251, bX11_readOrder_252, List.size_toArray, zent_n, zent_c, zst_e, zfi0, zfi1, zfi2, zfi3, zcast, Nat.reduceAdd, Nat.reduceSub, Nat.reduceEqDiff, Nat.reduceLT, Nat.reduceLeDiff, Int.reduceAdd, Int.reduceSub, Int.reduceMul, Int.reduceToNat, Int.reduceLE, Int.reduceLT, Int.reduceEq, Int.reduceNeg, Int.reduceNegSucc, Nat.reduceMul, List.zip_cons_cons, List.zip_nil_left, List.zip_nil_right, Int.toNat_natCast, true_and, and_true, eq_self, ne_eq, not_false_eq_true, not_true_eq_false, forall_const, implies_true, false_and, true_or, or_true, false_or, or_false, imp_self, CX11_readOrder, ↓zv_cg (cv := zCf (VX11_readOrder d)) (k := 92) (h := (rfl : zCf (VX11_readOrder d) 92 = some CX11_letters)), ↓zv_cb (cv := zCf (VX11_readOrder d)) (k := 95) (h := (rfl : zCf (VX11_readOrder d) 95 = some CX11_isWord)), ↓zv_cg (cv := zCf (VX11_readOrder d)) (k := 165) (h := (rfl : zCf (VX11_readOrder d) 165 = some CX11_number)), ↓zv_cg (cv := zCf (VX11_readOrder d)) (k := 183) (h := (rfl : zCf (VX11_readOrder d) 183 = some CX11_puts)), ↓zv_cm (cv := zCf (VX11_readOrder d)) (k := 205) (h := (rfl : zCf (VX11_readOrder d) 205 = some (CX11_readAgain (d)))), ↓zv_cm (cv := zCf (VX11_readOrder d)) (k := 210) (h := (rfl : zCf (VX11_readOrder d) 210 = some (CX11_readTest (d)))), ↓zv_cp (cv := zCf (VX11_readOrder d)) (k := 219) (h := (rfl : zCf (VX11_readOrder d) 219 = some CX11_wayAt)), and_imp, exists_eq_left, exists_eq_left', exists_eq_right, exists_eq_right', exists_and_left, exists_and_right, Prod.mk.injEq, zAdd_e, zSub_e, zMul_e, zres_0, zres_4, zres_1, zres_9, zrt_0, zrt_4, zrt_1, zrt_9, List.take_succ_cons, List.take_zero, List.drop_succ_cons, List.drop_zero, List.map_cons, List.map_nil, List.reverse_cons, List.reverse_nil, List.nil_append, List.cons_append, List.length_cons, List.length_nil, zPr_c, List.mem_cons, List.not_mem_nil, ↓zIV_e, zcats, List.sum_cons, List.sum_nil, zpu, zfu, zset_e, zdt, zbm, ↓zc_ne00, ↓zc_ne01, ↓zc_ne10, ↓zc_ne11, ↓zc_eq00, ↓zc_eq01, ↓zc_eq10, ↓zc_eq11, zs_80_81, zs_83_81, zs_84_81, zs_85_81, zs_86_81, zs_87_81, zs_88_81, zs_89_81, zs_90_81, zs_91_81, zs_92_81, zs_93_81]
  obtain ⟨g1, g2⟩ := hp0
  have hg := g1
  unfold zGd at hg
  refine ⟨⟨by omega, by omega, by omega⟩, ?_⟩
  intro _ m1 _ _ k1 k2 k3 k4
  have K1x := zKp_KX k1
  have G1 := zGd_on g1 k1 k2 (by omega) k4
  have gg1 := G1
  unfold zGd at gg1
  have e9 := zK_9 k1
  have e12 : m1 80 12 = mem 80 12 := k1 80 12 (by unfold zpK; omega)
  have hact : ∀ (w : Int) (M : zM), w ≤ 6 → mem 80 6 + 2 ≤ m1 80 6 → M = zPu m1 w 0 (m1 80 8) → zRw d d 0 mem M := fun w M hw hp e => by rw [e]; exact zRw_act g1 g2 k1 G1 hp hw
  refine ⟨⟨by omega, by omega, by omega⟩, fun _ => ⟨fun h => ?_, ?_⟩⟩
  · rw [zLv_3] at h
    refine ⟨⟨by omega, by omega⟩, fun r M _ _ _ hr hM => ⟨fun q => by omega, fun _ => hact 0 M (by omega) (by omega) hM⟩⟩
  refine ⟨⟨by omega, by omega, by omega⟩, fun _ => ⟨fun h => ?_, ?_⟩⟩
  · rw [zLv_5] at h
    refine ⟨⟨by omega, by omega⟩, fun r M _ _ _ hr hM => ⟨fun q => by omega, fun _ => hact 2 M (by omega) (by omega) hM⟩⟩
  refine ⟨⟨by omega, by omega, by omega⟩, fun _ => ⟨fun h => ?_, ?_⟩⟩
  · rw [zLv_6] at h
    refine ⟨⟨by omega, by omega⟩, fun r M _ _ _ hr hM => ⟨fun q => by omega, fun _ => hact 3 M (by omega) (by omega) hM⟩⟩
  refine ⟨⟨by omega, by omega, by omega⟩, fun _ => ⟨fun h => ?_, ?_⟩⟩
  · rw [zLv_7] at h
    refine ⟨⟨by omega, by omega⟩, fun r M _ _ _ hr hM => ⟨fun q => by omega, fun _ => hact 4 M (by omega) (by omega) hM⟩⟩
  refine ⟨⟨by omega, by omega, by omega⟩, fun _ => ⟨fun h => ?_, ?_⟩⟩
  · rw [zLv_8] at h
    refine ⟨⟨by omega, by omega⟩, fun r M _ _ _ hr hM => ⟨fun q => by omega, fun _ => hact 5 M (by omega) (by omega) hM⟩⟩
  refine ⟨⟨by omega, by omega, by omega⟩, fun _ => ⟨fun h => ?_, ?_⟩⟩
  · rw [zLv_10] at h
    exact ⟨⟨G1, by omega, by omega⟩, fun m2 _ => ⟨fun h2 => zRw_pre k1 (by omega) h2, fun h2 => zKp_tr K1x h2⟩⟩
  refine ⟨⟨by omega, by omega, by omega⟩, fun _ => ⟨fun h => ?_, ?_⟩⟩
  · rw [zLv_11] at h
    exact ⟨⟨G1, by omega, by omega⟩, fun m2 _ => ⟨fun h2 => zRw_pre k1 (by omega) h2, fun h2 => zKp_tr K1x h2⟩⟩
  refine ⟨⟨by omega, by omega, by omega⟩, fun _ => ⟨fun h => ?_, ?_⟩⟩
  · rw [zLv_12] at h
    exact ⟨⟨G1, by omega, by omega⟩, fun m2 _ => ⟨fun h2 => zRw_pre k1 (by omega) h2, fun h2 => zKp_tr K1x h2⟩⟩
  refine ⟨⟨by omega, by omega, by omega⟩, fun _ => ⟨fun h => ?_, ?_⟩⟩
  · rw [zLv_9] at h
    refine ⟨⟨by omega, by omega, by omega⟩, fun n m2 _ _ _ hn l1 l2 l3 l4 => ?_⟩
    have K2 := zKp_tr k1 l1
    have G2 := zGd_on G1 l1 l2 (by omega) l4
    have gg2 := G2
    unfold zGd at gg2
    refine ⟨⟨by omega, by omega⟩, fun r M _ _ _ hr hM => ?_⟩
    have A : zRw d d 0 mem M := by
      have e : M = zPu m2 6 n (m1 80 8) := hM
      rw [e]; exact zRw_act g1 g2 K2 G2 (by omega) (by omega)
    have A2 := zKp_DX A.2.2.1
    first | exact ⟨fun _ => A, fun _ => A2⟩ | exact ⟨fun _ => A2, fun _ => A⟩
  refine ⟨⟨by omega, by omega, by omega⟩, fun _ => ⟨fun h => ?_, ?_⟩⟩
  · rw [zLv_4] at h
    refine ⟨⟨by omega, by omega, by omega⟩, fun _ m2 _ _ l1 l2 l3 l4 => ?_⟩
    have K2 := zKp_tr k1 l1
    have G2 := zGd_on G1 l1 l2 (by omega) l4
    have gg2 := G2
    unfold zGd at gg2
    refine ⟨⟨by omega, by omega, by omega⟩, fun w _ _ _ w0 w1 => ?_⟩
    refine ⟨⟨by omega, by omega⟩, fun r M _ _ _ hr hM => ?_⟩
    have A : zRw d d 0 mem M := by
      have e : M = zPu m2 1 w (m1 80 8) := hM
      rw [e]; exact zRw_act g1 g2 K2 G2 (by omega) (by omega)
    have A2 := zKp_DX A.2.2.1
    first | exact ⟨fun _ => A, fun _ => A2⟩ | exact ⟨fun _ => A2, fun _ => A⟩
  first | exact K1x | exact ⟨fun _ => K1x, fun _ => K1x⟩ | (intro _; exact K1x)
def VX11_readRow (d : Int) : List (Nat × zCt) := [(119, CX11_sign), (222, (CX11_readOrder (d)))]
def SX11_readRow (_d : Int) : List (Nat × zCt) := []
set_option maxHeartbeats 4000000 in
set_option maxRecDepth 100000 in
theorem mX11_readRow (l : Launch) (d : Int) (LV : Nat) (hLV : 30 ≤ LV) (L_readOrder : Nat) (hl_readOrder : L_readOrder < LV) (h_readOrder : zMet l zLay yX11_readOrder cX11_readOrder 3 (some .boolean) L_readOrder (CX11_readOrder (d)).1 (CX11_readOrder (d)).2.1 (CX11_readOrder (d)).2.2.1 (CX11_readOrder (d)).2.2.2) : zMet l zLay yX11_readRow cX11_readRow 1 (some .boolean) LV (CX11_readRow d).1 (CX11_readRow d).2.1 (CX11_readRow d).2.2.1 (CX11_readRow d).2.2.2 := by
  refine zMet_of (pl := zPlf PX11) (cv := zCf (VX11_readRow d)) (cS := zCf (SX11_readRow d)) (B := zBf BX11_readRow) (F := 80) (own := RX11) (by decide +kernel) rfl (Or.inr (Or.inl ⟨rfl, rfl⟩)) (fun vs h => by obtain ⟨t, rfl⟩ := zlen1 h; exact Nat.le_of_ble_eq_true rfl) PX11_ok zClok_ok zSyok_ok oX11_readRow (zAllC_e (zAllC_c (Or.inl (zcal_v (mX11_sign l) (by omega) (by decide) hX11_sign kX11_119 ⟨by decide, by decide +kernel⟩ (ci := 11) rfl rfl rfl)) (zAllC_c (Or.inl (zcal_v h_readOrder hl_readOrder (by decide) hX11_readOrder kX11_222 ⟨by decide, by decide +kernel⟩ (ci := 11) rfl rfl rfl)) (zAllC_n)))) (zAllC_e (zAllC_n)) ?_
  intro vs mem hvl hok hm hpre
  obtain ⟨t, rfl⟩ := zlen1 hvl
  clear hok hvl
  obtain ⟨hid, hpre⟩ := hpre
  simp only [List.mem_cons, List.not_mem_nil, or_false] at hid
  have hp0 : zGd mem ∧ mem 80 9 = d := hpre
  subst hid
  refine ⟨zIf [(9, (fun nq ls st m => ls 0 = (2, 80) ∧ st = [] ∧ ((zRw d d 0 mem m) ∧ True ∧ (400 - m 80 6).toNat ≤ nq)))], zAllI_e (zAllI_c ?_ (zAllI_n)), ?_⟩
  · intro nn ls st mem1 hm1 hl1 hJ
    obtain ⟨h0, rfl, hc⟩ := hJ
    
    obtain ⟨hc0, hc1, hc2⟩ := hc
    simp (maxSteps := 3000000) only [↓zwp_s, zrun_n, zrun_c, zgo_any, zgo_bel, ↓zgA_n, ↓zgA_c, ↓zgB_n, ↓zgB_c, ↓zp1_c, ↓zpv_c, ↓ztg_e, ↓zFv_r, ↓zFv_i, ↓zFv_z, ↓reduceIte, ↓zi_aload_n, ↓zi_bipush, ↓zi_iconst, ↓zi_ifCond, ↓zi_ireturn, zcmp_ne, zcmp_eq, ↓zo_80_0, ↓zo_80_1, ↓zo_80_2, ↓zo_80_3, ↓zo_80_4, ↓zo_80_5, ↓zo_80_6, ↓zo_80_7, ↓zo_80_8, ↓zo_80_9, ↓zo_80_10, ↓zo_80_11, ↓zo_80_12, ↓zo_80_13, ↓zo_80_14, ↓zo_80_15, ↓zo_80_16, ↓zo_80_17, ↓zo_80_18, ↓zo_80_19, ↓zo_80_20, ↓zo_80_21, ↓zo_80_22, ↓zo_80_23, ↓zo_80_24, bX11_readRow_0, bX11_readRow_9, bX11_readRow_27, List.size_toArray, zent_n, zent_c, zst_e, zfi0, zfi1, zfi2, zfi3, zcast, Nat.reduceAdd, Nat.reduceSub, Nat.reduceEqDiff, Nat.reduceLT, Nat.reduceLeDiff, Int.reduceAdd, Int.reduceSub, Int.reduceMul, Int.reduceToNat, Int.reduceLE, Int.reduceLT, Int.reduceEq, Int.reduceNeg, Int.reduceNegSucc, Nat.reduceMul, List.zip_cons_cons, List.zip_nil_left, List.zip_nil_right, Int.toNat_natCast, true_and, and_true, eq_self, ne_eq, not_false_eq_true, not_true_eq_false, forall_const, implies_true, false_and, true_or, or_true, false_or, or_false, imp_self, CX11_readRow, ↓zv_cm (cv := zCf (VX11_readRow d)) (k := 119) (h := (rfl : zCf (VX11_readRow d) 119 = some CX11_sign)), ↓zv_cm (cv := zCf (VX11_readRow d)) (k := 222) (h := (rfl : zCf (VX11_readRow d) 222 = some (CX11_readOrder (d)))), and_imp, exists_eq_left, exists_eq_left', exists_eq_right, exists_eq_right', exists_and_left, exists_and_right, Prod.mk.injEq, zAdd_e, zSub_e, zMul_e, zres_0, zres_4, zres_1, zres_9, zrt_0, zrt_4, zrt_1, zrt_9, List.take_succ_cons, List.take_zero, List.drop_succ_cons, List.drop_zero, List.map_cons, List.map_nil, List.reverse_cons, List.reverse_nil, List.nil_append, List.cons_append, List.length_cons, List.length_nil, zPr_c, List.mem_cons, List.not_mem_nil, ↓zIV_e, zcats, List.sum_cons, List.sum_nil, zpu, zfu, zset_e, zbm, ↓zc_ne00, ↓zc_ne01, ↓zc_ne10, ↓zc_ne11, ↓zc_eq00, ↓zc_eq01, ↓zc_eq10, ↓zc_eq11, zs_80_81, zs_83_81, zs_84_81, zs_85_81, zs_86_81, zs_87_81, zs_88_81, zs_89_81, zs_90_81, zs_91_81, zs_92_81, zs_93_81, h0]
    obtain ⟨g1, g2⟩ := hp0
    have G1 := hc0.1
    have hg := G1
    unfold zGd at hg
    have e9 := hc0.2.1
    refine ⟨⟨by omega, by omega, by omega⟩, ?_⟩
    intro m2 _
    refine ⟨fun k1 k2 k3 k4 => ?_, fun k1 k2 k3 k4 => zRw_on hc0 k1 k2 (by omega) k4⟩
    have G2 := zGd_on G1 k1 k2 (by omega) k4
    have f9 := zK_9 k1
    refine ⟨⟨G2, by omega⟩, ?_⟩
    intro m3 _
    refine ⟨fun h3 => ?_, fun h3 => zKp_tr (zKp_tr (zKp_DX hc0.2.2.1) (zKp_KX k1)) h3⟩
    have r7 := h3.2.2.2.2.2.2
    have r4 := h3.2.2.2.1
    have r3 := h3.1
    unfold zGd at r3
    exact ⟨nn - 1, by omega, zRw_cat g1 hc0 k1 (by omega) h3, by omega⟩
  · simp (maxSteps := 3000000) only [↓zwp_s, zrun_n, zrun_c, zgo_any, zgo_bel, ↓zgA_n, ↓zgA_c, ↓zgB_n, ↓zgB_c, ↓zp1_c, ↓zpv_c, ↓ztg_e, ↓zFv_r, ↓zFv_i, ↓zFv_z, ↓reduceIte, ↓zi_aload_n, ↓zi_bipush, ↓zi_iconst, ↓zi_ifCond, ↓zi_ireturn, zcmp_ne, zcmp_eq, ↓zo_80_0, ↓zo_80_1, ↓zo_80_2, ↓zo_80_3, ↓zo_80_4, ↓zo_80_5, ↓zo_80_6, ↓zo_80_7, ↓zo_80_8, ↓zo_80_9, ↓zo_80_10, ↓zo_80_11, ↓zo_80_12, ↓zo_80_13, ↓zo_80_14, ↓zo_80_15, ↓zo_80_16, ↓zo_80_17, ↓zo_80_18, ↓zo_80_19, ↓zo_80_20, ↓zo_80_21, ↓zo_80_22, ↓zo_80_23, ↓zo_80_24, bX11_readRow_0, bX11_readRow_9, bX11_readRow_27, List.size_toArray, zent_n, zent_c, zst_e, zfi0, zfi1, zfi2, zfi3, zcast, Nat.reduceAdd, Nat.reduceSub, Nat.reduceEqDiff, Nat.reduceLT, Nat.reduceLeDiff, Int.reduceAdd, Int.reduceSub, Int.reduceMul, Int.reduceToNat, Int.reduceLE, Int.reduceLT, Int.reduceEq, Int.reduceNeg, Int.reduceNegSucc, Nat.reduceMul, List.zip_cons_cons, List.zip_nil_left, List.zip_nil_right, Int.toNat_natCast, true_and, and_true, eq_self, ne_eq, not_false_eq_true, not_true_eq_false, forall_const, implies_true, false_and, true_or, or_true, false_or, or_false, imp_self, CX11_readRow, ↓zv_cm (cv := zCf (VX11_readRow d)) (k := 119) (h := (rfl : zCf (VX11_readRow d) 119 = some CX11_sign)), ↓zv_cm (cv := zCf (VX11_readRow d)) (k := 222) (h := (rfl : zCf (VX11_readRow d) 222 = some (CX11_readOrder (d)))), and_imp, exists_eq_left, exists_eq_left', exists_eq_right, exists_eq_right', exists_and_left, exists_and_right, Prod.mk.injEq, zAdd_e, zSub_e, zMul_e, zres_0, zres_4, zres_1, zres_9, zrt_0, zrt_4, zrt_1, zrt_9, List.take_succ_cons, List.take_zero, List.drop_succ_cons, List.drop_zero, List.map_cons, List.map_nil, List.reverse_cons, List.reverse_nil, List.nil_append, List.cons_append, List.length_cons, List.length_nil, zPr_c, List.mem_cons, List.not_mem_nil, ↓zIV_e, zcats, List.sum_cons, List.sum_nil, zpu, zfu, zset_e, zbm, ↓zc_ne00, ↓zc_ne01, ↓zc_ne10, ↓zc_ne11, ↓zc_eq00, ↓zc_eq01, ↓zc_eq10, ↓zc_eq11, zs_80_81, zs_83_81, zs_84_81, zs_85_81, zs_86_81, zs_87_81, zs_88_81, zs_89_81, zs_90_81, zs_91_81, zs_92_81, zs_93_81]
    exact ⟨hp0, fun m2 _ h => ⟨h, _, Nat.le_refl _⟩⟩
