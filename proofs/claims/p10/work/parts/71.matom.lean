def VX11_readAtom (d : Int) : List (Nat × zCt) := [(92, CX11_letters), (119, CX11_sign), (123, CX11_deeper), (143, (CX11_readCond (d + 1))), (146, CX11_closes), (151, CX11_passes), (154, (CX11_readAtom (d + 1))), (157, CX11_emits), (162, CX11_factAt), (165, CX11_number)]
def SX11_readAtom (_d : Int) : List (Nat × zCt) := []
set_option maxHeartbeats 4000000 in
set_option maxRecDepth 100000 in
theorem mX11_readAtom (l : Launch) (d : Int) (LV : Nat) (hLV : 30 ≤ LV) (L_readCond : Nat) (hl_readCond : L_readCond < LV) (h_readCond : zMet l zLay yX11_readCond cX11_readCond 1 (some .boolean) L_readCond (CX11_readCond (d + 1)).1 (CX11_readCond (d + 1)).2.1 (CX11_readCond (d + 1)).2.2.1 (CX11_readCond (d + 1)).2.2.2) (L_readAtom : Nat) (hl_readAtom : L_readAtom < LV) (h_readAtom : zMet l zLay yX11_readAtom cX11_readAtom 3 (some .boolean) L_readAtom (CX11_readAtom (d + 1)).1 (CX11_readAtom (d + 1)).2.1 (CX11_readAtom (d + 1)).2.2.1 (CX11_readAtom (d + 1)).2.2.2) : zMet l zLay yX11_readAtom cX11_readAtom 3 (some .boolean) LV (CX11_readAtom d).1 (CX11_readAtom d).2.1 (CX11_readAtom d).2.2.1 (CX11_readAtom d).2.2.2 := by
  refine zMet_of (pl := zPlf PX11) (cv := zCf (VX11_readAtom d)) (cS := zCf (SX11_readAtom d)) (B := zBf BX11_readAtom) (F := 80) (own := RX11) (by decide +kernel) rfl (Or.inr (Or.inl ⟨rfl, rfl⟩)) (fun vs h => by obtain ⟨t, rfl⟩ := zlen1 h; exact Nat.le_of_ble_eq_true rfl) PX11_ok zClok_ok zSyok_ok oX11_readAtom (zAllC_e (zAllC_c (Or.inl (zcal_v (mX11_letters l) (by omega) (by decide) hX11_letters kX11_92 ⟨by decide, by decide +kernel⟩ (ci := 11) rfl rfl rfl)) (zAllC_c (Or.inl (zcal_v (mX11_sign l) (by omega) (by decide) hX11_sign kX11_119 ⟨by decide, by decide +kernel⟩ (ci := 11) rfl rfl rfl)) (zAllC_c (Or.inl (zcal_v (mX11_deeper l) (by omega) (by decide) hX11_deeper kX11_123 ⟨by decide, by decide +kernel⟩ (ci := 11) rfl rfl rfl)) (zAllC_c (Or.inl (zcal_v h_readCond hl_readCond (by decide) hX11_readCond kX11_143 ⟨by decide, by decide +kernel⟩ (ci := 11) rfl rfl rfl)) (zAllC_c (Or.inl (zcal_v (mX11_closes l) (by omega) (by decide) hX11_closes kX11_146 ⟨by decide, by decide +kernel⟩ (ci := 11) rfl rfl rfl)) (zAllC_c (Or.inl (zcal_v (mX11_passes l) (by omega) (by decide) hX11_passes kX11_151 ⟨by decide, by decide +kernel⟩ (ci := 11) rfl rfl rfl)) (zAllC_c (Or.inl (zcal_v h_readAtom hl_readAtom (by decide) hX11_readAtom kX11_154 ⟨by decide, by decide +kernel⟩ (ci := 11) rfl rfl rfl)) (zAllC_c (Or.inl (zcal_v (mX11_emits l) (by omega) (by decide) hX11_emits kX11_157 ⟨by decide, by decide +kernel⟩ (ci := 11) rfl rfl rfl)) (zAllC_c (Or.inl (zcal_v (mX11_factAt l) (by omega) (by decide) hX11_factAt kX11_162 ⟨by decide, by decide +kernel⟩ (ci := 11) rfl rfl rfl)) (zAllC_c (Or.inl (zcal_v (mX11_number l) (by omega) (by decide) hX11_number kX11_165 ⟨by decide, by decide +kernel⟩ (ci := 11) rfl rfl rfl)) (zAllC_n)))))))))))) (zAllC_e (zAllC_n)) ?_
  intro vs mem hvl hok hm hpre
  obtain ⟨t, rfl⟩ := zlen1 hvl
  clear hok hvl
  obtain ⟨hid, hpre⟩ := hpre
  simp only [List.mem_cons, List.not_mem_nil, or_false] at hid
  have hp0 : zGd mem ∧ mem 80 9 = d := hpre
  subst hid
  refine ⟨zIf [], zAllI_e zAllI_n, ?_⟩
  simp (maxSteps := 3000000) only [↓zwp_s, zrun_n, zrun_c, zgo_any, zgo_bel, ↓zgA_n, ↓zgA_c, ↓zgB_n, ↓zgB_c, ↓zp1_c, ↓zpv_c, ↓ztg_e, ↓zFv_r, ↓zFv_i, ↓zFv_z, ↓reduceIte, ↓zi_aload_n, ↓zi_bipush, ↓zi_dup, ↓zi_getfield, ↓zi_goto, ↓zi_iadd, ↓zi_iconst, ↓zi_ifCond, ↓zi_iload_n, ↓zi_imul, ↓zi_ireturn, ↓zi_istore_n, ↓zi_isub, ↓zi_ldc, ↓zi_putfield, ↓zi_sipush, zcmp_eq, zcmp_ne, zcmp_ge, ↓zpl_e pX11_116, ↓zpl_e pX11_149, ↓zpl_e pX11_160, ↓zo_80_0, ↓zo_80_1, ↓zo_80_2, ↓zo_80_3, ↓zo_80_4, ↓zo_80_5, ↓zo_80_6, ↓zo_80_7, ↓zo_80_8, ↓zo_80_9, ↓zo_80_10, ↓zo_80_11, ↓zo_80_12, ↓zo_80_13, ↓zo_80_14, ↓zo_80_15, ↓zo_80_16, ↓zo_80_17, ↓zo_80_18, ↓zo_80_19, ↓zo_80_20, ↓zo_80_21, ↓zo_80_22, ↓zo_80_23, ↓zo_80_24, bX11_readAtom_0, bX11_readAtom_36, bX11_readAtom_37, bX11_readAtom_38, bX11_readAtom_61, bX11_readAtom_63, bX11_readAtom_81, bX11_readAtom_98, bX11_readAtom_113, bX11_readAtom_135, bX11_readAtom_147, bX11_readAtom_148, List.size_toArray, zent_n, zent_c, zst_e, zfi0, zfi1, zfi2, zfi3, zcast, Nat.reduceAdd, Nat.reduceSub, Nat.reduceEqDiff, Nat.reduceLT, Nat.reduceLeDiff, Int.reduceAdd, Int.reduceSub, Int.reduceMul, Int.reduceToNat, Int.reduceLE, Int.reduceLT, Int.reduceEq, Int.reduceNeg, Int.reduceNegSucc, Nat.reduceMul, List.zip_cons_cons, List.zip_nil_left, List.zip_nil_right, Int.toNat_natCast, true_and, and_true, eq_self, ne_eq, not_false_eq_true, not_true_eq_false, forall_const, implies_true, false_and, true_or, or_true, false_or, or_false, imp_self, CX11_readAtom, ↓zv_cg (cv := zCf (VX11_readAtom d)) (k := 92) (h := (rfl : zCf (VX11_readAtom d) 92 = some CX11_letters)), ↓zv_cm (cv := zCf (VX11_readAtom d)) (k := 119) (h := (rfl : zCf (VX11_readAtom d) 119 = some CX11_sign)), ↓zv_cm (cv := zCf (VX11_readAtom d)) (k := 123) (h := (rfl : zCf (VX11_readAtom d) 123 = some CX11_deeper)), ↓zv_cm (cv := zCf (VX11_readAtom d)) (k := 143) (h := (rfl : zCf (VX11_readAtom d) 143 = some (CX11_readCond (d + 1)))), ↓zv_cm (cv := zCf (VX11_readAtom d)) (k := 146) (h := (rfl : zCf (VX11_readAtom d) 146 = some CX11_closes)), ↓zv_cm (cv := zCf (VX11_readAtom d)) (k := 151) (h := (rfl : zCf (VX11_readAtom d) 151 = some CX11_passes)), ↓zv_cm (cv := zCf (VX11_readAtom d)) (k := 154) (h := (rfl : zCf (VX11_readAtom d) 154 = some (CX11_readAtom (d + 1)))), ↓zv_cm (cv := zCf (VX11_readAtom d)) (k := 157) (h := (rfl : zCf (VX11_readAtom d) 157 = some CX11_emits)), ↓zv_cp (cv := zCf (VX11_readAtom d)) (k := 162) (h := (rfl : zCf (VX11_readAtom d) 162 = some CX11_factAt)), ↓zv_cg (cv := zCf (VX11_readAtom d)) (k := 165) (h := (rfl : zCf (VX11_readAtom d) 165 = some CX11_number)), and_imp, exists_eq_left, exists_eq_left', exists_eq_right, exists_eq_right', exists_and_left, exists_and_right, Prod.mk.injEq, zAdd_e, zSub_e, zMul_e, zres_0, zres_4, zres_1, zres_9, zrt_0, zrt_4, zrt_1, zrt_9, List.take_succ_cons, List.take_zero, List.drop_succ_cons, List.drop_zero, List.map_cons, List.map_nil, List.reverse_cons, List.reverse_nil, List.nil_append, List.cons_append, List.length_cons, List.length_nil, zPr_c, List.mem_cons, List.not_mem_nil, ↓zIV_e, zcats, List.sum_cons, List.sum_nil, zpu, zfu, zset_e, zbm, ↓zc_ne00, ↓zc_ne01, ↓zc_ne10, ↓zc_ne11, ↓zc_eq00, ↓zc_eq01, ↓zc_eq10, ↓zc_eq11, zs_80_81, zs_83_81, zs_84_81, zs_85_81, zs_86_81, zs_87_81, zs_88_81, zs_89_81, zs_90_81, zs_91_81, zs_92_81, zs_93_81]
  obtain ⟨g1, g2⟩ := hp0
  have hg := g1
  unfold zGd at hg
  refine ⟨⟨by omega, by omega, by omega⟩, ?_⟩
  intro m1 _
  refine ⟨fun k1 k2 k3 k4 => ?_, fun k1 k2 k3 k4 => ?_⟩
  · have G1 := zGd_on g1 k1 k2 (by omega) k4
    have e9 := zK_9 k1
    refine ⟨⟨by omega, by omega⟩, ?_⟩
    intro m2 _
    refine ⟨fun h6 h2 => ?_, fun h6 h2 => by rw [h2]; exact zKp_KX k1⟩
    have G2 : zGd m2 := by rw [h2]; exact zGd_dp G1 (by omega) (by omega)
    have e2 : m2 80 9 = m1 80 9 + 1 := by rw [h2]; rfl
    have kX : zKp zpX mem m2 := by rw [h2]; exact zKp_st (zKp_KX k1) (by unfold zpX; omega)
    refine ⟨⟨G2, by omega⟩, ?_⟩
    intro m3 _
    refine ⟨fun h3 => ?_, fun h3 => zKp_tr kX h3⟩
    have g3 := h3.1
    unfold zGd at g3
    refine ⟨⟨by omega, by omega, by omega, by omega, by omega⟩, ?_⟩
    intro m4 _
    refine ⟨fun a b c dd e => ?_, fun a => zKp_tr (zKp_tr kX (zKp_DX h3.2.2.1)) (zKp_OX a)⟩
    rw [h2] at h3
    exact zAt_br g1 g2 k1 (by omega) h3 a b c dd e
  have G1 := zGd_on g1 k1 k2 (by omega) k4
  have gg1 := G1
  unfold zGd at gg1
  refine ⟨⟨by omega, by omega, by omega⟩, ?_⟩
  intro m2 _
  refine ⟨fun n1 n2 n3 n4 => ?_, fun n1 n2 n3 n4 => ?_⟩
  · rw [zLv_17] at n3
    have K2 := zKp_tr k1 n1
    have G2 := zGd_on G1 n1 n2 (by omega) n4
    have e9 := zK_9 K2
    refine ⟨⟨by omega, by omega⟩, ?_⟩
    intro m3 _
    refine ⟨fun h6 h2 => ?_, fun h6 h2 => by rw [h2]; exact zKp_KX K2⟩
    have G3 : zGd m3 := by rw [h2]; exact zGd_dp G2 (by omega) (by omega)
    have e2 : m3 80 9 = m2 80 9 + 1 := by rw [h2]; rfl
    have kX : zKp zpX mem m3 := by rw [h2]; exact zKp_st (zKp_KX K2) (by unfold zpX; omega)
    refine ⟨⟨G3, by omega⟩, ?_⟩
    intro m4 _
    refine ⟨fun h3 => ?_, fun h3 => zKp_tr kX h3⟩
    have g4 := h3.1
    unfold zGd at g4
    refine ⟨⟨by omega, by omega⟩, ?_⟩
    intro m5 _
    refine ⟨fun h5 => ?_, fun z => z.elim⟩
    have e94 : m4 80 9 = d + 1 := h3.2.1
    rw [h2] at h3
    rw [h5]
    exact zAt_not g1 g2 K2 (by omega) h3 (by rw [zw_id (by omega) (by omega)]; omega)
  have K2 := zKp_tr k1 n1
  have G2 := zGd_on G1 n1 n2 (by omega) n4
  have gg2 := G2
  unfold zGd at gg2
  refine ⟨⟨by omega, by omega, by omega⟩, ?_⟩
  intro m3 _
  refine ⟨fun b1 b2 b3 b4 => ?_, fun b1 b2 b3 b4 => ?_⟩
  · rw [zLv_18] at b3
    have G3 := zGd_on G2 b1 b2 (by omega) b4
    have gg3 := G3
    unfold zGd at gg3
    refine ⟨⟨by omega, by omega⟩, ?_⟩
    intro m4 _
    refine ⟨fun h4 => ?_, fun z => z.elim⟩
    rw [h4]
    exact zAt_1 g1 g2 (zKp_tr K2 b1) G3 (by omega) (by omega)
  have K3 := zKp_tr K2 b1
  have G3 := zGd_on G2 b1 b2 (by omega) b4
  have gg3 := G3
  unfold zGd at gg3
  refine ⟨⟨by omega, by omega, by omega⟩, ?_⟩
  intro _ m4 _ _ l1 l2 l3 l4
  have K4 := zKp_tr K3 l1
  have G4 := zGd_on G3 l1 l2 l3 l4
  have gg4 := G4
  unfold zGd at gg4
  refine ⟨⟨by omega, by omega, by omega⟩, ?_⟩
  intro r _ _ _ r0 r1 r2
  refine ⟨fun r3 => ?_, fun r3 => zKp_KX K4⟩
  have r4 := r2 r3
  refine ⟨⟨by omega, by omega, by omega⟩, ?_⟩
  intro m5 _
  have hw0 : zw (zw (2 * r) + 0) ≤ 16 := by rw [zw_id (x := 2 * r) (by omega) (by omega), zw_id (by omega) (by omega)]; omega
  have hw1 : zw (zw (2 * r) + 1) ≤ 16 := by rw [zw_id (x := 2 * r) (by omega) (by omega), zw_id (by omega) (by omega)]; omega
  have hfin : ∀ (m6 m7 : zM) (w n : Int), zKp zpK mem m6 → zGd m6 → mem 80 6 + 4 ≤ m6 80 6 → w ≤ 16 → m7 = zset (zset (zset m6 81 (5517 + 2 * m6 80 13).toNat w) 81 (5517 + 2 * m6 80 13 + 1).toNat n) 80 13 (m6 80 13 + 1) → zAtd d mem m7 ∧ zKp zpX mem m7 := fun m6 m7 w n hK hG hp hw h => by
    have A := zAt_1 (n := n) g1 g2 hK hG hp hw
    rw [← h] at A
    exact ⟨A, zKp_DX A.2.2.1⟩
  refine ⟨fun s1 s2 s3 s4 => ?_, fun s1 s2 s3 s4 => ?_⟩
  · have K5 := zKp_tr K4 s1
    have G5 := zGd_on G4 s1 s2 (by omega) s4
    have gg5 := G5
    unfold zGd at gg5
    refine ⟨⟨by omega, by omega, by omega⟩, ?_⟩
    intro n m6 _ _ _ _ t1 t2 t3 t4
    have G6 := zGd_on G5 t1 t2 (by omega) t4
    have gg6 := G6
    unfold zGd at gg6
    refine ⟨⟨by omega, by omega⟩, ?_⟩
    intro m7 _
    exact ⟨fun _ h => (hfin m6 m7 _ _ (zKp_tr K5 t1) G6 (by omega) hw0 h).1, fun _ h => (hfin m6 m7 _ _ (zKp_tr K5 t1) G6 (by omega) hw0 h).2⟩
  · have K5 := zKp_tr K4 s1
    have G5 := zGd_on G4 s1 s2 (by omega) s4
    have gg5 := G5
    unfold zGd at gg5
    refine ⟨⟨by omega, by omega, by omega⟩, ?_⟩
    intro m6 _
    refine ⟨fun u1 u2 u3 u4 => ?_, fun u1 u2 u3 u4 => zKp_KX (zKp_tr K5 u1)⟩
    have K6 := zKp_tr K5 u1
    have G6 := zGd_on G5 u1 u2 (by omega) u4
    have gg6 := G6
    unfold zGd at gg6
    refine ⟨⟨by omega, by omega, by omega⟩, ?_⟩
    intro n m7 _ _ _ _ t1 t2 t3 t4
    have G7 := zGd_on G6 t1 t2 (by omega) t4
    have gg7 := G7
    unfold zGd at gg7
    refine ⟨⟨by omega, by omega⟩, ?_⟩
    intro m8 _
    exact ⟨fun _ h => (hfin m7 m8 _ _ (zKp_tr K6 t1) G7 (by omega) hw1 h).1, fun _ h => (hfin m7 m8 _ _ (zKp_tr K6 t1) G7 (by omega) hw1 h).2⟩
