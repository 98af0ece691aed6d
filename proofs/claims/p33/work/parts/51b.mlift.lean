def CX11_lifts : zCt := ([2], 0, zPr [80] (fun vs mem => match vs with | [t] => (zMi (mem 81) ∧ mem 81 13 = 1 ∧ 0 < mem 81 12 ∧ 0 < zstr (mem 81) 1 (mem 81 16).toNat) | _ => False), (fun vs mem r mem' => match vs with | [t] => (zMi (mem' 81) ∧ zKp zpA mem mem') | _ => False))
def VX11_lifts : List (Nat × zCt) := [(236, CX11_railAt), (239, CX11_ofRail), (242, CX11_lineMany), (265, CX11_setsRail), (290, CX11_logs), (304, CX11_elapses), (311, CX11_strength)]
def SX11_lifts : List (Nat × zCt) := [(251, CJ9_min_7cf53), (314, CX11_shared)]
set_option maxHeartbeats 8000000 in
set_option maxRecDepth 100000 in
theorem mX11_lifts (l : Launch) : zMet l zLay yX11_lifts cX11_lifts 4 (some .int) 4 CX11_lifts.1 CX11_lifts.2.1 CX11_lifts.2.2.1 CX11_lifts.2.2.2 := by
  refine zMet_of (pl := zPlf PX11) (cv := zCf VX11_lifts) (cS := zCf SX11_lifts) (B := zBf BX11_lifts) (F := 80) (own := RX11) (by decide +kernel) rfl (Or.inl ⟨rfl, rfl⟩) (fun vs h => by obtain ⟨t, rfl⟩ := zlen1 h; exact Nat.le_of_ble_eq_true rfl) PX11_ok zClok_ok zSyok_ok oX11_lifts (zAllC_e (zAllC_c (Or.inl (zcal_v (mX11_railAt l) (by decide) (by decide) hX11_railAt kX11_236 ⟨by decide, by decide +kernel⟩ (ci := 11) rfl rfl rfl)) (zAllC_c (Or.inl (zcal_v (mX11_ofRail l) (by decide) (by decide) hX11_ofRail kX11_239 ⟨by decide, by decide +kernel⟩ (ci := 11) rfl rfl rfl)) (zAllC_c (Or.inl (zcal_v (mX11_lineMany l) (by decide) (by decide) hX11_lineMany kX11_242 ⟨by decide, by decide +kernel⟩ (ci := 11) rfl rfl rfl)) (zAllC_c (Or.inl (zcal_v (mX11_setsRail l) (by decide) (by decide) hX11_setsRail kX11_265 ⟨by decide, by decide +kernel⟩ (ci := 11) rfl rfl rfl)) (zAllC_c (Or.inl (zcal_v (mX11_logs l) (by decide) (by decide) hX11_logs kX11_290 ⟨by decide, by decide +kernel⟩ (ci := 11) rfl rfl rfl)) (zAllC_c (Or.inl (zcal_v (mX11_elapses l) (by decide) (by decide) hX11_elapses kX11_304 ⟨by decide, by decide +kernel⟩ (ci := 11) rfl rfl rfl)) (zAllC_c (Or.inl (zcal_v (mX11_strength l) (by decide) (by decide) hX11_strength kX11_311 ⟨by decide, by decide +kernel⟩ (ci := 11) rfl rfl rfl)) (zAllC_n))))))))) (zAllC_e (zAllC_c (zcal_s (mJ9_min_7cf53 l) (by decide) (by decide) hJ9_min_7cf53 kX11_251 ⟨by decide, by decide +kernel⟩) (zAllC_c (zcal_s (mX11_shared l) (by decide) (by decide) hX11_shared kX11_314 ⟨by decide, by decide +kernel⟩) (zAllC_n)))) ?_
  intro vs mem hvl hok hm hpre
  obtain ⟨t, rfl⟩ := zlen1 hvl
  clear hok hvl
  obtain ⟨hid, hpre⟩ := hpre
  simp only [List.mem_cons, List.not_mem_nil, or_false] at hid
  have hpre : zMi (mem 81) ∧ mem 81 13 = 1 ∧ 0 < mem 81 12 ∧ 0 < zstr (mem 81) 1 (mem 81 16).toNat := hpre
  subst hid
  refine ⟨zIf [(15, (fun nq ls st m => (ls 1).1 = 0 ∧ (ls 2).1 = 0 ∧ (ls 3).1 = 0 ∧ ls 0 = (2, 80) ∧ st = [] ∧ ((zSh (ls 3).2 mem m) ∧ 1 ≤ (ls 3).2 ∧ (ls 3).2 ≤ mem 81 18 ∧ (ls 1).2 = mem 81 196 ∧ (16 - (ls 3).2).toNat ≤ nq)))], zAllI_e (zAllI_c ?_ (zAllI_n)), ?_⟩
  · intro nn ls st mem1 hm1 hl1 hJ
    obtain ⟨ht1, ht2, ht3, h0, rfl, hc⟩ := hJ
    obtain ⟨x1, h1⟩ : ∃ x, ls 1 = (0, x) := ⟨_, Prod.ext ht1 rfl⟩
    obtain ⟨x2, h2⟩ : ∃ x, ls 2 = (0, x) := ⟨_, Prod.ext ht2 rfl⟩
    obtain ⟨x3, h3⟩ : ∃ x, ls 3 = (0, x) := ⟨_, Prod.ext ht3 rfl⟩
    simp only [h1, h2, h3] at hc
    obtain ⟨hc0, hc1, hc2, hc3, hc4⟩ := hc
    simp (maxSteps := 3000000) only [↓zwp_s, zrun_n, zrun_c, zgo_any, zgo_bel, ↓zgA_n, ↓zgA_c, ↓zgB_n, ↓zgB_c, ↓zp1_c, ↓zpv_c, ↓ztg_e, ↓zFv_r, ↓zFv_i, ↓zFv_z, ↓reduceIte, ↓zi_aload_n, ↓zi_bipush, ↓zi_dup2, ↓zi_getfield, ↓zi_goto, ↓zi_iadd, ↓zi_iaload, ↓zi_iastore, ↓zi_iconst, ↓zi_if_icmp, ↓zi_iinc, ↓zi_iload_n, ↓zi_ireturn, ↓zi_istore_n, ↓zi_isub, ↓zi_sipush, zcmp_ge, ↓zpl_e pX11_13, ↓zo_80_0, ↓zo_80_1, ↓zo_80_2, ↓zo_80_3, ↓zo_80_4, ↓zo_80_5, ↓zo_80_6, ↓zo_80_7, ↓zo_80_8, ↓zo_80_9, ↓zo_80_10, ↓zo_80_11, ↓zo_80_12, ↓zo_80_13, ↓zo_80_14, ↓zo_80_15, ↓zo_80_16, ↓zo_80_17, ↓zo_80_18, ↓zo_80_19, ↓zo_80_20, ↓zo_80_21, ↓zo_80_22, ↓zo_80_23, ↓zo_80_24, ↓za_81, bX11_lifts_0, bX11_lifts_15, bX11_lifts_51, List.size_toArray, zent_n, zent_c, zst_e, zfi0, zfi1, zfi2, zfi3, zcast, Nat.reduceAdd, Nat.reduceSub, Nat.reduceEqDiff, Nat.reduceLT, Nat.reduceLeDiff, Int.reduceAdd, Int.reduceSub, Int.reduceMul, Int.reduceToNat, Int.reduceLE, Int.reduceLT, Int.reduceEq, Int.reduceNeg, Int.reduceNegSucc, Nat.reduceMul, List.zip_cons_cons, List.zip_nil_left, List.zip_nil_right, Int.toNat_natCast, true_and, and_true, eq_self, ne_eq, not_false_eq_true, not_true_eq_false, forall_const, implies_true, false_and, true_or, or_true, false_or, or_false, imp_self, CX11_lifts, ↓zv_cf (cv := zCf VX11_lifts) (k := 236) (h := (rfl : zCf VX11_lifts 236 = some CX11_railAt)), ↓zv_cf (cv := zCf VX11_lifts) (k := 239) (h := (rfl : zCf VX11_lifts 239 = some CX11_ofRail)), ↓zv_cf (cv := zCf VX11_lifts) (k := 242) (h := (rfl : zCf VX11_lifts 242 = some CX11_lineMany)), ↓zv_cd (cv := zCf VX11_lifts) (k := 265) (h := (rfl : zCf VX11_lifts 265 = some CX11_setsRail)), ↓zv_cg (cv := zCf VX11_lifts) (k := 290) (h := (rfl : zCf VX11_lifts 290 = some CX11_logs)), ↓zv_cg (cv := zCf VX11_lifts) (k := 304) (h := (rfl : zCf VX11_lifts 304 = some CX11_elapses)), ↓zv_cp (cv := zCf VX11_lifts) (k := 311) (h := (rfl : zCf VX11_lifts 311 = some CX11_strength)), ↓zs_cf (cS := zCf SX11_lifts) (pl := zPlf PX11) (k := 251) (h := (rfl : zCf SX11_lifts 251 = some CJ9_min_7cf53)) (h2 := rfl), ↓zs_cp (cS := zCf SX11_lifts) (pl := zPlf PX11) (k := 314) (h := (rfl : zCf SX11_lifts 314 = some CX11_shared)) (h2 := rfl), and_imp, exists_eq_left, exists_eq_left', exists_eq_right, exists_eq_right', exists_and_left, exists_and_right, Prod.mk.injEq, zAdd_e, zSub_e, zMul_e, zres_0, zres_4, zres_1, zres_9, zrt_0, zrt_4, zrt_1, zrt_9, List.take_succ_cons, List.take_zero, List.drop_succ_cons, List.drop_zero, List.map_cons, List.map_nil, List.reverse_cons, List.reverse_nil, List.nil_append, List.cons_append, List.length_cons, List.length_nil, zPr_c, List.mem_cons, List.not_mem_nil, ↓zIV_e, zcats, List.sum_cons, List.sum_nil, zpu, zfu, zset_e, ↓zc_ne00, ↓zc_ne01, ↓zc_ne10, ↓zc_ne11, ↓zc_eq00, ↓zc_eq01, ↓zc_eq10, ↓zc_eq11, zs_80_81, zs_83_81, zs_84_81, zs_85_81, zs_86_81, zs_87_81, zs_88_81, zs_89_81, zs_90_81, zs_91_81, zs_92_81, zs_93_81, h1, h2, h3, h0]
    obtain ⟨p1, p13, p12, pst⟩ := hpre
    have T := zMi_13 p1 p13
    have hb := zMi_b p1
    unfold zMb at hb
    have hgn := (zMi_gn p1).1
    have r0 := zLn_0 (zMi_ln p1) (by omega)
    have keep : ∀ j, (j < 196 ∨ 212 ≤ j) → mem1 81 j = mem 81 j := fun j hj => hc0.1 81 j (by omega)
    have k18 := keep 18 (by omega)
    have k12 := keep 12 (by omega)
    have k16 := keep 16 (by omega)
    have k19 := keep 19 (by omega)
    have hX : mem1 81 18 ≤ x3 → zMi (zset (zset (zset (zset mem1 81 18 (mem1 81 18 - 1)) 81 12 (mem1 81 12 - 1)) 81 (120 + 4 * x1 + 2).toNat 1) 81 (120 + 4 * x1 + 3).toNat (-1) 81) := fun hx => by
      refine zMi_lift p1 p13 p12 (fun j h1 h2 h3 => ?_) ?_ ?_ (fun p q0 q1 => ?_)
      · simp (disch := omega) only [zset_e, reduceIte, zifn]; exact keep j (by omega)
      · simp (disch := omega) only [zset_e, reduceIte, zifn]; omega
      · simp (disch := omega) only [zset_e, reduceIte, zifn]; omega
      · simp (disch := omega) only [zset_e, reduceIte, zifn]; exact hc0.2 p q0 (by omega)
    have hST : ∀ v, zstr (zset (zset (zset (zset (zset mem1 81 18 (mem1 81 18 - 1)) 81 12 (mem1 81 12 - 1)) 81 (120 + 4 * x1 + 2).toNat 1) 81 (120 + 4 * x1 + 3).toNat (-1)) 81 0 v 81) 1 (mem1 81 16).toNat = zstr (mem 81) 1 (mem 81 16).toNat := fun v => by
      rw [k16]
      refine zstr_c (by omega) (fun j h1 h2 => ?_)
      simp (disch := omega) only [zset_e, reduceIte, zifn]; exact keep j (by omega)
    simp (disch := omega) only [zifn, zw_id, hST]
    intro _ _ _
    refine ⟨fun hx => ?_, fun hx => ?_⟩
    · have hX2 := hX hx
      refine ⟨⟨by omega, by omega⟩, fun _ => ⟨⟨by omega, by omega⟩, fun _ _ _ _ => ⟨⟨by omega, by omega⟩, fun s _ _ _ hs => ⟨by omega, fun mn _ _ _ => ⟨⟨by omega, by omega⟩, fun _ m3 _ _ hl hl0 hl1 => ?_⟩⟩⟩⟩⟩
      have hM3 : zMi (m3 81) := zMi_log (zMi_free (zMi_free hX2 (by omega)) (by omega)) hl hl0 hl1
      refine ⟨⟨zMi_gn hM3, zMi_w0 hM3⟩, fun _ m4 _ _ hk h0 h1 => ⟨zMi_time hM3 hk h0 h1, ?_⟩⟩
      exact zKp_tr (zKp_tr (zKp_st (zKp_st (zKp_st (zKp_st (zKp_st (zKp_st (zSh_A hc0 (by omega)) (by unfold zpA; omega)) (by unfold zpA; omega)) (by unfold zpA; omega)) (by unfold zpA; omega)) (by unfold zpA; omega)) (by unfold zpA; omega)) (zKp_LA hl)) (zKp_MA hk)
    · have e2 : 196 + x3 - 1 = 195 + x3 := by omega
      simp only [e2]
      have hS := zSh_s hc0 hc1
      exact ⟨⟨by omega, by omega⟩, ⟨by omega, by omega⟩, nn - 1, by omega, hS, by omega, by omega, hc3, by omega⟩
  · simp (maxSteps := 3000000) only [↓zwp_s, zrun_n, zrun_c, zgo_any, zgo_bel, ↓zgA_n, ↓zgA_c, ↓zgB_n, ↓zgB_c, ↓zp1_c, ↓zpv_c, ↓ztg_e, ↓zFv_r, ↓zFv_i, ↓zFv_z, ↓reduceIte, ↓zi_aload_n, ↓zi_bipush, ↓zi_dup2, ↓zi_getfield, ↓zi_goto, ↓zi_iadd, ↓zi_iaload, ↓zi_iastore, ↓zi_iconst, ↓zi_if_icmp, ↓zi_iinc, ↓zi_iload_n, ↓zi_ireturn, ↓zi_istore_n, ↓zi_isub, ↓zi_sipush, zcmp_ge, ↓zpl_e pX11_13, ↓zo_80_0, ↓zo_80_1, ↓zo_80_2, ↓zo_80_3, ↓zo_80_4, ↓zo_80_5, ↓zo_80_6, ↓zo_80_7, ↓zo_80_8, ↓zo_80_9, ↓zo_80_10, ↓zo_80_11, ↓zo_80_12, ↓zo_80_13, ↓zo_80_14, ↓zo_80_15, ↓zo_80_16, ↓zo_80_17, ↓zo_80_18, ↓zo_80_19, ↓zo_80_20, ↓zo_80_21, ↓zo_80_22, ↓zo_80_23, ↓zo_80_24, ↓za_81, bX11_lifts_0, bX11_lifts_15, bX11_lifts_51, List.size_toArray, zent_n, zent_c, zst_e, zfi0, zfi1, zfi2, zfi3, zcast, Nat.reduceAdd, Nat.reduceSub, Nat.reduceEqDiff, Nat.reduceLT, Nat.reduceLeDiff, Int.reduceAdd, Int.reduceSub, Int.reduceMul, Int.reduceToNat, Int.reduceLE, Int.reduceLT, Int.reduceEq, Int.reduceNeg, Int.reduceNegSucc, Nat.reduceMul, List.zip_cons_cons, List.zip_nil_left, List.zip_nil_right, Int.toNat_natCast, true_and, and_true, eq_self, ne_eq, not_false_eq_true, not_true_eq_false, forall_const, implies_true, false_and, true_or, or_true, false_or, or_false, imp_self, CX11_lifts, ↓zv_cf (cv := zCf VX11_lifts) (k := 236) (h := (rfl : zCf VX11_lifts 236 = some CX11_railAt)), ↓zv_cf (cv := zCf VX11_lifts) (k := 239) (h := (rfl : zCf VX11_lifts 239 = some CX11_ofRail)), ↓zv_cf (cv := zCf VX11_lifts) (k := 242) (h := (rfl : zCf VX11_lifts 242 = some CX11_lineMany)), ↓zv_cd (cv := zCf VX11_lifts) (k := 265) (h := (rfl : zCf VX11_lifts 265 = some CX11_setsRail)), ↓zv_cg (cv := zCf VX11_lifts) (k := 290) (h := (rfl : zCf VX11_lifts 290 = some CX11_logs)), ↓zv_cg (cv := zCf VX11_lifts) (k := 304) (h := (rfl : zCf VX11_lifts 304 = some CX11_elapses)), ↓zv_cp (cv := zCf VX11_lifts) (k := 311) (h := (rfl : zCf VX11_lifts 311 = some CX11_strength)), ↓zs_cf (cS := zCf SX11_lifts) (pl := zPlf PX11) (k := 251) (h := (rfl : zCf SX11_lifts 251 = some CJ9_min_7cf53)) (h2 := rfl), ↓zs_cp (cS := zCf SX11_lifts) (pl := zPlf PX11) (k := 314) (h := (rfl : zCf SX11_lifts 314 = some CX11_shared)) (h2 := rfl), and_imp, exists_eq_left, exists_eq_left', exists_eq_right, exists_eq_right', exists_and_left, exists_and_right, Prod.mk.injEq, zAdd_e, zSub_e, zMul_e, zres_0, zres_4, zres_1, zres_9, zrt_0, zrt_4, zrt_1, zrt_9, List.take_succ_cons, List.take_zero, List.drop_succ_cons, List.drop_zero, List.map_cons, List.map_nil, List.reverse_cons, List.reverse_nil, List.nil_append, List.cons_append, List.length_cons, List.length_nil, zPr_c, List.mem_cons, List.not_mem_nil, ↓zIV_e, zcats, List.sum_cons, List.sum_nil, zpu, zfu, zset_e, ↓zc_ne00, ↓zc_ne01, ↓zc_ne10, ↓zc_ne11, ↓zc_eq00, ↓zc_eq01, ↓zc_eq10, ↓zc_eq11, zs_80_81, zs_83_81, zs_84_81, zs_85_81, zs_86_81, zs_87_81, zs_88_81, zs_89_81, zs_90_81, zs_91_81, zs_92_81, zs_93_81]
    obtain ⟨p1, p13, p12, pst⟩ := hpre
    have T := zMi_13 p1 p13
    have hb := zMi_b p1
    unfold zMb at hb
    have hgn := (zMi_gn p1).1
    have r0 := zLn_0 (zMi_ln p1) (by omega)
    repeat' (first | (exact zSh_0 _) | exact zfr_rf _ _ _ | (refine zfr_st ?_ (by omega) (by omega)) | (refine zfr_cp ?_ (by omega) (by omega)) | (refine zfr_tr ?_ (by assumption)) | (refine zfr_tr ?_ (zfr_mono (by assumption) (by omega) (by omega))) | (refine And.intro ?_ ?_) | (intro _) | (refine Exists.intro (nn - 1) ?_) | (refine Exists.intro 5000000000 ?_) | fail)
    all_goals (first | trivial | omega | skip)
