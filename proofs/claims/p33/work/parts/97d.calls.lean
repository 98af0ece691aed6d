/-! ===== the law's calls: every contract of its tables is met ===== -/
theorem zlV_call {p : Program} {l : Launch} {e : Env} {R : Room} {s : State} {m : MethodId} {args : Array Value} {below : List Frame} {meth : Method} {c : Code} {cells slots : Nat} {cc : ByteArray} {nL : Nat} {own : String} {Λ : List zC} {D : va_G} {ad sa sv : Nat → Nat} {cs : Nat → ClassId} {A : Nat → Prop} {idx LV : Nat} {q : zCt} (S : CallFix p m c cc nL s args zTbl own) (hG : zGl D cs sa sv A s) (hA : ∀ q, s.heap.size ≤ q → A q) (hC : zCallee l Λ own idx true LV q) (hR : LV + 2 ≤ R.frames ∧ 40 * LV + 139 ≤ R.locals) (hf : cells ≤ R.cells ∧ slots ≤ R.slots) : zCOK p l e R s m args below meth c cells slots nL Λ D ad sa cs A cc (.invokevirtual idx) q.1 q.2.1 q.2.2.1 q.2.2.2 := by
  obtain ⟨y, code, maxL, lv, ret, hM, hlt, hmx, hcode, hini, hlk, hv, -⟩ := hC
  obtain ⟨tl, ci, r, e1, hnm, hin, hsel, hq, hqn, hrc⟩ := hv rfl
  rw [e1] at hM ⊢
  exact zcall_V S hG hA hM hnm hcode hini hin hsel hlk hq hqn hrc ⟨by omega, by omega⟩ hf
def zCalW (l : Launch) (own : String) (idx LV : Nat) (q : zCt) : Prop := ∃ (y : MethodName) (code : ByteArray) (maxL lv : Nat) (hh : List (Nat × Nat × Nat × Nat)), zMetW l zLay y code maxL hh lv q.1 q.2.2.1 q.2.2.2 ∧ lv < LV ∧ maxL ≤ 20 ∧ zNm y q.1.length ∧ Cond.codeWith y code maxL (some .int) hh ∈ zTbl ∧ Cond.initialized y.cls ∈ zTbl ∧ Cond.static y ∈ zTbl ∧ Cond.methodLink own idx y ∈ zTbl ∧ q.2.1 = 0
theorem zlW_call {p : Program} {l : Launch} {e : Env} {R : Room} {s : State} {m : MethodId} {args : Array Value} {below : List Frame} {meth : Method} {c : Code} {cells slots : Nat} {Q : State → Prop} {cc : ByteArray} {nL : Nat} {own : String} {D : va_G} {ad sa sv : Nat → Nat} {cs : Nat → ClassId} {A : Nat → Prop} {idx LV : Nat} {q : zCt} (S : CallFix p m c cc nL s args zTbl own) (hG : zGl D cs sa sv A s) (hGx : zGx A s) (hA : ∀ q, s.heap.size ≤ q → A q) (hltr : l.stackTraces = false) (hC : zCalW l own idx LV q) (hR : LV + 14 ≤ R.frames ∧ 40 * LV + 939 ≤ R.locals) (hf : cells + 1 ≤ R.cells ∧ slots + 6 ≤ R.slots) : zCOW p l e R s m args below meth c cells slots Q nL zLay D ad sa cs A cc (.invokestatic idx) q.1 q.2.1 q.2.2.1 q.2.2.2 := by
  obtain ⟨y, code, maxL, lv, hh, hM, hlt, hmx, hnm, hcode, hini, hst, hlk, h0⟩ := hC
  rw [h0]
  exact zcall_W S hG hGx hA hltr hM hnm hcode hini hst hlk ⟨by omega, by omega⟩ hf
set_option maxRecDepth 100000 in
theorem vL_law (l : Launch) : ∀ i q, zCf VL_law i = some q → zCallee l zLay "SandRailsLaw" i true 120 q := zAllC_e (L := VL_law)
    (zAllC_c (zcal_v (mX10_feed l) (by decide) (by decide) hX10_feed (Or.inl (zG_mem (n := 459) (by decide +kernel))) ⟨by decide, by decide +kernel⟩ (ci := 10) rfl rfl rfl)
    (zAllC_c (zcal_v (mX11_feed l) (by decide) (by decide) hX11_feed (Or.inl (zG_mem (n := 1556) (by decide +kernel))) ⟨by decide, by decide +kernel⟩ (ci := 11) rfl rfl rfl)
    (zAllC_c (zcal_v (mX10_end l) (by decide) (by decide) hX10_end (Or.inl (zG_mem (n := 471) (by decide +kernel))) ⟨by decide, by decide +kernel⟩ (ci := 10) rfl rfl rfl)
    (zAllC_c (zcal_v (mX11_end l) (by decide) (by decide) hX11_end (Or.inl (zG_mem (n := 1560) (by decide +kernel))) ⟨by decide, by decide +kernel⟩ (ci := 11) rfl rfl rfl)
    (zAllC_c (zcal_v (mX11_orders l) (by decide) (by decide) hX11_orders (Or.inl (zG_mem (n := 1568) (by decide +kernel))) ⟨by decide, by decide +kernel⟩ (ci := 11) rfl rfl rfl)
    (zAllC_c (zcal_v (mX10_fault l) (by decide) (by decide) hX10_fault (Or.inl (zG_mem (n := 479) (by decide +kernel))) ⟨by decide, by decide +kernel⟩ (ci := 10) rfl rfl rfl)
    (zAllC_c (zcal_v (mX11_fault l) (by decide) (by decide) hX11_fault (Or.inl (zG_mem (n := 1564) (by decide +kernel))) ⟨by decide, by decide +kernel⟩ (ci := 11) rfl rfl rfl)
    (zAllC_c (zcal_v (mX11_ground l) (by decide) (by decide) hX11_ground (Or.inl (zG_mem (n := 1701) (by decide +kernel))) ⟨by decide, by decide +kernel⟩ (ci := 11) rfl rfl rfl)
    (zAllC_c (zcal_v (mX11_kind l) (by decide) (by decide) hX11_kind (Or.inl (zG_mem (n := 1733) (by decide +kernel))) ⟨by decide, by decide +kernel⟩ (ci := 11) rfl rfl rfl)
    (zAllC_c (zcal_v (mX11_rail l) (by decide) (by decide) hX11_rail (Or.inl (zG_mem (n := 1741) (by decide +kernel))) ⟨by decide, by decide +kernel⟩ (ci := 11) rfl rfl rfl)
    (zAllC_c (zcal_v (mX11_gang l) (by decide) (by decide) hX11_gang (Or.inl (zG_mem (n := 1749) (by decide +kernel))) ⟨by decide, by decide +kernel⟩ (ci := 11) rfl rfl rfl)
    (zAllC_c (zcal_v (mX11_task l) (by decide) (by decide) hX11_task (Or.inl (zG_mem (n := 1753) (by decide +kernel))) ⟨by decide, by decide +kernel⟩ (ci := 11) rfl rfl rfl)
    (zAllC_c (zcal_v (mX11_store l) (by decide) (by decide) hX11_store (Or.inl (zG_mem (n := 1757) (by decide +kernel))) ⟨by decide, by decide +kernel⟩ (ci := 11) rfl rfl rfl)
    (zAllC_c (zcal_v (mX11_set l) (by decide) (by decide) hX11_set (Or.inl (zG_mem (n := 1769) (by decide +kernel))) ⟨by decide, by decide +kernel⟩ (ci := 11) rfl rfl rfl)
    (zAllC_c (zcal_v (mX11_lift l) (by decide) (by decide) hX11_lift (Or.inl (zG_mem (n := 1796) (by decide +kernel))) ⟨by decide, by decide +kernel⟩ (ci := 11) rfl rfl rfl)
    (zAllC_c (zcal_v (mX11_lay l) (by decide) (by decide) hX11_lay (Or.inl (zG_mem (n := 1836) (by decide +kernel))) ⟨by decide, by decide +kernel⟩ (ci := 11) rfl rfl rfl)
    (zAllC_c (zcal_v (mX11_go l) (by decide) (by decide) hX11_go (Or.inl (zG_mem (n := 1859) (by decide +kernel))) ⟨by decide, by decide +kernel⟩ (ci := 11) rfl rfl rfl)
    (zAllC_c (zcal_v (mX11_fill l) (by decide) (by decide) hX11_fill (Or.inl (zG_mem (n := 1883) (by decide +kernel))) ⟨by decide, by decide +kernel⟩ (ci := 11) rfl rfl rfl)
    (zAllC_c (zcal_v (mX11_dig l) (by decide) (by decide) hX11_dig (Or.inl (zG_mem (n := 1899) (by decide +kernel))) ⟨by decide, by decide +kernel⟩ (ci := 11) rfl rfl rfl)
    (zAllC_c (zcal_v (mX11_rest l) (by decide) (by decide) hX11_rest (Or.inl (zG_mem (n := 1915) (by decide +kernel))) ⟨by decide, by decide +kernel⟩ (ci := 11) rfl rfl rfl)
    (zAllC_c (zcal_v (mX11_run l) (by decide) (by decide) hX11_run (Or.inl (zG_mem (n := 1919) (by decide +kernel))) ⟨by decide, by decide +kernel⟩ (ci := 11) rfl rfl rfl)
    (zAllC_c (zcal_v (mX10_where l) (by decide) (by decide) hX10_where (Or.inl (zG_mem (n := 483) (by decide +kernel))) ⟨by decide, by decide +kernel⟩ (ci := 10) rfl rfl rfl)
    (zAllC_c (zcal_v (mX11_where l) (by decide) (by decide) hX11_where (Or.inl (zG_mem (n := 1935) (by decide +kernel))) ⟨by decide, by decide +kernel⟩ (ci := 11) rfl rfl rfl)
    (zAllC_c (zcal_v (mX11_look l) (by decide) (by decide) hX11_look (Or.inl (zG_mem (n := 1939) (by decide +kernel))) ⟨by decide, by decide +kernel⟩ (ci := 11) rfl rfl rfl)
    (zAllC_c (zcal_v (mX10_line l) (by decide) (by decide) hX10_line (Or.inl (zG_mem (n := 487) (by decide +kernel))) ⟨by decide, by decide +kernel⟩ (ci := 10) rfl rfl rfl)
    (zAllC_c (zcal_v (mX11_line l) (by decide) (by decide) hX11_line (Or.inl (zG_mem (n := 1947) (by decide +kernel))) ⟨by decide, by decide +kernel⟩ (ci := 11) rfl rfl rfl)
    (zAllC_c (zcal_v (mX11_route l) (by decide) (by decide) hX11_route (Or.inl (zG_mem (n := 1951) (by decide +kernel))) ⟨by decide, by decide +kernel⟩ (ci := 11) rfl rfl rfl)
    (zAllC_c (zcal_v (mX11_reach l) (by decide) (by decide) hX11_reach (Or.inl (zG_mem (n := 1990) (by decide +kernel))) ⟨by decide, by decide +kernel⟩ (ci := 11) rfl rfl rfl)
    (zAllC_c (zcal_v (mX10_joints l) (by decide) (by decide) hX10_joints (Or.inl (zG_mem (n := 499) (by decide +kernel))) ⟨by decide, by decide +kernel⟩ (ci := 10) rfl rfl rfl)
    (zAllC_c (zcal_v (mX11_joints l) (by decide) (by decide) hX11_joints (Or.inl (zG_mem (n := 1994) (by decide +kernel))) ⟨by decide, by decide +kernel⟩ (ci := 11) rfl rfl rfl)
    (zAllC_c (zcal_v (mX10_worn l) (by decide) (by decide) hX10_worn (Or.inl (zG_mem (n := 534) (by decide +kernel))) ⟨by decide, by decide +kernel⟩ (ci := 10) rfl rfl rfl)
    (zAllC_c (zcal_v (mX11_worn l) (by decide) (by decide) hX11_worn (Or.inl (zG_mem (n := 1998) (by decide +kernel))) ⟨by decide, by decide +kernel⟩ (ci := 11) rfl rfl rfl)
    (zAllC_c (zcal_v (mX10_few l) (by decide) (by decide) hX10_few (Or.inl (zG_mem (n := 550) (by decide +kernel))) ⟨by decide, by decide +kernel⟩ (ci := 10) rfl rfl rfl)
    (zAllC_c (zcal_v (mX11_few l) (by decide) (by decide) hX11_few (Or.inl (zG_mem (n := 2006) (by decide +kernel))) ⟨by decide, by decide +kernel⟩ (ci := 11) rfl rfl rfl)
    (zAllC_c (zcal_v (mX11_steal l) (by decide) (by decide) hX11_steal (Or.inl (zG_mem (n := 2010) (by decide +kernel))) ⟨by decide, by decide +kernel⟩ (ci := 11) rfl rfl rfl)
    (zAllC_c (zcal_v (mX11_lose l) (by decide) (by decide) hX11_lose (Or.inl (zG_mem (n := 2014) (by decide +kernel))) ⟨by decide, by decide +kernel⟩ (ci := 11) rfl rfl rfl)
    (zAllC_c (zcal_v (mX11_which l) (by decide) (by decide) hX11_which (Or.inl (zG_mem (n := 2018) (by decide +kernel))) ⟨by decide, by decide +kernel⟩ (ci := 11) rfl rfl rfl)
    (zAllC_c (zcal_v (mX11_ahead l) (by decide) (by decide) hX11_ahead (Or.inl (zG_mem (n := 2022) (by decide +kernel))) ⟨by decide, by decide +kernel⟩ (ci := 11) rfl rfl rfl)
    (zAllC_c (zcal_v (mX10_image l) (by decide) (by decide) hX10_image (Or.inl (zG_mem (n := 586) (by decide +kernel))) ⟨by decide, by decide +kernel⟩ (ci := 10) rfl rfl rfl)
    (zAllC_c (zcal_v (mX11_image l) (by decide) (by decide) hX11_image (Or.inl (zG_mem (n := 1548) (by decide +kernel))) ⟨by decide, by decide +kernel⟩ (ci := 11) rfl rfl rfl)
    (zAllC_c (zcal_v (mX10_back l) (by decide) (by decide) hX10_back (Or.inl (zG_mem (n := 617) (by decide +kernel))) ⟨by decide, by decide +kernel⟩ (ci := 10) rfl rfl rfl)
    (zAllC_c (zcal_v (mX11_back l) (by decide) (by decide) hX11_back (Or.inl (zG_mem (n := 1552) (by decide +kernel))) ⟨by decide, by decide +kernel⟩ (ci := 11) rfl rfl rfl)
    (zAllC_c (zcal_v (mX10_count l) (by decide) (by decide) hX10_count (Or.inl (zG_mem (n := 558) (by decide +kernel))) ⟨by decide, by decide +kernel⟩ (ci := 10) rfl rfl rfl)
    (zAllC_c (zcal_v (mX11_count l) (by decide) (by decide) hX11_count (Or.inl (zG_mem (n := 2034) (by decide +kernel))) ⟨by decide, by decide +kernel⟩ (ci := 11) rfl rfl rfl)
    (zAllC_n)))))))))))))))))))))))))))))))))))))))))))))
set_option maxRecDepth 100000 in
theorem wL_law (l : Launch) : ∀ i q, zCf WL_law i = some q → zCalW l "SandRailsLaw" i 120 q := zAllC_e (L := WL_law)
    (zAllC_c ⟨_, _, _, _, _, mL_orders l, by decide, by decide, ⟨by decide, by decide +kernel⟩, zG_mem (n := 623) (by decide +kernel), zG_mem (n := 115) (by decide +kernel), zG_mem (n := 622) (by decide +kernel), zG_mem (n := 621) (by decide +kernel), rfl⟩
    (zAllC_c ⟨_, _, _, _, _, mL_ground l, by decide, by decide, ⟨by decide, by decide +kernel⟩, zG_mem (n := 908) (by decide +kernel), zG_mem (n := 115) (by decide +kernel), zG_mem (n := 907) (by decide +kernel), zG_mem (n := 906) (by decide +kernel), rfl⟩
    (zAllC_c ⟨_, _, _, _, _, mL_kind l, by decide, by decide, ⟨by decide, by decide +kernel⟩, zG_mem (n := 950) (by decide +kernel), zG_mem (n := 115) (by decide +kernel), zG_mem (n := 949) (by decide +kernel), zG_mem (n := 948) (by decide +kernel), rfl⟩
    (zAllC_c ⟨_, _, _, _, _, mL_rail l, by decide, by decide, ⟨by decide, by decide +kernel⟩, zG_mem (n := 958) (by decide +kernel), zG_mem (n := 115) (by decide +kernel), zG_mem (n := 957) (by decide +kernel), zG_mem (n := 956) (by decide +kernel), rfl⟩
    (zAllC_c ⟨_, _, _, _, _, mL_gang l, by decide, by decide, ⟨by decide, by decide +kernel⟩, zG_mem (n := 971) (by decide +kernel), zG_mem (n := 115) (by decide +kernel), zG_mem (n := 970) (by decide +kernel), zG_mem (n := 969) (by decide +kernel), rfl⟩
    (zAllC_c ⟨_, _, _, _, _, mL_task l, by decide, by decide, ⟨by decide, by decide +kernel⟩, zG_mem (n := 984) (by decide +kernel), zG_mem (n := 115) (by decide +kernel), zG_mem (n := 983) (by decide +kernel), zG_mem (n := 982) (by decide +kernel), rfl⟩
    (zAllC_c ⟨_, _, _, _, _, mL_store l, by decide, by decide, ⟨by decide, by decide +kernel⟩, zG_mem (n := 1002) (by decide +kernel), zG_mem (n := 115) (by decide +kernel), zG_mem (n := 1001) (by decide +kernel), zG_mem (n := 1000) (by decide +kernel), rfl⟩
    (zAllC_c ⟨_, _, _, _, _, mL_set l, by decide, by decide, ⟨by decide, by decide +kernel⟩, zG_mem (n := 1060) (by decide +kernel), zG_mem (n := 115) (by decide +kernel), zG_mem (n := 1059) (by decide +kernel), zG_mem (n := 1058) (by decide +kernel), rfl⟩
    (zAllC_c ⟨_, _, _, _, _, mL_lift l, by decide, by decide, ⟨by decide, by decide +kernel⟩, zG_mem (n := 1113) (by decide +kernel), zG_mem (n := 115) (by decide +kernel), zG_mem (n := 1112) (by decide +kernel), zG_mem (n := 1111) (by decide +kernel), rfl⟩
    (zAllC_c ⟨_, _, _, _, _, mL_lay l, by decide, by decide, ⟨by decide, by decide +kernel⟩, zG_mem (n := 1167) (by decide +kernel), zG_mem (n := 115) (by decide +kernel), zG_mem (n := 1166) (by decide +kernel), zG_mem (n := 1165) (by decide +kernel), rfl⟩
    (zAllC_c ⟨_, _, _, _, _, mL_go l, by decide, by decide, ⟨by decide, by decide +kernel⟩, zG_mem (n := 1199) (by decide +kernel), zG_mem (n := 115) (by decide +kernel), zG_mem (n := 1198) (by decide +kernel), zG_mem (n := 1197) (by decide +kernel), rfl⟩
    (zAllC_c ⟨_, _, _, _, _, mL_fill l, by decide, by decide, ⟨by decide, by decide +kernel⟩, zG_mem (n := 1216) (by decide +kernel), zG_mem (n := 115) (by decide +kernel), zG_mem (n := 1215) (by decide +kernel), zG_mem (n := 1214) (by decide +kernel), rfl⟩
    (zAllC_c ⟨_, _, _, _, _, mL_dig l, by decide, by decide, ⟨by decide, by decide +kernel⟩, zG_mem (n := 1233) (by decide +kernel), zG_mem (n := 115) (by decide +kernel), zG_mem (n := 1232) (by decide +kernel), zG_mem (n := 1231) (by decide +kernel), rfl⟩
    (zAllC_c ⟨_, _, _, _, _, mL_rest l, by decide, by decide, ⟨by decide, by decide +kernel⟩, zG_mem (n := 1249) (by decide +kernel), zG_mem (n := 115) (by decide +kernel), zG_mem (n := 1248) (by decide +kernel), zG_mem (n := 1247) (by decide +kernel), rfl⟩
    (zAllC_c ⟨_, _, _, _, _, mL_run l, by decide, by decide, ⟨by decide, by decide +kernel⟩, zG_mem (n := 1258) (by decide +kernel), zG_mem (n := 115) (by decide +kernel), zG_mem (n := 1257) (by decide +kernel), zG_mem (n := 1256) (by decide +kernel), rfl⟩
    (zAllC_c ⟨_, _, _, _, _, mL_look l, by decide, by decide, ⟨by decide, by decide +kernel⟩, zG_mem (n := 1311) (by decide +kernel), zG_mem (n := 115) (by decide +kernel), zG_mem (n := 1310) (by decide +kernel), zG_mem (n := 1309) (by decide +kernel), rfl⟩
    (zAllC_c ⟨_, _, _, _, _, mL_route l, by decide, by decide, ⟨by decide, by decide +kernel⟩, zG_mem (n := 1335) (by decide +kernel), zG_mem (n := 115) (by decide +kernel), zG_mem (n := 1334) (by decide +kernel), zG_mem (n := 1333) (by decide +kernel), rfl⟩
    (zAllC_c ⟨_, _, _, _, _, mL_reach l, by decide, by decide, ⟨by decide, by decide +kernel⟩, zG_mem (n := 1413) (by decide +kernel), zG_mem (n := 115) (by decide +kernel), zG_mem (n := 1412) (by decide +kernel), zG_mem (n := 1411) (by decide +kernel), rfl⟩
    (zAllC_c ⟨_, _, _, _, _, mL_steal l, by decide, by decide, ⟨by decide, by decide +kernel⟩, zG_mem (n := 1425) (by decide +kernel), zG_mem (n := 115) (by decide +kernel), zG_mem (n := 1424) (by decide +kernel), zG_mem (n := 1423) (by decide +kernel), rfl⟩
    (zAllC_c ⟨_, _, _, _, _, mL_lose l, by decide, by decide, ⟨by decide, by decide +kernel⟩, zG_mem (n := 1437) (by decide +kernel), zG_mem (n := 115) (by decide +kernel), zG_mem (n := 1436) (by decide +kernel), zG_mem (n := 1435) (by decide +kernel), rfl⟩
    (zAllC_c ⟨_, _, _, _, _, mL_which l, by decide, by decide, ⟨by decide, by decide +kernel⟩, zG_mem (n := 1447) (by decide +kernel), zG_mem (n := 115) (by decide +kernel), zG_mem (n := 1446) (by decide +kernel), zG_mem (n := 1445) (by decide +kernel), rfl⟩
    (zAllC_c ⟨_, _, _, _, _, mL_ahead l, by decide, by decide, ⟨by decide, by decide +kernel⟩, zG_mem (n := 1458) (by decide +kernel), zG_mem (n := 115) (by decide +kernel), zG_mem (n := 1457) (by decide +kernel), zG_mem (n := 1456) (by decide +kernel), rfl⟩
    (zAllC_n)))))))))))))))))))))))
