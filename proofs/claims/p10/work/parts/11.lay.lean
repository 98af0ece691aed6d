/-! ===== the cells of the system, in the order of their making; what a program decides of tables and code ===== -/
def zLay : List zC := [(0, 10, [(2, 1), (2, 23), (4, 0), (2, 45), (2, 48), (2, 55), (0, 0), (2, 56), (2, 59)]),
  (0, 9, [(2, 2), (2, 5), (2, 12), (2, 16), (2, 22), (0, 0), (0, 0), (0, 0), (0, 0), (0, 0)]),
  (0, 0, [(2, 3), (2, 4), (0, 0)]),
  (1, 100, []),
  (1, 100, []),
  (0, 8, [(2, 6), (2, 7), (2, 8), (2, 9), (0, 0), (2, 10), (2, 11), (0, 0), (0, 0)]),
  (1, 16, []),
  (1, 16, []),
  (1, 16, []),
  (1, 16, []),
  (1, 16, []),
  (1, 16, []),
  (0, 1, [(2, 13), (2, 14), (2, 15), (0, 0)]),
  (1, 4, []),
  (1, 4, []),
  (1, 4, []),
  (0, 2, [(2, 17), (2, 18), (2, 19), (2, 20), (0, 0), (0, 0), (2, 21)]),
  (1, 100, []),
  (1, 100, []),
  (1, 100, []),
  (1, 100, []),
  (3, 100, []),
  (1, 8, []),
  (0, 9, [(2, 24), (2, 27), (2, 34), (2, 38), (2, 44), (0, 0), (0, 0), (0, 0), (0, 0), (0, 0)]),
  (0, 0, [(2, 25), (2, 26), (0, 0)]),
  (1, 100, []),
  (1, 100, []),
  (0, 8, [(2, 28), (2, 29), (2, 30), (2, 31), (0, 0), (2, 32), (2, 33), (0, 0), (0, 0)]),
  (1, 16, []),
  (1, 16, []),
  (1, 16, []),
  (1, 16, []),
  (1, 16, []),
  (1, 16, []),
  (0, 1, [(2, 35), (2, 36), (2, 37), (0, 0)]),
  (1, 4, []),
  (1, 4, []),
  (1, 4, []),
  (0, 2, [(2, 39), (2, 40), (2, 41), (2, 42), (0, 0), (0, 0), (2, 43)]),
  (1, 100, []),
  (1, 100, []),
  (1, 100, []),
  (1, 100, []),
  (3, 100, []),
  (1, 8, []),
  (0, 0, [(2, 46), (2, 47), (0, 0)]),
  (1, 100, []),
  (1, 100, []),
  (0, 4, [(2, 49), (2, 53), (0, 0), (0, 0), (0, 0), (0, 0)]),
  (0, 3, [(2, 50), (2, 51), (2, 52), (0, 0)]),
  (1, 200, []),
  (1, 200, []),
  (1, 200, []),
  (0, 7, [(2, 54), (0, 0)]),
  (1, 400, []),
  (5, 4, [(2, 64), (2, 68), (2, 72), (2, 76)]),
  (0, 6, [(2, 57), (2, 58), (0, 0), (0, 0), (0, 0)]),
  (1, 6, []),
  (1, 6, []),
  (0, 5, [(2, 60), (2, 61), (2, 62), (2, 63), (0, 0), (0, 0), (0, 0), (0, 0), (0, 0)]),
  (2, 6000, []),
  (1, 100, []),
  (3, 100, []),
  (2, 100, []),
  (0, 3, [(2, 65), (2, 66), (2, 67), (0, 0)]),
  (1, 200, []),
  (1, 200, []),
  (1, 200, []),
  (0, 3, [(2, 69), (2, 70), (2, 71), (0, 0)]),
  (1, 200, []),
  (1, 200, []),
  (1, 200, []),
  (0, 3, [(2, 73), (2, 74), (2, 75), (0, 0)]),
  (1, 200, []),
  (1, 200, []),
  (1, 200, []),
  (0, 3, [(2, 77), (2, 78), (2, 79), (0, 0)]),
  (1, 200, []),
  (1, 200, []),
  (1, 200, []),
  (0, 11, [(0, 0), (2, 81), (2, 82), (4, 0), (2, 83), (0, 0), (0, 0), (0, 0), (0, 0), (0, 0), (0, 0), (2, 84), (0, 0), (0, 0), (2, 85), (2, 86), (2, 87), (2, 88), (2, 89), (2, 90), (2, 91), (2, 92), (0, 0), (0, 0), (2, 93)]),
  (1, 5917, []),
  (1, 4856, []),
  (4, 400, []),
  (1, 5, []),
  (1, 16, []),
  (3, 100, []),
  (1, 200, []),
  (1, 7, []),
  (1, 7, []),
  (2, 6100, []),
  (3, 100, []),
  (3, 100, []),
  (1, 100, []),
  (2, 1, [])]
theorem zy_0 : zLay[0]? = some (0, 10, [(2, 1), (2, 23), (4, 0), (2, 45), (2, 48), (2, 55), (0, 0), (2, 56), (2, 59)]) := rfl
theorem zy_1 : zLay[1]? = some (0, 9, [(2, 2), (2, 5), (2, 12), (2, 16), (2, 22), (0, 0), (0, 0), (0, 0), (0, 0), (0, 0)]) := rfl
theorem zy_2 : zLay[2]? = some (0, 0, [(2, 3), (2, 4), (0, 0)]) := rfl
theorem zy_3 : zLay[3]? = some (1, 100, []) := rfl
theorem zy_4 : zLay[4]? = some (1, 100, []) := rfl
theorem zy_5 : zLay[5]? = some (0, 8, [(2, 6), (2, 7), (2, 8), (2, 9), (0, 0), (2, 10), (2, 11), (0, 0), (0, 0)]) := rfl
theorem zy_6 : zLay[6]? = some (1, 16, []) := rfl
theorem zy_7 : zLay[7]? = some (1, 16, []) := rfl
theorem zy_8 : zLay[8]? = some (1, 16, []) := rfl
theorem zy_9 : zLay[9]? = some (1, 16, []) := rfl
theorem zy_10 : zLay[10]? = some (1, 16, []) := rfl
theorem zy_11 : zLay[11]? = some (1, 16, []) := rfl
theorem zy_12 : zLay[12]? = some (0, 1, [(2, 13), (2, 14), (2, 15), (0, 0)]) := rfl
theorem zy_13 : zLay[13]? = some (1, 4, []) := rfl
theorem zy_14 : zLay[14]? = some (1, 4, []) := rfl
theorem zy_15 : zLay[15]? = some (1, 4, []) := rfl
theorem zy_16 : zLay[16]? = some (0, 2, [(2, 17), (2, 18), (2, 19), (2, 20), (0, 0), (0, 0), (2, 21)]) := rfl
theorem zy_17 : zLay[17]? = some (1, 100, []) := rfl
theorem zy_18 : zLay[18]? = some (1, 100, []) := rfl
theorem zy_19 : zLay[19]? = some (1, 100, []) := rfl
theorem zy_20 : zLay[20]? = some (1, 100, []) := rfl
theorem zy_21 : zLay[21]? = some (3, 100, []) := rfl
theorem zy_22 : zLay[22]? = some (1, 8, []) := rfl
theorem zy_23 : zLay[23]? = some (0, 9, [(2, 24), (2, 27), (2, 34), (2, 38), (2, 44), (0, 0), (0, 0), (0, 0), (0, 0), (0, 0)]) := rfl
theorem zy_24 : zLay[24]? = some (0, 0, [(2, 25), (2, 26), (0, 0)]) := rfl
theorem zy_25 : zLay[25]? = some (1, 100, []) := rfl
theorem zy_26 : zLay[26]? = some (1, 100, []) := rfl
theorem zy_27 : zLay[27]? = some (0, 8, [(2, 28), (2, 29), (2, 30), (2, 31), (0, 0), (2, 32), (2, 33), (0, 0), (0, 0)]) := rfl
theorem zy_28 : zLay[28]? = some (1, 16, []) := rfl
theorem zy_29 : zLay[29]? = some (1, 16, []) := rfl
theorem zy_30 : zLay[30]? = some (1, 16, []) := rfl
theorem zy_31 : zLay[31]? = some (1, 16, []) := rfl
theorem zy_32 : zLay[32]? = some (1, 16, []) := rfl
theorem zy_33 : zLay[33]? = some (1, 16, []) := rfl
theorem zy_34 : zLay[34]? = some (0, 1, [(2, 35), (2, 36), (2, 37), (0, 0)]) := rfl
theorem zy_35 : zLay[35]? = some (1, 4, []) := rfl
theorem zy_36 : zLay[36]? = some (1, 4, []) := rfl
theorem zy_37 : zLay[37]? = some (1, 4, []) := rfl
theorem zy_38 : zLay[38]? = some (0, 2, [(2, 39), (2, 40), (2, 41), (2, 42), (0, 0), (0, 0), (2, 43)]) := rfl
theorem zy_39 : zLay[39]? = some (1, 100, []) := rfl
theorem zy_40 : zLay[40]? = some (1, 100, []) := rfl
theorem zy_41 : zLay[41]? = some (1, 100, []) := rfl
theorem zy_42 : zLay[42]? = some (1, 100, []) := rfl
theorem zy_43 : zLay[43]? = some (3, 100, []) := rfl
theorem zy_44 : zLay[44]? = some (1, 8, []) := rfl
theorem zy_45 : zLay[45]? = some (0, 0, [(2, 46), (2, 47), (0, 0)]) := rfl
theorem zy_46 : zLay[46]? = some (1, 100, []) := rfl
theorem zy_47 : zLay[47]? = some (1, 100, []) := rfl
theorem zy_48 : zLay[48]? = some (0, 4, [(2, 49), (2, 53), (0, 0), (0, 0), (0, 0), (0, 0)]) := rfl
theorem zy_49 : zLay[49]? = some (0, 3, [(2, 50), (2, 51), (2, 52), (0, 0)]) := rfl
theorem zy_50 : zLay[50]? = some (1, 200, []) := rfl
theorem zy_51 : zLay[51]? = some (1, 200, []) := rfl
theorem zy_52 : zLay[52]? = some (1, 200, []) := rfl
theorem zy_53 : zLay[53]? = some (0, 7, [(2, 54), (0, 0)]) := rfl
theorem zy_54 : zLay[54]? = some (1, 400, []) := rfl
theorem zy_55 : zLay[55]? = some (5, 4, [(2, 64), (2, 68), (2, 72), (2, 76)]) := rfl
theorem zy_56 : zLay[56]? = some (0, 6, [(2, 57), (2, 58), (0, 0), (0, 0), (0, 0)]) := rfl
theorem zy_57 : zLay[57]? = some (1, 6, []) := rfl
theorem zy_58 : zLay[58]? = some (1, 6, []) := rfl
theorem zy_59 : zLay[59]? = some (0, 5, [(2, 60), (2, 61), (2, 62), (2, 63), (0, 0), (0, 0), (0, 0), (0, 0), (0, 0)]) := rfl
theorem zy_60 : zLay[60]? = some (2, 6000, []) := rfl
theorem zy_61 : zLay[61]? = some (1, 100, []) := rfl
theorem zy_62 : zLay[62]? = some (3, 100, []) := rfl
theorem zy_63 : zLay[63]? = some (2, 100, []) := rfl
theorem zy_64 : zLay[64]? = some (0, 3, [(2, 65), (2, 66), (2, 67), (0, 0)]) := rfl
theorem zy_65 : zLay[65]? = some (1, 200, []) := rfl
theorem zy_66 : zLay[66]? = some (1, 200, []) := rfl
theorem zy_67 : zLay[67]? = some (1, 200, []) := rfl
theorem zy_68 : zLay[68]? = some (0, 3, [(2, 69), (2, 70), (2, 71), (0, 0)]) := rfl
theorem zy_69 : zLay[69]? = some (1, 200, []) := rfl
theorem zy_70 : zLay[70]? = some (1, 200, []) := rfl
theorem zy_71 : zLay[71]? = some (1, 200, []) := rfl
theorem zy_72 : zLay[72]? = some (0, 3, [(2, 73), (2, 74), (2, 75), (0, 0)]) := rfl
theorem zy_73 : zLay[73]? = some (1, 200, []) := rfl
theorem zy_74 : zLay[74]? = some (1, 200, []) := rfl
theorem zy_75 : zLay[75]? = some (1, 200, []) := rfl
theorem zy_76 : zLay[76]? = some (0, 3, [(2, 77), (2, 78), (2, 79), (0, 0)]) := rfl
theorem zy_77 : zLay[77]? = some (1, 200, []) := rfl
theorem zy_78 : zLay[78]? = some (1, 200, []) := rfl
theorem zy_79 : zLay[79]? = some (1, 200, []) := rfl
theorem zy_80 : zLay[80]? = some (0, 11, [(0, 0), (2, 81), (2, 82), (4, 0), (2, 83), (0, 0), (0, 0), (0, 0), (0, 0), (0, 0), (0, 0), (2, 84), (0, 0), (0, 0), (2, 85), (2, 86), (2, 87), (2, 88), (2, 89), (2, 90), (2, 91), (2, 92), (0, 0), (0, 0), (2, 93)]) := rfl
theorem zy_81 : zLay[81]? = some (1, 5917, []) := rfl
theorem zy_82 : zLay[82]? = some (1, 4856, []) := rfl
theorem zy_83 : zLay[83]? = some (4, 400, []) := rfl
theorem zy_84 : zLay[84]? = some (1, 5, []) := rfl
theorem zy_85 : zLay[85]? = some (1, 16, []) := rfl
theorem zy_86 : zLay[86]? = some (3, 100, []) := rfl
theorem zy_87 : zLay[87]? = some (1, 200, []) := rfl
theorem zy_88 : zLay[88]? = some (1, 7, []) := rfl
theorem zy_89 : zLay[89]? = some (1, 7, []) := rfl
theorem zy_90 : zLay[90]? = some (2, 6100, []) := rfl
theorem zy_91 : zLay[91]? = some (3, 100, []) := rfl
theorem zy_92 : zLay[92]? = some (3, 100, []) := rfl
theorem zy_93 : zLay[93]? = some (1, 100, []) := rfl
theorem zy_94 : zLay[94]? = some (2, 1, []) := rfl
def zAt (n : Nat) : Option Cond := if n < 115 then (k2_sels lw_privs)[n]? else if n < 355 then tables_1_1[n - 115]? else if n < 595 then tables_1_2[n - 355]? else if n < 835 then tables_1_3[n - 595]? else if n < 1075 then tables_1_4[n - 835]? else if n < 1315 then tables_1_5[n - 1075]? else if n < 1555 then tables_1_6[n - 1315]? else if n < 1795 then tables_1_7[n - 1555]? else if n < 2035 then tables_1_8[n - 1795]? else tables_1_9[n - 2035]?
theorem zAt_mem {n : Nat} {w : Cond} (h : zAt n = some w) : w ∈ lw_tbl := by
  unfold zAt at h
  unfold lw_tbl tables_1
  simp only [List.mem_append]
  split at h
  · exact Or.inl (List.mem_of_getElem? h)
  split at h
  · exact Or.inr (Or.inl (List.mem_of_getElem? h))
  split at h
  · exact Or.inr (Or.inr (Or.inl (List.mem_of_getElem? h)))
  split at h
  · exact Or.inr (Or.inr (Or.inr (Or.inl (List.mem_of_getElem? h))))
  split at h
  · exact Or.inr (Or.inr (Or.inr (Or.inr (Or.inl (List.mem_of_getElem? h)))))
  split at h
  · exact Or.inr (Or.inr (Or.inr (Or.inr (Or.inr (Or.inl (List.mem_of_getElem? h))))))
  split at h
  · exact Or.inr (Or.inr (Or.inr (Or.inr (Or.inr (Or.inr (Or.inl (List.mem_of_getElem? h)))))))
  split at h
  · exact Or.inr (Or.inr (Or.inr (Or.inr (Or.inr (Or.inr (Or.inr (Or.inl (List.mem_of_getElem? h))))))))
  split at h
  · exact Or.inr (Or.inr (Or.inr (Or.inr (Or.inr (Or.inr (Or.inr (Or.inr (Or.inl (List.mem_of_getElem? h)))))))))
  exact Or.inr (Or.inr (Or.inr (Or.inr (Or.inr (Or.inr (Or.inr (Or.inr (Or.inr (List.mem_of_getElem? h)))))))))
def zT (n : Nat) (w : Cond) : Bool := decide (zAt n = some w)
def zG (n : Nat) (w : Cond) : Bool := zT n w && goodWord w
theorem zT_mem {n : Nat} {w : Cond} (h : zT n w = true) : w ∈ lw_tbl := zAt_mem (of_decide_eq_true h)
/-- a word told by its place, without a look into its bytes -/
theorem zC_mem {n : Nat} {w : Cond} (h : zAt n = some w) (hg : goodWord w = true) : w ∈ zTbl := List.mem_filter.mpr ⟨zAt_mem h, hg⟩
theorem zG_mem {n : Nat} {w : Cond} (h : zG n w = true) : w ∈ zTbl := by
  obtain ⟨h1, h2⟩ := Bool.and_eq_true_iff.mp h
  exact List.mem_filter.mpr ⟨zT_mem h1, h2⟩
def zChk (own : String) (q : Nat × Nat × Nat × Nat × Int × Nat) : Bool := match q.2.1 with
  | 0 => match zCl[q.2.2.1]? with
    | none => false
    | some r => decide (q.2.2.2.1 < r.2.2) && decide ((r.2.1 q.2.2.2.1).1 = r.1) && (zG q.2.2.2.2.2 (.fieldLink own q.1 r.1 (r.2.1 q.2.2.2.1).2.1 (r.2.1 q.2.2.2.1).2.2.1) || zT q.2.2.2.2.2 (.fieldLinkNest own q.1 r.1 (r.2.1 q.2.2.2.1).2.1 (r.2.1 q.2.2.2.1).2.2.1 "SandRails")) &&
        decide (q.2.2.2.2.1 = 1 → (r.2.1 q.2.2.2.1).2.2.2 = false ∧ parseFieldDescriptor (r.2.1 q.2.2.2.1).2.2.1 = some .int) && decide (q.2.2.2.2.1 = 2 → (r.2.1 q.2.2.2.1).2.2.2 = false ∧ parseFieldDescriptor (r.2.1 q.2.2.2.1).2.2.1 = some .boolean)
  | 1 => zG q.2.2.2.2.2 (.constant own q.1 (Int32.ofInt q.2.2.2.2.1)) && decide (-2147483648 ≤ q.2.2.2.2.1 ∧ q.2.2.2.2.1 ≤ 2147483647)
  | 2 => zG q.2.2.2.2.2 (.constantLong own q.1 (Int64.ofInt q.2.2.2.2.1)) && decide (-9223372036854775808 ≤ q.2.2.2.2.1 ∧ q.2.2.2.2.1 ≤ 9223372036854775807)
  | 3 => match zTxR[q.2.2.2.2.2]? with
    | none => false
    | some r => decide (r.1 = own) && decide (r.2.1 = q.1) && decide (r.2.2.2 = q.2.2.1)
  | 4 => match zStN[q.2.2.1]? with
    | none => false
    | some nm => zG q.2.2.2.2.2 (.fieldLink own q.1 "SandRails" nm "[I") || zT q.2.2.2.2.2 (.fieldLinkNest own q.1 "SandRails" nm "[I" "SandRails")
  | 6 => zG q.2.2.2.2.2 (.methodLink own q.1 arraycopyName)
  | _ => false
def zPlf (L : List (Nat × Nat × Nat × Nat × Int × Nat)) : zPo := fun k => (L.find? (fun q => q.1 == k)).map fun q => (q.2.1, q.2.2.1, q.2.2.2.1, q.2.2.2.2.1)
theorem zPlok_of {own : String} {L : List (Nat × Nat × Nat × Nat × Int × Nat)} (h : L.all (zChk own) = true) : zPlok own (zPlf L) := by
  intro k kd x y z hk
  unfold zPlf at hk
  cases hf : L.find? (fun q => q.1 == k) with
  | none => rw [hf] at hk; cases hk
  | some q =>
    rw [hf] at hk
    have h1 := List.find?_some hf
    have h2 := List.all_eq_true.mp h q (List.mem_of_find?_eq_some hf)
    obtain ⟨a, b, c, d, e, pos⟩ := q
    have h3 : a = k := by simpa using h1
    subst h3
    simp only [Option.map_some, Option.some.injEq, Prod.mk.injEq] at hk
    obtain ⟨e1, e2, e3, e4⟩ := hk
    subst e1; subst e2; subst e3; subst e4
    unfold zChk at h2
    refine ⟨fun e0 => ?_, fun e0 => ?_, fun e0 => ?_, fun e0 => ?_, fun e0 => ?_, fun e0 => ?_⟩ <;> subst e0 <;> dsimp only at h2
    · cases hq : zCl[c]? with
      | none => rw [hq] at h2; cases h2
      | some r =>
        rw [hq] at h2
        simp only [Bool.and_eq_true, Bool.or_eq_true, decide_eq_true_eq] at h2
        obtain ⟨⟨⟨⟨g1, g2⟩, g3⟩, g4⟩, g5⟩ := h2
        refine ⟨r, rfl, g1, g2, ?_, g4, g5⟩
        rcases g3 with g3 | g3
        · exact Or.inl (zG_mem g3)
        · exact Or.inr ⟨"SandRails", zT_mem g3⟩
    · simp only [Bool.and_eq_true, decide_eq_true_eq] at h2
      exact ⟨zG_mem h2.1, h2.2⟩
    · simp only [Bool.and_eq_true, decide_eq_true_eq] at h2
      exact ⟨zG_mem h2.1, h2.2⟩
    · cases hq : zTxR[pos]? with
      | none => rw [hq] at h2; cases h2
      | some r =>
        rw [hq] at h2
        obtain ⟨r1, r2, r3, r4⟩ := r
        simp only [Bool.and_eq_true, decide_eq_true_eq] at h2
        obtain ⟨⟨g1, g2⟩, g3⟩ := h2
        subst g1; subst g2; subst g3
        exact ⟨r3, List.mem_of_getElem? hq⟩
    · cases hq : zStN[c]? with
      | none => rw [hq] at h2; cases h2
      | some nm =>
        rw [hq] at h2
        simp only [Bool.or_eq_true] at h2
        refine ⟨nm, rfl, ?_⟩
        rcases h2 with g | g
        · exact Or.inl (zG_mem g)
        · exact Or.inr ⟨"SandRails", zT_mem g⟩
    · exact zG_mem h2
def zdecB (cc : ByteArray) : Nat → List (Instr × Nat) → Bool
  | _, [] => true
  | pc, q :: r => decide (decode cc pc = .ok (q.1, q.2)) && zdecB cc (pc + q.2) r
theorem zdecB_ok {cc : ByteArray} : ∀ (b : List (Instr × Nat)) (pc : Nat), zdecB cc pc b = true → zdec cc pc b := by
  intro b
  induction b with
  | nil => intro pc _; trivial
  | cons q r ih =>
    intro pc h
    obtain ⟨h1, h2⟩ := Bool.and_eq_true_iff.mp h
    exact ⟨of_decide_eq_true h1, ih _ h2⟩
def zBf (L : List (Nat × List (Instr × Nat))) : Nat → List (Instr × Nat) := fun pc => ((L.find? (fun q => q.1 == pc)).map (·.2)).getD []
theorem zBf_ok {cc : ByteArray} {L : List (Nat × List (Instr × Nat))} (h : L.all (fun q => zdecB cc q.1 q.2) = true) : ∀ pc, zdec cc pc (zBf L pc) := by
  intro pc
  unfold zBf
  cases hf : L.find? (fun q => q.1 == pc) with
  | none => trivial
  | some q =>
    have h1 : q.1 = pc := by simpa using List.find?_some hf
    have h2 := List.all_eq_true.mp h q (List.mem_of_find?_eq_some hf)
    subst h1
    exact zdecB_ok _ _ h2
/-- contracts of callees, by their entries -/
def zCf (L : List (Nat × zCt)) : Nat → Option zCt := fun k => (L.find? (fun q => q.1 == k)).map (·.2)
theorem zCf_all {L : List (Nat × zCt)} {P : Nat → zCt → Prop} (h : ∀ x ∈ L, P x.1 x.2) : ∀ k q, zCf L k = some q → P k q := by
  intro k q hk
  unfold zCf at hk
  cases hf : L.find? (fun q => q.1 == k) with
  | none => rw [hf] at hk; cases hk
  | some r =>
    rw [hf] at hk
    cases hk
    have h1 : r.1 = k := by simpa using List.find?_some hf
    subst h1
    exact h r (List.mem_of_find?_eq_some hf)
def zIf (L : List (Nat × (Nat → zL → List zV → zM → Prop))) : zI := fun k => (L.find? (fun q => q.1 == k)).map (·.2)
theorem zIf_all {L : List (Nat × (Nat → zL → List zV → zM → Prop))} {P : Nat → (Nat → zL → List zV → zM → Prop) → Prop} (h : ∀ x ∈ L, P x.1 x.2) : ∀ k q, zIf L k = some q → P k q := by
  intro k q hk
  unfold zIf at hk
  cases hf : L.find? (fun q => q.1 == k) with
  | none => rw [hf] at hk; cases hk
  | some r =>
    rw [hf] at hk
    cases hk
    have h1 : r.1 = k := by simpa using List.find?_some hf
    subst h1
    exact h r (List.mem_of_find?_eq_some hf)
theorem zSyok_ok : zSyok := by
  refine ⟨zG_mem (n := 600) ?_, zG_mem (n := 599) ?_, zG_mem (n := 137) ?_⟩ <;> decide +kernel
theorem zk_0 : ∀ w ∈ wsX00, w ∈ zTbl := by decide +kernel
theorem zk_1 : ∀ w ∈ wsX10, w ∈ zTbl := by decide +kernel
theorem zk_2 : ∀ w ∈ wsX20, w ∈ zTbl := by decide +kernel
theorem zk_3 : ∀ w ∈ wsX30, w ∈ zTbl := by decide +kernel
theorem zk_4 : ∀ w ∈ wsX40, w ∈ zTbl := by decide +kernel
theorem zk_5 : ∀ w ∈ wsX50, w ∈ zTbl := by decide +kernel
theorem zk_6 : ∀ w ∈ wsX60, w ∈ zTbl := by decide +kernel
theorem zk_7 : ∀ w ∈ wsX70, w ∈ zTbl := by decide +kernel
theorem zk_8 : ∀ w ∈ wsX80, w ∈ zTbl := by decide +kernel
theorem zk_9 : ∀ w ∈ wsX90, w ∈ zTbl := by decide +kernel
theorem zk_10 : ∀ w ∈ wsX100, w ∈ zTbl := by decide +kernel
theorem zk_11 : ∀ w ∈ wsX110, w ∈ zTbl := by decide +kernel
theorem zClok_ok : zClok := by
  intro ci q h
  match ci, h with
  | 0, h => cases h; exact ⟨zk_0, tyX0, tyX0_ok, nmX0⟩
  | 1, h => cases h; exact ⟨zk_1, tyX1, tyX1_ok, nmX1⟩
  | 2, h => cases h; exact ⟨zk_2, tyX2, tyX2_ok, nmX2⟩
  | 3, h => cases h; exact ⟨zk_3, tyX3, tyX3_ok, nmX3⟩
  | 4, h => cases h; exact ⟨zk_4, tyX4, tyX4_ok, nmX4⟩
  | 5, h => cases h; exact ⟨zk_5, tyX5, tyX5_ok, nmX5⟩
  | 6, h => cases h; exact ⟨zk_6, tyX6, tyX6_ok, nmX6⟩
  | 7, h => cases h; exact ⟨zk_7, tyX7, tyX7_ok, nmX7⟩
  | 8, h => cases h; exact ⟨zk_8, tyX8, tyX8_ok, nmX8⟩
  | 9, h => cases h; exact ⟨zk_9, tyX9, tyX9_ok, nmX9⟩
  | 10, h => cases h; exact ⟨zk_10, tyX10, tyX10_ok, nmX10⟩
  | 11, h => cases h; exact ⟨zk_11, tyX11, tyX11_ok, nmX11⟩
  | k + 12, h => simp [zCl] at h
