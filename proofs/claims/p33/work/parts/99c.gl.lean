/-! ===== the world at the law's start (a draft: not yet compiled) ===== -/
def zSrP : List ((String × Nat) × Nat) := [(("SandRails$Reader", 97), 657), (("SandRails$Reader", 103), 710), (("SandRails$Reader", 105), 711), (("SandRails$Reader", 107), 712), (("SandRails$Reader", 109), 713), (("SandRails$Reader", 111), 714), (("SandRails$Reader", 113), 715), (("SandRails$Reader", 115), 716), (("SandRails$Reader", 117), 717), (("SandRails$Reader", 119), 718), (("SandRails$Reader", 124), 731), (("SandRails$Reader", 126), 732), (("SandRails$Reader", 128), 733), (("SandRails$Reader", 130), 734), (("SandRails$Reader", 159), 779), (("SandRails$Reader", 164), 784), (("SandRails$Reader", 172), 793), (("SandRails$Reader", 174), 794), (("SandRails$Reader", 176), 795), (("SandRails$Reader", 178), 796), (("SandRails$Reader", 180), 797), (("SandRails$Reader", 182), 798), (("SandRails$Reader", 184), 799), (("SandRails$Reader", 186), 800), (("SandRails$Reader", 157), 801), (("SandRails$Reader", 152), 802), (("SandRailsModel", 193), 1596), (("SandRailsModel", 195), 1613), (("SandRailsModel", 197), 1614), (("SandRailsModel", 199), 1615), (("SandRailsModel", 201), 1616), (("SandRailsModel", 203), 1617), (("SandRailsModel", 208), 1642), (("SandRailsModel", 149), 1659), (("SandRailsModel", 160), 1671), (("SandRailsModel", 127), 1676), (("SandRailsModel", 129), 1677), (("SandRailsModel", 131), 1678), (("SandRailsModel", 133), 1679), (("SandRailsModel", 135), 1680), (("SandRailsModel", 137), 1681), (("SandRailsModel", 139), 1682), (("SandRailsModel", 141), 1683), (("SandRailsModel", 168), 1684), (("SandRailsModel", 173), 1685), (("SandRailsModel", 214), 1686), (("SandRailsModel", 216), 1687), (("SandRailsModel", 217), 1688), (("SandRailsModel", 175), 1693), (("SandRailsModel", 177), 1694), (("SandRailsModel", 179), 1695), (("SandRailsModel", 181), 1696)]
theorem zst_sr : zTxR.all (fun q => zT ((zSrP.lookup (q.1, q.2.1)).getD 0) (.stringRef q.1 q.2.1 q.2.2.1)) = true := by decide +kernel
theorem zst_rk : ∀ q ∈ zTxR, q.2.2.2 < 26 ∧ ((q.1 = "SandRails$Reader" ∧ q.2.1 = zTxN.getD q.2.2.2 0) ∨ (q.1 = "SandRailsModel" ∧ q.2.1 = zTxM.getD q.2.2.2 0)) := by decide
theorem zst_sx {N : Nat} {len : List Nat} {byt : List (List Int32)} {adK adJ adV : Nat → Nat} {A : Nat → Prop} {U : State} {H : Heap} (h : vk_S N len byt adK adV A U H) (e : ∀ i, i < N → adK i = adJ i) : vk_S N len byt adJ adV A U H :=
  ⟨fun i hi => by rw [← e i hi]; exact h.1 i hi, fun i j hi hj x => h.2 i j hi hj (by rw [e i hi, e j hj]; exact x)⟩
theorem zst_cat {v : Value} (h : v.isRef = true) : v.category = 1 := by
  cases v <;> first | rfl | (cases h)
theorem zst_G {args : Array Value} {s : State} {A : Nat → Prop} {D : va_G} {cs : Nat → ClassId} (b : Nat) (hts : ∀ w ∈ lw_tbl, w.before args s = true) (hn : narrow_1.before args s = true) (hA : ∀ a : Nat, a < s.heap.size → ¬ A a) (hC : zCg D cs s) : ∃ sa sv : Nat → Nat, zGl D cs sa sv A s ∧ sa 60 = b := by
  obtain ⟨t0, z0, y0⟩ := zst_s0 (args := args) (A := A) hts hn hA
  obtain ⟨t1, z1, y1⟩ := zst_s1 (args := args) (A := A) hts hn hA
  obtain ⟨t2, z2, y2⟩ := zst_s2 (args := args) (A := A) hts hn hA
  obtain ⟨adK, adV, hS, hE⟩ := zst_T (args := args) (A := A) hn hA
  obtain ⟨v, hv, hr⟩ := Cond.isRef_spec (args := args) (first := s) (o := none) (s := s) (idx := []) (zNr_b (p := [false, false, false, false, false, false, false, false, true, false]) (w := (Cond.isRef (Term.static "jdk/internal/util/Preconditions" "SIOOBE_FORMATTER" "Ljava/util/function/BiFunction;"))) hn (by decide +kernel))
  obtain ⟨sa, hsa⟩ : ∃ sa : Nat → Nat, sa = fun j => if j = 0 then t0 else if j = 1 then t1 else if j = 2 then t2 else if j < 29 then adK (j - 3) else if j = 60 then b else adV (j - 30) := ⟨_, rfl⟩
  have e3 : ∀ i, i < 26 → adK i = sa (3 + i) := fun i hi => by
    rw [hsa]
    show _ = if 3 + i = 0 then t0 else if 3 + i = 1 then t1 else if 3 + i = 2 then t2 else if 3 + i < 29 then adK (3 + i - 3) else if 3 + i = 60 then b else adV (3 + i - 30)
    rw [if_neg (by omega), if_neg (by omega), if_neg (by omega), if_pos (by omega), show 3 + i - 3 = i by omega]
  have e30 : ∀ i, i < 26 → sa (30 + i) = adV i := fun i hi => by
    rw [hsa]
    show (if 30 + i = 0 then t0 else if 30 + i = 1 then t1 else if 30 + i = 2 then t2 else if 30 + i < 29 then adK (30 + i - 3) else if 30 + i = 60 then b else adV (30 + i - 30)) = _
    rw [if_neg (by omega), if_neg (by omega), if_neg (by omega), if_neg (by omega), if_neg (by omega), show 30 + i - 30 = i by omega]
  have s0 : sa 0 = t0 := by rw [hsa]; rfl
  have s1 : sa 1 = t1 := by rw [hsa]; rfl
  have s2 : sa 2 = t2 := by rw [hsa]; rfl
  have hsr := List.all_eq_true.mp zst_sr
  refine ⟨sa, adV, ⟨hC.1, hC.2.1, fun j n vs h1 h2 => ?_, zst_sx hS e3, fun q hq => ?_, va_Zof (hts _ (zT_mem (n := 671) (by decide +kernel))) (hts _ (zT_mem (n := 128) (by decide +kernel))) (va_eqt (zNr_b (p := [false, false, false, false, false, false, false, false, false, true, true]) hn (by decide +kernel))) hA, ⟨v, zst_cat hr, va_Zof (hts _ (zT_mem (n := 687) (by decide +kernel))) (hts _ (zT_mem (n := 130) (by decide +kernel))) hv hA⟩, e30⟩, by rw [hsa]; rfl⟩
  · match j, h1, h2 with
    | 0, h1, h2 => cases h1; cases h2; rw [s0]; exact ⟨z0, y0⟩
    | 1, h1, h2 => cases h1; cases h2; rw [s1]; exact ⟨z1, y1⟩
    | 2, h1, h2 => cases h1; cases h2; rw [s2]; exact ⟨z2, y2⟩
    | k + 3, h1, h2 => simp [zStN] at h1
  · obtain ⟨hlt, hk⟩ := zst_rk q hq
    rw [← e3 _ hlt]
    refine vk_R.of (A := args) (hts _ (zT_mem (hsr q hq))) ?_
    rcases hk with ⟨k1, k2⟩ | ⟨k1, k2⟩
    · rw [k1, k2]; exact hE _ hlt
    · rw [k1, k2]; exact va_eqR (zNr_b hn (zrange zst_c6 hlt)) (hE _ hlt)
