/-! ===== the JDK's own numbers; frames ===== -/
def PJ9 : List (Nat × Nat × Nat × Nat × Int × Nat) := []
theorem PJ9_ok : zPlok RJ9 (zPlf PJ9) := zPlok_of rfl
def BJ9_abs_0f7a4 : List (Nat × List (Instr × Nat)) := [(0, [(.iload_n 0, 1), (.ifCond .ge 8, 3), (.iload_n 0, 1), (.ineg, 1), (.goto 4, 3)]), (9, [(.iload_n 0, 1)]), (10, [(.ireturn, 1)])]
theorem oJ9_abs_0f7a4 : ∀ pc, zdec cJ9_abs_0f7a4 pc (zBf BJ9_abs_0f7a4 pc) := zBf_ok (by decide +kernel)
theorem bJ9_abs_0f7a4_0 : zBf BJ9_abs_0f7a4 0 = [(.iload_n 0, 1), (.ifCond .ge 8, 3), (.iload_n 0, 1), (.ineg, 1), (.goto 4, 3)] := rfl
theorem bJ9_abs_0f7a4_9 : zBf BJ9_abs_0f7a4 9 = [(.iload_n 0, 1)] := rfl
theorem bJ9_abs_0f7a4_10 : zBf BJ9_abs_0f7a4 10 = [(.ireturn, 1)] := rfl
theorem hJ9_abs_0f7a4 : zMs yJ9_abs_0f7a4 cJ9_abs_0f7a4 1 (some .int) := ⟨zG_mem (n := 526) (by decide +kernel), zG_mem (n := 139) (by decide +kernel), zG_mem (n := 525) (by decide +kernel)⟩
def BJ9_floorMod_7cf53 : List (Nat × List (Instr × Nat)) := [(0, [(.iload_n 0, 1), (.iload_n 1, 1), (.irem, 1), (.istore_n 2, 1), (.iload_n 0, 1), (.iload_n 1, 1), (.ixor, 1), (.ifCond .ge 11, 3), (.iload_n 2, 1), (.ifCond .eq 7, 3), (.iload_n 2, 1), (.iload_n 1, 1), (.iadd, 1), (.ireturn, 1)]), (18, [(.iload_n 2, 1), (.ireturn, 1)])]
theorem oJ9_floorMod_7cf53 : ∀ pc, zdec cJ9_floorMod_7cf53 pc (zBf BJ9_floorMod_7cf53 pc) := zBf_ok (by decide +kernel)
theorem bJ9_floorMod_7cf53_0 : zBf BJ9_floorMod_7cf53 0 = [(.iload_n 0, 1), (.iload_n 1, 1), (.irem, 1), (.istore_n 2, 1), (.iload_n 0, 1), (.iload_n 1, 1), (.ixor, 1), (.ifCond .ge 11, 3), (.iload_n 2, 1), (.ifCond .eq 7, 3), (.iload_n 2, 1), (.iload_n 1, 1), (.iadd, 1), (.ireturn, 1)] := rfl
theorem bJ9_floorMod_7cf53_18 : zBf BJ9_floorMod_7cf53 18 = [(.iload_n 2, 1), (.ireturn, 1)] := rfl
theorem hJ9_floorMod_7cf53 : zMs yJ9_floorMod_7cf53 cJ9_floorMod_7cf53 3 (some .int) := ⟨zG_mem (n := 1106) (by decide +kernel), zG_mem (n := 139) (by decide +kernel), zG_mem (n := 1105) (by decide +kernel)⟩
def BJ9_max_7cf53 : List (Nat × List (Instr × Nat)) := [(0, [(.iload_n 0, 1), (.iload_n 1, 1), (.if_icmp .lt 7, 3), (.iload_n 0, 1), (.goto 4, 3)]), (9, [(.iload_n 1, 1)]), (10, [(.ireturn, 1)])]
theorem oJ9_max_7cf53 : ∀ pc, zdec cJ9_max_7cf53 pc (zBf BJ9_max_7cf53 pc) := zBf_ok (by decide +kernel)
theorem bJ9_max_7cf53_0 : zBf BJ9_max_7cf53 0 = [(.iload_n 0, 1), (.iload_n 1, 1), (.if_icmp .lt 7, 3), (.iload_n 0, 1), (.goto 4, 3)] := rfl
theorem bJ9_max_7cf53_9 : zBf BJ9_max_7cf53 9 = [(.iload_n 1, 1)] := rfl
theorem bJ9_max_7cf53_10 : zBf BJ9_max_7cf53 10 = [(.ireturn, 1)] := rfl
theorem hJ9_max_7cf53 : zMs yJ9_max_7cf53 cJ9_max_7cf53 2 (some .int) := ⟨zG_mem (n := 533) (by decide +kernel), zG_mem (n := 139) (by decide +kernel), zG_mem (n := 532) (by decide +kernel)⟩
def BJ9_min_7cf53 : List (Nat × List (Instr × Nat)) := [(0, [(.iload_n 0, 1), (.iload_n 1, 1), (.if_icmp .gt 7, 3), (.iload_n 0, 1), (.goto 4, 3)]), (9, [(.iload_n 1, 1)]), (10, [(.ireturn, 1)])]
theorem oJ9_min_7cf53 : ∀ pc, zdec cJ9_min_7cf53 pc (zBf BJ9_min_7cf53 pc) := zBf_ok (by decide +kernel)
theorem bJ9_min_7cf53_0 : zBf BJ9_min_7cf53 0 = [(.iload_n 0, 1), (.iload_n 1, 1), (.if_icmp .gt 7, 3), (.iload_n 0, 1), (.goto 4, 3)] := rfl
theorem bJ9_min_7cf53_9 : zBf BJ9_min_7cf53 9 = [(.iload_n 1, 1)] := rfl
theorem bJ9_min_7cf53_10 : zBf BJ9_min_7cf53 10 = [(.ireturn, 1)] := rfl
theorem hJ9_min_7cf53 : zMs yJ9_min_7cf53 cJ9_min_7cf53 2 (some .int) := ⟨zG_mem (n := 939) (by decide +kernel), zG_mem (n := 139) (by decide +kernel), zG_mem (n := 938) (by decide +kernel)⟩
def BJ9_min_f86c9 : List (Nat × List (Instr × Nat)) := [(0, [(.lload_n 0, 1), (.lload_n 2, 1), (.lcmp, 1), (.ifCond .gt 7, 3), (.lload_n 0, 1), (.goto 4, 3)]), (10, [(.lload_n 2, 1)]), (11, [(.lreturn, 1)])]
theorem oJ9_min_f86c9 : ∀ pc, zdec cJ9_min_f86c9 pc (zBf BJ9_min_f86c9 pc) := zBf_ok (by decide +kernel)
theorem bJ9_min_f86c9_0 : zBf BJ9_min_f86c9 0 = [(.lload_n 0, 1), (.lload_n 2, 1), (.lcmp, 1), (.ifCond .gt 7, 3), (.lload_n 0, 1), (.goto 4, 3)] := rfl
theorem bJ9_min_f86c9_10 : zBf BJ9_min_f86c9 10 = [(.lload_n 2, 1)] := rfl
theorem bJ9_min_f86c9_11 : zBf BJ9_min_f86c9 11 = [(.lreturn, 1)] := rfl
theorem hJ9_min_f86c9 : zMs yJ9_min_f86c9 cJ9_min_f86c9 4 (some .long) := ⟨zG_mem (n := 1389) (by decide +kernel), zG_mem (n := 139) (by decide +kernel), zG_mem (n := 1388) (by decide +kernel)⟩
/-- nothing but cells lo to hi has changed -/
def zfr (lo hi : Int) (mem mem' : zM) : Prop := ∀ c k : Nat, ¬ (lo ≤ c ∧ (c : Int) ≤ hi) → mem' c k = mem c k
theorem zfr_rf (lo hi : Int) (mem : zM) : zfr lo hi mem mem := fun _ _ _ => rfl
theorem zfr_tr {lo hi : Int} {m1 m2 m3 : zM} (h1 : zfr lo hi m1 m2) (h2 : zfr lo hi m2 m3) : zfr lo hi m1 m3 := fun c k h => (h2 c k h).trans (h1 c k h)
theorem zfr_mono {lo hi lo' hi' : Int} {m1 m2 : zM} (h : zfr lo' hi' m1 m2) (h1 : lo ≤ lo') (h2 : hi' ≤ hi) : zfr lo hi m1 m2 := fun c k hc => h c k (by omega)
theorem zfr_st {lo hi : Int} {m1 m2 : zM} {a k : Nat} {v : Int} (h : zfr lo hi m1 m2) (h1 : lo ≤ a) (h2 : (a : Int) ≤ hi) : zfr lo hi m1 (zset m2 a k v) := fun c j hc => by
  rw [zset_e, if_neg (by omega)]; exact h c j hc
theorem zfr_cp {lo hi : Int} {m1 m2 : zM} {a sp b dp n : Nat} (h : zfr lo hi m1 m2) (h1 : lo ≤ b) (h2 : (b : Int) ≤ hi) : zfr lo hi m1 (zcopy m2 a sp b dp n) := fun c j hc => by
  rw [zcopy_e, if_neg (by omega)]; exact h c j hc
theorem zDiv_nn {x y : Int} (hx : zR32 x) (hy : zR32 y) (h0 : 0 ≤ x) (h1 : 0 < y) : zDiv x y = x / y := by
  rw [zDiv, lg_idiv_nonneg (by rw [zi_toInt hx]; exact h0) (by rw [zi_toInt hy]; exact h1), zi_toInt hx, zi_toInt hy]
theorem zRem_c (x y : Int) (hx : zR32 x) (hy : zR32 y) (h1 : 0 < y) : zRem x y = x - x.tdiv y * y := by
  have hd : (Int32.ofInt x / Int32.ofInt y).toInt = x.tdiv y := by
    rw [Int32.toInt_div, zi_toInt hx, zi_toInt hy]
    have h2 : (x.tdiv y).natAbs ≤ x.natAbs := by rw [Int.natAbs_tdiv]; exact Nat.div_le_self _ _
    have := hx.1; have := hx.2; have := hy.2
    by_cases hm : x = -2147483648
    · subst hm
      by_cases hy1 : y = 1
      · subst hy1; rfl
      · have h3 : ((-2147483648 : Int).tdiv y).natAbs ≤ 2147483648 / 2 := by
          rw [Int.natAbs_tdiv]; exact Nat.div_le_div_left (by omega) (by omega)
        show Int.bmod _ 4294967296 = _
        simp only [Int.bmod]; omega
    · show Int.bmod _ 4294967296 = _
      simp only [Int.bmod]; omega
  have h4 : x.tdiv y * y = x - x.tmod y := by have := Int.tmod_add_mul_tdiv x y; rw [Int.mul_comm] at this; omega
  have h5 : (x.tmod y).natAbs < y.natAbs := by rw [Int.natAbs_tmod]; exact Nat.mod_lt _ (by omega)
  have := hx.1; have := hx.2; have := hy.2
  have h6 : (Int32.ofInt x / Int32.ofInt y * Int32.ofInt y).toInt = zw (x.tdiv y * y) := by
    rw [Int32.toInt_mul, hd, zi_toInt hy, show (2 : Nat) ^ 32 = 4294967296 from rfl, zw_bmod]
  rw [zRem, Int32.toInt_sub, zi_toInt hx, h6, show (2 : Nat) ^ 32 = 4294967296 from rfl, zw_bmod, h4]
  simp only [zw]; omega
theorem zRem_b (x y : Int) (hx : zR32 x) (hy : zR32 y) (h1 : 0 < y) : -y < zRem x y ∧ zRem x y < y ∧ (0 ≤ x → 0 ≤ zRem x y) ∧ (x ≤ 0 → zRem x y ≤ 0) := by
  rw [zRem_c x y hx hy h1]
  have h4 := Int.tmod_add_mul_tdiv x y
  rw [Int.mul_comm] at h4
  have h5 : (x.tmod y).natAbs < y.natAbs := by rw [Int.natAbs_tmod]; exact Nat.mod_lt _ (by omega)
  refine ⟨by omega, by omega, fun h => ?_, fun h => ?_⟩
  · have := Int.tmod_nonneg y h; omega
  · have : (-x).tmod y = - x.tmod y := Int.neg_tmod x y
    have := Int.tmod_nonneg (a := -x) y (by omega)
    omega
theorem zNeg_e (x : Int) : zNeg x = zw (- x) := by rw [zNeg, Int32.toInt_neg, Int32.toInt_ofInt, show Int32.size = 4294967296 from rfl, show (2 : Nat) ^ 32 = 4294967296 from rfl, ← zw_bmod]; simp only [Int.bmod]; omega
theorem zneg_msb (z : Int32) : z.toInt < 0 ↔ z.toBitVec.msb = true := by
  rw [BitVec.msb_eq_toInt, decide_eq_true_eq]; rfl
theorem zXor_s {q : Int} (hq : zR32 q) : zXor q 100 < 0 ↔ q < 0 := by
  unfold zXor
  rw [zneg_msb, Int32.toBitVec_xor, BitVec.msb_xor]
  have h1 : (Int32.ofInt 100).toBitVec.msb = false := by decide
  rw [h1, Bool.xor_false, ← zneg_msb, zi_toInt hq]
theorem zAnd_b (x : Int) : 0 ≤ zAnd x 32767 ∧ zAnd x 32767 ≤ 32767 := by
  unfold zAnd
  obtain ⟨j, h1, h2⟩ := pk_andE (Int32.ofInt x) (m := Int32.ofInt 32767) 15 (by decide)
  rw [h2, nI_toInt (by omega)]
  omega
theorem zAnd_1 (x : Int) : 0 ≤ zAnd x 1 ∧ zAnd x 1 ≤ 1 := by
  unfold zAnd
  obtain ⟨j, h1, h2⟩ := pk_andE (Int32.ofInt x) (m := Int32.ofInt 1) 1 (by decide)
  rw [h2, nI_toInt (by omega)]
  omega
theorem zAnd_255 (x : Int) : 0 ≤ zAnd x 255 ∧ zAnd x 255 ≤ 255 := by
  unfold zAnd
  obtain ⟨j, h1, h2⟩ := pk_andE (Int32.ofInt x) (m := Int32.ofInt 255) 8 (by decide)
  rw [h2, nI_toInt (by omega)]
  omega
set_option maxHeartbeats 2000000 in
theorem zMet_ofF {l : Launch} {Λ : List zC} {y : MethodName} {code : ByteArray} {maxL lv rt : Nat} {ret : Option FieldType} {tags : List Nat} {pre : List Int → zM → Prop} {post : List Int → zM → Int → zM → Prop} {own : String} {pl : zPo} {cv cS : Nat → Option zCt} {B : Nat → List (Instr × Nat)} {F : Nat}
    (hy : plainFor y = true) (how : y.cls = own) (hrk : zRk ret rt) (hlen : ∀ vs : List Int, vs.length = tags.length → (lg_sl ((tags.zip vs).map (zE (fun x => x) (fun x => x)))).length ≤ maxL) (hpl : zPlok own pl) (hcl : zClok) (hsy : zSyok) (hB : ∀ pc, zdec code pc (B pc))
    (hcv : ∀ k q, cv k = some q → zCallee l Λ own k true lv q ∨ (zTxC l Λ own k q ∧ 10 ≤ lv)) (hcS : ∀ k q, cS k = some q → zCallee l Λ own k false lv q)
    (body : ∀ (vs : List Int) (mem : zM), vs.length = tags.length → (∀ v ∈ tags.zip vs, zok v) → zokM Λ mem → pre vs mem → ∃ I : zI,
      (∀ pc J, I pc = some J → ∀ n ls st mem', zokM Λ mem' → (∀ k, zok (ls k)) → J n ls st mem' → zwp Λ pl cv cS rt (post vs mem) (fun _ => none) (fun _ _ => False) maxL B (zBelow I n) F pc ls st mem') ∧
      zwp Λ pl cv cS rt (post vs mem) (fun _ => none) (fun _ _ => False) maxL B (zAny I) F 0 (zent 0 (tags.zip vs)) [] mem) : zMet l Λ y code maxL ret lv tags rt pre post := by
  intro D ad sa sv cs sz vs mem hvl hok hm hpre
  obtain ⟨I, hI, hE⟩ := body vs mem hvl hok hm hpre
  refine va_MetF (cc := code) (maxL := maxL) (ret := ret) hy rfl ?_
  intro p e s m args below meth c s₁ Bd hml hv
  obtain ⟨rfl, hsz, hG, hP, hD⟩ := hv
  subst hsz
  have hx := Bd.exec
  have hb := Bd.bytes
  have hr := Bd.returns
  have hts0 := atoms_spec (ws := Cond.code y code maxL ret :: zTbl) Bd.pre
  have hts : ∀ w ∈ zTbl, w.before ((tags.zip vs).map (zE ad sa)).toArray s = true := fun w hw => hts0 w (List.mem_cons_of_mem _ hw)
  have hown : s.vm.findClass own = some m.cls := how ▸ findClass_of_methodNamed Bd.named
  have hlocks := Bd.notSynchronized
  have hA : ∀ q : Nat, s.heap.size ≤ q → zA Λ ad s.heap.size q := fun q h => Or.inr h
  have S : CallFix p m c code maxL s ((tags.zip vs).map (zE ad sa)).toArray zTbl own := ⟨hx, hb, hml, hown, hts⟩
  have hcatlen : (lg_sl ((tags.zip vs).map (zE ad sa))).length ≤ maxL := by
    have h1 := hlen vs hvl
    have h2 : ∀ (ad' sa' : Nat → Nat) (us : List zV), (lg_sl (us.map (zE ad' sa'))).length = (us.map fun v => if v.1 = 1 then 2 else 1).sum := by
      intro ad' sa' us
      induction us with
      | nil => rfl
      | cons v r ih =>
        have e : lg_sl ((v :: r).map (zE ad' sa')) = (if (zE ad' sa' v).category = 2 then [.val (zE ad' sa' v), .second] else [.val (zE ad' sa' v)]) ++ lg_sl (r.map (zE ad' sa')) := rfl
        rw [e, List.length_append, ih, zE_cat, List.map_cons, List.sum_cons]
        by_cases h1 : v.1 = 1
        · rw [if_pos h1, if_pos rfl]; rfl
        · rw [if_neg h1, if_neg (by decide)]; rfl
    rw [h2] at h1 ⊢
    exact h1
  have hl0 := lv_entry ((tags.zip vs).map (zE ad sa)) (n := maxL) hcatlen
  rw [lg_entry_eq]
  generalize (lg_sl ((tags.zip vs).map (zE ad sa)) ++ List.replicate (maxL - (lg_sl ((tags.zip vs).map (zE ad sa))).length) Slot.unset).toArray = L at hl0 ⊢
  have hL : zLs ad sa maxL (zent 0 (tags.zip vs)) L := ⟨hl0.1, hl0.2.1, fun k h9 => hl0.2.2 _ (zent_in (tags.zip vs) 0 k h9)⟩
  have hS : va_S (zA Λ ad s.heap.size) s.heap s.heap [] := va_S.rf
  have hret : zRet p l e (zRm lv) s m ((tags.zip vs).map (zE ad sa)).toArray below meth c 0 0 (MQ below (zQ rt Λ D ad cs s.heap.size (post vs mem)) ((tags.zip vs).map (zE ad sa)).toArray s 0 0 (zA Λ ad s.heap.size)) maxL Λ D ad sa cs (zA Λ ad s.heap.size) code rt (post vs mem) := by
    refine ⟨fun pc ls v mem' hd hrt hp hm' hs' _ H locs L' hP' hD' hL' hS' => ?_, fun pc ls v mem' hd hrt hp hm' hs' _ H locs L' hP' hD' hL' hS' => ?_, fun pc ls mem' hd hrt hp hm' hs' _ H locs L' hP' hD' hL' hS' => ?_⟩
    · have hvr := zhi hs'
      have hq : ∀ t : State, t.heap = H → s.WarmedH t.vm → zQ rt Λ D ad cs s.heap.size (post vs mem) ((tags.zip vs).map (zE ad sa)).toArray s (.returned (some (.int (Int32.ofInt v)))) t := by
        intro t ht _
        have h1 : ¬ rt = 1 := by omega
        have h9 : ¬ rt = 9 := by omega
        unfold zQ
        rw [if_neg h1, if_neg h9]
        exact ⟨⟨Int32.ofInt v, mem', rfl, ⟨by rw [zi_toInt hvr]; exact hp, hm'⟩, by show va_P D zCl (zWd Λ ad cs mem') t.heap; rw [ht]; exact hP'⟩, hS'.F ht⟩
      rcases hrk with ⟨k1, k2⟩ | ⟨k1, k2⟩ | ⟨k1, k2⟩ | ⟨k1, k2⟩
      · exact W.iret hx hb (hr.trans k2) hq hS'.2.2 hd
      · rcases hrt with h | ⟨_, h⟩
        · omega
        · exact W.zret (ty := .boolean) hx hb (hr.trans k2) (by rcases h with h | h <;> subst h <;> rfl) hq hS'.2.2 hd
      · omega
      · omega
    · have hvr := zhl hs'
      have hq : ∀ t : State, t.heap = H → s.WarmedH t.vm → zQ rt Λ D ad cs s.heap.size (post vs mem) ((tags.zip vs).map (zE ad sa)).toArray s (.returned (some (.long (Int64.ofInt v)))) t := by
        intro t ht _
        unfold zQ
        rw [if_pos hrt]
        exact ⟨⟨Int64.ofInt v, mem', rfl, ⟨by rw [zl_toInt hvr]; exact hp, hm'⟩, by show va_P D zCl (zWd Λ ad cs mem') t.heap; rw [ht]; exact hP'⟩, hS'.F ht⟩
      rcases hrk with ⟨k1, k2⟩ | ⟨k1, k2⟩ | ⟨k1, k2⟩ | ⟨k1, k2⟩
      · omega
      · omega
      · exact W.lret hx hb (hr.trans k2) hq hS'.2.2 hd
      · omega
    · have hq : ∀ t : State, t.heap = H → s.WarmedH t.vm → zQ rt Λ D ad cs s.heap.size (post vs mem) ((tags.zip vs).map (zE ad sa)).toArray s (.returned none) t := by
        intro t ht _
        have h1 : ¬ rt = 1 := by omega
        unfold zQ
        rw [if_neg h1, if_pos hrt]
        exact ⟨⟨mem', rfl, ⟨hp, hm'⟩, by show va_P D zCl (zWd Λ ad cs mem') t.heap; rw [ht]; exact hP'⟩, hS'.F ht⟩
      rcases hrk with ⟨k1, k2⟩ | ⟨k1, k2⟩ | ⟨k1, k2⟩ | ⟨k1, k2⟩
      · omega
      · omega
      · omega
      · exact W.vret hx hb (hr.trans k2) hq hS'.2.2 hd
  have hthr : ∀ (pc E : Nat) (ls : zL) (mem' : zM), (fun _ : Nat => (none : Option Nat)) pc = some E → (fun (_ : Nat) (_ : zM) => False) E mem' → zAW p l e (zRm lv) s m ((tags.zip vs).map (zE ad sa)).toArray below meth c 0 0 (MQ below (zQ rt Λ D ad cs s.heap.size (post vs mem)) ((tags.zip vs).map (zE ad sa)).toArray s 0 0 (zA Λ ad s.heap.size)) maxL Λ D ad sa cs (zA Λ ad s.heap.size) pc ls [] mem' := fun _ _ _ _ h => by cases h
  have hR : 1 ≤ (zRm lv).frames ∧ 30 ≤ (zRm lv).locals := ⟨by show 1 ≤ lv + 2; omega, by show 30 ≤ 40 * lv + 100; omega⟩
  have hcv' : ∀ k q, cv k = some q → zCOK p l e (zRm lv) s m ((tags.zip vs).map (zE ad sa)).toArray below meth c 0 0 maxL Λ D ad sa cs (zA Λ ad s.heap.size) code (.invokevirtual k) q.1 q.2.1 q.2.2.1 q.2.2.2 := by
    intro k q hq
    rcases hcv k q hq with hc | ⟨hc, h10⟩
    · obtain ⟨y', code', maxL', lv', ret', hM, hlt, hmx, w1, w2, w3, w4, -⟩ := hc
      obtain ⟨tl, ci, r, t1, t2, t3, t4, t5, t6, t7⟩ := w4 rfl
      obtain ⟨qt, qr, qpre, qpost⟩ := q
      dsimp only at t1 hM t7
      subst t1
      exact zcall_V S hG hA hM t2 w1 w2 t3 t4 w3 t5 t6 t7 ⟨by show lv' + 2 + 1 ≤ lv + 2; omega, by show 8 + (maxL' + 11) + (40 * lv' + 100) ≤ 40 * lv + 100; omega⟩ ⟨Nat.le_refl _, Nat.le_refl _⟩
    · exact hc p e (zRm lv) s m _ below meth c maxL D ad sa sv cs _ code S hG hA (by show 12 ≤ lv + 2; omega) (by show 500 ≤ 40 * lv + 100; omega)
  have hcS' : ∀ k q, cS k = some q → zCOK p l e (zRm lv) s m ((tags.zip vs).map (zE ad sa)).toArray below meth c 0 0 maxL Λ D ad sa cs (zA Λ ad s.heap.size) code (.invokestatic k) q.1 q.2.1 q.2.2.1 q.2.2.2 := by
    intro k q hq
    obtain ⟨y', code', maxL', lv', ret', hM, hlt, hmx, w1, w2, w3, -, w5⟩ := hcS k q hq
    obtain ⟨t1, t2⟩ := w5 rfl
    exact zcall_S S hG hA hM t1 w1 w2 t2 w3 ⟨by show lv' + 2 + 1 ≤ lv + 2; omega, by show 8 + (maxL' + 11) + (40 * lv' + 100) ≤ 40 * lv + 100; omega⟩ ⟨Nat.le_refl _, Nat.le_refl _⟩
  have hloop := zloops (e := e) (below := below) (meth := meth) (R := zRm lv) S hG hpl hcl hsy hR hcv' hcS' hret hthr hB hI
  refine zwp_sound (e := e) (below := below) (meth := meth) (R := zRm lv) S hG hpl hcl hsy hR hcv' hcS' hret hthr hB (X := zAny I) (fun pc' Jn hq ls' st' mem' w => ?_) F 0 _ [] mem hE hm (fun _ h => by cases h) (zent_ok _ 0 hok) s.heap [] L hP hD hL hS
  unfold zAny at hq
  cases hi : I pc' with
  | none => rw [hi] at hq; cases hq
  | some J' =>
    rw [hi] at hq
    cases hq
    obtain ⟨n', h2⟩ := w
    exact hloop n' pc' J' hi ls' st' mem' h2
theorem zRem_nn {x y : Int} (hx : zR32 x) (hy : zR32 y) (h0 : 0 ≤ x) (h1 : 0 < y) : zRem x y = x % y := by
  rw [zRem_c x y hx hy h1, Int.tdiv_eq_ediv_of_nonneg h0]
  have := Int.emod_add_mul_ediv x y
  rw [Int.mul_comm] at this
  omega
