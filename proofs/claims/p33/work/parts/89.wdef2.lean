/-! ===== the law's wrappers: words ===== -/
theorem zgo_cut {Λ : List zC} {pl : zPo} {cv cS : Nat → Option zCt} {rt : Nat} {RP : Int → zM → Prop} {thr : Nat → Option Nat} {XP : Nat → zM → Prop} {nL : Nat} {B : Nat → List (Instr × Nat)} {iv : Nat} {J : zL → List zV → zM → Prop} (f pc : Nat) (ls : zL) (st : List zV) (mem : zM) : zgo Λ pl cv cS rt RP thr XP nL B (fun pc => if pc = iv then some J else none) f pc ls st mem = if pc = iv then J ls st mem else zwp Λ pl cv cS rt RP thr XP nL B (fun pc => if pc = iv then some J else none) f pc ls st mem := by
  unfold zgo
  by_cases h : pc = iv
  · simp only [if_pos h]
  · simp only [if_neg h]
theorem zgo_non {Λ : List zC} {pl : zPo} {cv cS : Nat → Option zCt} {rt : Nat} {RP : Int → zM → Prop} {thr : Nat → Option Nat} {XP : Nat → zM → Prop} {nL : Nat} {B : Nat → List (Instr × Nat)} (f pc : Nat) (ls : zL) (st : List zV) (mem : zM) : zgo Λ pl cv cS rt RP thr XP nL B (fun _ => none) f pc ls st mem = zwp Λ pl cv cS rt RP thr XP nL B (fun _ => none) f pc ls st mem := rfl
def zqW (c k : Nat) : Prop := zqC c k ∧ c ≠ 94
def zSW (m m' : zM) : Prop := zKp zqW m m' ∧ cS m'
theorem zSW_of {m m' : zM} (h : zSC m m') : zSW m m' := ⟨zKp_mono h.1 (fun _ _ hc => hc.1), h.2⟩
theorem zSW_st {m m1 : zM} {k : Nat} {v : Int} (h : zSC m m1) : zSW m (zset m1 94 k v) := by
  refine ⟨zKp_st (zSW_of h).1 (by unfold zqW; omega), cS_of h.2 ?_ ?_ ?_ ?_⟩ <;> (rw [zset_e, if_neg (by omega)])
def zqV (c k : Nat) : Prop := zqCo c k ∧ c ≠ 94
def zSV (m m' : zM) : Prop := zKp zqV m m' ∧ cS m' ∧ m' 53 1 = 0
theorem zSV_of {m m' : zM} (h : zSO m m') : zSV m m' := ⟨zKp_mono h.1 (fun _ _ hc => hc.1), h.2⟩
theorem zSV_st {m m1 : zM} {k : Nat} {v : Int} (h : zSO m m1) : zSV m (zset m1 94 k v) := by
  refine ⟨zKp_st (zSV_of h).1 (by unfold zqV; omega), cS_of h.2.1 ?_ ?_ ?_ ?_, ?_⟩
  · rw [zset_e, if_neg (by omega)]
  · rw [zset_e, if_neg (by omega)]
  · rw [zset_e, if_neg (by omega)]
  · rw [zset_e, if_neg (by omega)]
  · rw [zset_e, if_neg (by omega)]; exact h.2.2
theorem zWrapP {l : Launch} {y : MethodName} {code : ByteArray} {maxL lv : Nat} {hh : List (Nat × Nat × Nat × Nat)} {tags : List Nat} {pre : List Int → zM → Prop} {post : List Int → zM → Int → zM → Prop} {B : Nat → List (Instr × Nat)} {F iv idx ci : Nat}
    {yC : MethodName} {codeC : ByteArray} {maxLC rtC : Nat} {retC : Option FieldType} {tagsC : List Nat} {ids : List Int} {PC : List Int → zM → Prop} {postC : List Int → zM → Int → zM → Prop} {xpC : List Int → zM → Nat → zM → Prop} {q : vw_C}
    (hy : plainName y.cls = true) (how : y.cls = "SandRailsLaw") (hlen : ∀ vs : List Int, vs.length = tags.length → (lg_sl ((tags.zip vs).map (zE (fun x => x) (fun x => x)))).length ≤ maxL) (hcl : zClok) (hsy : zSyok) (hB : ∀ pc, zdec code pc (B pc))
    (hM : zMetX l zLay yC codeC maxLC retC lv (2 :: tagsC) rtC (zPr ids PC) postC xpC) (hmx : maxLC ≤ 20) (hnm : zNm yC tagsC.length) (hcode : Cond.code yC codeC maxLC retC ∈ zTbl) (hini : Cond.initialized yC.cls ∈ zTbl) (hin : Cond.instanceMethod yC ∈ zTbl) (hsel : Cond.selects yC.cls yC yC ∈ zTbl)
    (hlk : Cond.methodLink "SandRailsLaw" idx yC ∈ zTbl) (hq : zCl[ci]? = some q) (hqn : q.1 = yC.cls) (hi : zIs ids ci = true)
    (hd : decode code iv = .ok (.invokevirtual idx, 3))
    (body : ∀ (vs : List Int) (mem : zM), vs.length = tags.length → (∀ v ∈ tags.zip vs, zok v) → zokM zLay mem → pre vs mem → ∃ (vsC : List Int) (rest : List zV), vsC.length = (2 :: tagsC).length ∧ (zPr ids PC) vsC mem ∧ zcats rest ≤ 8 ∧
      zwp zLay (fun _ => none) (fun _ => none) (fun _ => none) 0 (post vs mem) (fun _ => none) (fun _ _ => False) maxL B (fun pc => if pc = iv then some (fun ls st m => ls = zent 0 (tags.zip vs) ∧ st = ((2 :: tagsC).zip vsC).reverse ++ rest ∧ m = mem) else none) F 0 (zent 0 (tags.zip vs)) [] mem ∧
      (∀ (r : Int) (mem' : zM), zrt rtC r → zokM zLay mem' → postC vsC mem r mem' → zwp zLay (fun _ => none) (fun _ => none) (fun _ => none) 0 (post vs mem) (fun _ => none) (fun _ _ => False) maxL B (fun _ => none) F (iv + 3) (zent 0 (tags.zip vs)) (zres rtC r rest) mem') ∧
      (∀ (E : Nat) (nm : String) (mem' : zM), zokM zLay mem' → xpC vsC mem E mem' → zXn[E]? = some nm → ∃ h i n : Nat, zTake hh iv nm h ∧ zHd code h i n ∧ i < maxL ∧ zwp zLay (fun _ => none) (fun _ => none) (fun _ => none) 0 (post vs mem) (fun _ => none) (fun _ _ => False) maxL B (fun _ => none) F (h + n) (zst (zent 0 (tags.zip vs)) i (9, 0)) [] mem')) : zMetW l zLay y code maxL hh lv tags pre post :=
  zWrap hy how hlen hcl hsy hB hM hmx hnm hcode hini hin hsel hlk hq hqn (zPr_recv hi) hd body
