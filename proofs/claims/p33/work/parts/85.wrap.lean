theorem zofWH {l : Launch} {y : MethodName} {ws ws' : List Cond} {rm : Room} {Pc : Array Value → State → Prop} {Qc : Array Value → State → Outcome → State → Prop} {mc ms : Nat} {free : Addr → Prop} {cc : ByteArray} {maxL : Nat} {ret : Option FieldType} {hh : List (Nat × Nat × Nat × Nat)}
    (hy : plainName y.cls = true) (hw : ws = Cond.codeWith y cc maxL ret hh :: ws')
    (body : ∀ p e s m args below meth c s₁, BodyLoose p l y (headSpec ws rm) cc maxL ret e s m args below meth c s₁ → c.maxLocals = maxL → c.exceptionTable.toList = tableOf hh → Pc args s →
      W p l e (headSpec ws rm).room s m args below meth c s.heap [] 0 0 (MQ below Qc args s mc ms free) (entryFrame m args maxL)) : Met l y ws rm Pc Qc mc ms free := by
  refine MetFree.of_bodyS (code := cc) (maxLocals := maxL) (ret := ret) hy ?_ ?_
  · intro args s m h hn
    obtain ⟨m9, meth, c, hn9, h1, h2, h3, h4, -, h5, h6, -⟩ := Cond.codeWith_spec (atoms_spec (ws := ws) h _ (by rw [hw]; exact List.mem_cons_self))
    cases hn.symm.trans hn9
    exact ⟨meth, c, h1, h2, h3, h4, h5, h6⟩
  · intro p e s m args below meth c s₁ B hml hP _
    have hh0 : s₁.heap = s.heap := by rw [B.state]; rfl
    have ht : c.exceptionTable.toList = tableOf hh := vx_table (x := y) B (atoms_spec (ws := ws) B.pre _ (by rw [hw]; exact List.mem_cons_self))
    obtain ⟨t, a1, o, b1, b2, b3⟩ := body p e s m args below meth c s₁ B hml ht hP s₁ hh0 (Stand.of_body B)
    exact ⟨t, o, a1, b1, b2, ⟨b3.1, b3.2⟩⟩
/-- the row of a table that takes what is thrown; the rows ahead name others -/
def zTake (hh : List (Nat × Nat × Nat × Nat)) (pc : Nat) (nm : String) (h : Nat) : Prop := ∃ (pre : List ExceptionTableEntry) (x : ExceptionTableEntry) (suf : List ExceptionTableEntry), tableOf hh = pre ++ x :: suf ∧ (∀ z ∈ pre, z.catchType ≠ 0 ∧ ∃ cn ∈ zXn, nm ≠ cn ∧ Cond.classLink "SandRailsLaw" z.catchType cn ∈ zTbl) ∧ covers x pc = true ∧ x.catchType ≠ 0 ∧ Cond.classLink "SandRailsLaw" x.catchType nm ∈ zTbl ∧ x.handlerPc = h
set_option maxHeartbeats 4000000 in
theorem zWrap {l : Launch} {Λ : List zC} {y : MethodName} {code : ByteArray} {maxL lv : Nat} {hh : List (Nat × Nat × Nat × Nat)} {tags : List Nat} {pre : List Int → zM → Prop} {post : List Int → zM → Int → zM → Prop} {B : Nat → List (Instr × Nat)} {F iv idx ci : Nat}
    {yC : MethodName} {codeC : ByteArray} {maxLC rtC : Nat} {retC : Option FieldType} {tagsC : List Nat} {preC : List Int → zM → Prop} {postC : List Int → zM → Int → zM → Prop} {xpC : List Int → zM → Nat → zM → Prop} {q : vw_C}
    (hy : plainName y.cls = true) (how : y.cls = "SandRailsLaw") (hlen : ∀ vs : List Int, vs.length = tags.length → (lg_sl ((tags.zip vs).map (zE (fun x => x) (fun x => x)))).length ≤ maxL) (hcl : zClok) (hsy : zSyok) (hB : ∀ pc, zdec code pc (B pc))
    (hM : zMetX l Λ yC codeC maxLC retC lv (2 :: tagsC) rtC preC postC xpC) (hmx : maxLC ≤ 20) (hnm : zNm yC tagsC.length) (hcode : Cond.code yC codeC maxLC retC ∈ zTbl) (hini : Cond.initialized yC.cls ∈ zTbl) (hin : Cond.instanceMethod yC ∈ zTbl) (hsel : Cond.selects yC.cls yC yC ∈ zTbl)
    (hlk : Cond.methodLink "SandRailsLaw" idx yC ∈ zTbl) (hq : zCl[ci]? = some q) (hqn : q.1 = yC.cls) (hrc : ∀ vs mem, preC vs mem → ∃ (a : Int) (tl : List Int) (fs : List (Nat × Nat)), vs = a :: tl ∧ Λ[a.toNat]? = some (0, ci, fs))
    (hd : decode code iv = .ok (.invokevirtual idx, 3))
    (body : ∀ (vs : List Int) (mem : zM), vs.length = tags.length → (∀ v ∈ tags.zip vs, zok v) → zokM Λ mem → pre vs mem → ∃ (vsC : List Int) (rest : List zV), vsC.length = (2 :: tagsC).length ∧ preC vsC mem ∧ zcats rest ≤ 8 ∧
      zwp Λ (fun _ => none) (fun _ => none) (fun _ => none) 0 (post vs mem) (fun _ => none) (fun _ _ => False) maxL B (fun pc => if pc = iv then some (fun ls st m => ls = zent 0 (tags.zip vs) ∧ st = ((2 :: tagsC).zip vsC).reverse ++ rest ∧ m = mem) else none) F 0 (zent 0 (tags.zip vs)) [] mem ∧
      (∀ (r : Int) (mem' : zM), zrt rtC r → zokM Λ mem' → postC vsC mem r mem' → zwp Λ (fun _ => none) (fun _ => none) (fun _ => none) 0 (post vs mem) (fun _ => none) (fun _ _ => False) maxL B (fun _ => none) F (iv + 3) (zent 0 (tags.zip vs)) (zres rtC r rest) mem') ∧
      (∀ (E : Nat) (nm : String) (mem' : zM), zokM Λ mem' → xpC vsC mem E mem' → zXn[E]? = some nm → ∃ h i n : Nat, zTake hh iv nm h ∧ zHd code h i n ∧ i < maxL ∧ zwp Λ (fun _ => none) (fun _ => none) (fun _ => none) 0 (post vs mem) (fun _ => none) (fun _ _ => False) maxL B (fun _ => none) F (h + n) (zst (zent 0 (tags.zip vs)) i (9, 0)) [] mem')) : zMetW l Λ y code maxL hh lv tags pre post := by
  intro D ad sa sv cs sz vs mem hltr hvl hok hm hpre
  obtain ⟨vsC, rest, b1, b2, b3, b4, b5, b6⟩ := body vs mem hvl hok hm hpre
  refine zofWH (cc := code) (maxL := maxL) (ret := some .int) (hh := hh) hy rfl ?_
  intro p e s m args below meth c s₁ Bd hml htab hv
  obtain ⟨rfl, hsz, hG, hP, hD, hGx⟩ := hv
  subst hsz
  have hx := Bd.exec
  have hb := Bd.bytes
  have hr := Bd.returns
  have hts0 := atoms_spec (ws := Cond.codeWith y code maxL (some .int) hh :: zTbl) Bd.pre
  have hts : ∀ w ∈ zTbl, w.before ((tags.zip vs).map (zE ad sa)).toArray s = true := fun w hw => hts0 w (List.mem_cons_of_mem _ hw)
  have hown : s.vm.findClass "SandRailsLaw" = some m.cls := how ▸ findClass_of_methodNamed Bd.named
  have hlocks := Bd.notSynchronized
  have hA : ∀ q : Nat, s.heap.size ≤ q → zA Λ ad s.heap.size q := fun q h => Or.inr h
  have S : CallFix p m c code maxL s ((tags.zip vs).map (zE ad sa)).toArray zTbl "SandRailsLaw" := ⟨hx, hb, hml, hown, hts⟩
  have hcatlen : (lg_sl ((tags.zip vs).map (zE ad sa))).length ≤ maxL := by
    have h1 := hlen vs hvl
    have h2 : ∀ (ad' sa' : Nat → Nat) (us : List zV), (lg_sl (us.map (zE ad' sa'))).length = (us.map fun v => if v.1 = 1 then 2 else 1).sum := by
      intro ad' sa' us
      induction us with
      | nil => rfl
      | cons v r ih =>
        have e : lg_sl ((v :: r).map (zE ad' sa')) = (if (zE ad' sa' v).category = 2 then [.val (zE ad' sa' v), .second] else [.val (zE ad' sa' v)]) ++ lg_sl (r.map (zE ad' sa')) := rfl
        rw [e, List.length_append, ih, zE_cat, List.map_cons, List.sum_cons]
        by_cases h1 : v.1 = 1
        · rw [if_pos h1, if_pos rfl]; rfl
        · rw [if_neg h1, if_neg (by decide)]; rfl
    rw [h2] at h1 ⊢
    exact h1
  have hl0 := lv_entry ((tags.zip vs).map (zE ad sa)) (n := maxL) hcatlen
  rw [lg_entry_eq]
  generalize (lg_sl ((tags.zip vs).map (zE ad sa)) ++ List.replicate (maxL - (lg_sl ((tags.zip vs).map (zE ad sa))).length) Slot.unset).toArray = L at hl0 ⊢
  have hL : zLs ad sa maxL (zent 0 (tags.zip vs)) L := ⟨hl0.1, hl0.2.1, fun k h9 => hl0.2.2 _ (zent_in (tags.zip vs) 0 k h9)⟩
  have hS : va_S (zA Λ ad s.heap.size) s.heap s.heap [] := va_S.rf
  have hret : ∀ k n, k ≤ 1 → n ≤ 6 → zRet p l e (zRmW lv) s m ((tags.zip vs).map (zE ad sa)).toArray below meth c k n (MQ below (zQ 0 Λ D ad cs s.heap.size (post vs mem)) ((tags.zip vs).map (zE ad sa)).toArray s 1 6 (zA Λ ad s.heap.size)) maxL Λ D ad sa cs (zA Λ ad s.heap.size) code 0 (post vs mem) := by
    intro k n hk hn
    refine ⟨fun pc ls v mem' hd hrt hp hm' hs' _ H locs L' hP' hD' hL' hS' => ?_, fun pc ls v mem' hd hrt => by omega, fun pc ls mem' hd hrt => by omega⟩
    have hvr := zhi hs'
    have hq : ∀ t : State, t.heap = H → s.WarmedH t.vm → zQ 0 Λ D ad cs s.heap.size (post vs mem) ((tags.zip vs).map (zE ad sa)).toArray s (.returned (some (.int (Int32.ofInt v)))) t := by
      intro t ht _
      unfold zQ
      rw [if_neg (by decide), if_neg (by decide)]
      exact ⟨⟨Int32.ofInt v, mem', rfl, ⟨by rw [zi_toInt hvr]; exact hp, hm'⟩, by show va_P D zCl (zWd Λ ad cs mem') t.heap; rw [ht]; exact hP'⟩, hS'.F ht⟩
    exact W.widen (k := 1) (n := 6) hk hn (W.iret hx hb hr hq hS'.2.2 hd)
  have hthr : ∀ (k n pc E : Nat) (ls : zL) (mem' : zM), (fun _ : Nat => (none : Option Nat)) pc = some E → (fun (_ : Nat) (_ : zM) => False) E mem' → zAW p l e (zRmW lv) s m ((tags.zip vs).map (zE ad sa)).toArray below meth c k n (MQ below (zQ 0 Λ D ad cs s.heap.size (post vs mem)) ((tags.zip vs).map (zE ad sa)).toArray s 1 6 (zA Λ ad s.heap.size)) maxL Λ D ad sa cs (zA Λ ad s.heap.size) pc ls [] mem' := fun _ _ _ _ _ _ h => by cases h
  have hR : 1 ≤ (zRmW lv).frames ∧ 30 ≤ (zRmW lv).locals := ⟨by show 1 ≤ lv + 14; omega, by show 30 ≤ 40 * lv + 900; omega⟩
  have hpl : zPlok "SandRailsLaw" (fun _ => none) := fun _ _ _ _ _ h => by cases h
  have go := fun (k n : Nat) (hk : k ≤ 1) (hn : n ≤ 6) (X : Nat → Option (zL → List zV → zM → Prop)) => zwp_sound (e := e) (below := below) (meth := meth) (R := zRmW lv) (cells := k) (slots := n) (cv := fun _ => none) (cS := fun _ => none) S hG hpl hcl hsy hR (fun _ _ h => by cases h) (fun _ _ h => by cases h) (hret k n hk hn) (hthr k n) hB (X := X)
  refine go 0 0 (by omega) (by omega) (fun pc => if pc = iv then some (fun ls st m => ls = zent 0 (tags.zip vs) ∧ st = ((2 :: tagsC).zip vsC).reverse ++ rest ∧ m = mem) else none) (fun pc' Jn hq' ls' st' mem' w => ?_) F 0 _ [] mem b4 hm (fun _ h => by cases h) (zent_ok _ 0 hok) s.heap [] L hP hD hL hS
  by_cases hpc : pc' = iv
  · subst hpc
    rw [if_pos rfl] at hq'
    cases hq'
    obtain ⟨rfl, rfl, rfl⟩ := w
    refine zcall_VX S hG hGx hA hltr hM hnm hcode hini hin hsel hlk hq hqn hrc ⟨by show lv + 12 + 1 ≤ lv + 14; omega, by show 8 + (maxLC + 11) + (40 * lv + 700) ≤ 40 * lv + 900; omega⟩ ⟨Nat.le_refl 1, Nat.le_refl 6⟩ hd b1 b2 b3 ?_ ?_
    · intro E nm mem1 H1 locs1 L1 ce q9 hl1 hm1 hx1 hn1 hP1 hD1 hL1 hS1 g1 g2 g3
      obtain ⟨h, i, n, ⟨pr, xx, sf, t1, t2, t3, t4, t5, t7⟩, hh1, hi1, hz⟩ := b6 E nm mem1 hm1 hx1 hn1
      refine vx_catch (own := "SandRailsLaw") (name := nm) hown pr xx sf (htab.trans t1) (fun z hz' => Or.inr ?_) t3 t4 (hts _ t5) (va_Nw.use rfl (hGx.2.2.2.2 _ (zNg_cast (List.mem_of_getElem? hn1)))) g1 g2 g3 ?_
      · obtain ⟨u1, cn, u2, u3, u4⟩ := t2 z hz'
        exact ⟨u1, cn, hts _ u4, hGx.2.2.2.1 nm (List.mem_of_getElem? hn1) cn u2 u3⟩
      · rw [t7]
        exact zhandler hx hb hh1 hi1 (go 1 6 (by omega) (by omega) (fun _ => none) (fun _ _ h => by cases h) F (h + n) _ [] mem1 hz) hm1 hl1 hP1 hD1 hL1 hS1
    · intro r mem1 hr1 hm1 hp1
      exact go 1 6 (by omega) (by omega) (fun _ => none) (fun _ _ h => by cases h) F _ _ _ mem1 (b5 r mem1 hr1 hm1 hp1)
  · rw [if_neg hpc] at hq'
    cases hq'
