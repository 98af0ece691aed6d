/-! ===== from a method's stretches to its contract ===== -/
def zent : Nat → List zV → zL
  | _, [] => fun _ => (9, 0)
  | k, v :: r => fun j => if j = k then v else zent (if v.1 = 1 then k + 2 else k + 1) r j
theorem zent_in {ad sa : Nat → Nat} : ∀ (vs : List zV) (k j : Nat), (zent k vs j).1 ≠ 9 → (j, zE ad sa (zent k vs j)) ∈ lv_args k (vs.map (zE ad sa)) := by
  intro vs
  induction vs with
  | nil => intro k j h; exact absurd rfl h
  | cons v r ih =>
    intro k j h
    simp only [List.map_cons, lv_args, zent]
    simp only [zent] at h
    by_cases hj : j = k
    · subst hj
      rw [if_pos rfl]
      exact List.mem_cons_self
    · rw [if_neg hj] at h ⊢
      refine List.mem_cons_of_mem _ ?_
      have e : (if (zE ad sa v).category = 2 then k + 2 else k + 1) = if v.1 = 1 then k + 2 else k + 1 := by
        rw [zE_cat]
        by_cases h1 : v.1 = 1
        · rw [if_pos h1, if_pos h1, if_pos rfl]
        · rw [if_neg h1, if_neg h1, if_neg (by decide)]
      rw [e]
      exact ih _ j h
theorem zent_ok : ∀ (vs : List zV) (k : Nat), (∀ v ∈ vs, zok v) → ∀ j, zok (zent k vs j) := by
  intro vs
  induction vs with
  | nil => intro k _ j; exact zok_n
  | cons v r ih =>
    intro k h j
    simp only [zent]
    by_cases hj : j = k
    · rw [if_pos hj]; exact h v List.mem_cons_self
    · rw [if_neg hj]; exact ih _ (fun w hw => h w (List.mem_cons_of_mem _ hw)) j
section ZY
variable {p : Program} {l : Launch} {e : Env} {R : Room} {s : State} {m : MethodId} {args : Array Value} {below : List Frame} {meth : Method} {c : Code} {cells slots : Nat} {Q : State → Prop} {cc : ByteArray} {nL : Nat} {own : String} {Λ : List zC} {D : va_G} {ad sa sv : Nat → Nat} {cs : Nat → ClassId} {A : Nat → Prop} {pc : Nat} {ls : zL} {st : List zV} {mem : zM}
theorem zrun_sound {pl : zPo} {cv cS : Nat → Option zCt} {rt : Nat} {RP : Int → zM → Prop} {thr : Nat → Option Nat} {XP : Nat → zM → Prop} (S : CallFix p m c cc nL s args zTbl own) (hG : zGl D cs sa sv A s) (hpl : zPlok own pl) (hcl : zClok) (hsy : zSyok) (hR : 1 ≤ R.frames ∧ 30 ≤ R.locals)
    (hcv : ∀ k q, cv k = some q → zCOK p l e R s m args below meth c cells slots nL Λ D ad sa cs A cc (.invokevirtual k) q.1 q.2.1 q.2.2.1 q.2.2.2) (hcS : ∀ k q, cS k = some q → zCOK p l e R s m args below meth c cells slots nL Λ D ad sa cs A cc (.invokestatic k) q.1 q.2.1 q.2.2.1 q.2.2.2)
    (hret : zRet p l e R s m args below meth c cells slots Q nL Λ D ad sa cs A cc rt RP) (hthr : ∀ pc E ls mem, thr pc = some E → XP E mem → zAW p l e R s m args below meth c cells slots Q nL Λ D ad sa cs A  pc ls [] mem)
    {J : zJ} (hJ : ∀ pc ls st mem, J pc ls st mem → zAW p l e R s m args below meth c cells slots Q nL Λ D ad sa cs A  pc ls st mem) : ∀ (b : List (Instr × Nat)) (pc : Nat) (ls : zL) (st : List zV) (mem : zM), zdec cc pc b → zrun Λ pl cv cS rt RP thr XP nL J b pc ls st mem → zAW p l e R s m args below meth c cells slots Q nL Λ D ad sa cs A  pc ls st mem := by
  intro b
  induction b with
  | nil => intro pc ls st mem _ h; exact hJ _ _ _ _ h
  | cons q r ih =>
    intro pc ls st mem hd h
    exact zwI_sound S hG hpl hcl hsy hR hcv hcS hret hthr hJ hd.1 (fun ls' st' mem' w => ih _ _ _ _ hd.2 w) h
theorem zwp_sound {pl : zPo} {cv cS : Nat → Option zCt} {rt : Nat} {RP : Int → zM → Prop} {thr : Nat → Option Nat} {XP : Nat → zM → Prop} (S : CallFix p m c cc nL s args zTbl own) (hG : zGl D cs sa sv A s) (hpl : zPlok own pl) (hcl : zClok) (hsy : zSyok) (hR : 1 ≤ R.frames ∧ 30 ≤ R.locals)
    (hcv : ∀ k q, cv k = some q → zCOK p l e R s m args below meth c cells slots nL Λ D ad sa cs A cc (.invokevirtual k) q.1 q.2.1 q.2.2.1 q.2.2.2) (hcS : ∀ k q, cS k = some q → zCOK p l e R s m args below meth c cells slots nL Λ D ad sa cs A cc (.invokestatic k) q.1 q.2.1 q.2.2.1 q.2.2.2)
    (hret : zRet p l e R s m args below meth c cells slots Q nL Λ D ad sa cs A cc rt RP) (hthr : ∀ pc E ls mem, thr pc = some E → XP E mem → zAW p l e R s m args below meth c cells slots Q nL Λ D ad sa cs A  pc ls [] mem)
    {B : Nat → List (Instr × Nat)} (hB : ∀ pc, zdec cc pc (B pc)) {X : Nat → Option (zL → List zV → zM → Prop)} (hX : ∀ pc Jn, X pc = some Jn → ∀ ls st mem, Jn ls st mem → zAW p l e R s m args below meth c cells slots Q nL Λ D ad sa cs A  pc ls st mem) : ∀ (f pc : Nat) (ls : zL) (st : List zV) (mem : zM), zwp Λ pl cv cS rt RP thr XP nL B X f pc ls st mem → zAW p l e R s m args below meth c cells slots Q nL Λ D ad sa cs A  pc ls st mem := by
  intro f
  induction f with
  | zero => intro pc ls st mem h; exact h.elim
  | succ f ih =>
    intro pc ls st mem h
    refine zrun_sound S hG hpl hcl hsy hR hcv hcS hret hthr (fun pc' ls' st' mem' w => ?_) (B pc) pc ls st mem (hB pc) h
    cases hq : X pc' with
    | none => rw [hq] at w; exact ih _ _ _ _ w
    | some Jn => rw [hq] at w; exact hX _ _ hq _ _ _ w
/-- loops: at their heads an invariant with a number that falls -/
abbrev zI : Type := Nat → Option (Nat → zL → List zV → zM → Prop)
def zBelow (I : zI) (n : Nat) : Nat → Option (zL → List zV → zM → Prop) := fun pc => (I pc).map fun J ls st mem => ∃ n', n' < n ∧ J n' ls st mem
def zAny (I : zI) : Nat → Option (zL → List zV → zM → Prop) := fun pc => (I pc).map fun J ls st mem => ∃ n', J n' ls st mem
theorem zloops {pl : zPo} {cv cS : Nat → Option zCt} {rt : Nat} {RP : Int → zM → Prop} {thr : Nat → Option Nat} {XP : Nat → zM → Prop} (S : CallFix p m c cc nL s args zTbl own) (hG : zGl D cs sa sv A s) (hpl : zPlok own pl) (hcl : zClok) (hsy : zSyok) (hR : 1 ≤ R.frames ∧ 30 ≤ R.locals)
    (hcv : ∀ k q, cv k = some q → zCOK p l e R s m args below meth c cells slots nL Λ D ad sa cs A cc (.invokevirtual k) q.1 q.2.1 q.2.2.1 q.2.2.2) (hcS : ∀ k q, cS k = some q → zCOK p l e R s m args below meth c cells slots nL Λ D ad sa cs A cc (.invokestatic k) q.1 q.2.1 q.2.2.1 q.2.2.2)
    (hret : zRet p l e R s m args below meth c cells slots Q nL Λ D ad sa cs A cc rt RP) (hthr : ∀ pc E ls mem, thr pc = some E → XP E mem → zAW p l e R s m args below meth c cells slots Q nL Λ D ad sa cs A  pc ls [] mem)
    {B : Nat → List (Instr × Nat)} (hB : ∀ pc, zdec cc pc (B pc)) {I : zI} {F : Nat} (hI : ∀ pc J, I pc = some J → ∀ n ls st mem, zokM Λ mem → (∀ k, zok (ls k)) → J n ls st mem → zwp Λ pl cv cS rt RP thr XP nL B (zBelow I n) F pc ls st mem) :
    ∀ (n pc : Nat) (J : Nat → zL → List zV → zM → Prop), I pc = some J → ∀ ls st mem, J n ls st mem → zAW p l e R s m args below meth c cells slots Q nL Λ D ad sa cs A  pc ls st mem := by
  intro n
  induction n using Nat.strongRecOn with
  | _ n ih =>
    intro pc J hJ ls st mem h hm hs hl
    refine zwp_sound S hG hpl hcl hsy hR hcv hcS hret hthr hB (X := zBelow I n) (fun pc' Jn hq ls' st' mem' w => ?_) F pc ls st mem (hI pc J hJ n ls st mem hm hl h) hm hs hl
    unfold zBelow at hq
    cases hi : I pc' with
    | none => rw [hi] at hq; cases hq
    | some J' =>
      rw [hi] at hq
      cases hq
      obtain ⟨n', h1, h2⟩ := w
      exact ih n' h1 pc' J' hi ls' st' mem' h2
end ZY
/-- a callee that is met: what a caller's proof needs of it -/
def zCallee (l : Launch) (Λ : List zC) (own : String) (idx : Nat) (virt : Bool) (LV : Nat) (q : zCt) : Prop :=
  ∃ (y : MethodName) (code : ByteArray) (maxL lv : Nat) (ret : Option FieldType), zMet l Λ y code maxL ret lv q.1 q.2.1 q.2.2.1 q.2.2.2 ∧ lv < LV ∧ maxL ≤ 20 ∧ Cond.code y code maxL ret ∈ zTbl ∧ Cond.initialized y.cls ∈ zTbl ∧ (Cond.methodLink own idx y ∈ zTbl ∨ ∃ host, Cond.methodLinkNest own idx y host ∈ lw_tbl) ∧
    (virt = true → ∃ (tl : List Nat) (ci : Nat) (r : vw_C), q.1 = 2 :: tl ∧ zNm y tl.length ∧ Cond.instanceMethod y ∈ zTbl ∧ Cond.selects y.cls y y ∈ zTbl ∧ zCl[ci]? = some r ∧ r.1 = y.cls ∧ ∀ vs mem, q.2.2.1 vs mem → ∃ (a : Int) (tv : List Int) (fs : List (Nat × Nat)), vs = a :: tv ∧ Λ[a.toNat]? = some (0, ci, fs)) ∧
    (virt = false → zNm y q.1.length ∧ Cond.static y ∈ zTbl)
/-- a text's own methods -/
def zTxC (l : Launch) (Λ : List zC) (own : String) (idx : Nat) (q : zCt) : Prop :=
  ∀ (p : Program) (e : Env) (R : Room) (s : State) (m : MethodId) (args : Array Value) (below : List Frame) (meth : Method) (c : Code) (nL : Nat) (D : va_G) (ad sa sv : Nat → Nat) (cs : Nat → ClassId) (A : Nat → Prop) (cc : ByteArray), CallFix p m c cc nL s args zTbl own → zGl D cs sa sv A s → (∀ q, s.heap.size ≤ q → A q) → 12 ≤ R.frames → 500 ≤ R.locals →
    zCOK p l e R s m args below meth c 0 0 nL Λ D ad sa cs A cc (.invokevirtual idx) q.1 q.2.1 q.2.2.1 q.2.2.2
def zRk (ret : Option FieldType) (rt : Nat) : Prop := (rt = 0 ∧ ret = some .int) ∨ (rt = 4 ∧ ret = some .boolean) ∨ (rt = 1 ∧ ret = some .long) ∨ (rt = 9 ∧ ret = none)
set_option maxHeartbeats 2000000 in
theorem zMet_of {l : Launch} {Λ : List zC} {y : MethodName} {code : ByteArray} {maxL lv rt : Nat} {ret : Option FieldType} {tags : List Nat} {pre : List Int → zM → Prop} {post : List Int → zM → Int → zM → Prop} {own : String} {pl : zPo} {cv cS : Nat → Option zCt} {B : Nat → List (Instr × Nat)} {F : Nat}
    (hy : plainName y.cls = true) (how : y.cls = own) (hrk : zRk ret rt) (hlen : ∀ vs : List Int, vs.length = tags.length → (lg_sl ((tags.zip vs).map (zE (fun x => x) (fun x => x)))).length ≤ maxL) (hpl : zPlok own pl) (hcl : zClok) (hsy : zSyok) (hB : ∀ pc, zdec code pc (B pc))
    (hcv : ∀ k q, cv k = some q → zCallee l Λ own k true lv q ∨ (zTxC l Λ own k q ∧ 10 ≤ lv)) (hcS : ∀ k q, cS k = some q → zCallee l Λ own k false lv q)
    (body : ∀ (vs : List Int) (mem : zM), vs.length = tags.length → (∀ v ∈ tags.zip vs, zok v) → zokM Λ mem → pre vs mem → ∃ I : zI,
      (∀ pc J, I pc = some J → ∀ n ls st mem', zokM Λ mem' → (∀ k, zok (ls k)) → J n ls st mem' → zwp Λ pl cv cS rt (post vs mem) (fun _ => none) (fun _ _ => False) maxL B (zBelow I n) F pc ls st mem') ∧
      zwp Λ pl cv cS rt (post vs mem) (fun _ => none) (fun _ _ => False) maxL B (zAny I) F 0 (zent 0 (tags.zip vs)) [] mem) : zMet l Λ y code maxL ret lv tags rt pre post := by
  intro D ad sa sv cs sz vs mem hvl hok hm hpre
  obtain ⟨I, hI, hE⟩ := body vs mem hvl hok hm hpre
  refine Met.ofW (cc := code) (maxL := maxL) (ret := ret) hy rfl ?_
  intro p e s m args below meth c s₁ Bd hml hv
  obtain ⟨rfl, hsz, hG, hP, hD⟩ := hv
  subst hsz
  have hx := Bd.exec
  have hb := Bd.bytes
  have hr := Bd.returns
  have hts0 := atoms_spec (ws := Cond.code y code maxL ret :: zTbl) Bd.pre
  have hts : ∀ w ∈ zTbl, w.before ((tags.zip vs).map (zE ad sa)).toArray s = true := fun w hw => hts0 w (List.mem_cons_of_mem _ hw)
  have hown : s.vm.findClass own = some m.cls := how ▸ findClass_of_methodNamed Bd.named
  have hlocks := Bd.notSynchronized
  have hA : ∀ q : Nat, s.heap.size ≤ q → zA Λ ad s.heap.size q := fun q h => Or.inr h
  have S : CallFix p m c code maxL s ((tags.zip vs).map (zE ad sa)).toArray zTbl own := ⟨hx, hb, hml, hown, hts⟩
  have hcatlen : (lg_sl ((tags.zip vs).map (zE ad sa))).length ≤ maxL := by
    have h1 := hlen vs hvl
    have h2 : ∀ (ad' sa' : Nat → Nat) (us : List zV), (lg_sl (us.map (zE ad' sa'))).length = (us.map fun v => if v.1 = 1 then 2 else 1).sum := by
      intro ad' sa' us
      induction us with
      | nil => rfl
      | cons v r ih =>
        have e : lg_sl ((v :: r).map (zE ad' sa')) = (if (zE ad' sa' v).category = 2 then [.val (zE ad' sa' v), .second] else [.val (zE ad' sa' v)]) ++ lg_sl (r.map (zE ad' sa')) := rfl
        rw [e, List.length_append, ih, zE_cat, List.map_cons, List.sum_cons]
        by_cases h1 : v.1 = 1
        · rw [if_pos h1, if_pos rfl]; rfl
        · rw [if_neg h1, if_neg (by decide)]; rfl
    rw [h2] at h1 ⊢
    exact h1
  have hl0 := lv_entry ((tags.zip vs).map (zE ad sa)) (n := maxL) hcatlen
  rw [lg_entry_eq]
  generalize (lg_sl ((tags.zip vs).map (zE ad sa)) ++ List.replicate (maxL - (lg_sl ((tags.zip vs).map (zE ad sa))).length) Slot.unset).toArray = L at hl0 ⊢
  have hL : zLs ad sa maxL (zent 0 (tags.zip vs)) L := ⟨hl0.1, hl0.2.1, fun k h9 => hl0.2.2 _ (zent_in (tags.zip vs) 0 k h9)⟩
  have hS : va_S (zA Λ ad s.heap.size) s.heap s.heap [] := va_S.rf
  have hret : zRet p l e (zRm lv) s m ((tags.zip vs).map (zE ad sa)).toArray below meth c 0 0 (MQ below (zQ rt Λ D ad cs s.heap.size (post vs mem)) ((tags.zip vs).map (zE ad sa)).toArray s 0 0 (zA Λ ad s.heap.size)) maxL Λ D ad sa cs (zA Λ ad s.heap.size) code rt (post vs mem) := by
    refine ⟨fun pc ls v mem' hd hrt hp hm' hs' _ H locs L' hP' hD' hL' hS' => ?_, fun pc ls v mem' hd hrt hp hm' hs' _ H locs L' hP' hD' hL' hS' => ?_, fun pc ls mem' hd hrt hp hm' hs' _ H locs L' hP' hD' hL' hS' => ?_⟩
    · have hvr := zhi hs'
      have hq : ∀ t : State, t.heap = H → s.WarmedH t.vm → zQ rt Λ D ad cs s.heap.size (post vs mem) ((tags.zip vs).map (zE ad sa)).toArray s (.returned (some (.int (Int32.ofInt v)))) t := by
        intro t ht _
        have h1 : ¬ rt = 1 := by omega
        have h9 : ¬ rt = 9 := by omega
        unfold zQ
        rw [if_neg h1, if_neg h9]
        exact ⟨⟨Int32.ofInt v, mem', rfl, ⟨by rw [zi_toInt hvr]; exact hp, hm'⟩, by show va_P D zCl (zWd Λ ad cs mem') t.heap; rw [ht]; exact hP'⟩, hS'.F ht⟩
      rcases hrk with ⟨k1, k2⟩ | ⟨k1, k2⟩ | ⟨k1, k2⟩ | ⟨k1, k2⟩
      · exact W.iret hx hb (hr.trans k2) hq hS'.2.2 hd
      · rcases hrt with h | ⟨_, h⟩
        · omega
        · exact W.zret (ty := .boolean) hx hb (hr.trans k2) (by rcases h with h | h <;> subst h <;> rfl) hq hS'.2.2 hd
      · omega
      · omega
    · have hvr := zhl hs'
      have hq : ∀ t : State, t.heap = H → s.WarmedH t.vm → zQ rt Λ D ad cs s.heap.size (post vs mem) ((tags.zip vs).map (zE ad sa)).toArray s (.returned (some (.long (Int64.ofInt v)))) t := by
        intro t ht _
        unfold zQ
        rw [if_pos hrt]
        exact ⟨⟨Int64.ofInt v, mem', rfl, ⟨by rw [zl_toInt hvr]; exact hp, hm'⟩, by show va_P D zCl (zWd Λ ad cs mem') t.heap; rw [ht]; exact hP'⟩, hS'.F ht⟩
      rcases hrk with ⟨k1, k2⟩ | ⟨k1, k2⟩ | ⟨k1, k2⟩ | ⟨k1, k2⟩
      · omega
      · omega
      · exact W.lret hx hb (hr.trans k2) hq hS'.2.2 hd
      · omega
    · have hq : ∀ t : State, t.heap = H → s.WarmedH t.vm → zQ rt Λ D ad cs s.heap.size (post vs mem) ((tags.zip vs).map (zE ad sa)).toArray s (.returned none) t := by
        intro t ht _
        have h1 : ¬ rt = 1 := by omega
        unfold zQ
        rw [if_neg h1, if_pos hrt]
        exact ⟨⟨mem', rfl, ⟨hp, hm'⟩, by show va_P D zCl (zWd Λ ad cs mem') t.heap; rw [ht]; exact hP'⟩, hS'.F ht⟩
      rcases hrk with ⟨k1, k2⟩ | ⟨k1, k2⟩ | ⟨k1, k2⟩ | ⟨k1, k2⟩
      · omega
      · omega
      · omega
      · exact W.vret hx hb (hr.trans k2) hq hS'.2.2 hd
  have hthr : ∀ (pc E : Nat) (ls : zL) (mem' : zM), (fun _ : Nat => (none : Option Nat)) pc = some E → (fun (_ : Nat) (_ : zM) => False) E mem' → zAW p l e (zRm lv) s m ((tags.zip vs).map (zE ad sa)).toArray below meth c 0 0 (MQ below (zQ rt Λ D ad cs s.heap.size (post vs mem)) ((tags.zip vs).map (zE ad sa)).toArray s 0 0 (zA Λ ad s.heap.size)) maxL Λ D ad sa cs (zA Λ ad s.heap.size) pc ls [] mem' := fun _ _ _ _ h => by cases h
  have hR : 1 ≤ (zRm lv).frames ∧ 30 ≤ (zRm lv).locals := ⟨by show 1 ≤ lv + 2; omega, by show 30 ≤ 40 * lv + 100; omega⟩
  have hcv' : ∀ k q, cv k = some q → zCOK p l e (zRm lv) s m ((tags.zip vs).map (zE ad sa)).toArray below meth c 0 0 maxL Λ D ad sa cs (zA Λ ad s.heap.size) code (.invokevirtual k) q.1 q.2.1 q.2.2.1 q.2.2.2 := by
    intro k q hq
    rcases hcv k q hq with hc | ⟨hc, h10⟩
    · obtain ⟨y', code', maxL', lv', ret', hM, hlt, hmx, w1, w2, w3, w4, -⟩ := hc
      obtain ⟨tl, ci, r, t1, t2, t3, t4, t5, t6, t7⟩ := w4 rfl
      obtain ⟨qt, qr, qpre, qpost⟩ := q
      dsimp only at t1 hM t7
      subst t1
      exact zcall_V S hG hA hM t2 w1 w2 t3 t4 w3 t5 t6 t7 ⟨by show lv' + 2 + 1 ≤ lv + 2; omega, by show 8 + (maxL' + 11) + (40 * lv' + 100) ≤ 40 * lv + 100; omega⟩ ⟨Nat.le_refl _, Nat.le_refl _⟩
    · exact hc p e (zRm lv) s m _ below meth c maxL D ad sa sv cs _ code S hG hA (by show 12 ≤ lv + 2; omega) (by show 500 ≤ 40 * lv + 100; omega)
  have hcS' : ∀ k q, cS k = some q → zCOK p l e (zRm lv) s m ((tags.zip vs).map (zE ad sa)).toArray below meth c 0 0 maxL Λ D ad sa cs (zA Λ ad s.heap.size) code (.invokestatic k) q.1 q.2.1 q.2.2.1 q.2.2.2 := by
    intro k q hq
    obtain ⟨y', code', maxL', lv', ret', hM, hlt, hmx, w1, w2, w3, -, w5⟩ := hcS k q hq
    obtain ⟨t1, t2⟩ := w5 rfl
    exact zcall_S S hG hA hM t1 w1 w2 t2 w3 ⟨by show lv' + 2 + 1 ≤ lv + 2; omega, by show 8 + (maxL' + 11) + (40 * lv' + 100) ≤ 40 * lv + 100; omega⟩ ⟨Nat.le_refl _, Nat.le_refl _⟩
  have hloop := zloops (e := e) (below := below) (meth := meth) (R := zRm lv) S hG hpl hcl hsy hR hcv' hcS' hret hthr hB hI
  refine zwp_sound (e := e) (below := below) (meth := meth) (R := zRm lv) S hG hpl hcl hsy hR hcv' hcS' hret hthr hB (X := zAny I) (fun pc' Jn hq ls' st' mem' w => ?_) F 0 _ [] mem hE hm (fun _ h => by cases h) (zent_ok _ 0 hok) s.heap [] L hP hD hL hS
  unfold zAny at hq
  cases hi : I pc' with
  | none => rw [hi] at hq; cases hq
  | some J' =>
    rw [hi] at hq
    cases hq
    obtain ⟨n', h2⟩ := w
    exact hloop n' pc' J' hi ls' st' mem' h2
