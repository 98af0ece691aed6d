set_option maxHeartbeats 4000000 in
theorem zMetX_of {l : Launch} {Λ : List zC} {y : MethodName} {code : ByteArray} {maxL lv rt : Nat} {ret : Option FieldType} {tags : List Nat} {pre : List Int → zM → Prop} {post : List Int → zM → Int → zM → Prop} {xp : List Int → zM → Nat → zM → Prop} {thr : Nat → Option Nat} {own : String} {pl : zPo} {cv cS : Nat → Option zCt} {B : Nat → List (Instr × Nat)} {F : Nat}
    (hy : plainName y.cls = true) (how : y.cls = own) (hsr : own = "SandRails") (hst : ∀ pc E, thr pc = some E → zSite code pc E) (hrk : zRk ret rt) (hlen : ∀ vs : List Int, vs.length = tags.length → (lg_sl ((tags.zip vs).map (zE (fun x => x) (fun x => x)))).length ≤ maxL) (hpl : zPlok own pl) (hcl : zClok) (hsy : zSyok) (hB : ∀ pc, zdec code pc (B pc))
    (hcv : ∀ k q, cv k = some q → zCallee l Λ own k true lv q ∨ (zTxC l Λ own k q ∧ 10 ≤ lv)) (hcS : ∀ k q, cS k = some q → zCallee l Λ own k false lv q)
    (body : ∀ (vs : List Int) (mem : zM), vs.length = tags.length → (∀ v ∈ tags.zip vs, zok v) → zokM Λ mem → pre vs mem → ∃ I : zI,
      (∀ pc J, I pc = some J → ∀ n ls st mem', zokM Λ mem' → (∀ k, zok (ls k)) → J n ls st mem' → zwp Λ pl cv cS rt (post vs mem) thr (xp vs mem) maxL B (zBelow I n) F pc ls st mem') ∧
      zwp Λ pl cv cS rt (post vs mem) thr (xp vs mem) maxL B (zAny I) F 0 (zent 0 (tags.zip vs)) [] mem) : zMetX l Λ y code maxL ret lv tags rt pre post xp := by
  intro D ad sa sv cs sz vs mem hltr hvl hok hm hpre
  obtain ⟨I, hI, hE⟩ := body vs mem hvl hok hm hpre
  refine vx_ofW (cc := code) (maxL := maxL) (ret := ret) hy rfl ?_
  intro p e s m args below meth c s₁ Bd hml htab hv
  obtain ⟨rfl, hsz, hG, hP, hD, hGx⟩ := hv
  subst hsz
  have hx := Bd.exec
  have hb := Bd.bytes
  have hr := Bd.returns
  have hts0 := atoms_spec (ws := Cond.code y code maxL ret :: zTbl) Bd.pre
  have hts : ∀ w ∈ zTbl, w.before ((tags.zip vs).map (zE ad sa)).toArray s = true := fun w hw => hts0 w (List.mem_cons_of_mem _ hw)
  have hown : s.vm.findClass own = some m.cls := how ▸ findClass_of_methodNamed Bd.named
  have hlocks := Bd.notSynchronized
  have hA : ∀ q : Nat, s.heap.size ≤ q → zA Λ ad s.heap.size q := fun q h => Or.inr h
  have S : CallFix p m c code maxL s ((tags.zip vs).map (zE ad sa)).toArray zTbl own := ⟨hx, hb, hml, hown, hts⟩
  have hcatlen : (lg_sl ((tags.zip vs).map (zE ad sa))).length ≤ maxL := by
    have h1 := hlen vs hvl
    have h2 : ∀ (ad' sa' : Nat → Nat) (us : List zV), (lg_sl (us.map (zE ad' sa'))).length = (us.map fun v => if v.1 = 1 then 2 else 1).sum := by
      intro ad' sa' us
      induction us with
      | nil => rfl
      | cons v r ih =>
        have e : lg_sl ((v :: r).map (zE ad' sa')) = (if (zE ad' sa' v).category = 2 then [.val (zE ad' sa' v), .second] else [.val (zE ad' sa' v)]) ++ lg_sl (r.map (zE ad' sa')) := rfl
        rw [e, List.length_append, ih, zE_cat, List.map_cons, List.sum_cons]
        by_cases h1 : v.1 = 1
        · rw [if_pos h1, if_pos rfl]; rfl
        · rw [if_neg h1, if_neg (by decide)]; rfl
    rw [h2] at h1 ⊢
    exact h1
  have hl0 := lv_entry ((tags.zip vs).map (zE ad sa)) (n := maxL) hcatlen
  rw [lg_entry_eq]
  generalize (lg_sl ((tags.zip vs).map (zE ad sa)) ++ List.replicate (maxL - (lg_sl ((tags.zip vs).map (zE ad sa))).length) Slot.unset).toArray = L at hl0 ⊢
  have hL : zLs ad sa maxL (zent 0 (tags.zip vs)) L := ⟨hl0.1, hl0.2.1, fun k h9 => hl0.2.2 _ (zent_in (tags.zip vs) 0 k h9)⟩
  have hS : va_S (zA Λ ad s.heap.size) s.heap s.heap [] := va_S.rf
  have hret : zRet p l e (zRmX lv) s m ((tags.zip vs).map (zE ad sa)).toArray below meth c 0 0 (vx_MQ below (zQ rt Λ D ad cs s.heap.size (post vs mem)) (zXC Λ D ad cs s.heap.size (xp vs mem)) ((tags.zip vs).map (zE ad sa)).toArray s 1 6 (zA Λ ad s.heap.size)) maxL Λ D ad sa cs (zA Λ ad s.heap.size) code rt (post vs mem) := by
    refine ⟨fun pc ls v mem' hd hrt hp hm' hs' _ H locs L' hP' hD' hL' hS' => ?_, fun pc ls v mem' hd hrt hp hm' hs' _ H locs L' hP' hD' hL' hS' => ?_, fun pc ls mem' hd hrt hp hm' hs' _ H locs L' hP' hD' hL' hS' => ?_⟩
    · have hvr := zhi hs'
      have hq : ∀ t : State, t.heap = H → s.WarmedH t.vm → zQ rt Λ D ad cs s.heap.size (post vs mem) ((tags.zip vs).map (zE ad sa)).toArray s (.returned (some (.int (Int32.ofInt v)))) t := by
        intro t ht _
        have h1 : ¬ rt = 1 := by omega
        have h9 : ¬ rt = 9 := by omega
        unfold zQ
        rw [if_neg h1, if_neg h9]
        exact ⟨⟨Int32.ofInt v, mem', rfl, ⟨by rw [zi_toInt hvr]; exact hp, hm'⟩, by show va_P D zCl (zWd Λ ad cs mem') t.heap; rw [ht]; exact hP'⟩, hS'.F ht⟩
      rcases hrk with ⟨k1, k2⟩ | ⟨k1, k2⟩ | ⟨k1, k2⟩ | ⟨k1, k2⟩
      · exact W.widen (k := 1) (n := 6) (by omega) (by omega) (vx_ret (W.iret hx hb (hr.trans k2) hq hS'.2.2 hd))
      · rcases hrt with h | ⟨_, h⟩
        · omega
        · exact W.widen (k := 1) (n := 6) (by omega) (by omega) (vx_ret (W.zret (ty := .boolean) hx hb (hr.trans k2) (by rcases h with h | h <;> subst h <;> rfl) hq hS'.2.2 hd))
      · omega
      · omega
    · have hvr := zhl hs'
      have hq : ∀ t : State, t.heap = H → s.WarmedH t.vm → zQ rt Λ D ad cs s.heap.size (post vs mem) ((tags.zip vs).map (zE ad sa)).toArray s (.returned (some (.long (Int64.ofInt v)))) t := by
        intro t ht _
        unfold zQ
        rw [if_pos hrt]
        exact ⟨⟨Int64.ofInt v, mem', rfl, ⟨by rw [zl_toInt hvr]; exact hp, hm'⟩, by show va_P D zCl (zWd Λ ad cs mem') t.heap; rw [ht]; exact hP'⟩, hS'.F ht⟩
      rcases hrk with ⟨k1, k2⟩ | ⟨k1, k2⟩ | ⟨k1, k2⟩ | ⟨k1, k2⟩
      · omega
      · omega
      · exact W.widen (k := 1) (n := 6) (by omega) (by omega) (vx_ret (W.lret hx hb (hr.trans k2) hq hS'.2.2 hd))
      · omega
    · have hq : ∀ t : State, t.heap = H → s.WarmedH t.vm → zQ rt Λ D ad cs s.heap.size (post vs mem) ((tags.zip vs).map (zE ad sa)).toArray s (.returned none) t := by
        intro t ht _
        have h1 : ¬ rt = 1 := by omega
        unfold zQ
        rw [if_neg h1, if_pos hrt]
        exact ⟨⟨mem', rfl, ⟨hp, hm'⟩, by show va_P D zCl (zWd Λ ad cs mem') t.heap; rw [ht]; exact hP'⟩, hS'.F ht⟩
      rcases hrk with ⟨k1, k2⟩ | ⟨k1, k2⟩ | ⟨k1, k2⟩ | ⟨k1, k2⟩
      · omega
      · omega
      · omega
      · exact W.widen (k := 1) (n := 6) (by omega) (by omega) (vx_ret (W.vret hx hb (hr.trans k2) hq hS'.2.2 hd))
  have hthr : ∀ (pc E : Nat) (ls : zL) (mem' : zM), thr pc = some E → xp vs mem E mem' → zAW p l e (zRmX lv) s m ((tags.zip vs).map (zE ad sa)).toArray below meth c 0 0 (vx_MQ below (zQ rt Λ D ad cs s.heap.size (post vs mem)) (zXC Λ D ad cs s.heap.size (xp vs mem)) ((tags.zip vs).map (zE ad sa)).toArray s 1 6 (zA Λ ad s.heap.size)) maxL Λ D ad sa cs (zA Λ ad s.heap.size) pc ls [] mem' := by
    intro pc E ls mem' ht hxp hm' _ _ H locs L' hP' hD' hL' hS'
    obtain ⟨ik, is, ic, ix, nn, cls, text, t1, t2, t3, t4, t5, t6, ⟨b0, b1, b2, b5⟩, d0, d3, dd⟩ := hst pc E ht
    obtain ⟨astr, hstr⟩ := hGx.2.2.1 (is, text) t2
    subst hsr
    have hgood : ∀ w ∈ Cond.classLink "SandRails" ik cls :: Cond.initialized cls :: zXw ic cls ix nn, vx_ot w = true := fun w hw => by
      have hw' : w ∈ zTbl ∨ w ∈ zNg := by
        rcases List.mem_cons.mp hw with r | r
        · rw [r]; exact Or.inl t4
        · rcases List.mem_cons.mp r with r | r
          · rw [r]; exact Or.inl t5
          · exact t6 w r
      rcases hw' with hw' | hw'
      · unfold vx_ot
        rw [(List.mem_filter.mp hw').2, Bool.or_true]
      · unfold vx_ot
        rw [zNg_on w hw', Bool.true_or]
    have hat : ∀ w ∈ zXw ic cls ix nn, w.before ((tags.zip vs).map (zE ad sa)).toArray s = true := fun w hw => by
      rcases t6 w hw with r | r
      · exact hts w r
      · exact va_Nw.use (zNg_on w r) (hGx.2.2.2.2 w r)
    have hXC : ∀ t : State, s.vm.Alike t.vm → H.size ≤ t.heap.size → (∀ q : Nat, q < H.size → t.heap[q]? = H[q]?) → zXC Λ D ad cs s.heap.size (xp vs mem) cls s t := by
      intro t _ hsz hkp
      refine ⟨(E, mem'), ⟨hm', hxp⟩, ⟨t1, ?_⟩, Nat.le_trans hS'.1 hsz, fun q h1 h2 => ?_⟩
      · exact va_P.kept hP' (fun k q hk => hkp q.1 (vx_lt hP' hk))
      · rw [hkp q (Nat.lt_of_lt_of_le h1 hS'.1)]; exact hS'.2.1 q h1 h2
    rcases dd with ⟨d4, d6, d9⟩ | ⟨d4, d7, d10⟩
    · exact zthrowS (names := zXc) (bytes := zX6 nn) (ix := ix) (Yc := "java/lang/RuntimeException") hx hb hltr hown t3 zRT_fit b0 b1 b2 b5 zXc_fit (hts _ t4) (hts _ t5) hstr hat hgood hGx.1 hGx.2.1 hS' (hL'.1.trans hml.symm) d0 d3 d4 d6 d9 (fun x hx => (htab x hx).elim) (by show 1 + 4 < lv + 12; omega) (by show 0 + (13 * 3 + 43) ≤ 40 * lv + 700; omega) (Nat.le_refl 1) (Nat.le_refl 6) hlocks hXC hS'.2.2 (Nat.le_refl 1) (Nat.le_refl 6)
    · exact zthrowSW (names := zXc) (bytes := zX6 nn) (ix := ix) (Yc := "java/lang/RuntimeException") hx hb hltr hown t3 zRT_fit b0 b1 b2 b5 zXc_fit (hts _ t4) (hts _ t5) hstr hat hgood hGx.1 hGx.2.1 hS' (hL'.1.trans hml.symm) d0 d3 d4 d7 d10 (fun x hx => (htab x hx).elim) (by show 1 + 4 < lv + 12; omega) (by show 0 + (13 * 3 + 43) ≤ 40 * lv + 700; omega) (Nat.le_refl 1) (Nat.le_refl 6) hlocks hXC hS'.2.2 (Nat.le_refl 1) (Nat.le_refl 6)
  have hR : 1 ≤ (zRmX lv).frames ∧ 30 ≤ (zRmX lv).locals := ⟨by show 1 ≤ lv + 12; omega, by show 30 ≤ 40 * lv + 700; omega⟩
  have hcv' : ∀ k q, cv k = some q → zCOK p l e (zRmX lv) s m ((tags.zip vs).map (zE ad sa)).toArray below meth c 0 0 maxL Λ D ad sa cs (zA Λ ad s.heap.size) code (.invokevirtual k) q.1 q.2.1 q.2.2.1 q.2.2.2 := by
    intro k q hq
    rcases hcv k q hq with hc | ⟨hc, h10⟩
    · obtain ⟨y', code', maxL', lv', ret', hM, hlt, hmx, w1, w2, w3, w4, -⟩ := hc
      obtain ⟨tl, ci, r, t1, t2, t3, t4, t5, t6, t7⟩ := w4 rfl
      obtain ⟨qt, qr, qpre, qpost⟩ := q
      dsimp only at t1 hM t7
      subst t1
      exact zcall_V S hG hA hM t2 w1 w2 t3 t4 w3 t5 t6 t7 ⟨by show lv' + 2 + 1 ≤ lv + 12; omega, by show 8 + (maxL' + 11) + (40 * lv' + 100) ≤ 40 * lv + 700; omega⟩ ⟨Nat.zero_le _, Nat.zero_le _⟩
    · exact hc p e (zRmX lv) s m _ below meth c maxL D ad sa sv cs _ code S hG hA (by show 12 ≤ lv + 12; omega) (by show 500 ≤ 40 * lv + 700; omega)
  have hcS' : ∀ k q, cS k = some q → zCOK p l e (zRmX lv) s m ((tags.zip vs).map (zE ad sa)).toArray below meth c 0 0 maxL Λ D ad sa cs (zA Λ ad s.heap.size) code (.invokestatic k) q.1 q.2.1 q.2.2.1 q.2.2.2 := by
    intro k q hq
    obtain ⟨y', code', maxL', lv', ret', hM, hlt, hmx, w1, w2, w3, -, w5⟩ := hcS k q hq
    obtain ⟨t1, t2⟩ := w5 rfl
    exact zcall_S S hG hA hM t1 w1 w2 t2 w3 ⟨by show lv' + 2 + 1 ≤ lv + 12; omega, by show 8 + (maxL' + 11) + (40 * lv' + 100) ≤ 40 * lv + 700; omega⟩ ⟨Nat.zero_le _, Nat.zero_le _⟩
  have hloop := zloops (e := e) (below := below) (meth := meth) (R := zRmX lv) S hG hpl hcl hsy hR hcv' hcS' hret hthr hB hI
  refine zwp_sound (e := e) (below := below) (meth := meth) (R := zRmX lv) S hG hpl hcl hsy hR hcv' hcS' hret hthr hB (X := zAny I) (fun pc' Jn hq ls' st' mem' w => ?_) F 0 _ [] mem hE hm (fun _ h => by cases h) (zent_ok _ 0 hok) s.heap [] L hP hD hL hS
  unfold zAny at hq
  cases hi : I pc' with
  | none => rw [hi] at hq; cases hq
  | some J' =>
    rw [hi] at hq
    cases hq
    obtain ⟨n', h2⟩ := w
    exact hloop n' pc' J' hi ls' st' mem' h2
