/-! ===== texts: length and charAt ===== -/
theorem hJ0_length_8abf5 : zMv yJ0_length_8abf5 cJ0_length_8abf5 1 (some .int) := ⟨zG_mem (n := 665) (by decide +kernel), zG_mem (n := 128) (by decide +kernel), zG_mem (n := 663) (by decide +kernel), zG_mem (n := 664) (by decide +kernel)⟩
theorem hJ0_charAt_5068e : zMv yJ0_charAt_5068e cJ0_charAt_5068e 2 (some .char) := ⟨zG_mem (n := 675) (by decide +kernel), zG_mem (n := 128) (by decide +kernel), zG_mem (n := 673) (by decide +kernel), zG_mem (n := 674) (by decide +kernel)⟩
theorem hJ0_coder_7d493 : zMv yJ0_coder_7d493 cJ0_coder_7d493 1 (some .byte) := ⟨zG_mem (n := 669) (by decide +kernel), zG_mem (n := 128) (by decide +kernel), zG_mem (n := 667) (by decide +kernel), zG_mem (n := 668) (by decide +kernel)⟩
theorem hJ0_isLatin1_aae02 : zMv yJ0_isLatin1_aae02 cJ0_isLatin1_aae02 1 (some .boolean) := ⟨zG_mem (n := 679) (by decide +kernel), zG_mem (n := 128) (by decide +kernel), zG_mem (n := 677) (by decide +kernel), zG_mem (n := 678) (by decide +kernel)⟩
theorem hJ0_checkIndex_df160 : zMs yJ0_checkIndex_df160 cJ0_checkIndex_df160 2 none := ⟨zG_mem (n := 685) (by decide +kernel), zG_mem (n := 128) (by decide +kernel), zG_mem (n := 684) (by decide +kernel)⟩
theorem hJ1_charAt_3b067 : zMs yJ1_charAt_3b067 cJ1_charAt_3b067 2 (some .char) := ⟨zG_mem (n := 682) (by decide +kernel), zG_mem (n := 129) (by decide +kernel), zG_mem (n := 681) (by decide +kernel)⟩
theorem hJ3_checkIndex_8e157 : zMs yJ3_checkIndex_8e157 cJ3_checkIndex_8e157 3 (some .int) := ⟨zG_mem (n := 690) (by decide +kernel), zG_mem (n := 130) (by decide +kernel), zG_mem (n := 689) (by decide +kernel)⟩
theorem kJ0_335 : Cond.methodLink RJ0 335 yJ0_coder_7d493 ∈ zTbl := zG_mem (n := 666) (by decide +kernel)
theorem kJ0_492 : Cond.methodLink RJ0 492 yJ0_isLatin1_aae02 ∈ zTbl := zG_mem (n := 676) (by decide +kernel)
theorem kJ0_495 : Cond.methodLink RJ0 495 yJ1_charAt_3b067 ∈ zTbl := zG_mem (n := 680) (by decide +kernel)
theorem kJ1_9 : Cond.methodLink RJ1 9 yJ0_checkIndex_df160 ∈ zTbl := zG_mem (n := 683) (by decide +kernel)
theorem kJ0_1059 : Cond.methodLink RJ0 1059 yJ3_checkIndex_8e157 ∈ zTbl := zG_mem (n := 688) (by decide +kernel)
theorem fJ0_9 : Cond.fieldLink RJ0 9 "java/lang/String" "value" "[B" ∈ zTbl := zG_mem (n := 2058) (by decide +kernel)
theorem fJ0_15 : Cond.fieldLink RJ0 15 "java/lang/String" "coder" "B" ∈ zTbl := zG_mem (n := 2059) (by decide +kernel)
theorem fJ0_38 : Cond.fieldLink RJ0 38 "java/lang/String" "COMPACT_STRINGS" "Z" ∈ zTbl := zG_mem (n := 670) (by decide +kernel)
theorem fJ0_1053 : Cond.fieldLink RJ0 1053 "jdk/internal/util/Preconditions" "SIOOBE_FORMATTER" "Ljava/util/function/BiFunction;" ∈ zTbl := zG_mem (n := 686) (by decide +kernel)
theorem kT4_59 : Cond.methodLink RX4 59 yJ0_length_8abf5 ∈ zTbl := zG_mem (n := 662) (by decide +kernel)
theorem kT4_65 : Cond.methodLink RX4 65 yJ0_charAt_5068e ∈ zTbl := zG_mem (n := 672) (by decide +kernel)
theorem kT11_82 : Cond.methodLink RX11 82 yJ0_length_8abf5 ∈ zTbl := zG_mem (n := 1601) (by decide +kernel)
theorem kT11_88 : Cond.methodLink RX11 88 yJ0_charAt_5068e ∈ zTbl := zG_mem (n := 1602) (by decide +kernel)
/-- a method walked by hand -/
def zHb (l : Launch) (Λ : List zC) (code : ByteArray) (maxL lv rt : Nat) (ret : Option FieldType) (tags : List Nat) (own : String) (post : List Int → zM → Int → zM → Prop) (vs : List Int) (mem : zM) : Prop :=
  ∀ (p : Program) (e : Env) (s : State) (m : MethodId) (args : Array Value) (below : List Frame) (meth : Method) (c : Code) (Q : State → Prop) (D : va_G) (ad sa sv : Nat → Nat) (cs : Nat → ClassId) (A : Nat → Prop),
    CallFix p m c code maxL s args zTbl own → zGl D cs sa sv A s → (∀ q, s.heap.size ≤ q → A q) →
    (∀ pc ls v mem', decode code pc = .ok (.ireturn, 1) → ¬ rt = 9 → (∀ ty, ret = some ty → narrow ty (.int (Int32.ofInt v)) = .int (Int32.ofInt v)) → post vs mem v mem' → zAW p l e (zRm lv) s m args below meth c 0 0 Q maxL Λ D ad sa cs A pc ls [(0, v)] mem') →
    (∀ pc ls mem', decode code pc = .ok (.return_, 1) → post vs mem 0 mem' → rt = 9 → zAW p l e (zRm lv) s m args below meth c 0 0 Q maxL Λ D ad sa cs A pc ls [] mem') →
    zAW p l e (zRm lv) s m args below meth c 0 0 Q maxL Λ D ad sa cs A 0 (zent 0 (tags.zip vs)) [] mem
theorem zMet_H {l : Launch} {Λ : List zC} {y : MethodName} {code : ByteArray} {maxL lv rt : Nat} {ret : Option FieldType} {tags : List Nat} {pre : List Int → zM → Prop} {post : List Int → zM → Int → zM → Prop} {own : String}
    (hy : plainFor y = true) (how : y.cls = own) (hrk : (rt = 9 ∧ ret = none) ∨ ((rt = 0 ∨ rt = 4) ∧ ∃ ty, ret = some ty)) (hlen : ∀ vs : List Int, vs.length = tags.length → (lg_sl ((tags.zip vs).map (zE (fun x => x) (fun x => x)))).length ≤ maxL)
    (body : ∀ (vs : List Int) (mem : zM), vs.length = tags.length → (∀ v ∈ tags.zip vs, zok v) → zokM Λ mem → pre vs mem → zHb l Λ code maxL lv rt ret tags own post vs mem) : zMet l Λ y code maxL ret lv tags rt pre post := by
  intro D ad sa sv cs sz vs mem hvl hok hm hpre
  have hE := body vs mem hvl hok hm hpre
  refine va_MetF (cc := code) (maxL := maxL) (ret := ret) hy rfl ?_
  intro p e s m args below meth c s₁ Bd hml hv
  obtain ⟨rfl, hsz, hG, hP, hD⟩ := hv
  subst hsz
  have hx := Bd.exec
  have hb := Bd.bytes
  have hr := Bd.returns
  have hts0 := atoms_spec (ws := Cond.code y code maxL ret :: zTbl) Bd.pre
  have hts : ∀ w ∈ zTbl, w.before ((tags.zip vs).map (zE ad sa)).toArray s = true := fun w hw => hts0 w (List.mem_cons_of_mem _ hw)
  have hown : s.vm.findClass own = some m.cls := how ▸ findClass_of_methodNamed Bd.named
  have hlocks := Bd.notSynchronized
  have hA : ∀ q : Nat, s.heap.size ≤ q → zA Λ ad s.heap.size q := fun q h => Or.inr h
  have S : CallFix p m c code maxL s ((tags.zip vs).map (zE ad sa)).toArray zTbl own := ⟨hx, hb, hml, hown, hts⟩
  have hcatlen : (lg_sl ((tags.zip vs).map (zE ad sa))).length ≤ maxL := by
    have h1 := hlen vs hvl
    have h2 : ∀ (ad' sa' : Nat → Nat) (us : List zV), (lg_sl (us.map (zE ad' sa'))).length = (us.map fun v => if v.1 = 1 then 2 else 1).sum := by
      intro ad' sa' us
      induction us with
      | nil => rfl
      | cons v r ih =>
        have e : lg_sl ((v :: r).map (zE ad' sa')) = (if (zE ad' sa' v).category = 2 then [.val (zE ad' sa' v), .second] else [.val (zE ad' sa' v)]) ++ lg_sl (r.map (zE ad' sa')) := rfl
        rw [e, List.length_append, ih, zE_cat, List.map_cons, List.sum_cons]
        by_cases h1 : v.1 = 1
        · rw [if_pos h1, if_pos rfl]; rfl
        · rw [if_neg h1, if_neg (by decide)]; rfl
    rw [h2] at h1 ⊢
    exact h1
  have hl0 := lv_entry ((tags.zip vs).map (zE ad sa)) (n := maxL) hcatlen
  rw [lg_entry_eq]
  generalize (lg_sl ((tags.zip vs).map (zE ad sa)) ++ List.replicate (maxL - (lg_sl ((tags.zip vs).map (zE ad sa))).length) Slot.unset).toArray = L at hl0 ⊢
  have hL : zLs ad sa maxL (zent 0 (tags.zip vs)) L := ⟨hl0.1, hl0.2.1, fun k h9 => hl0.2.2 _ (zent_in (tags.zip vs) 0 k h9)⟩
  have hS : va_S (zA Λ ad s.heap.size) s.heap s.heap [] := va_S.rf
  refine hE p e s m _ below meth c _ D ad sa sv cs _ S hG hA ?_ ?_ hm (fun _ h => by cases h) (zent_ok _ 0 hok) s.heap [] L hP hD hL hS
  · intro pc ls v mem' hd h99 hn hp hm' hs' _ H locs L' hP' hD' hL' hS'
    have hvr := zhi hs'
    rcases hrk with ⟨k1, k2⟩ | ⟨k1, ty, k2⟩
    · exact absurd k1 h99
    · have hq : ∀ t : State, t.heap = H → s.WarmedH t.vm → zQ rt Λ D ad cs s.heap.size (post vs mem) ((tags.zip vs).map (zE ad sa)).toArray s (.returned (some (.int (Int32.ofInt v)))) t := by
        intro t ht _
        have h1 : ¬ rt = 1 := by omega
        have h9 : ¬ rt = 9 := by omega
        unfold zQ
        rw [if_neg h1, if_neg h9]
        exact ⟨⟨Int32.ofInt v, mem', rfl, ⟨by rw [zi_toInt hvr]; exact hp, hm'⟩, by show va_P D zCl (zWd Λ ad cs mem') t.heap; rw [ht]; exact hP'⟩, hS'.F ht⟩
      exact W.zret (ty := ty) hx hb (hr.trans k2) (hn ty k2) hq hS'.2.2 hd
  · intro pc ls mem' hd hp hrt hm' hs' _ H locs L' hP' hD' hL' hS'
    have hq : ∀ t : State, t.heap = H → s.WarmedH t.vm → zQ rt Λ D ad cs s.heap.size (post vs mem) ((tags.zip vs).map (zE ad sa)).toArray s (.returned none) t := by
      intro t ht _
      have h1 : ¬ rt = 1 := by omega
      unfold zQ
      rw [if_neg h1, if_pos hrt]
      exact ⟨⟨mem', rfl, ⟨hp, hm'⟩, by show va_P D zCl (zWd Λ ad cs mem') t.heap; rw [ht]; exact hP'⟩, hS'.F ht⟩
    rcases hrk with ⟨k1, k2⟩ | ⟨k1, k2⟩
    · exact W.vret hx hb (hr.trans k2) hq hS'.2.2 hd
    · omega
/-- a text's length, as a number -/
def zLen (x : Int) : Int := (((zTx.map List.length).getD (x - 3).toNat 0 : Nat) : Int)
theorem zTl_b (i : Nat) : (zTx.map List.length).getD i 0 ≤ 7 := by
  have h : ∀ w ∈ zTx.map List.length, w ≤ 7 := by decide
  cases hj : (zTx.map List.length)[i]? with
  | none => rw [List.getD_eq_getElem?_getD, hj]; exact Nat.zero_le 7
  | some w => rw [List.getD_eq_getElem?_getD, hj]; exact h w (List.mem_of_getElem? hj)
theorem zTl_n : ∀ i, i < 26 → Int32.ofNat ((zTx.map List.length).getD i 0) = Int32.ofInt (((zTx.map List.length).getD i 0 : Nat) : Int) := by decide +kernel
section ZTX
variable {p : Program} {l : Launch} {e : Env} {R : Room} {s : State} {m : MethodId} {args : Array Value} {below : List Frame} {meth : Method} {c : Code} {cells slots : Nat} {Q : State → Prop} {cc : ByteArray} {nL : Nat} {own : String} {Λ : List zC} {D : va_G} {ad sa sv : Nat → Nat} {cs : Nat → ClassId} {A : Nat → Prop} {pc : Nat} {ls : zL} {st : List zV} {mem : zM}
theorem zx_aload {i : Fin 4} {v : zV} (S : CallFix p m c cc nL s args zTbl own) (hd : decode cc pc = .ok (.aload_n i, 1)) (hv : ls i.val = v) (ht : v.1 = 2 ∨ v.1 = 3) (k : zAW p l e R s m args below meth c cells slots Q nL Λ D ad sa cs A  (pc + 1) ls (v :: st) mem) : zAW p l e R s m args below meth c cells slots Q nL Λ D ad sa cs A  pc ls st mem := by
  obtain ⟨hx, hb, hml, hown, hts⟩ := id S
  subst hv; exact zs_aload_n hx hb hd ht k
theorem zx_iload {i : Fin 4} {x : Int} (S : CallFix p m c cc nL s args zTbl own) (hd : decode cc pc = .ok (.iload_n i, 1)) (hv : ls i.val = (0, x)) (k : zAW p l e R s m args below meth c cells slots Q nL Λ D ad sa cs A  (pc + 1) ls ((0, x) :: st) mem) : zAW p l e R s m args below meth c cells slots Q nL Λ D ad sa cs A  pc ls st mem := by
  obtain ⟨hx, hb, hml, hown, hts⟩ := id S
  exact zs_iload_n hx hb hd (by rw [hv]) (by rw [hv]; exact k)
theorem zx_ref {i : Nat} (hG : zGl D cs sa sv A s) (hi : i < 26) : zE ad sa (3, ((30 + i : Nat) : Int)) = .ref (sv i) := by
  show Value.ref (sa (30 + i)) = _
  rw [hG.2.2.2.2.2.2.2 i hi]
theorem zx_val {i idx : Nat} (S : CallFix p m c cc nL s args zTbl own) (hG : zGl D cs sa sv A s) (hi : i < 26) (hlk : Cond.fieldLink own idx "java/lang/String" "value" "[B" ∈ zTbl) (hd : decode cc pc = .ok (.getfield idx, 3)) (k : zAW p l e R s m args below meth c cells slots Q nL Λ D ad sa cs A  (pc + 3) ls ((3, ((30 + i : Nat) : Int)) :: st) mem) : zAW p l e R s m args below meth c cells slots Q nL Λ D ad sa cs A  pc ls ((3, ((3 + i : Nat) : Int)) :: st) mem := by
  intro hm hs hl H locs L hP hD hL hS
  obtain ⟨hx, hb, hml, hown, hts⟩ := id S
  have h := k hm (zcons (zok_c _) (ztl hs)) hl H locs L hP hD hL hS
  rw [List.map_cons, zx_ref hG hi] at h
  exact vk_getf hx hb (hG.2.2.2.1.1 i hi).2.2.1 hS hown (hts _ hlk) (fun _ q => q) hd h
theorem zx_coder {i idx : Nat} (S : CallFix p m c cc nL s args zTbl own) (hG : zGl D cs sa sv A s) (hi : i < 26) (hlk : Cond.fieldLink own idx "java/lang/String" "coder" "B" ∈ zTbl) (hd : decode cc pc = .ok (.getfield idx, 3)) (k : zAW p l e R s m args below meth c cells slots Q nL Λ D ad sa cs A  (pc + 3) ls ((0, 0) :: st) mem) : zAW p l e R s m args below meth c cells slots Q nL Λ D ad sa cs A  pc ls ((3, ((3 + i : Nat) : Int)) :: st) mem := by
  intro hm hs hl H locs L hP hD hL hS
  obtain ⟨hx, hb, hml, hown, hts⟩ := id S
  have h := k hm (zcons (zok_i' zR0) (ztl hs)) hl H locs L hP hD hL hS
  exact vk_getf hx hb (hG.2.2.2.1.1 i hi).2.1 hS hown (hts _ hlk) (fun _ q => q) hd h
theorem zx_len {i : Nat} (S : CallFix p m c cc nL s args zTbl own) (hG : zGl D cs sa sv A s) (hi : i < 26) (hd : decode cc pc = .ok (.arraylength, 1)) (k : zAW p l e R s m args below meth c cells slots Q nL Λ D ad sa cs A  (pc + 1) ls ((0, (((zTx.map List.length).getD i 0 : Nat) : Int)) :: st) mem) : zAW p l e R s m args below meth c cells slots Q nL Λ D ad sa cs A  pc ls ((3, ((30 + i : Nat) : Int)) :: st) mem := by
  intro hm hs hl H locs L hP hD hL hS
  obtain ⟨hx, hb, hml, hown, hts⟩ := id S
  have hb7 := zTl_b i
  have h := k hm (zcons (zok_i' ⟨by omega, by omega⟩) (ztl hs)) hl H locs L hP hD hL hS
  rw [List.map_cons, zx_ref hG hi]
  exact va_tlen hx hb (hG.2.2.2.1.1 i hi).2.2.2 hS (zTl_n i hi) hd h
theorem zx_byte {i : Nat} {k : Int} (S : CallFix p m c cc nL s args zTbl own) (hG : zGl D cs sa sv A s) (hi : i < 26) (h0 : 0 ≤ k) (h1 : k < (((zTx.map List.length).getD i 0 : Nat) : Int)) (hd : decode cc pc = .ok (.baload, 1)) (kk : ∀ z : Int32, zAW p l e R s m args below meth c cells slots Q nL Λ D ad sa cs A  (pc + 1) ls ((0, z.toInt) :: st) mem) : zAW p l e R s m args below meth c cells slots Q nL Λ D ad sa cs A  pc ls ((0, k) :: (3, ((30 + i : Nat) : Int)) :: st) mem := by
  intro hm hs hl H locs L hP hD hL hS
  obtain ⟨hx, hb, hml, hown, hts⟩ := id S
  have hk := zhi hs
  have h := kk (((zTx.map (·.map Int32.ofInt)).getD i []).getD k.toNat 0) hm (zcons (zok_i _) (ztl (ztl hs))) hl H locs L hP hD hL hS
  rw [List.map_cons, zE_i] at h
  rw [List.map_cons, List.map_cons, zx_ref hG hi]
  exact va_tb hx hb (hG.2.2.2.1.1 i hi).2.2.2 hS (zin hk h0 h1) (by rw [zcl_i hk]) hd h
theorem zx_cs {idx : Nat} (S : CallFix p m c cc nL s args zTbl own) (hG : zGl D cs sa sv A s) (hlk : Cond.fieldLink own idx "java/lang/String" "COMPACT_STRINGS" "Z" ∈ zTbl) (hd : decode cc pc = .ok (.getstatic idx, 3)) (k : zAW p l e R s m args below meth c cells slots Q nL Λ D ad sa cs A  (pc + 3) ls ((0, 1) :: st) mem) : zAW p l e R s m args below meth c cells slots Q nL Λ D ad sa cs A  pc ls st mem := by
  obtain ⟨hx, hb, hml, hown, hts⟩ := id S
  exact zs_push (zok_i' ⟨by omega, by omega⟩) (fun H locs L rest _ hS w => va_gets hx hb hG.2.2.2.2.2.1 hS hown (hts _ hlk) (fun _ q => q) hd w) k
theorem zx_i2c {z : Int32} (S : CallFix p m c cc nL s args zTbl own) (hd : decode cc pc = .ok (.i2c, 1)) (k : zAW p l e R s m args below meth c cells slots Q nL Λ D ad sa cs A  (pc + 1) ls ((0, (z &&& 255).toInt) :: st) mem) : zAW p l e R s m args below meth c cells slots Q nL Λ D ad sa cs A  pc ls ((0, (z &&& 255).toInt) :: st) mem := by
  obtain ⟨hx, hb, hml, hown, hts⟩ := id S
  exact zs_i1 rfl (fun H locs L rest h => lv_i2c hx hb hd (by rw [zi_of]; exact sc_c2 z) h) k
/-- a call whose receiver is a text -/
theorem zcall_T {y : MethodName} {code : ByteArray} {maxL lv rt idx : Nat} {ret : Option FieldType} {tags : List Nat} {pre : List Int → zM → Prop} {post : List Int → zM → Int → zM → Prop}
    (S : CallFix p m c cc nL s args zTbl own) (hG : zGl D cs sa sv A s) (hA : ∀ q, s.heap.size ≤ q → A q) (hM : zMet l Λ y code maxL ret lv (3 :: tags) rt pre post) (hnm : zNm y tags.length) (hw : zMv y code maxL ret) (hcl : y.cls = "java/lang/String")
    (hlk : Cond.methodLink own idx y ∈ zTbl) (hrc : ∀ vs mem, pre vs mem → ∃ (i : Nat) (tl : List Int), vs = ((3 + i : Nat) : Int) :: tl ∧ i < 26)
    (hR : lv + 2 + 1 ≤ R.frames ∧ 8 + (maxL + 11) + (40 * lv + 100) ≤ R.locals) (hf : cells ≤ R.cells ∧ slots ≤ R.slots) : zCOK p l e R s m args below meth c cells slots nL Λ D ad sa cs A cc (.invokevirtual idx) (3 :: tags) rt pre post := by
  intro Q pc ls vs rest mem hd hlen hpre hcat kk
  obtain ⟨i, tl, rfl, hi⟩ := hrc vs mem hpre
  intro hm hs hl H locs L hP hD hL hS
  obtain ⟨hsv, hsr⟩ := zrev hs
  have hAs := zA_sub (s := s) hD hS hA
  have hM' := hM D ad sa sv cs H.size (((3 + i : Nat) : Int) :: tl) mem hlen hsv hm hpre
  have hrecv := vk_recv hG.2.2.2.1 hi hS
  rw [← hcl] at hrecv
  have hlt : tl.length = tags.length := Nat.succ.inj hlen
  have hn : ((tags.zip tl).map (zE ad sa)).length = tags.length := by rw [List.length_map, List.length_zip, hlt, Nat.min_self]
  have hst : ((((3 :: tags).zip (((3 + i : Nat) : Int) :: tl)).reverse ++ rest).map (zE ad sa)) = ((tags.zip tl).map (zE ad sa)).reverse ++ .ref (sa (3 + i)) :: rest.map (zE ad sa) := by
    rw [List.zip_cons_cons, List.reverse_cons, List.append_assoc, List.map_append, List.map_reverse]
    rfl
  have hp : PreV s H y.cls (sa (3 + i)) (zPre Λ D ad sa sv cs H.size ((3 :: tags).zip (((3 + i : Nat) : Int) :: tl)) mem) ((tags.zip tl).map (zE ad sa)) :=
    ⟨zPre_blind, hrecv, fun U hU hW => zPre_at (vs := (3 :: tags).zip (((3 + i : Nat) : Int) :: tl)) hG hP hD hS hAs hU hW⟩
  have hcw : 2 * (F0 m pc L ((((3 :: tags).zip (((3 + i : Nat) : Int) :: tl)).reverse ++ rest).map (zE ad sa))).monitorRoom + ((rest.map (zE ad sa)).map fun v => v.category).sum ≤ 8 := lv_room (by rw [zcats_E]; exact hcat)
  obtain ⟨hx, hb, hml, hown, hts⟩ := id S
  refine zcall_end (rt := rt) (post := post (((3 + i : Nat) : Int) :: tl) mem) hm hl hsr hP hD hL hS hAs (av := (Value.ref (sa (3 + i)) :: (tags.zip tl).map (zE ad sa)).toArray) ?_ kk
  exact va_runV S hM' (C := y.cls) ⟨⟨rfl, rfl, hR.1, hR.2, zwords hts hw.1, List.mem_cons_self, hts _ hw.1, hts _ hw.2.1, hnm.1, zparams hnm.2, hts _ hlk⟩, hts _ hw.2.2.1, hts _ hw.2.2.2⟩ hp rfl hn hL.1 hst hcw hd hf
end ZTX
/-- a text's number: 3 to 28 -/
def zPt : List Int → zM → Prop := fun vs _ => match vs with
  | a :: _ => 3 ≤ a ∧ a < 29
  | [] => False
theorem zPt_r {pre : List Int → zM → Prop} (h : ∀ vs mem, pre vs mem → zPt vs mem) : ∀ vs mem, pre vs mem → ∃ (i : Nat) (tl : List Int), vs = ((3 + i : Nat) : Int) :: tl ∧ i < 26 := by
  intro vs mem hp
  have := h vs mem hp
  cases vs with
  | nil => exact this.elim
  | cons a tl =>
    have hb : 3 ≤ a ∧ a < 29 := this
    exact ⟨(a - 3).toNat, tl, by congr 1; omega, by omega⟩
/-- a method walked by hand whose last argument isn't looked at: any value -/
def zPreE (Λ : List zC) (D : va_G) (ad sa sv : Nat → Nat) (cs : Nat → ClassId) (sz : Nat) (vs : List zV) (v : Value) (mem : zM) : Array Value → State → Prop :=
  va_Pc (vs.map (zE ad sa) ++ [v]) (fun U => U.heap.size = sz ∧ zGl D cs sa sv (zA Λ ad sz) U ∧ va_P D zCl (zWd Λ ad cs mem) U.heap ∧ va_D (zA Λ ad sz) (zWd Λ ad cs mem))
theorem zargs_app {v : Value} {q : Nat × Value} : ∀ (xs : List Value) (k : Nat), q ∈ lv_args k xs → q ∈ lv_args k (xs ++ [v]) := by
  intro xs
  induction xs with
  | nil => intro k h; simp only [lv_args] at h; cases h
  | cons x r ih =>
    intro k h
    simp only [lv_args, List.cons_append] at h ⊢
    rcases List.mem_cons.mp h with h | h
    · exact List.mem_cons.mpr (Or.inl h)
    · exact List.mem_cons.mpr (Or.inr (ih _ h))
theorem zsl_app {v : Value} (hv : v.category = 1) (xs : List Value) : (lg_sl (xs ++ [v])).length = (lg_sl xs).length + 1 := by
  unfold lg_sl
  rw [List.flatMap_append, List.length_append]
  have e : (List.flatMap (fun v : Value => if v.category = 2 then [Slot.val v, .second] else [.val v]) [v]).length = 1 := by
    rw [List.flatMap_cons, List.flatMap_nil, List.append_nil, hv, if_neg (by decide)]
    rfl
  rw [e]
theorem zsl_E (ad sa ad' sa' : Nat → Nat) (us : List zV) : (lg_sl (us.map (zE ad sa))).length = (lg_sl (us.map (zE ad' sa'))).length := by
  have h2 : ∀ (ad' sa' : Nat → Nat) (us : List zV), (lg_sl (us.map (zE ad' sa'))).length = (us.map fun v => if v.1 = 1 then 2 else 1).sum := by
    intro ad' sa' us
    induction us with
    | nil => rfl
    | cons v r ih =>
      have e : lg_sl ((v :: r).map (zE ad' sa')) = (if (zE ad' sa' v).category = 2 then [.val (zE ad' sa' v), .second] else [.val (zE ad' sa' v)]) ++ lg_sl (r.map (zE ad' sa')) := rfl
      rw [e, List.length_append, ih, zE_cat, List.map_cons, List.sum_cons]
      by_cases h1 : v.1 = 1
      · rw [if_pos h1, if_pos rfl]; rfl
      · rw [if_neg h1, if_neg (by decide)]; rfl
  rw [h2, h2]
theorem zMet_E {l : Launch} {Λ : List zC} {y : MethodName} {code : ByteArray} {maxL lv : Nat} {ty : FieldType} {tags : List Nat} {post : List Int → zM → Int → zM → Prop} {own : String} {v : Value} (hvc : v.category = 1)
    (hy : plainFor y = true) (how : y.cls = own) {vs : List Int} {mem : zM} (hok : ∀ w ∈ tags.zip vs, zok w) (hm : zokM Λ mem) (hlen : (lg_sl ((tags.zip vs).map (zE (fun x => x) (fun x => x)))).length + 1 ≤ maxL)
    (hE : zHb l Λ code maxL lv 0 (some ty) tags own post vs mem) (D : va_G) (ad sa sv : Nat → Nat) (cs : Nat → ClassId) (sz : Nat) : Met l y (.code y code maxL (some ty) :: zTbl) (zRm lv) (zPreE Λ D ad sa sv cs sz (tags.zip vs) v mem) (zQ 0 Λ D ad cs sz (post vs mem)) 0 0 (zA Λ ad sz) := by
  refine va_MetF (cc := code) (maxL := maxL) (ret := some ty) hy rfl ?_
  intro p e s m args below meth c s₁ Bd hml hv
  obtain ⟨rfl, hsz, hG, hP, hD⟩ := hv
  subst hsz
  have hx := Bd.exec
  have hb := Bd.bytes
  have hr := Bd.returns
  have hts0 := atoms_spec (ws := Cond.code y code maxL (some ty) :: zTbl) Bd.pre
  have hts : ∀ w ∈ zTbl, w.before ((tags.zip vs).map (zE ad sa) ++ [v]).toArray s = true := fun w hw => hts0 w (List.mem_cons_of_mem _ hw)
  have hown : s.vm.findClass own = some m.cls := how ▸ findClass_of_methodNamed Bd.named
  have hlocks := Bd.notSynchronized
  have hA : ∀ q : Nat, s.heap.size ≤ q → zA Λ ad s.heap.size q := fun q h => Or.inr h
  have S : CallFix p m c code maxL s ((tags.zip vs).map (zE ad sa) ++ [v]).toArray zTbl own := ⟨hx, hb, hml, hown, hts⟩
  have hcatlen : (lg_sl ((tags.zip vs).map (zE ad sa) ++ [v])).length ≤ maxL := by
    rw [zsl_app hvc, zsl_E ad sa (fun x => x) (fun x => x)]
    exact hlen
  have hl0 := lv_entry ((tags.zip vs).map (zE ad sa) ++ [v]) (n := maxL) hcatlen
  rw [lg_entry_eq]
  generalize (lg_sl ((tags.zip vs).map (zE ad sa) ++ [v]) ++ List.replicate (maxL - (lg_sl ((tags.zip vs).map (zE ad sa) ++ [v])).length) Slot.unset).toArray = L at hl0 ⊢
  have hL : zLs ad sa maxL (zent 0 (tags.zip vs)) L := ⟨hl0.1, hl0.2.1, fun k h9 => hl0.2.2 _ (zargs_app _ 0 (zent_in (tags.zip vs) 0 k h9))⟩
  have hS : va_S (zA Λ ad s.heap.size) s.heap s.heap [] := va_S.rf
  refine hE p e s m _ below meth c _ D ad sa sv cs _ S hG hA ?_ ?_ hm (fun _ h => by cases h) (zent_ok _ 0 hok) s.heap [] L hP hD hL hS
  · intro pc ls w mem' hd h99 hn hp hm' hs' _ H locs L' hP' hD' hL' hS'
    have hvr := zhi hs'
    have hq : ∀ t : State, t.heap = H → s.WarmedH t.vm → zQ 0 Λ D ad cs s.heap.size (post vs mem) ((tags.zip vs).map (zE ad sa) ++ [v]).toArray s (.returned (some (.int (Int32.ofInt w)))) t := by
      intro t ht _
      unfold zQ
      rw [if_neg (by decide), if_neg (by decide)]
      exact ⟨⟨Int32.ofInt w, mem', rfl, ⟨by rw [zi_toInt hvr]; exact hp, hm'⟩, by show va_P D zCl (zWd Λ ad cs mem') t.heap; rw [ht]; exact hP'⟩, hS'.F ht⟩
    exact W.zret (ty := ty) hx hb hr (hn ty rfl) hq hS'.2.2 hd
  · intro pc ls mem' hd hp hrt
    exact absurd hrt (by decide)
/-- Preconditions.checkIndex -/
theorem hbJ3_checkIndex (l : Launch) {a b : Int} {mem : zM} (hab : 0 ≤ a ∧ a < b) : zHb l zLay cJ3_checkIndex_8e157 3 0 0 (some .int) [0, 0] RJ3 (zpu fun _ _ _ => True) [a, b] mem := by
  intro p e s m args below meth c Q D ad sa sv cs A S hG hA hret hvr
  obtain ⟨hx, hb, hml, hown, hts⟩ := id S
  refine zx_iload (x := a) S (i := 0) (by decide +kernel) rfl ?_
  refine zs_if (cnd := .lt) (off := 8) hx hb (by decide +kernel) (tgt := 9) rfl (fun h => ?_) (fun _ => ?_)
  · exact absurd (show a < 0 from h) (by omega)
  refine zx_iload (x := a) S (i := 0) (by decide +kernel) rfl ?_
  refine zx_iload (x := b) S (i := 1) (by decide +kernel) rfl ?_
  refine zs_icmp (cnd := .lt) (off := 10) hx hb (by decide +kernel) (tgt := 16) rfl (fun _ => ?_) (fun h => ?_)
  · refine zx_iload (x := a) S (i := 0) (by decide +kernel) rfl ?_
    exact hret _ _ _ _ (by decide +kernel) (by decide) (fun ty h => by cases h; exact vp_nar_int _) ⟨rfl, trivial⟩
  · exact absurd (show a < b from hab.2) h
/-- String.checkIndex: the formatter is any value -/
theorem mJ0_checkIndex (l : Launch) : zMet l zLay yJ0_checkIndex_df160 cJ0_checkIndex_df160 2 none 1 [0, 0] 9 (fun vs _ => match vs with | [a, b] => 0 ≤ a ∧ a < b | _ => False) (zpu fun _ _ _ => True) := by
  refine zMet_H (own := RJ0) (by decide +kernel) rfl (Or.inl ⟨rfl, rfl⟩) (fun vs h => by obtain ⟨a, b, rfl⟩ := zlen2 h; exact Nat.le_of_ble_eq_true rfl) ?_
  intro vs mem hvl hok hm hpre
  obtain ⟨a, b, rfl⟩ := zlen2 hvl
  have hab : 0 ≤ a ∧ a < b := hpre
  intro p e s m args below meth c Q D ad sa sv cs A S hG hA hret hvr
  obtain ⟨hx, hb, hml, hown, hts⟩ := id S
  refine zx_iload (x := a) S (i := 0) (by decide +kernel) rfl ?_
  refine zx_iload (x := b) S (i := 1) (by decide +kernel) rfl ?_
  obtain ⟨v, hvc, hZ⟩ := hG.2.2.2.2.2.2.1
  intro hm1 hs1 hl1 H locs L hP hD hL hS
  refine va_gets hx hb hZ hS hown (hts _ fJ0_1053) (fun _ q => q) (by decide +kernel) ?_
  have hAs := zA_sub (s := s) hD hS hA
  have hM := zMet_E (l := l) (Λ := zLay) (y := yJ3_checkIndex_8e157) (maxL := 3) (tags := [0, 0]) (vs := [a, b]) hvc (by decide +kernel) rfl hok hm1 (Nat.le_of_ble_eq_true rfl) (hbJ3_checkIndex l hab) D ad sa sv cs H.size
  have hp : PreS s H (zPreE zLay D ad sa sv cs H.size (([0, 0] : List Nat).zip [a, b]) v mem) ((([0, 0] : List Nat).zip [a, b]).map (zE ad sa) ++ [v]) := by
    refine ⟨fun a U g mk h => ?_, fun U hU hW => ?_⟩
    · obtain ⟨h1, h2, h3, h4, h5⟩ := h
      exact ⟨h1, h2, zGl_same (U := U.calling g mk a) h3 rfl rfl, h4, h5⟩
    · refine ⟨rfl, by rw [hU], zGl_call hG (by rw [hU]; exact hS) hAs hW, by rw [hU]; exact hP, hD.weaken (fun k q hk _ => ?_)⟩
      obtain ⟨h1, h2⟩ := zWd_addr hk
      exact Or.inl ⟨k, h1, h2⟩
  refine zcall_end (rt := 0) (post := (zpu fun _ _ _ => True) [a, b] mem) (rest := []) (pc := 5) hm1 hl1 (fun _ h => by cases h) hP hD hL hS hAs (av := ((([0, 0] : List Nat).zip [a, b]).map (zE ad sa) ++ [v]).toArray) ?_ (fun r mem' _ hm' hq => ?_)
  · exact va_runS (n := 3) S hM ⟨⟨rfl, rfl, by decide, by decide, zwords hts hJ3_checkIndex_8e157.1, List.mem_cons_self, hts _ hJ3_checkIndex_8e157.1, hts _ hJ3_checkIndex_8e157.2.1, by decide, zparams (by decide +kernel), hts _ kJ0_1059⟩, hts _ hJ3_checkIndex_8e157.2.2⟩ hp rfl rfl hL.1 rfl (lv_room (Nat.zero_le _)) (show decode cJ0_checkIndex_df160 5 = .ok (.invokestatic 1059, 3) from by decide +kernel) ⟨Nat.le_refl _, Nat.le_refl _⟩
  · obtain ⟨rfl, _⟩ := hq
    refine zs_pop hx hb (by decide +kernel) (show (0 : Nat) ≠ 1 by decide) ?_
    exact hvr _ _ _ (by decide +kernel) ⟨rfl, trivial⟩ rfl
/-- StringLatin1.charAt: the bytes of a text, by its number -/
theorem mJ1_charAt (l : Launch) : zMet l zLay yJ1_charAt_3b067 cJ1_charAt_3b067 2 (some .char) 2 [3, 0] 0 (fun vs _ => match vs with | [a, k] => 30 ≤ a ∧ a < 56 ∧ 0 ≤ k ∧ k < zLen (a - 27) | _ => False) (zpu fun _ _ r => narrow .char (.int (Int32.ofInt r)) = .int (Int32.ofInt r)) := by
  refine zMet_H (own := RJ1) (by decide +kernel) rfl (Or.inr ⟨Or.inl rfl, _, rfl⟩) (fun vs h => by obtain ⟨a, b, rfl⟩ := zlen2 h; exact Nat.le_of_ble_eq_true rfl) ?_
  intro vs mem hvl hok hm hpre
  obtain ⟨a, k, rfl⟩ := zlen2 hvl
  have hab : 30 ≤ a ∧ a < 56 ∧ 0 ≤ k ∧ k < zLen (a - 27) := hpre
  obtain ⟨i, hi, rfl⟩ : ∃ i : Nat, i < 26 ∧ a = ((30 + i : Nat) : Int) := ⟨(a - 30).toNat, by omega, by omega⟩
  have hk : k < (((zTx.map List.length).getD i 0 : Nat) : Int) := by
    have h4 := hab.2.2.2
    unfold zLen at h4
    rw [show (((30 + i : Nat) : Int) - 27 - 3).toNat = i by omega] at h4
    exact h4
  intro p e s m args below meth c Q D ad sa sv cs A S hG hA hret hvr
  obtain ⟨hx, hb, hml, hown, hts⟩ := id S
  refine zx_iload (x := k) S (i := 1) (by decide +kernel) rfl ?_
  refine zx_aload (v := (3, ((30 + i : Nat) : Int))) S (i := 0) (by decide +kernel) rfl (Or.inr rfl) ?_
  refine zx_len S hG hi (by decide +kernel) ?_
  refine zcall_S S hG hA (mJ0_checkIndex l) ⟨by decide, by decide +kernel⟩ hJ0_checkIndex_df160.1 hJ0_checkIndex_df160.2.1 hJ0_checkIndex_df160.2.2 (Or.inl kJ1_9) ⟨by decide, by decide⟩ ⟨Nat.le_refl _, Nat.le_refl _⟩ Q 3 _ [k, (((zTx.map List.length).getD i 0 : Nat) : Int)] [] mem (by decide +kernel) rfl ⟨hab.2.2.1, hk⟩ (by decide) (fun r mem' _ hm' hp => ?_)
  obtain ⟨rfl, _⟩ := hp
  refine zx_aload (v := (3, ((30 + i : Nat) : Int))) S (i := 0) (by decide +kernel) rfl (Or.inr rfl) ?_
  refine zx_iload (x := k) S (i := 1) (by decide +kernel) rfl ?_
  refine zx_byte S hG hi hab.2.2.1 hk (by decide +kernel) (fun z => ?_)
  refine zs_sipush (n := 255) hx hb (by decide +kernel) ⟨by decide, by decide⟩ ?_
  have ez : Int32.ofInt z.toInt &&& Int32.ofInt 255 = z &&& 255 := by rw [zi_of]; rfl
  refine zs_ii (f := Int32.ofInt z.toInt &&& Int32.ofInt 255) rfl (fun H locs L rest h => lv_iand hx hb (by decide +kernel) h) ?_
  rw [ez]
  refine zx_i2c S (by decide +kernel) ?_
  exact hret _ _ _ _ (by decide +kernel) (by decide) (fun ty h => by cases h; rw [zi_of]; exact sc_nar z) ⟨rfl, by show narrow .char (.int (Int32.ofInt (z &&& 255).toInt)) = .int (Int32.ofInt (z &&& 255).toInt); rw [zi_of]; exact sc_nar z⟩
/-- String.isLatin1, coder, length, charAt -/
theorem mJ0_isLatin1 (l : Launch) : zMet l zLay yJ0_isLatin1_aae02 cJ0_isLatin1_aae02 1 (some .boolean) 0 [3] 4 zPt (zpu fun _ _ r => r = 1) := by
  refine zMet_H (own := RJ0) (by decide +kernel) rfl (Or.inr ⟨Or.inr rfl, _, rfl⟩) (fun vs h => by obtain ⟨a, rfl⟩ := zlen1 h; exact Nat.le_of_ble_eq_true rfl) ?_
  intro vs mem hvl hok hm hpre
  obtain ⟨a, rfl⟩ := zlen1 hvl
  have hab : 3 ≤ a ∧ a < 29 := hpre
  obtain ⟨i, hi, rfl⟩ : ∃ i : Nat, i < 26 ∧ a = ((3 + i : Nat) : Int) := ⟨(a - 3).toNat, by omega, by omega⟩
  intro p e s m args below meth c Q D ad sa sv cs A S hG hA hret hvr
  obtain ⟨hx, hb, hml, hown, hts⟩ := id S
  refine zx_cs S hG fJ0_38 (by decide +kernel) ?_
  refine zs_if (cnd := .eq) (off := 14) hx hb (by decide +kernel) (tgt := 17) rfl (fun h => ?_) (fun _ => ?_)
  · exact absurd (show (1 : Int) = 0 from h) (by decide)
  refine zx_aload (v := (3, ((3 + i : Nat) : Int))) S (i := 0) (by decide +kernel) rfl (Or.inr rfl) ?_
  refine zx_coder S hG hi fJ0_15 (by decide +kernel) ?_
  refine zs_if (cnd := .ne) (off := 7) hx hb (by decide +kernel) (tgt := 17) rfl (fun h => ?_) (fun _ => ?_)
  · exact absurd (rfl : (0 : Int) = 0) h
  refine zs_iconst hx hb (n := 1) (by decide +kernel) ⟨by decide, by decide⟩ ?_
  refine zs_goto (off := 4) hx hb (by decide +kernel) (tgt := 18) rfl ?_
  exact hret _ _ _ _ (by decide +kernel) (by decide) (fun ty h => by cases h; rfl) ⟨rfl, rfl⟩
theorem mJ0_coder (l : Launch) : zMet l zLay yJ0_coder_7d493 cJ0_coder_7d493 1 (some .byte) 0 [3] 0 zPt (zpu fun _ _ r => r = 0) := by
  refine zMet_H (own := RJ0) (by decide +kernel) rfl (Or.inr ⟨Or.inl rfl, _, rfl⟩) (fun vs h => by obtain ⟨a, rfl⟩ := zlen1 h; exact Nat.le_of_ble_eq_true rfl) ?_
  intro vs mem hvl hok hm hpre
  obtain ⟨a, rfl⟩ := zlen1 hvl
  have hab : 3 ≤ a ∧ a < 29 := hpre
  obtain ⟨i, hi, rfl⟩ : ∃ i : Nat, i < 26 ∧ a = ((3 + i : Nat) : Int) := ⟨(a - 3).toNat, by omega, by omega⟩
  intro p e s m args below meth c Q D ad sa sv cs A S hG hA hret hvr
  obtain ⟨hx, hb, hml, hown, hts⟩ := id S
  refine zx_cs S hG fJ0_38 (by decide +kernel) ?_
  refine zs_if (cnd := .eq) (off := 10) hx hb (by decide +kernel) (tgt := 13) rfl (fun h => ?_) (fun _ => ?_)
  · exact absurd (show (1 : Int) = 0 from h) (by decide)
  refine zx_aload (v := (3, ((3 + i : Nat) : Int))) S (i := 0) (by decide +kernel) rfl (Or.inr rfl) ?_
  refine zx_coder S hG hi fJ0_15 (by decide +kernel) ?_
  refine zs_goto (off := 4) hx hb (by decide +kernel) (tgt := 14) rfl ?_
  exact hret _ _ _ _ (by decide +kernel) (by decide) (fun ty h => by cases h; rfl) ⟨rfl, rfl⟩
theorem mJ0_length (l : Launch) : zMet l zLay yJ0_length_8abf5 cJ0_length_8abf5 1 (some .int) 1 [3] 0 zPt (zfu fun vs _ => match vs with | a :: _ => zLen a | [] => 0) := by
  refine zMet_H (own := RJ0) (by decide +kernel) rfl (Or.inr ⟨Or.inl rfl, _, rfl⟩) (fun vs h => by obtain ⟨a, rfl⟩ := zlen1 h; exact Nat.le_of_ble_eq_true rfl) ?_
  intro vs mem hvl hok hm hpre
  obtain ⟨a, rfl⟩ := zlen1 hvl
  have hab : 3 ≤ a ∧ a < 29 := hpre
  obtain ⟨i, hi, rfl⟩ : ∃ i : Nat, i < 26 ∧ a = ((3 + i : Nat) : Int) := ⟨(a - 3).toNat, by omega, by omega⟩
  have hz : zLen ((3 + i : Nat) : Int) = (((zTx.map List.length).getD i 0 : Nat) : Int) := by
    unfold zLen; rw [show (((3 + i : Nat) : Int) - 3).toNat = i by omega]
  intro p e s m args below meth c Q D ad sa sv cs A S hG hA hret hvr
  obtain ⟨hx, hb, hml, hown, hts⟩ := id S
  refine zx_aload (v := (3, ((3 + i : Nat) : Int))) S (i := 0) (by decide +kernel) rfl (Or.inr rfl) ?_
  refine zx_val S hG hi fJ0_9 (by decide +kernel) ?_
  refine zx_len S hG hi (by decide +kernel) ?_
  refine zx_aload (v := (3, ((3 + i : Nat) : Int))) S (i := 0) (by decide +kernel) rfl (Or.inr rfl) ?_
  refine zcall_T S hG hA (mJ0_coder l) ⟨by decide, by decide +kernel⟩ hJ0_coder_7d493 rfl kJ0_335 (zPt_r (fun _ _ h => h)) ⟨by decide, by decide⟩ ⟨Nat.le_refl _, Nat.le_refl _⟩ Q 6 _ [((3 + i : Nat) : Int)] [(0, (((zTx.map List.length).getD i 0 : Nat) : Int))] mem (by decide +kernel) rfl hab (Nat.le_of_ble_eq_true rfl) (fun r mem' _ hm' hp => ?_)
  obtain ⟨rfl, rfl⟩ := hp
  have hb7 := zTl_b i
  have hsh : ∀ n : Nat, n ≤ 7 → (n : Int) = (Int32.ofInt (n : Int) >>> (Int32.ofInt 0 &&& 31)).toInt := by
    intro n hn
    have : n = 0 ∨ n = 1 ∨ n = 2 ∨ n = 3 ∨ n = 4 ∨ n = 5 ∨ n = 6 ∨ n = 7 := by omega
    rcases this with h | h | h | h | h | h | h | h <;> subst h <;> decide
  refine zs_ii (hsh _ hb7) (fun H locs L rest h => lv_ishr hx hb (by decide +kernel) h) ?_
  exact hret _ _ _ _ (by decide +kernel) (by decide) (fun ty h => by cases h; exact vp_nar_int _) ⟨rfl, hz.symm⟩
theorem mJ0_charAt (l : Launch) : zMet l zLay yJ0_charAt_5068e cJ0_charAt_5068e 2 (some .char) 3 [3, 0] 0 (fun vs _ => match vs with | [a, k] => (3 ≤ a ∧ a < 29) ∧ 0 ≤ k ∧ k < zLen a | _ => False) (zpu fun _ _ _ => True) := by
  refine zMet_H (own := RJ0) (by decide +kernel) rfl (Or.inr ⟨Or.inl rfl, _, rfl⟩) (fun vs h => by obtain ⟨a, b, rfl⟩ := zlen2 h; exact Nat.le_of_ble_eq_true rfl) ?_
  intro vs mem hvl hok hm hpre
  obtain ⟨a, k, rfl⟩ := zlen2 hvl
  have hab : (3 ≤ a ∧ a < 29) ∧ 0 ≤ k ∧ k < zLen a := hpre
  obtain ⟨i, hi, rfl⟩ : ∃ i : Nat, i < 26 ∧ a = ((3 + i : Nat) : Int) := ⟨(a - 3).toNat, by omega, by omega⟩
  intro p e s m args below meth c Q D ad sa sv cs A S hG hA hret hvr
  obtain ⟨hx, hb, hml, hown, hts⟩ := id S
  refine zx_aload (v := (3, ((3 + i : Nat) : Int))) S (i := 0) (by decide +kernel) rfl (Or.inr rfl) ?_
  refine zcall_T S hG hA (mJ0_isLatin1 l) ⟨by decide, by decide +kernel⟩ hJ0_isLatin1_aae02 rfl kJ0_492 (zPt_r (fun _ _ h => h)) ⟨by decide, by decide⟩ ⟨Nat.le_refl _, Nat.le_refl _⟩ Q 1 _ [((3 + i : Nat) : Int)] [] mem (by decide +kernel) rfl hab.1 (by decide) (fun r mem' _ hm' hp => ?_)
  obtain ⟨rfl, rfl⟩ := hp
  refine zs_if (cnd := .eq) (off := 12) hx hb (by decide +kernel) (tgt := 16) rfl (fun h => ?_) (fun _ => ?_)
  · exact absurd (show (1 : Int) = 0 from h) (by decide)
  refine zx_aload (v := (3, ((3 + i : Nat) : Int))) S (i := 0) (by decide +kernel) rfl (Or.inr rfl) ?_
  refine zx_val S hG hi fJ0_9 (by decide +kernel) ?_
  refine zx_iload (x := k) S (i := 1) (by decide +kernel) rfl ?_
  have hpz : 30 ≤ ((30 + i : Nat) : Int) ∧ ((30 + i : Nat) : Int) < 56 ∧ 0 ≤ k ∧ k < zLen (((30 + i : Nat) : Int) - 27) := by
    refine ⟨by omega, by omega, hab.2.1, ?_⟩
    rw [show ((30 + i : Nat) : Int) - 27 = ((3 + i : Nat) : Int) by omega]
    exact hab.2.2
  refine zcall_S S hG hA (mJ1_charAt l) ⟨by decide, by decide +kernel⟩ hJ1_charAt_3b067.1 hJ1_charAt_3b067.2.1 hJ1_charAt_3b067.2.2 (Or.inl kJ0_495) ⟨by decide, by decide⟩ ⟨Nat.le_refl _, Nat.le_refl _⟩ Q 12 _ [((30 + i : Nat) : Int), k] [] _ (by decide +kernel) rfl hpz (by decide) (fun r mem' hrr hm' hp => ?_)
  obtain ⟨rfl, hn⟩ := hp
  exact hret _ _ _ _ (by decide +kernel) (by decide) (fun ty h => by cases h; exact hn) ⟨rfl, trivial⟩
/-- as callees of a class's own methods -/
theorem zTx_length {l : Launch} {own : String} {idx : Nat} (hl : Cond.methodLink own idx yJ0_length_8abf5 ∈ zTbl) : zTxC l zLay own idx ([3], 0, zPt, zfu fun vs _ => match vs with | a :: _ => zLen a | [] => 0) := by
  intro p e R s m args below meth c nL D ad sa sv cs A cc S hG hA hF hL
  exact zcall_T S hG hA (mJ0_length l) ⟨by decide, by decide +kernel⟩ hJ0_length_8abf5 rfl hl (zPt_r (fun _ _ h => h)) ⟨by omega, by omega⟩ ⟨Nat.zero_le _, Nat.zero_le _⟩
theorem zTx_charAt {l : Launch} {own : String} {idx : Nat} (hl : Cond.methodLink own idx yJ0_charAt_5068e ∈ zTbl) : zTxC l zLay own idx ([3, 0], 0, (fun vs _ => match vs with | [a, k] => (3 ≤ a ∧ a < 29) ∧ 0 ≤ k ∧ k < zLen a | _ => False), zpu fun _ _ _ => True) := by
  intro p e R s m args below meth c nL D ad sa sv cs A cc S hG hA hF hL
  refine zcall_T S hG hA (mJ0_charAt l) ⟨by decide, by decide +kernel⟩ hJ0_charAt_5068e rfl hl (zPt_r ?_) ⟨by omega, by omega⟩ ⟨Nat.zero_le _, Nat.zero_le _⟩
  intro vs mem h
  match vs, h with
  | [a, k], h => exact h.1
theorem zLen_b (x : Int) : 0 ≤ zLen x ∧ zLen x ≤ 7 := by
  have := zTl_b (x - 3).toNat
  unfold zLen; omega
def CJ0_length_8abf5 : zCt := ([3], 0, zPt, zfu fun vs _ => match vs with | a :: _ => zLen a | [] => 0)
def CJ0_charAt_5068e : zCt := ([3, 0], 0, (fun vs _ => match vs with | [a, k] => (3 ≤ a ∧ a < 29) ∧ 0 ≤ k ∧ k < zLen a | _ => False), zpu fun _ _ _ => True)
theorem zPt_c (a : Int) (tv : List Int) (mem : zM) : zPt (a :: tv) mem = (3 ≤ a ∧ a < 29) := rfl
