/-! ===== what holds outside the cells; contracts; calls ===== -/
def zTbl : List Cond := lw_tbl.filter goodWord
def zIsN (w : Cond) : Bool := match w with
  | .fieldLinkNest .. => true
  | .methodLinkNest .. => true
  | _ => false
def zStN : List String := ["WAYS_BY_NUMBER", "LEAST_STORES", "MOST_STORES"]
def zStV : List (List Int) := [[0, 3, 1, 2], [0, 0, 0, 1, 0, 0, 0, 1], [9999, 9999, 60, 60, 9, 18, 100, 4]]
/-- the texts, by number: their signs -/
def zTx : List (List Int) := [[108, 105, 102, 116], [108, 97, 121], [103, 111], [98, 97, 99, 107], [102, 105, 108, 108], [100, 105, 103], [114, 101, 115, 116], [97, 103, 97, 105, 110], [105, 102], [119, 104, 105, 108, 101], [110, 111, 114, 116, 104], [101, 97, 115, 116], [115, 111, 117, 116, 104], [119, 101, 115, 116], [110, 111, 116], [98, 117, 114, 105, 101, 100], [119, 97, 116, 101, 114], [119, 111, 111, 100], [112, 108, 97, 116, 101, 115], [99, 97, 114, 114, 105, 101, 100], [97, 104, 101, 97, 100], [98, 101, 104, 105, 110, 100], [104, 111, 117, 114], [100, 97, 121], [97, 110, 100], [111, 114]]
def zTxR : List (String × Nat × String × Nat) := [("SandRails$Reader", 97, "lift", 0), ("SandRails$Reader", 103, "lay", 1), ("SandRails$Reader", 105, "go", 2), ("SandRails$Reader", 107, "back", 3), ("SandRails$Reader", 109, "fill", 4), ("SandRails$Reader", 111, "dig", 5), ("SandRails$Reader", 113, "rest", 6), ("SandRails$Reader", 115, "again", 7), ("SandRails$Reader", 117, "if", 8), ("SandRails$Reader", 119, "while", 9), ("SandRails$Reader", 124, "north", 10), ("SandRails$Reader", 126, "east", 11), ("SandRails$Reader", 128, "south", 12), ("SandRails$Reader", 130, "west", 13), ("SandRails$Reader", 159, "not", 14), ("SandRails$Reader", 164, "buried", 15), ("SandRails$Reader", 172, "water", 16), ("SandRails$Reader", 174, "wood", 17), ("SandRails$Reader", 176, "plates", 18), ("SandRails$Reader", 178, "carried", 19), ("SandRails$Reader", 180, "ahead", 20), ("SandRails$Reader", 182, "behind", 21), ("SandRails$Reader", 184, "hour", 22), ("SandRails$Reader", 186, "day", 23), ("SandRails$Reader", 157, "and", 24), ("SandRails$Reader", 152, "or", 25), ("SandRailsModel", 193, "lift", 0), ("SandRailsModel", 195, "go", 2), ("SandRailsModel", 197, "back", 3), ("SandRailsModel", 199, "fill", 4), ("SandRailsModel", 201, "dig", 5), ("SandRailsModel", 203, "again", 7), ("SandRailsModel", 208, "if", 8), ("SandRailsModel", 149, "not", 14), ("SandRailsModel", 160, "buried", 15), ("SandRailsModel", 127, "water", 16), ("SandRailsModel", 129, "wood", 17), ("SandRailsModel", 131, "plates", 18), ("SandRailsModel", 133, "carried", 19), ("SandRailsModel", 135, "ahead", 20), ("SandRailsModel", 137, "behind", 21), ("SandRailsModel", 139, "hour", 22), ("SandRailsModel", 141, "day", 23), ("SandRailsModel", 168, "and", 24), ("SandRailsModel", 173, "or", 25), ("SandRailsModel", 214, "while", 9), ("SandRailsModel", 216, "rest", 6), ("SandRailsModel", 217, "lay", 1), ("SandRailsModel", 175, "north", 10), ("SandRailsModel", 177, "east", 11), ("SandRailsModel", 179, "south", 12), ("SandRailsModel", 181, "west", 13)]
def zGl (D : va_G) (cs : Nat → ClassId) (sa sv : Nat → Nat) (A : Nat → Prop) (U : State) : Prop :=
  va_K D zCl (zTys cs) U ∧ (∀ w ∈ lw_tbl, zIsN w = true → va_Nw w U) ∧
  (∀ (j : Nat) (n : String) (vs : List Int), zStN[j]? = some n → zStV[j]? = some vs → va_Z "SandRails" n "[I" (.ref (sa j)) A U U.heap ∧ va_T .int (sa j) vs.length (fun i => .int (Int32.ofInt (vs.getD i 0))) A U U.heap) ∧
  vk_S zTx.length (zTx.map List.length) (zTx.map (·.map Int32.ofInt)) (fun i => sa (3 + i)) sv A U U.heap ∧ (∀ q ∈ zTxR, vk_R q.1 q.2.1 q.2.2.1 (sa (3 + q.2.2.2)) U) ∧ va_Z "java/lang/String" "COMPACT_STRINGS" "Z" (.int 1) A U U.heap ∧ (∃ v : Value, v.category = 1 ∧ va_Z "jdk/internal/util/Preconditions" "SIOOBE_FORMATTER" "Ljava/util/function/BiFunction;" v A U U.heap) ∧ ∀ i, i < zTx.length → sa (30 + i) = sv i
def zA (Λ : List zC) (ad : Nat → Nat) (sz : Nat) : Nat → Prop := fun q => (∃ id, id < Λ.length ∧ q = ad id) ∨ sz ≤ q
theorem vk_S_narrow {N : Nat} {len : List Nat} {byt : List (List Int32)} {adK adV : Nat → Nat} {A B : Nat → Prop} {U : State} {H : Heap} (h : vk_S N len byt adK adV A U H) (hAB : ∀ q, B q → A q) : vk_S N len byt adK adV B U H :=
  ⟨fun i hi => ⟨va_O.narrow (h.1 i hi).1 hAB, va_OF.narrow (h.1 i hi).2.1 hAB, va_OF.narrow (h.1 i hi).2.2.1 hAB, va_T.narrow (h.1 i hi).2.2.2 hAB⟩, h.2⟩
theorem zNw_warm {w : Cond} (hw : zIsN w = true) {s U : State} (hW : s.WarmedH U.vm) (h : va_Nw w s) : va_Nw w U := by
  cases w <;> simp only [zIsN] at hw <;> first | exact va_Nw.warmF hW h | exact va_Nw.warmM hW h | (cases hw)
theorem zNw_same {w : Cond} (hw : zIsN w = true) {s U : State} (hv : s.vm = U.vm) (h : va_Nw w s) : va_Nw w U := by
  cases w <;> simp only [zIsN] at hw <;> first | exact va_tabs rfl hv h | (cases hw)
/-- into a callee -/
theorem zGl_call {D : va_G} {cs : Nat → ClassId} {sa sv : Nat → Nat} {A B : Nat → Prop} {s U : State} {locs : List Loc} (h : zGl D cs sa sv A s) (hS : va_S A s.heap U.heap locs) (hAB : ∀ q, B q → A q) (hW : s.WarmedH U.vm) : zGl D cs sa sv B U := by
  obtain ⟨h1, h2, h3, h4, h5, h6, h7, h8⟩ := h
  have hk : ∀ a : Nat, a < s.heap.size → ¬ A a → U.heap[a]? = s.heap[a]? := hS.2.1
  refine ⟨va_K.moved hW.alike h1, fun w hw hn => zNw_warm hn hW (h2 w hw hn), fun j n vs hn hv => ⟨?_, ?_⟩, ?_, fun q hq => vk_R.warm hW (h5 q hq), ?_, ?_, h8⟩
  · exact va_Z.narrow (va_Z.kept (va_Z.moved hW.alike (h3 j n vs hn hv).1) hk) hAB
  · exact va_T.narrow (va_T.kept (va_T.moved hW.alike (h3 j n vs hn hv).2) hk) hAB
  · exact vk_S_narrow (vk_S.kept (vk_S.moved hW.alike h4) hk) hAB
  · exact va_Z.narrow (va_Z.kept (va_Z.moved hW.alike h6) hk) hAB
  · obtain ⟨v, hv, g7⟩ := h7
    exact ⟨v, hv, va_Z.narrow (va_Z.kept (va_Z.moved hW.alike g7) hk) hAB⟩
theorem zGl_same {D : va_G} {cs : Nat → ClassId} {sa sv : Nat → Nat} {A : Nat → Prop} {s U : State} (h : zGl D cs sa sv A s) (hv : s.vm = U.vm) (hh : U.heap = s.heap) : zGl D cs sa sv A U := by
  obtain ⟨h1, h2, h3, h4, h5, h6, h7, h8⟩ := h
  have hal : s.vm.Alike U.vm := by rw [← hv]; exact Vm.Alike.refl s.vm
  refine ⟨va_K.moved hal h1, fun w hw hn => zNw_same hn hv (h2 w hw hn), fun j n vs hn hvs => ⟨?_, ?_⟩, ?_, fun q hq => vk_R.same hv.symm (h5 q hq), ?_, ?_, h8⟩
  · rw [hh]; exact va_Z.moved hal (h3 j n vs hn hvs).1
  · rw [hh]; exact va_T.moved hal (h3 j n vs hn hvs).2
  · rw [hh]; exact vk_S.moved hal h4
  · rw [hh]; exact va_Z.moved hal h6
  · obtain ⟨v, hv, g7⟩ := h7
    rw [hh]; exact ⟨v, hv, va_Z.moved hal g7⟩
/-- a method's start and end -/
def zRm (lv : Nat) : Room := { frames := lv + 2, cells := 0, slots := 0, locals := 40 * lv + 100 }
def zPre (Λ : List zC) (D : va_G) (ad sa sv : Nat → Nat) (cs : Nat → ClassId) (sz : Nat) (vs : List zV) (mem : zM) : Array Value → State → Prop :=
  va_Pc (vs.map (zE ad sa)) (fun U => U.heap.size = sz ∧ zGl D cs sa sv (zA Λ ad sz) U ∧ va_P D zCl (zWd Λ ad cs mem) U.heap ∧ va_D (zA Λ ad sz) (zWd Λ ad cs mem))
/-- kinds of answers: 0 int, 4 boolean, 1 long, 9 none -/
def zQ (rt : Nat) (Λ : List zC) (D : va_G) (ad : Nat → Nat) (cs : Nat → ClassId) (sz : Nat) (post : Int → zM → Prop) : Array Value → State → Outcome → State → Prop :=
  if rt = 1 then va_Ql (S := zM) (fun r mem => post r.toInt mem ∧ zokM Λ mem) (fun mem t => va_P D zCl (zWd Λ ad cs mem) t.heap) (zA Λ ad sz)
  else if rt = 9 then va_Qv (S := zM) (fun mem => post 0 mem ∧ zokM Λ mem) (fun mem t => va_P D zCl (zWd Λ ad cs mem) t.heap) (zA Λ ad sz)
  else va_Qi (S := zM) (fun r mem => post r.toInt mem ∧ zokM Λ mem) (fun mem t => va_P D zCl (zWd Λ ad cs mem) t.heap) (zA Λ ad sz)
def zMet (l : Launch) (Λ : List zC) (y : MethodName) (code : ByteArray) (maxL : Nat) (ret : Option FieldType) (lv : Nat) (tags : List Nat) (rt : Nat) (pre : List Int → zM → Prop) (post : List Int → zM → Int → zM → Prop) : Prop :=
  ∀ (D : va_G) (ad sa sv : Nat → Nat) (cs : Nat → ClassId) (sz : Nat) (vs : List Int) (mem : zM), vs.length = tags.length → (∀ v ∈ tags.zip vs, zok v) → zokM Λ mem → pre vs mem →
    Met l y (.code y code maxL ret :: zTbl) (zRm lv) (zPre Λ D ad sa sv cs sz (tags.zip vs) mem) (zQ rt Λ D ad cs sz (post vs mem)) 0 0 (zA Λ ad sz)
def zres (rt : Nat) (r : Int) (rest : List zV) : List zV := if rt = 1 then (1, r) :: rest else if rt = 9 then rest else (0, r) :: rest
def zrt (rt : Nat) (r : Int) : Prop := if rt = 1 then zR64 r else if rt = 9 then r = 0 else zR32 r
def zcats (st : List zV) : Nat := (st.map fun v => if v.1 = 1 then 2 else 1).sum
theorem zcats_E {ad sa : Nat → Nat} (st : List zV) : ((st.map (zE ad sa)).map fun v => v.category).sum = zcats st := by
  unfold zcats
  rw [List.map_map]
  congr 1
  exact List.map_congr_left (fun v _ => zE_cat ad sa v)
theorem zWd_D {Λ : List zC} {ad : Nat → Nat} {cs : Nat → ClassId} {A : Nat → Prop} {mem mem' : zM} (h : va_D A (zWd Λ ad cs mem)) : va_D A (zWd Λ ad cs mem') := by
  have key : ∀ (k : Nat) (q : Nat × va_E), (zWd Λ ad cs mem')[k]? = some q → ∃ e', (zWd Λ ad cs mem)[k]? = some (q.1, e') := by
    intro k q hq
    obtain ⟨h1, h2⟩ := zWd_addr hq
    obtain ⟨κ, hκ⟩ : ∃ κ, Λ[k]? = some κ := ⟨Λ[k], List.getElem?_eq_getElem h1⟩
    exact ⟨_, by rw [zWd_get hκ, h2]⟩
  refine ⟨fun i j x y hi hj hxy => ?_, fun k q hk => ?_⟩
  · obtain ⟨e1, g1⟩ := key i x hi
    obtain ⟨e2, g2⟩ := key j y hj
    exact h.1 i j _ _ g1 g2 hxy
  · obtain ⟨e1, g1⟩ := key k q hk
    exact h.2 k (q.1, e1) g1
section ZU
variable {p : Program} {l : Launch} {e : Env} {R : Room} {s : State} {m : MethodId} {args : Array Value} {below : List Frame} {meth : Method} {c : Code} {cells slots : Nat} {Q : State → Prop} {cc : ByteArray} {nL : Nat} {own : String} {Λ : List zC} {D : va_G} {ad sa sv : Nat → Nat} {cs : Nat → ClassId} {A : Nat → Prop} {pc : Nat} {ls : zL} {st : List zV} {mem : zM}
/-- a call's end, out of its run -/
theorem zcall_end {rt : Nat} {post : Int → zM → Prop} {rest : List zV} {L : Array Slot} {H : Heap} {locs : List Loc} {st0 : List Value} {av : Array Value}
    (hm : zokM Λ mem) (hl : ∀ k, zok (ls k)) (hs : ∀ w ∈ rest, zok w) (hP : va_P D zCl (zWd Λ ad cs mem) H) (hD : va_D A (zWd Λ ad cs mem)) (hL : zLs ad sa nL ls L) (hS : va_S A s.heap H locs) (hA : ∀ q, zA Λ ad H.size q → A q)
    (hr : va_Run p l e R s m args below meth c H locs cells slots 0 0 (F0 m pc L st0) (rest.map (zE ad sa)) (zQ rt Λ D ad cs H.size post av) (zA Λ ad H.size))
    (kk : ∀ (r : Int) (mem' : zM), zrt rt r → zokM Λ mem' → post r mem' → zAW p l e R s m args below meth c cells slots Q nL Λ D ad sa cs A  (pc + 3) ls (zres rt r rest) mem') : W p l e R s m args below meth c  H locs cells slots Q (F0 m pc L st0) := by
  unfold zQ at hr
  by_cases h1 : rt = 1
  · rw [if_pos h1] at hr
    refine va_calll hr hS (fun q _ h => hA q h) hA (fun r mem' t H1 locs1 ht _ hp hB _ _ hS1 => ?_)
    have h := kk r.toInt mem' (by rw [zrt, if_pos h1]; exact zl_rng r) hp.2 hp.1
    unfold zres at h
    rw [if_pos h1] at h
    have g := h hp.2 (zcons (zok_l r) hs) hl H1 locs1 L (by rw [← ht]; exact hB) (zWd_D hD) hL hS1
    rw [List.map_cons, zE_l] at g
    exact g
  · rw [if_neg h1] at hr
    by_cases h9 : rt = 9
    · rw [if_pos h9] at hr
      refine va_callv hr hS (fun q _ h => hA q h) hA (fun mem' t H1 locs1 ht _ hp hB _ _ hS1 => ?_)
      have h := kk 0 mem' (by rw [zrt, if_neg h1, if_pos h9]) hp.2 hp.1
      unfold zres at h
      rw [if_neg h1, if_pos h9] at h
      exact h hp.2 hs hl H1 locs1 L (by rw [← ht]; exact hB) (zWd_D hD) hL hS1
    · rw [if_neg h9] at hr
      refine va_calli hr hS (fun q _ h => hA q h) hA (fun r mem' t H1 locs1 ht _ hp hB _ _ hS1 => ?_)
      have h := kk r.toInt mem' (by rw [zrt, if_neg h1, if_neg h9]; exact zi_rng r) hp.2 hp.1
      unfold zres at h
      rw [if_neg h1, if_neg h9] at h
      have g := h hp.2 (zcons (zok_i r) hs) hl H1 locs1 L (by rw [← ht]; exact hB) (zWd_D hD) hL hS1
      rw [List.map_cons, zE_i] at g
      exact g
theorem zwords {y : MethodName} {code : ByteArray} {maxL : Nat} {ret : Option FieldType} (hts : ∀ w ∈ zTbl, w.before args s = true) (hc : Cond.code y code maxL ret ∈ zTbl) : ∀ w ∈ Cond.code y code maxL ret :: zTbl, ∀ (a' : Array Value) (U : State), s.WarmedH U.vm → w.before a' U = true := by
  intro w hw a' U hW
  have hw' : w ∈ zTbl := by rcases List.mem_cons.mp hw with r | r; rw [r]; exact hc; exact r
  exact word_at hW (good_of_word (List.mem_filter.mp hw').2) (hts w hw')
/-- the callee's start, at the caller's state -/
theorem zPre_at {H : Heap} {locs : List Loc} {vs : List zV} {U : State} (hG : zGl D cs sa sv A s) (hP : va_P D zCl (zWd Λ ad cs mem) H) (hD : va_D A (zWd Λ ad cs mem)) (hS : va_S A s.heap H locs) (hA : ∀ q, zA Λ ad H.size q → A q) (hU : U.heap = H) (hW : s.WarmedH U.vm) : zPre Λ D ad sa sv cs H.size vs mem (vs.map (zE ad sa)).toArray U := by
  refine ⟨rfl, by rw [hU], zGl_call hG (by rw [hU]; exact hS) hA hW, by rw [hU]; exact hP, hD.weaken (fun k q hk _ => ?_)⟩
  obtain ⟨h1, h2⟩ := zWd_addr hk
  exact Or.inl ⟨k, h1, h2⟩
theorem zPre_blind {sz : Nat} {vs : List zV} : FrameBlind (zPre Λ D ad sa sv cs sz vs mem) := by
  intro a U g mk h
  obtain ⟨h1, h2, h3, h4, h5⟩ := h
  exact ⟨h1, h2, zGl_same (U := U.calling g mk a) h3 rfl rfl, h4, h5⟩
theorem zA_sub {H : Heap} {locs : List Loc} (hD : va_D A (zWd Λ ad cs mem)) (hS : va_S A s.heap H locs) (hA : ∀ q, s.heap.size ≤ q → A q) : ∀ q, zA Λ ad H.size q → A q := by
  intro q h
  rcases h with ⟨id, h1, h2⟩ | h
  · obtain ⟨κ, hκ⟩ : ∃ κ, Λ[id]? = some κ := ⟨Λ[id], List.getElem?_eq_getElem h1⟩
    rw [h2]
    exact hD.2 id _ (zWd_get hκ)
  · exact hA q (Nat.le_trans hS.1 h)
/-- what a call wants of the caller -/
def zCOK (p : Program) (l : Launch) (e : Env) (R : Room) (s : State) (m : MethodId) (args : Array Value) (below : List Frame) (meth : Method) (c : Code) (cells slots : Nat) (nL : Nat) (Λ : List zC) (D : va_G) (ad sa : Nat → Nat) (cs : Nat → ClassId) (A : Nat → Prop) (cc : ByteArray) (i : Instr) (tags : List Nat) (rt : Nat) (pre : List Int → zM → Prop) (post : List Int → zM → Int → zM → Prop) : Prop :=
  ∀ (Q : State → Prop) (pc : Nat) (ls : zL) (vs : List Int) (rest : List zV) (mem : zM), decode cc pc = .ok (i, 3) → vs.length = tags.length → pre vs mem → zcats rest ≤ 8 →
    (∀ (r : Int) (mem' : zM), zrt rt r → zokM Λ mem' → post vs mem r mem' → zAW p l e R s m args below meth c cells slots Q nL Λ D ad sa cs A  (pc + 3) ls (zres rt r rest) mem') → zAW p l e R s m args below meth c cells slots Q nL Λ D ad sa cs A  pc ls ((tags.zip vs).reverse ++ rest) mem
theorem zrev {vs rest : List zV} (hs : ∀ w ∈ vs.reverse ++ rest, zok w) : (∀ w ∈ vs, zok w) ∧ ∀ w ∈ rest, zok w :=
  ⟨fun w hw => hs w (List.mem_append_left _ (List.mem_reverse.mpr hw)), fun w hw => hs w (List.mem_append_right _ hw)⟩
theorem zparams {y : MethodName} {n : Nat} (h : (parseMethodDescriptor y.desc).map (fun d => d.parameters.length) = some n) : ∀ sig, parseMethodDescriptor y.desc = some sig → n = sig.parameters.length := by
  intro sig hs
  rw [hs] at h
  exact (Option.some.inj h).symm
/-- facts of a callee's name that a program decides -/
def zNm (y : MethodName) (n : Nat) : Prop := (y.cls ≠ "java/lang/invoke/MethodHandle" ∧ y.cls ≠ "java/lang/invoke/VarHandle") ∧ (parseMethodDescriptor y.desc).map (fun d => d.parameters.length) = some n
theorem zcall_V {y : MethodName} {code : ByteArray} {maxL lv rt idx ci : Nat} {ret : Option FieldType} {tags : List Nat} {pre : List Int → zM → Prop} {post : List Int → zM → Int → zM → Prop} {q : vw_C}
    (S : CallFix p m c cc nL s args zTbl own) (hG : zGl D cs sa sv A s) (hA : ∀ q, s.heap.size ≤ q → A q) (hM : zMet l Λ y code maxL ret lv (2 :: tags) rt pre post) (hnm : zNm y tags.length) (hcode : Cond.code y code maxL ret ∈ zTbl) (hini : Cond.initialized y.cls ∈ zTbl) (hin : Cond.instanceMethod y ∈ zTbl) (hsel : Cond.selects y.cls y y ∈ zTbl)
    (hlk : Cond.methodLink own idx y ∈ zTbl ∨ ∃ host, Cond.methodLinkNest own idx y host ∈ lw_tbl) (hq : zCl[ci]? = some q) (hqn : q.1 = y.cls) (hrc : ∀ vs mem, pre vs mem → ∃ (a : Int) (tl : List Int) (fs : List (Nat × Nat)), vs = a :: tl ∧ Λ[a.toNat]? = some (0, ci, fs))
    (hR : lv + 2 + 1 ≤ R.frames ∧ 8 + (maxL + 11) + (40 * lv + 100) ≤ R.locals) (hf : cells ≤ R.cells ∧ slots ≤ R.slots) : zCOK p l e R s m args below meth c cells slots nL Λ D ad sa cs A cc (.invokevirtual idx) (2 :: tags) rt pre post := by
  intro Q pc ls vs rest mem hd hlen hpre hcat kk
  obtain ⟨a, tl, fs, rfl, hΛ⟩ := hrc vs mem hpre
  intro hm hs hl H locs L hP hD hL hS
  obtain ⟨hsv, hsr⟩ := zrev hs
  have hAs := zA_sub (s := s) hD hS hA
  have hM' := hM D ad sa sv cs H.size (a :: tl) mem hlen hsv hm hpre
  have hrecv := va_recv (s := s) hG.1 hP hq (zWd_get (ad := ad) (cs := cs) (mem := mem) hΛ)
  rw [hqn] at hrecv
  have hlt : tl.length = tags.length := Nat.succ.inj hlen
  have hn : ((tags.zip tl).map (zE ad sa)).length = tags.length := by rw [List.length_map, List.length_zip, hlt, Nat.min_self]
  have hst : ((((2 :: tags).zip (a :: tl)).reverse ++ rest).map (zE ad sa)) = ((tags.zip tl).map (zE ad sa)).reverse ++ .ref (ad a.toNat) :: rest.map (zE ad sa) := by
    rw [List.zip_cons_cons, List.reverse_cons, List.append_assoc, List.map_append, List.map_reverse]
    rfl
  have hp : PreV s H y.cls (ad a.toNat) (zPre Λ D ad sa sv cs H.size ((2 :: tags).zip (a :: tl)) mem) ((tags.zip tl).map (zE ad sa)) :=
    ⟨zPre_blind, hrecv, fun U hU hW => zPre_at (vs := (2 :: tags).zip (a :: tl)) hG hP hD hS hAs hU hW⟩
  have hcw : 2 * (F0 m pc L ((((2 :: tags).zip (a :: tl)).reverse ++ rest).map (zE ad sa))).monitorRoom + ((rest.map (zE ad sa)).map fun v => v.category).sum ≤ 8 := lv_room (by rw [zcats_E]; exact hcat)
  obtain ⟨hx, hb, hml, hown, hts⟩ := id S
  refine zcall_end (rt := rt) (post := post (a :: tl) mem) hm hl hsr hP hD hL hS hAs (av := (Value.ref (ad a.toNat) :: (tags.zip tl).map (zE ad sa)).toArray) ?_ kk
  rcases hlk with hlk | ⟨host, hlk⟩
  · exact va_runV S hM' (C := y.cls) ⟨⟨rfl, rfl, hR.1, hR.2, zwords hts hcode, List.mem_cons_self, hts _ hcode, hts _ hini, hnm.1, zparams hnm.2, hts _ hlk⟩, hts _ hin, hts _ hsel⟩ hp rfl hn hL.1 hst hcw hd hf
  · exact va_runVN S hM' (C := y.cls) (host := host) ⟨⟨⟨rfl, rfl, hR.1, hR.2, zwords hts hcode, List.mem_cons_self⟩, hts _ hcode, hts _ hini, hnm.1, zparams hnm.2, va_Nw.use rfl (hG.2.1 _ hlk rfl)⟩, hts _ hin, hts _ hsel⟩ hp rfl hn hL.1 hst hcw hd hf
theorem zcall_S {y : MethodName} {code : ByteArray} {maxL lv rt idx : Nat} {ret : Option FieldType} {tags : List Nat} {pre : List Int → zM → Prop} {post : List Int → zM → Int → zM → Prop}
    (S : CallFix p m c cc nL s args zTbl own) (hG : zGl D cs sa sv A s) (hA : ∀ q, s.heap.size ≤ q → A q) (hM : zMet l Λ y code maxL ret lv tags rt pre post) (hnm : zNm y tags.length) (hcode : Cond.code y code maxL ret ∈ zTbl) (hini : Cond.initialized y.cls ∈ zTbl) (hst : Cond.static y ∈ zTbl)
    (hlk : Cond.methodLink own idx y ∈ zTbl ∨ ∃ host, Cond.methodLinkNest own idx y host ∈ lw_tbl)
    (hR : lv + 2 + 1 ≤ R.frames ∧ 8 + (maxL + 11) + (40 * lv + 100) ≤ R.locals) (hf : cells ≤ R.cells ∧ slots ≤ R.slots) : zCOK p l e R s m args below meth c cells slots nL Λ D ad sa cs A cc (.invokestatic idx) tags rt pre post := by
  intro Q pc ls vs rest mem hd hlen hpre hcat kk
  intro hm hs hl H locs L hP hD hL hS
  obtain ⟨hsv, hsr⟩ := zrev hs
  have hAs := zA_sub (s := s) hD hS hA
  have hM' := hM D ad sa sv cs H.size vs mem hlen hsv hm hpre
  have hn : ((tags.zip vs).map (zE ad sa)).length = tags.length := by rw [List.length_map, List.length_zip, hlen, Nat.min_self]
  have hstk : (((tags.zip vs).reverse ++ rest).map (zE ad sa)) = ((tags.zip vs).map (zE ad sa)).reverse ++ rest.map (zE ad sa) := by
    rw [List.map_append, List.map_reverse]
  have hp : PreS s H (zPre Λ D ad sa sv cs H.size (tags.zip vs) mem) ((tags.zip vs).map (zE ad sa)) :=
    ⟨zPre_blind, fun U hU hW => zPre_at hG hP hD hS hAs hU hW⟩
  have hcw : 2 * (F0 m pc L (((tags.zip vs).reverse ++ rest).map (zE ad sa))).monitorRoom + ((rest.map (zE ad sa)).map fun v => v.category).sum ≤ 8 := lv_room (by rw [zcats_E]; exact hcat)
  obtain ⟨hx, hb, hml, hown, hts⟩ := id S
  refine zcall_end (rt := rt) (post := post vs mem) hm hl hsr hP hD hL hS hAs (av := ((tags.zip vs).map (zE ad sa)).toArray) ?_ kk
  rcases hlk with hlk | ⟨host, hlk⟩
  · exact va_runS S hM' ⟨⟨rfl, rfl, hR.1, hR.2, zwords hts hcode, List.mem_cons_self, hts _ hcode, hts _ hini, hnm.1, zparams hnm.2, hts _ hlk⟩, hts _ hst⟩ hp rfl hn hL.1 hstk hcw hd hf
  · exact va_runSN S hM' (host := host) ⟨⟨⟨rfl, rfl, hR.1, hR.2, zwords hts hcode, List.mem_cons_self⟩, hts _ hcode, hts _ hini, hnm.1, zparams hnm.2, va_Nw.use rfl (hG.2.1 _ hlk rfl)⟩, hts _ hst, trivial⟩ hp rfl hn hL.1 hstk hcw hd hf
end ZU
