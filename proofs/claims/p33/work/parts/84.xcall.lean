/-! ===== a call of a method that may throw, and its catching ===== -/
section ZXW
variable {p : Program} {l : Launch} {e : Env} {R : Room} {s : State} {m : MethodId} {args : Array Value} {below : List Frame} {meth : Method} {c : Code} {cells slots : Nat} {Q : State → Prop} {cc : ByteArray} {nL : Nat} {own : String} {Λ : List zC} {D : va_G} {ad sa sv : Nat → Nat} {cs : Nat → ClassId} {A : Nat → Prop} {pc : Nat} {ls : zL} {st : List zV} {mem : zM}
theorem zas_9 {L L' : Array Slot} {i x : Nat} {lv' : List (Nat × Value)} (hL : zLs ad sa nL ls L) (hl : (i, Value.ref x) :: (zas ad sa ls nL).filter (fun q => !(q.1 == i) && !(q.1 + 1 == i && q.2.category == 2)) = lv') (h : lv_has L' nL lv') : zLs ad sa nL (zst ls i (9, 0)) L' := by
  refine ⟨h.1, h.2.1, fun k h9 => h.2.2 (k, zE ad sa (zst ls i (9, 0) k)) ?_⟩
  subst hl
  by_cases hk : k = i
  · subst hk
    exact absurd (show (zst ls k (9, 0) k).1 = 9 by simp [zst]) h9
  · by_cases hq : k + 1 = i ∧ (ls k).1 = 1
    · exact absurd (show (zst ls i (9, 0) k).1 = 9 by simp [zst, hk, hq]) h9
    · have he : zst ls i (9, 0) k = ls k := by simp only [zst]; rw [if_neg hk, if_neg hq]
      rw [he] at h9 ⊢
      refine List.mem_cons_of_mem _ (List.mem_filter.mpr ⟨zas_in hL h9, ?_⟩)
      simp only [Bool.and_eq_true, Bool.not_eq_true', beq_eq_false_iff_ne, ne_eq, Bool.and_eq_false_iff]
      refine ⟨hk, ?_⟩
      by_cases h1 : k + 1 = i
      · right
        rw [zE_cat]
        rw [if_neg (fun z => hq ⟨h1, z⟩)]
        decide
      · exact Or.inl h1
/-- a handler's first instruction: what was caught goes into a place that nothing reads -/
def zHd (cc : ByteArray) (pc i n : Nat) : Prop := (∃ j : Fin 4, j.val = i ∧ n = 1 ∧ decode cc pc = .ok (.astore_n j, 1)) ∨ (n = 2 ∧ decode cc pc = .ok (.astore i, 2))
theorem zhandler {i n q : Nat} {H : Heap} {locs : List Loc} {L : Array Slot} (hx : p.tables.exec = Jvm.exec) (hb : c.code = cc) (hd : zHd cc pc i n) (hi : i < nL) (kk : zAW p l e R s m args below meth c cells slots Q nL Λ D ad sa cs A  (pc + n) (zst ls i (9, 0)) [] mem) (hm : zokM Λ mem) (hl : ∀ k, zok (ls k)) (hP : va_P D zCl (zWd Λ ad cs mem) H) (hD : va_D A (zWd Λ ad cs mem)) (hL : zLs ad sa nL ls L) (hS : va_S A s.heap H locs) : W p l e R s m args below meth c  H locs cells slots Q (F0 m pc L [.ref q]) := by
  rcases hd with ⟨j, hj, hn, hd⟩ | ⟨hn, hd⟩
  · subst hj; subst hn
    exact lv_astore_n (lv := zas ad sa ls nL) hx hb hd rfl (zas_has hL) hi rfl (fun L' h => kk hm (fun _ h => by cases h) (zst_ok zok_n hl) H locs L' hP hD (zas_9 hL rfl h) hS)
  · subst hn
    exact lv_astore (lv := zas ad sa ls nL) hx hb hd (zas_has hL) hi rfl (fun L' h => kk hm (fun _ h => by cases h) (zst_ok zok_n hl) H locs L' hP hD (zas_9 hL rfl h) hS)
theorem zcall_endX {rt : Nat} {post : Int → zM → Prop} {xp : Nat → zM → Prop} {rest : List zV} {L : Array Slot} {H : Heap} {locs : List Loc} {st0 : List Value} {av : Array Value}
    (hm : zokM Λ mem) (hl : ∀ k, zok (ls k)) (hs : ∀ w ∈ rest, zok w) (hP : va_P D zCl (zWd Λ ad cs mem) H) (hD : va_D A (zWd Λ ad cs mem)) (hL : zLs ad sa nL ls L) (hS : va_S A s.heap H locs) (hA : ∀ q, zA Λ ad H.size q → A q)
    (hr : vx_Run p l e R s m args below meth c H locs cells slots 1 6 (F0 m pc L st0) (rest.map (zE ad sa)) (zQ rt Λ D ad cs H.size post av) (zXC Λ D ad cs H.size xp) (zA Λ ad H.size))
    (kx : ∀ (E : Nat) (nm : String) (mem' : zM) (H1 : Heap) (locs1 : List Loc) (ce : Cell) (q9 : Addr), zokM Λ mem' → xp E mem' → zXn[E]? = some nm → va_P D zCl (zWd Λ ad cs mem') H1 → va_S A s.heap H1 locs1 → H1[q9]? = some ce → ce.vm = .none → s.vm.findClass nm = some ce.cls → vx_W p l e R s m args below meth c H1 locs1 (cells + 1) (slots + 6) Q (F0 m pc L (rest.map (zE ad sa))) q9)
    (kk : ∀ (r : Int) (mem' : zM), zrt rt r → zokM Λ mem' → post r mem' → zAW p l e R s m args below meth c (cells + 1) (slots + 6) Q nL Λ D ad sa cs A (pc + 3) ls (zres rt r rest) mem') : W p l e R s m args below meth c  H locs cells slots Q (F0 m pc L st0) := by
  have kx' : ∀ (E : String) (ce : Cell) (q9 : Addr) (u : Nat × zM) (t : State) (H1 : Heap) (locs1 : List Loc), t.heap = H1 → s.vm.Alike t.vm → (zokM Λ u.2 ∧ xp u.1 u.2) → (zXn[u.1]? = some E ∧ va_P D zCl (zWd Λ ad cs u.2) t.heap) → H.size ≤ H1.size → (∀ q : Nat, q < H.size → ¬ zA Λ ad H.size q → H1[q]? = H[q]?) → va_S A s.heap H1 locs1 → H1[q9]? = some ce → ce.vm = .none → s.vm.findClass E = some ce.cls → vx_W p l e R s m args below meth c H1 locs1 (cells + 1) (slots + 6) Q (F0 m pc L (rest.map (zE ad sa))) q9 := by
    intro E ce q9 u t H1 locs1 ht _ h1 h2 _ _ h5 h6 h7 h8
    exact kx u.1 E u.2 H1 locs1 ce q9 h1.1 h1.2 h2.1 (by rw [← ht]; exact h2.2) h5 h6 h7 h8
  unfold zQ at hr
  unfold zXC at hr
  by_cases h1 : rt = 1
  · rw [if_pos h1] at hr
    refine vx_calll hr hS (fun q _ h => hA q h) hA (fun q _ h => hA q h) kx' (fun r mem' t H1 locs1 ht _ hp hB _ _ hS1 => ?_)
    have h := kk r.toInt mem' (by rw [zrt, if_pos h1]; exact zl_rng r) hp.2 hp.1
    unfold zres at h
    rw [if_pos h1] at h
    have g := h hp.2 (zcons (zok_l r) hs) hl H1 locs1 L (by rw [← ht]; exact hB) (zWd_D hD) hL hS1
    rw [List.map_cons, zE_l] at g
    exact g
  · rw [if_neg h1] at hr
    by_cases h9 : rt = 9
    · rw [if_pos h9] at hr
      refine vx_callv hr hS (fun q _ h => hA q h) hA (fun q _ h => hA q h) kx' (fun mem' t H1 locs1 ht _ hp hB _ _ hS1 => ?_)
      have h := kk 0 mem' (by rw [zrt, if_neg h1, if_pos h9]) hp.2 hp.1
      unfold zres at h
      rw [if_neg h1, if_pos h9] at h
      exact h hp.2 hs hl H1 locs1 L (by rw [← ht]; exact hB) (zWd_D hD) hL hS1
    · rw [if_neg h9] at hr
      refine vx_calli hr hS (fun q _ h => hA q h) hA (fun q _ h => hA q h) kx' (fun r mem' t H1 locs1 ht _ hp hB _ _ hS1 => ?_)
      have h := kk r.toInt mem' (by rw [zrt, if_neg h1, if_neg h9]; exact zi_rng r) hp.2 hp.1
      unfold zres at h
      rw [if_neg h1, if_neg h9] at h
      have g := h hp.2 (zcons (zok_i r) hs) hl H1 locs1 L (by rw [← ht]; exact hB) (zWd_D hD) hL hS1
      rw [List.map_cons, zE_i] at g
      exact g
theorem zPreX_at {H : Heap} {locs : List Loc} {vs : List zV} {U : State} (hG : zGl D cs sa sv A s) (hGx : zGx A s) (hP : va_P D zCl (zWd Λ ad cs mem) H) (hD : va_D A (zWd Λ ad cs mem)) (hS : va_S A s.heap H locs) (hA : ∀ q, zA Λ ad H.size q → A q) (hU : U.heap = H) (hW : s.WarmedH U.vm) : zPreX Λ D ad sa sv cs H.size vs mem (vs.map (zE ad sa)).toArray U := by
  obtain ⟨q1, q2, q3, q4, q5⟩ := zPre_at (vs := vs) (U := U) hG hP hD hS hA hU hW
  exact ⟨q1, q2, q3, q4, q5, zGx_call hGx (by rw [hU]; exact hS) hA hW⟩
theorem zPreX_blind {sz : Nat} {vs : List zV} : FrameBlind (zPreX Λ D ad sa sv cs sz vs mem) := by
  intro a U g mk h
  obtain ⟨h1, h2, h3, h4, h5, h6⟩ := h
  exact ⟨h1, h2, zGl_same (U := U.calling g mk a) h3 rfl rfl, h4, h5, zGx_same (U := U.calling g mk a) h6 rfl rfl⟩
theorem zcall_VX {y : MethodName} {code : ByteArray} {maxL lv rt idx ci : Nat} {ret : Option FieldType} {tags : List Nat} {pre : List Int → zM → Prop} {post : List Int → zM → Int → zM → Prop} {xp : List Int → zM → Nat → zM → Prop} {q : vw_C} {vs : List Int} {rest : List zV}
    (S : CallFix p m c cc nL s args zTbl own) (hG : zGl D cs sa sv A s) (hGx : zGx A s) (hA : ∀ q, s.heap.size ≤ q → A q) (hltr : l.stackTraces = false) (hM : zMetX l Λ y code maxL ret lv (2 :: tags) rt pre post xp) (hnm : zNm y tags.length) (hcode : Cond.code y code maxL ret ∈ zTbl) (hini : Cond.initialized y.cls ∈ zTbl) (hin : Cond.instanceMethod y ∈ zTbl) (hsel : Cond.selects y.cls y y ∈ zTbl)
    (hlk : Cond.methodLink own idx y ∈ zTbl) (hq : zCl[ci]? = some q) (hqn : q.1 = y.cls) (hrc : ∀ vs mem, pre vs mem → ∃ (a : Int) (tl : List Int) (fs : List (Nat × Nat)), vs = a :: tl ∧ Λ[a.toNat]? = some (0, ci, fs))
    (hR : lv + 12 + 1 ≤ R.frames ∧ 8 + (maxL + 11) + (40 * lv + 700) ≤ R.locals) (hf : cells + 1 ≤ R.cells ∧ slots + 6 ≤ R.slots)
    (hd : decode cc pc = .ok (.invokevirtual idx, 3)) (hlen : vs.length = (2 :: tags).length) (hpre : pre vs mem) (hcat : zcats rest ≤ 8)
    (kx : ∀ (E : Nat) (nm : String) (mem' : zM) (H1 : Heap) (locs1 : List Loc) (L : Array Slot) (ce : Cell) (q9 : Addr), (∀ k, zok (ls k)) → zokM Λ mem' → xp vs mem E mem' → zXn[E]? = some nm → va_P D zCl (zWd Λ ad cs mem') H1 → va_D A (zWd Λ ad cs mem') → zLs ad sa nL ls L → va_S A s.heap H1 locs1 → H1[q9]? = some ce → ce.vm = .none → s.vm.findClass nm = some ce.cls → vx_W p l e R s m args below meth c H1 locs1 (cells + 1) (slots + 6) Q (F0 m pc L (rest.map (zE ad sa))) q9)
    (kk : ∀ (r : Int) (mem' : zM), zrt rt r → zokM Λ mem' → post vs mem r mem' → zAW p l e R s m args below meth c (cells + 1) (slots + 6) Q nL Λ D ad sa cs A (pc + 3) ls (zres rt r rest) mem') : zAW p l e R s m args below meth c cells slots Q nL Λ D ad sa cs A  pc ls (((2 :: tags).zip vs).reverse ++ rest) mem := by
  obtain ⟨a, tl, fs, rfl, hΛ⟩ := hrc vs mem hpre
  intro hm hs hl H locs L hP hD hL hS
  obtain ⟨hsv, hsr⟩ := zrev hs
  have hAs := zA_sub (s := s) hD hS hA
  have hM' := hM D ad sa sv cs H.size (a :: tl) mem hltr hlen hsv hm hpre
  have hrecv := va_recv (s := s) hG.1 hP hq (zWd_get (ad := ad) (cs := cs) (mem := mem) hΛ)
  rw [hqn] at hrecv
  have hlt : tl.length = tags.length := Nat.succ.inj hlen
  have hn : ((tags.zip tl).map (zE ad sa)).length = tags.length := by rw [List.length_map, List.length_zip, hlt, Nat.min_self]
  have hst : ((((2 :: tags).zip (a :: tl)).reverse ++ rest).map (zE ad sa)) = ((tags.zip tl).map (zE ad sa)).reverse ++ .ref (ad a.toNat) :: rest.map (zE ad sa) := by
    rw [List.zip_cons_cons, List.reverse_cons, List.append_assoc, List.map_append, List.map_reverse]
    rfl
  have hp : PreV s H y.cls (ad a.toNat) (zPreX Λ D ad sa sv cs H.size ((2 :: tags).zip (a :: tl)) mem) ((tags.zip tl).map (zE ad sa)) :=
    ⟨zPreX_blind, hrecv, fun U hU hW => zPreX_at (vs := (2 :: tags).zip (a :: tl)) hG hGx hP hD hS hAs hU hW⟩
  have hcw : 2 * (F0 m pc L ((((2 :: tags).zip (a :: tl)).reverse ++ rest).map (zE ad sa))).monitorRoom + ((rest.map (zE ad sa)).map fun v => v.category).sum ≤ 8 := lv_room (by rw [zcats_E]; exact hcat)
  obtain ⟨hx, hb, hml, hown, hts⟩ := id S
  refine zcall_endX (rt := rt) (post := post (a :: tl) mem) (xp := xp (a :: tl) mem) hm hl hsr hP hD hL hS hAs (av := (Value.ref (ad a.toNat) :: (tags.zip tl).map (zE ad sa)).toArray) ?_ (fun E nm mem' H1 locs1 ce q9 g1 g2 g3 g4 g5 g6 g7 g8 => kx E nm mem' H1 locs1 L ce q9 hl g1 g2 g3 g4 (zWd_D hD) hL g5 g6 g7 g8) kk
  exact vx_runV S hM' (C := y.cls) ⟨⟨rfl, rfl, hR.1, hR.2, zwords hts hcode, List.mem_cons_self, hts _ hcode, hts _ hini, hnm.1, zparams hnm.2, hts _ hlk⟩, hts _ hin, hts _ hsel⟩ hp rfl hn hL.1 hst hcw hd hf
end ZXW
/-! ===== the law's wrappers: a call in a frame with a table ===== -/
def zRmW (lv : Nat) : Room := { frames := lv + 14, cells := 1, slots := 6, locals := 40 * lv + 900 }
def zMetW (l : Launch) (Λ : List zC) (y : MethodName) (code : ByteArray) (maxL : Nat) (hh : List (Nat × Nat × Nat × Nat)) (lv : Nat) (tags : List Nat) (pre : List Int → zM → Prop) (post : List Int → zM → Int → zM → Prop) : Prop :=
  ∀ (D : va_G) (ad sa sv : Nat → Nat) (cs : Nat → ClassId) (sz : Nat) (vs : List Int) (mem : zM), l.stackTraces = false → vs.length = tags.length → (∀ v ∈ tags.zip vs, zok v) → zokM Λ mem → pre vs mem →
    Met l y (.codeWith y code maxL (some .int) hh :: zTbl) (zRmW lv) (zPreX Λ D ad sa sv cs sz (tags.zip vs) mem) (zQ 0 Λ D ad cs sz (post vs mem)) 1 6 (zA Λ ad sz)
