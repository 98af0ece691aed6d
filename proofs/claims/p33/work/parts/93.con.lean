/-! ===== constructors: worlds as lists of cells ===== -/
/-- what constructors want of the tables -/
def zCg (D : va_G) (cs : Nat → ClassId) (U : State) : Prop := va_K D zCl (zTys cs) U ∧ (∀ w ∈ lw_tbl, zIsN w = true → va_Nw w U) ∧ va_AO "SandRails$Orders" U
theorem zCg_warm {D : va_G} {cs : Nat → ClassId} {s U : State} (h : zCg D cs s) (hW : s.WarmedH U.vm) : zCg D cs U := ⟨va_K.moved hW.alike h.1, fun w hw hn => zNw_warm hn hW (h.2.1 w hw hn), va_AO.moved hW.alike h.2.2⟩
theorem zCg_same {D : va_G} {cs : Nat → ClassId} {s U : State} (h : zCg D cs s) (hv : s.vm = U.vm) : zCg D cs U := by
  have hal : s.vm.Alike U.vm := by rw [← hv]; exact Vm.Alike.refl s.vm
  exact ⟨va_K.moved hal h.1, fun w hw hn => zNw_same hn hv (h.2.1 w hw hn), va_AO.moved hal h.2.2⟩
def zB (a sz : Nat) : Nat → Prop := fun q => q = a ∨ sz ≤ q
def zRmC (lv mc ms : Nat) : Room := { frames := lv + 2, cells := mc, slots := ms, locals := 40 * lv + 100 }
/-- a constructor: of a cell with its first values, and of cells that it makes -/
def zCon (l : Launch) (y : MethodName) (code : ByteArray) (maxL lv mc ms ci : Nat) (df : List Value) (F : (Nat → ClassId) → Nat → (Nat → Nat) → va_W) : Prop :=
  ∀ (D : va_G) (cs : Nat → ClassId) (a sz : Nat), Met l y (.code y code maxL none :: zTbl) (zRmC lv mc ms) (va_Pc [.ref a] (fun U => U.heap.size = sz ∧ a < sz ∧ zCg D cs U ∧ va_P D zCl [(a, .inr (ci, df))] U.heap)) (va_Qv (S := Nat → Nat) (fun _ => True) (fun u t => va_P D zCl (F cs a u) t.heap ∧ va_D (zB a sz) (F cs a u)) (zB a sz)) mc ms (zB a sz)
def zK (p : Program) (l : Launch) (e : Env) (R : Room) (s : State) (m : MethodId) (args : Array Value) (below : List Frame) (meth : Method) (c : Code) (Q : State → Prop) (D : va_G) (A : Nat → Prop) (L : Array Slot) (cells slots : Nat) (ws : va_W) (pc : Nat) (st : List Value) : Prop :=
  ∀ (H : Heap) (locs : List Loc), va_P D zCl ws H → va_D A ws → va_S A s.heap H locs → W p l e R s m args below meth c H locs cells slots Q (F0 m pc L st)
/-- what stays through a constructor -/
def zKx (p : Program) (R : Room) (s : State) (m : MethodId) (args : Array Value) (meth : Method) (c : Code) (cc : ByteArray) (nL : Nat) (own : String) (D : va_G) (cs : Nat → ClassId) (A : Nat → Prop) (lv mc ms : Nat) : Prop := CallFix p m c cc nL s args zTbl own ∧ zCg D cs s ∧ (∀ q, s.heap.size ≤ q → A q) ∧ (lv + 2 ≤ R.frames ∧ 40 * lv + 100 ≤ R.locals ∧ mc ≤ R.cells ∧ ms ≤ R.slots)
section ZKR
variable {p : Program} {l : Launch} {e : Env} {R : Room} {s : State} {m : MethodId} {args : Array Value} {below : List Frame} {meth : Method} {c : Code} {cells slots : Nat} {Q : State → Prop} {cc : ByteArray} {nL : Nat} {own : String} {D : va_G} {cs : Nat → ClassId} {A : Nat → Prop} {pc : Nat} {L : Array Slot} {ws : va_W} {st : List Value} {lv mc ms : Nat}
theorem zk_aload {i : Fin 4} {x : Nat} (X : zKx p R s m args meth c cc nL own D cs A lv mc ms) (hd : decode cc pc = .ok (.aload_n i, 1)) (hl : L[i.val]? = some (.val (.ref x))) (kk : zK p l e R s m args below meth c Q D A  L cells slots ws (pc + 1) (.ref x :: st)) : zK p l e R s m args below meth c Q D A  L cells slots ws pc st := fun H locs h1 h2 h3 => lv_aload_n X.1.1 X.1.2.1 hd rfl hl (kk H locs h1 h2 h3)
theorem zk_iload {i : Fin 4} {x : Int32} (X : zKx p R s m args meth c cc nL own D cs A lv mc ms) (hd : decode cc pc = .ok (.iload_n i, 1)) (hl : L[i.val]? = some (.val (.int x))) (kk : zK p l e R s m args below meth c Q D A  L cells slots ws (pc + 1) (.int x :: st)) : zK p l e R s m args below meth c Q D A  L cells slots ws pc st := fun H locs h1 h2 h3 => lv_iload_n X.1.1 X.1.2.1 hd rfl hl (kk H locs h1 h2 h3)
theorem zk_iconst {n : Int} {v : Int32} (X : zKx p R s m args meth c cc nL own D cs A lv mc ms) (hd : decode cc pc = .ok (.iconst n, 1)) (hv : Int32.ofInt n = v) (kk : zK p l e R s m args below meth c Q D A  L cells slots ws (pc + 1) (.int v :: st)) : zK p l e R s m args below meth c Q D A  L cells slots ws pc st := fun H locs h1 h2 h3 => lv_iconst X.1.1 X.1.2.1 hd hv (kk H locs h1 h2 h3)
theorem zk_bipush {n : Int} {v : Int32} (X : zKx p R s m args meth c cc nL own D cs A lv mc ms) (hd : decode cc pc = .ok (.bipush n, 2)) (hv : (Int8.ofInt n).toInt32 = v) (kk : zK p l e R s m args below meth c Q D A  L cells slots ws (pc + 2) (.int v :: st)) : zK p l e R s m args below meth c Q D A  L cells slots ws pc st := fun H locs h1 h2 h3 => lv_bipush X.1.1 X.1.2.1 hd hv (kk H locs h1 h2 h3)
theorem zk_sipush {n : Int} {v : Int32} (X : zKx p R s m args meth c cc nL own D cs A lv mc ms) (hd : decode cc pc = .ok (.sipush n, 3)) (hv : (Int16.ofInt n).toInt32 = v) (kk : zK p l e R s m args below meth c Q D A  L cells slots ws (pc + 3) (.int v :: st)) : zK p l e R s m args below meth c Q D A  L cells slots ws pc st := fun H locs h1 h2 h3 => lv_sipush X.1.1 X.1.2.1 hd hv (kk H locs h1 h2 h3)
theorem zk_dup {v : Value} (X : zKx p R s m args meth c cc nL own D cs A lv mc ms) (hd : decode cc pc = .ok (.dup, 1)) (hv : v.category = 1) (kk : zK p l e R s m args below meth c Q D A  L cells slots ws (pc + 1) (v :: v :: st)) : zK p l e R s m args below meth c Q D A  L cells slots ws pc (v :: st) := fun H locs h1 h2 h3 => lv_dup X.1.1 X.1.2.1 hd hv (kk H locs h1 h2 h3)
theorem zk_goto {off : Int} {tgt : Nat} (X : zKx p R s m args meth c cc nL own D cs A lv mc ms) (hd : decode cc pc = .ok (.goto off, 3)) (ht : (pc : Int) + off = (tgt : Int)) (kk : zK p l e R s m args below meth c Q D A  L cells slots ws tgt st) : zK p l e R s m args below meth c Q D A  L cells slots ws pc st := fun H locs h1 h2 h3 => lv_goto X.1.1 X.1.2.1 hd ht (kk H locs h1 h2 h3)
theorem zk_icmpge {off : Int} {tgt : Nat} {x y : Int32} (X : zKx p R s m args meth c cc nL own D cs A lv mc ms) (hd : decode cc pc = .ok (.if_icmp .ge off, 3)) (ht : (pc : Int) + off = (tgt : Int)) (kt : y ≤ x → zK p l e R s m args below meth c Q D A  L cells slots ws tgt st) (kf : ¬ y ≤ x → zK p l e R s m args below meth c Q D A  L cells slots ws (pc + 3) st) : zK p l e R s m args below meth c Q D A  L cells slots ws pc (.int y :: .int x :: st) := fun H locs h1 h2 h3 => lv_icmp_ge X.1.1 X.1.2.1 hd ht (fun h => kt h H locs h1 h2 h3) (fun h => kf h H locs h1 h2 h3)
theorem zk_istore {i : Fin 4} {x : Int32} {v w : List (Nat × Value)} (X : zKx p R s m args meth c cc nL own D cs A lv mc ms) (hd : decode cc pc = .ok (.istore_n i, 1)) (hl : lv_has L nL v) (hn : i.val < nL) (hw : (i.val, Value.int x) :: v.filter (fun q => !(q.1 == i.val) && !(q.1 + 1 == i.val && q.2.category == 2)) = w) (kk : ∀ L' : Array Slot, lv_has L' nL w → zK p l e R s m args below meth c Q D A  L' cells slots ws (pc + 1) st) : zK p l e R s m args below meth c Q D A  L cells slots ws pc (.int x :: st) := fun H locs h1 h2 h3 => lv_istore_n X.1.1 X.1.2.1 hd rfl hl hn hw (fun L' h => kk L' h H locs h1 h2 h3)
theorem zk_iinc {i k : Nat} {n : Int} {x y : Int32} {v w : List (Nat × Value)} (X : zKx p R s m args meth c cc nL own D cs A lv mc ms) (hd : decode cc pc = .ok (.iinc i n, 3)) (hl : lv_has L nL v) (hk : v[k]? = some (i, .int x)) (hy : x + Int32.ofInt n = y) (hn : i < nL) (hw : (i, Value.int y) :: v.filter (fun q => !(q.1 == i) && !(q.1 + 1 == i && q.2.category == 2)) = w) (kk : ∀ L' : Array Slot, lv_has L' nL w → zK p l e R s m args below meth c Q D A  L' cells slots ws (pc + 3) st) : zK p l e R s m args below meth c Q D A  L cells slots ws pc st := fun H locs h1 h2 h3 => lv_iinc X.1.1 X.1.2.1 hd hl hk hy hn hw (fun L' h => kk L' h H locs h1 h2 h3)
/-- a new row of numbers -/
theorem zk_newarr {t0 : Nat} {atype : ArrayType} {ty : FieldType} {cA : ClassId} {n : Int32} {N : Nat} {a0 : vp_A} (X : zKx p R s m args meth c cc nL own D cs A lv mc ms) (harr : Cond.arrayClass (newarray.typeOf atype) ∈ zTbl) (hty : newarray.typeOf atype = ty) (ht : (zTys cs)[t0]? = some (cA, ty)) (hra : ∀ cB : ClassId, va_RA s cB ty → va_RA s cA ty → cB = cA)
    (ha : ∀ cA : ClassId, vp_cell cA a0 = arrV cA N (fun _ => defaultValue ty)) (hn : ¬ n < 0) (hN : n.toNatClampNeg = N) (hbytes : N * componentBytes ty ≤ 536870912) (hc : cells + 1 ≤ mc) (hs : slots + N ≤ ms) (hd : decode cc pc = .ok (.newarray atype, 2))
    (kk : ∀ q : Nat, zK p l e R s m args below meth c Q D A  L (cells + 1) (slots + N) (ws ++ [(q, .inl (cA, a0))]) (pc + 2) (.ref q :: st)) : zK p l e R s m args below meth c Q D A  L cells slots ws pc (.int n :: st) := by
  intro H locs hP hD hS
  obtain ⟨⟨hx, hb, hml, hown, hts⟩, hG, hA, hR⟩ := X
  refine va_newa hx hb (hts _ harr) hty hG.1 hP hD hS hA ha hn hN hbytes (by omega) (by omega) hd (fun q cB H1 hK1 hP1 hD1 hS1 => ?_)
  have hlen : (zTys cs).length = 5 := rfl
  have h1 := (hK1.2 5 (cB, ty) (by rw [List.getElem?_append_right (by rw [hlen]; exact Nat.le_refl 5), hlen]; rfl)).2
  have h2 := (hG.1.2 t0 (cA, ty) ht).2
  obtain rfl := hra cB h1 h2
  exact kk q H1 locs hP1 hD1 hS1
theorem zra_p {U : State} {cA cB : ClassId} {nm : String} (h1 : U.vm.findClass nm = some cB) (h2 : U.vm.findClass nm = some cA) : cB = cA := Option.some.inj (h1.symm.trans h2)
/-- a new row of references -/
theorem zk_newq {idx : Nat} {n : Int32} {N : Nat} (X : zKx p R s m args meth c cc nL own D cs A lv mc ms) (h1 : Cond.classLink own idx "SandRails$Orders" ∈ zTbl) (hn : ¬ n < 0) (hN : n.toNatClampNeg = N) (hbytes : N * 4 ≤ 536870912) (hc : cells + 1 ≤ mc) (hs : slots + N ≤ ms) (hd : decode cc pc = .ok (.anewarray idx, 3))
    (kk : ∀ q : Nat, zK p l e R s m args below meth c Q D A  L (cells + 1) (slots + N) (ws ++ [(q, .inl (cs 4, N, .inr (.inr (.inr (.inr (fun _ => none))))))]) (pc + 3) (.ref q :: st)) : zK p l e R s m args below meth c Q D A  L cells slots ws pc (.int n :: st) := by
  intro H locs hP hD hS
  obtain ⟨⟨hx, hb, hml, hown, hts⟩, hG, hA, hR⟩ := X
  refine va_newq hx hb hown (hts _ h1) hG.2.2 hG.1 hP hD hS hA hn hN hbytes (by omega) (by omega) hd (fun q cB H1 hK1 hP1 hD1 hS1 => ?_)
  have hlen : (zTys cs).length = 5 := rfl
  have g1 := (hK1.2 5 (cB, .object "SandRails$Orders") (by rw [List.getElem?_append_right (by rw [hlen]; exact Nat.le_refl 5), hlen]; rfl)).2
  have g2 := (hG.1.2 4 (cs 4, .object "SandRails$Orders") rfl).2
  obtain ⟨-, -, -, -, -, q1⟩ := g1
  obtain ⟨-, -, -, -, -, q2⟩ := g2
  obtain rfl := zra_p q1 q2
  exact kk q H1 locs hP1 hD1 hS1
/-- a new object -/
theorem zk_new {ci idx N : Nat} {C : String} {T : u_T} {df : List Value} {ty : Nat → FieldType} (X : zKx p R s m args meth c cc nL own D cs A lv mc ms) (hc : zCl[ci]? = some (C, T, N)) (hin : ∀ w ∈ u_ws C T N, w ∈ zTbl) (hty : ∀ k, k < N → parseFieldDescriptor (T k).2.2.1 = some (ty k)) (hfs : ∀ j, j < N → defaultValue (ty j) = vp_V df j)
    (h1 : Cond.classLink own idx C ∈ zTbl) (h2 : Cond.instantiable C N ∈ zTbl) (h3 : Cond.initialized C ∈ zTbl) (hcc : cells + 1 ≤ mc) (hs : slots + N ≤ ms) (hd : decode cc pc = .ok (.new idx, 3))
    (kk : ∀ q : Nat, zK p l e R s m args below meth c Q D A  L (cells + 1) (slots + N) (ws ++ [(q, .inr (ci, df))]) (pc + 3) (.ref q :: st)) : zK p l e R s m args below meth c Q D A  L cells slots ws pc st := by
  intro H locs hP hD hS
  obtain ⟨⟨hx, hb, hml, hown, hts⟩, hG, hA, hR⟩ := X
  exact va_new hx hb hts hin ty hty hown (hts _ h1) (hts _ h2) (hts _ h3) hG.1 hP hD hS hA hc hfs (by omega) (by omega) hd (fun q H1 hP1 hD1 hS1 => kk q H1 locs hP1 hD1 hS1)
/-- Object's own constructor -/
theorem zk_obj {idx a : Nat} (X : zKx p R s m args meth c cc nL own D cs A lv mc ms) (hls : L.size = nL) (h1 : Cond.methodLink own idx Lib.objectInit ∈ zTbl) (h2 : Cond.instanceMethod Lib.objectInit ∈ zTbl) (h3 : Cond.code Lib.objectInit ⟨#[0xb1]⟩ 1 none ∈ zTbl) (hd : decode cc pc = .ok (.invokespecial idx, 3)) (kk : zK p l e R s m args below meth c Q D A  L cells slots ws (pc + 3) []) : zK p l e R s m args below meth c Q D A  L cells slots ws pc [.ref a] := by
  intro H locs hP hD hS
  obtain ⟨⟨hx, hb, hml, hown, hts⟩, hG, hA, hR⟩ := X
  exact W.objInit hx hb hown (hts _ h1) (hts _ h2) (hts _ h3) rfl (hls.trans hml.symm) rfl hd (by omega) (by show 2 * 0 + 0 + 12 ≤ _; omega) (kk H locs hP hD hS)
/-- a field of the object under construction -/
theorem zk_put {q0 a k ci f : Nat} {q : vw_C} {fs : List Value} {v : Value} {ty : FieldType} (X : zKx p R s m args meth c cc nL own D cs A lv mc ms) (hcl : zClok) (hin : meth.name = "<init>") (hq : zCl[ci]? = some q) (hqo : q.1 = own) (hlt : f < q.2.2) (hdec : (q.2.1 f).1 = q.1) (hlk : Cond.fieldLink own k q.1 (q.2.1 f).2.1 (q.2.1 f).2.2.1 ∈ zTbl) (he : ws[q0]? = some (a, .inr (ci, fs))) (hlf : f < fs.length) (hty : parseFieldDescriptor (q.2.1 f).2.2.1 = some ty) (hn : narrow ty v = v) (hfit : fits ty v = true) (hd : decode cc pc = .ok (.putfield k, 3))
    (kk : zK p l e R s m args below meth c Q D A  L cells slots (ws.set q0 (a, .inr (ci, fs.set f v))) (pc + 3) st) : zK p l e R s m args below meth c Q D A  L cells slots ws pc (v :: .ref a :: st) := by
  intro H locs hP hD hS
  obtain ⟨⟨hx, hb, hml, hown, hts⟩, hG, hA, hR⟩ := X
  obtain ⟨hws, ty0, hty0, hnm⟩ := hcl ci q hq
  cases hf : (q.2.1 f).2.2.2 with
  | false => exact va_put hx hb hts hws ty0 hty0 hnm hown hG.1 hP hD hS q0 he hq f hlt (hts _ hlk) (fun x h => by rw [hdec] at h; exact h) hf hty hn hfit hlf hd (fun H1 locs1 g1 g2 g3 => kk H1 locs1 g1 g2 g3)
  | true => exact va_putF hx hb hts hws ty0 hty0 hnm hown hG.1 hP hD hS q0 he hq f hlt (hts _ hlk) (fun x h => by rw [hdec] at h; exact h) hf hin (by rw [hdec, hqo]) hty hn hfit hlf hd (fun H1 locs1 g1 g2 g3 => kk H1 locs1 g1 g2 g3)
theorem zk_get {q0 a k ci f : Nat} {q : vw_C} {fs : List Value} {v : Value} (X : zKx p R s m args meth c cc nL own D cs A lv mc ms) (hcl : zClok) (hq : zCl[ci]? = some q) (hlt : f < q.2.2) (hdec : (q.2.1 f).1 = q.1) (hlk : Cond.fieldLink own k q.1 (q.2.1 f).2.1 (q.2.1 f).2.2.1 ∈ zTbl) (he : ws[q0]? = some (a, .inr (ci, fs))) (hv : fs[f]? = some v) (hd : decode cc pc = .ok (.getfield k, 3))
    (kk : zK p l e R s m args below meth c Q D A  L cells slots ws (pc + 3) (v :: st)) : zK p l e R s m args below meth c Q D A  L cells slots ws pc (.ref a :: st) := by
  intro H locs hP hD hS
  obtain ⟨⟨hx, hb, hml, hown, hts⟩, hG, hA, hR⟩ := X
  obtain ⟨hws, ty0, hty0, hnm⟩ := hcl ci q hq
  exact va_get hx hb hts hws hown hG.1 hP q0 he hq f hlt (hts _ hlk) (fun x h => by rw [hdec] at h; exact h) hv hd (kk H locs hP hD hS)
/-- a number into a new row; an object into a new row -/
theorem zk_iastore {q0 a n : Nat} {f : Nat → Int32} {i x : Int32} (X : zKx p R s m args meth c cc nL own D cs A lv mc ms) (ha : ws[q0]? = some (a, .inl (cs 0, n, .inl f))) (hin : vp_in i n) (hd : decode cc pc = .ok (.iastore, 1)) (kk : zK p l e R s m args below meth c Q D A  L cells slots (ws.set q0 (a, .inl (cs 0, n, .inl (upd f i.toNatClampNeg x)))) (pc + 1) st) : zK p l e R s m args below meth c Q D A  L cells slots ws pc (.int x :: .int i :: .ref a :: st) := by
  intro H locs hP hD hS
  exact va_iast X.1.1 X.1.2.1 X.2.1.1 hP hD hS q0 0 ha rfl hin hd (fun H1 locs1 g1 g2 g3 => kk H1 locs1 g1 g2 g3)
theorem zk_aastore {q0 qk a n v : Nat} {r : vw_C} {vs : List Value} {f : Nat → Option Nat} {i : Int32} (X : zKx p R s m args meth c cc nL own D cs A lv mc ms) (ha : ws[q0]? = some (a, .inl (cs 4, n, .inr (.inr (.inr (.inr f)))))) (hv : ws[qk]? = some (v, .inr (3, vs))) (hin : vp_in i n) (hd : decode cc pc = .ok (.aastore, 1)) (kk : zK p l e R s m args below meth c Q D A  L cells slots (ws.set q0 (a, .inl (cs 4, n, .inr (.inr (.inr (.inr (va_up f i.toNatClampNeg (some v)))))))) (pc + 1) st) : zK p l e R s m args below meth c Q D A  L cells slots ws pc (.ref v :: .int i :: .ref a :: st) := by
  intro H locs hP hD hS
  exact va_astq X.1.1 X.1.2.1 X.2.1.1 hP hD hS q0 4 qk 3 (r := (RX3, TX3, 4)) ha rfl hv rfl hin hd (fun H1 locs1 g1 g2 g3 => kk H1 locs1 g1 g2 g3)
theorem zjoinD {pre w2 : va_W} {q : Nat} {e1 : va_E} {H : Heap} (hP : va_P D zCl (pre ++ [(q, e1)]) H) (hD : va_D A (pre ++ [(q, e1)])) (h2 : va_D (zB q H.size) w2) (hA : ∀ x, H.size ≤ x → A x) : va_D A (pre ++ w2) := by
  have hl : ∀ (i : Nat) (x : Nat × va_E), i < pre.length → (pre ++ w2)[i]? = some x → (pre ++ [(q, e1)])[i]? = some x := fun i x hi h => by
    rw [List.getElem?_append_left hi] at h ⊢
    exact h
  have hr : ∀ (i : Nat) (x : Nat × va_E), ¬ i < pre.length → (pre ++ w2)[i]? = some x → w2[i - pre.length]? = some x := fun i x hi h => by
    rw [List.getElem?_append_right (by omega)] at h
    exact h
  have hq : (pre ++ [(q, e1)])[pre.length]? = some (q, e1) := by rw [List.getElem?_append_right (Nat.le_refl _), Nat.sub_self]; rfl
  have hx : ∀ (i j : Nat) (x y : Nat × va_E), i < pre.length → ¬ j < pre.length → (pre ++ w2)[i]? = some x → (pre ++ w2)[j]? = some y → x.1 ≠ y.1 := fun i j x y hi hj h1 h3 hxy => by
    have a1 := hl i x hi h1
    rcases h2.2 _ _ (hr j y hj h3) with z | z
    · have := hD.1 i pre.length x (q, e1) a1 hq (hxy.trans z)
      omega
    · have := vx_lt hP a1
      omega
  refine ⟨fun i j x y hi hj hxy => ?_, fun k x hk => ?_⟩
  · by_cases h1 : i < pre.length
    · by_cases h3 : j < pre.length
      · exact hD.1 i j x y (hl i x h1 hi) (hl j y h3 hj) hxy
      · exact absurd hxy (hx i j x y h1 h3 hi hj)
    · by_cases h3 : j < pre.length
      · exact absurd hxy.symm (hx j i y x h3 h1 hj hi)
      · have := h2.1 _ _ x y (hr i x h1 hi) (hr j y h3 hj) hxy
        omega
  · by_cases h1 : k < pre.length
    · exact hD.2 k x (hl k x h1 hk)
    · rcases h2.2 _ _ (hr k x h1 hk) with z | z
      · rw [z]; exact hD.2 _ _ hq
      · exact hA _ z
/-- a constructor is called on the newest cell -/
theorem zk_init {y : MethodName} {code : ByteArray} {maxL lv' mc' ms' ci idx q : Nat} {df : List Value} {F : (Nat → ClassId) → Nat → (Nat → Nat) → va_W} {pre : va_W} (X : zKx p R s m args meth c cc nL own D cs A lv mc ms) (hls : L.size = nL) (hM : zCon l y code maxL lv' mc' ms' ci df F) (hlv : lv' < lv) (hmx : maxL ≤ 20) (hnm : zNm y 0) (hyn : y.name = "<init>") (hcode : Cond.code y code maxL none ∈ zTbl) (hini : Cond.initialized y.cls ∈ zTbl) (hin : Cond.instanceMethod y ∈ zTbl) (hlk : Cond.methodLink own idx y ∈ zTbl ∨ ∃ host, Cond.methodLinkNest own idx y host ∈ lw_tbl) (hc : cells + mc' ≤ mc) (hs : slots + ms' ≤ ms) (hcat : (st.map fun v => v.category).sum ≤ 8) (hd : decode cc pc = .ok (.invokespecial idx, 3))
    (kk : ∀ u : Nat → Nat, zK p l e R s m args below meth c Q D A  L (cells + mc') (slots + ms') (pre ++ F cs q u) (pc + 3) st) : zK p l e R s m args below meth c Q D A  L cells slots (pre ++ [(q, .inr (ci, df))]) pc (.ref q :: st) := by
  intro H locs hP hD hS
  have hXX := X
  obtain ⟨S, hG, hA, hR1, hR2, hR3, hR4⟩ := X
  obtain ⟨hx, hb, hml, hown, hts⟩ := id S
  have hqa : (pre ++ [(q, .inr (ci, df))])[pre.length]? = some (q, .inr (ci, df)) := by rw [List.getElem?_append_right (Nat.le_refl _), Nat.sub_self]; rfl
  have hq : q < H.size := vx_lt hP hqa
  have hA1 : ∀ x, H.size ≤ x → A x := fun x h => hA x (Nat.le_trans hS.1 h)
  have hP1 : va_P D zCl [(q, .inr (ci, df))] H := fun k x hk => by
    have hk0 : k = 0 := by
      have := (List.getElem?_eq_some_iff.mp hk).1
      simp at this; omega
    subst hk0
    cases hk
    exact hP _ _ hqa
  have hp : PreS s H (va_Pc [.ref q] (fun U => U.heap.size = H.size ∧ q < H.size ∧ zCg D cs U ∧ va_P D zCl [(q, .inr (ci, df))] U.heap)) [.ref q] := by
    refine ⟨fun a U g mk h => ?_, fun U hU hW => ⟨rfl, by rw [hU], hq, zCg_warm hG hW, by rw [hU]; exact hP1⟩⟩
    obtain ⟨h1, h2, h3, h4, h5⟩ := h
    exact ⟨h1, h2, h3, zCg_same (U := U.calling g mk a) h4 rfl, h5⟩
  have hcw : 2 * (F0 m pc L (.ref q :: st)).monitorRoom + (st.map fun v => v.category).sum ≤ 8 := lv_room hcat
  have run : va_Run p l e R s m args below meth c H locs cells slots mc' ms' (F0 m pc L (.ref q :: st)) st (va_Qv (S := Nat → Nat) (fun _ => True) (fun u t => va_P D zCl (F cs q u) t.heap ∧ va_D (zB q H.size) (F cs q u)) (zB q H.size) (Value.ref q :: []).toArray) (zB q H.size) := by
    rcases hlk with hlk | ⟨host, hlk⟩
    · exact va_runI (As := []) (n := 0) S (hM D cs q H.size) ⟨⟨rfl, rfl, by show lv' + 2 + 1 ≤ _; omega, by show 8 + (maxL + 11) + (40 * lv' + 100) ≤ _; omega, zwords hts hcode, List.mem_cons_self, hts _ hcode, hts _ hini, hnm.1, zparams hnm.2, hts _ hlk⟩, hyn, hts _ hin⟩ hp rfl rfl hls rfl hcw hd ⟨by omega, by omega⟩
    · exact va_runIN (As := []) (n := 0) (host := host) S (hM D cs q H.size) ⟨⟨⟨rfl, rfl, by show lv' + 2 + 1 ≤ _; omega, by show 8 + (maxL + 11) + (40 * lv' + 100) ≤ _; omega, zwords hts hcode, List.mem_cons_self⟩, hts _ hcode, hts _ hini, hnm.1, zparams hnm.2, va_Nw.use rfl (hG.2.1 _ hlk rfl)⟩, hyn, hts _ hin⟩ hp rfl rfl hls rfl hcw hd ⟨by omega, by omega⟩
  refine va_callv run hS (fun x _ h => ?_) (fun x h => ?_) (fun u t H1 locs1 ht _ _ hB hsz hk hS1 => kk u H1 locs1 ?_ (zjoinD hP hD hB.2 hA1) hS1)
  · rcases h with h | h
    · rw [h]; exact hD.2 _ _ hqa
    · exact hA1 x h
  · rcases h with h | h
    · rw [h]; exact hD.2 _ _ hqa
    · exact hA1 x h
  · refine va_P.app (fun k x hkx => ?_) (by rw [← ht]; exact hB.1)
    have hlt : k < pre.length := (List.getElem?_eq_some_iff.mp hkx).1
    have hkx' : (pre ++ [(q, .inr (ci, df))])[k]? = some x := by rw [List.getElem?_append_left hlt]; exact hkx
    have hxl := vx_lt hP hkx'
    refine (hP k x hkx').kept (hk x.1 hxl (fun z => ?_))
    rcases z with z | z
    · have := hD.1 k pre.length x _ hkx' hqa z
      omega
    · omega
end ZKR
/-- from the rows to the constructor's contract -/
theorem zCon_of {l : Launch} {y : MethodName} {code : ByteArray} {maxL lv mc ms ci : Nat} {df : List Value} {F : (Nat → ClassId) → Nat → (Nat → Nat) → va_W} {own : String} (hy : plainName y.cls = true) (how : y.cls = own) (hyn : y.name = "<init>") (hmx : 1 ≤ maxL)
    (body : ∀ (p : Program) (e : Env) (s : State) (m : MethodId) (args : Array Value) (below : List Frame) (meth : Method) (c : Code) (Q : State → Prop) (D : va_G) (cs : Nat → ClassId) (A : Nat → Prop) (L : Array Slot) (a : Nat), zKx p (zRmC lv mc ms) s m args meth c code maxL own D cs A lv mc ms → meth.name = "<init>" → lv_has L maxL [(0, .ref a)] → (∀ (L' : Array Slot) (pc : Nat) (u : Nat → Nat), decode code pc = .ok (.return_, 1) → zK p l e (zRmC lv mc ms) s m args below meth c Q D A L' mc ms (F cs a u) pc []) → zK p l e (zRmC lv mc ms) s m args below meth c Q D A L 0 0 [(a, .inr (ci, df))] 0 []) : zCon l y code maxL lv mc ms ci df F := by
  intro D cs a sz
  refine Met.ofW (cc := code) (maxL := maxL) (ret := none) hy rfl ?_
  intro p e s m args below meth c s₁ Bd hml hv
  obtain ⟨rfl, hsz, hlt, hG, hP⟩ := hv
  subst hsz
  have hx := Bd.exec
  have hb := Bd.bytes
  have hr := Bd.returns
  have hts0 := atoms_spec (ws := Cond.code y code maxL none :: zTbl) Bd.pre
  have hts : ∀ w ∈ zTbl, w.before ([Value.ref a]).toArray s = true := fun w hw => hts0 w (List.mem_cons_of_mem _ hw)
  have hown : s.vm.findClass own = some m.cls := how ▸ findClass_of_methodNamed Bd.named
  have hlocks := Bd.notSynchronized
  have hin : meth.name = "<init>" := (name_of_methodNamed Bd.named Bd.method).1.trans hyn
  have hl := lv_entry ([.ref a]) (n := maxL) (by show 1 ≤ maxL; exact hmx)
  rw [lg_entry_eq]
  generalize (lg_sl ([.ref a]) ++ List.replicate (maxL - (lg_sl ([.ref a])).length) Slot.unset).toArray = L at hl ⊢
  have hl : lv_has L maxL [(0, .ref a)] := hl
  have hD : va_D (zB a s.heap.size) [(a, .inr (ci, df))] := by
    have h0 : ∀ (k : Nat) (q : Nat × va_E), [((a, .inr (ci, df)) : Nat × va_E)][k]? = some q → k = 0 ∧ q.1 = a := fun k q hk => by
      have hk0 : k = 0 := by
        have := (List.getElem?_eq_some_iff.mp hk).1
        simp at this; omega
      subst hk0
      cases hk
      exact ⟨rfl, rfl⟩
    exact ⟨fun i j x y hi hj _ => by rw [(h0 i x hi).1, (h0 j y hj).1], fun k q hk => Or.inl (h0 k q hk).2⟩
  refine body p e s m _ below meth c _ D cs (zB a s.heap.size) L a ⟨⟨hx, hb, hml, hown, hts⟩, hG, fun q h => Or.inr h, Nat.le_refl _, Nat.le_refl _, Nat.le_refl _, Nat.le_refl _⟩ hin hl (fun L' pc u hd H locs hP' hD' hS' => ?_) s.heap [] hP hD va_S.rf
  exact W.vret hx hb hr (fun t ht _ => ⟨⟨u, rfl, trivial, by rw [ht]; exact hP', hD'⟩, hS'.F ht⟩) hS'.2.2 hd
