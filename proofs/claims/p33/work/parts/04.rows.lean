/-! ===== the rows of the abstract machine ===== -/
abbrev zCl : List vw_C := [(RX0, TX0, 3), (RX1, TX1, 4), (RX2, TX2, 7), (RX3, TX3, 4), (RX4, TX4, 6), (RX5, TX5, 9), (RX6, TX6, 5), (RX7, TX7, 2), (RX8, TX8, 9), (RX9, TX9, 10), (RX10, TX10, 9), (RX11, TX11, 25)]
def zTys (cs : Nat → ClassId) : List (ClassId × FieldType) := [(cs 0, .int), (cs 1, .long), (cs 2, .boolean), (cs 3, .byte), (cs 4, .object "SandRails$Orders")]
/-- the machine, at an abstract state -/
def zAW (p : Program) (l : Launch) (e : Env) (R : Room) (s : State) (m : MethodId) (args : Array Value) (below : List Frame) (meth : Method) (c : Code) (cells slots : Nat) (Q : State → Prop) (nL : Nat) (Λ : List zC) (D : va_G) (ad sa : Nat → Nat) (cs : Nat → ClassId) (A : Nat → Prop) (pc : Nat) (ls : zL) (st : List zV) (mem : zM) : Prop :=
  zokM Λ mem → (∀ v ∈ st, zok v) → (∀ k, zok (ls k)) → ∀ (H : Heap) (locs : List Loc) (L : Array Slot), va_P D zCl (zWd Λ ad cs mem) H → va_D A (zWd Λ ad cs mem) → zLs ad sa nL ls L → va_S A s.heap H locs → W p l e R s m args below meth c  H locs cells slots Q (F0 m pc L (st.map (zE ad sa)))
section ZR
variable {p : Program} {l : Launch} {e : Env} {R : Room} {s : State} {m : MethodId} {args : Array Value} {below : List Frame} {meth : Method} {c : Code} {cells slots : Nat} {Q : State → Prop} {cc : ByteArray} {nL : Nat} {own : String} {Λ : List zC} {D : va_G} {ad sa : Nat → Nat} {cs : Nat → ClassId} {A : Nat → Prop} {pc : Nat} {ls : zL} {st : List zV} {mem : zM}
theorem zok_i (z : Int32) : zok (0, z.toInt) := ⟨fun _ => zi_rng z, fun h => absurd h (by decide : ¬ (0 : Nat) = 1)⟩
theorem zok_l (z : Int64) : zok (1, z.toInt) := ⟨fun h => absurd h (by decide : ¬ (1 : Nat) = 0), fun _ => zl_rng z⟩
theorem zok_r (x : Int) : zok (2, x) := ⟨fun h => absurd h (by decide : ¬ (2 : Nat) = 0), fun h => absurd h (by decide : ¬ (2 : Nat) = 1)⟩
theorem zok_c (x : Int) : zok (3, x) := ⟨fun h => absurd h (by decide : ¬ (3 : Nat) = 0), fun h => absurd h (by decide : ¬ (3 : Nat) = 1)⟩
theorem zok_n : zok (9, 0) := ⟨fun h => absurd h (by decide : ¬ (9 : Nat) = 0), fun h => absurd h (by decide : ¬ (9 : Nat) = 1)⟩
theorem zok_i' {x : Int} (h : zR32 x) : zok (0, x) := ⟨fun _ => h, fun h => absurd h (by decide : ¬ (0 : Nat) = 1)⟩
theorem zok_l' {x : Int} (h : zR64 x) : zok (1, x) := ⟨fun h => absurd h (by decide : ¬ (1 : Nat) = 0), fun _ => h⟩
theorem zE_i (z : Int32) : zE ad sa (0, z.toInt) = .int z := congrArg Value.int (zi_of z)
theorem zE_l (z : Int64) : zE ad sa (1, z.toInt) = .long z := congrArg Value.long (zl_of z)
theorem zcons {v : zV} {st : List zV} (h : zok v) (hs : ∀ w ∈ st, zok w) : ∀ w ∈ v :: st, zok w := fun w hw => (List.mem_cons.mp hw).elim (fun e => e ▸ h) (hs w)
theorem ztl {v : zV} {st : List zV} (hs : ∀ w ∈ v :: st, zok w) : ∀ w ∈ st, zok w := fun w hw => hs w (List.mem_cons_of_mem _ hw)
theorem zhd {v : zV} {st : List zV} (hs : ∀ w ∈ v :: st, zok w) : zok v := hs v List.mem_cons_self
theorem zhi {x : Int} {st : List zV} (hs : ∀ w ∈ ((0 : Nat), x) :: st, zok w) : zR32 x := (zhd hs).1 rfl
theorem zhl {x : Int} {st : List zV} (hs : ∀ w ∈ ((1 : Nat), x) :: st, zok w) : zR64 x := (zhd hs).2 rfl
/-- a number that an instruction makes of two ints -/
theorem zs_ii {x y r : Int} {f : Int32} (hr : r = f.toInt) (row : ∀ (H : Heap) (locs : List Loc) (L : Array Slot) (rest : List Value), W p l e R s m args below meth c  H locs cells slots Q (F0 m (pc + 1) L (.int f :: rest)) → W p l e R s m args below meth c  H locs cells slots Q (F0 m pc L (.int (Int32.ofInt y) :: .int (Int32.ofInt x) :: rest)))
    (k : zAW p l e R s m args below meth c cells slots Q nL Λ D ad sa cs A  (pc + 1) ls ((0, r) :: st) mem) : zAW p l e R s m args below meth c cells slots Q nL Λ D ad sa cs A  pc ls ((0, y) :: (0, x) :: st) mem := by
  intro hm hs hl H locs L hP hD hL hS
  subst hr
  have h := k hm (zcons (zok_i f) (ztl (ztl hs))) hl H locs L hP hD hL hS
  rw [List.map_cons, zE_i] at h
  exact row H locs L _ h
theorem zs_i1 {x r : Int} {f : Int32} (hr : r = f.toInt) (row : ∀ (H : Heap) (locs : List Loc) (L : Array Slot) (rest : List Value), W p l e R s m args below meth c  H locs cells slots Q (F0 m (pc + 1) L (.int f :: rest)) → W p l e R s m args below meth c  H locs cells slots Q (F0 m pc L (.int (Int32.ofInt x) :: rest)))
    (k : zAW p l e R s m args below meth c cells slots Q nL Λ D ad sa cs A  (pc + 1) ls ((0, r) :: st) mem) : zAW p l e R s m args below meth c cells slots Q nL Λ D ad sa cs A  pc ls ((0, x) :: st) mem := by
  intro hm hs hl H locs L hP hD hL hS
  subst hr
  have h := k hm (zcons (zok_i f) (ztl hs)) hl H locs L hP hD hL hS
  rw [List.map_cons, zE_i] at h
  exact row H locs L _ h
theorem zs_ll {x y r : Int} {f : Int64} (hr : r = f.toInt) (row : ∀ (H : Heap) (locs : List Loc) (L : Array Slot) (rest : List Value), W p l e R s m args below meth c  H locs cells slots Q (F0 m (pc + 1) L (.long f :: rest)) → W p l e R s m args below meth c  H locs cells slots Q (F0 m pc L (.long (Int64.ofInt y) :: .long (Int64.ofInt x) :: rest)))
    (k : zAW p l e R s m args below meth c cells slots Q nL Λ D ad sa cs A  (pc + 1) ls ((1, r) :: st) mem) : zAW p l e R s m args below meth c cells slots Q nL Λ D ad sa cs A  pc ls ((1, y) :: (1, x) :: st) mem := by
  intro hm hs hl H locs L hP hD hL hS
  subst hr
  have h := k hm (zcons (zok_l f) (ztl (ztl hs))) hl H locs L hP hD hL hS
  rw [List.map_cons, zE_l] at h
  exact row H locs L _ h
/-- pushing a value -/
theorem zs_push {v : zV} {len : Nat} (hv : zok v) (row : ∀ (H : Heap) (locs : List Loc) (L : Array Slot) (rest : List Value), zLs ad sa nL ls L → va_S A s.heap H locs → W p l e R s m args below meth c  H locs cells slots Q (F0 m (pc + len) L (zE ad sa v :: rest)) → W p l e R s m args below meth c  H locs cells slots Q (F0 m pc L rest))
    (k : zAW p l e R s m args below meth c cells slots Q nL Λ D ad sa cs A  (pc + len) ls (v :: st) mem) : zAW p l e R s m args below meth c cells slots Q nL Λ D ad sa cs A  pc ls st mem := by
  intro hm hs hl H locs L hP hD hL hS
  exact row H locs L _ hL hS (k hm (zcons hv hs) hl H locs L hP hD hL hS)
theorem zs_iconst {n : Int} (hx : p.tables.exec = Jvm.exec) (hb : c.code = cc) (hd : decode cc pc = .ok (.iconst n, 1)) (hn : -1 ≤ n ∧ n ≤ 5) (k : zAW p l e R s m args below meth c cells slots Q nL Λ D ad sa cs A  (pc + 1) ls ((0, n) :: st) mem) : zAW p l e R s m args below meth c cells slots Q nL Λ D ad sa cs A  pc ls st mem :=
  zs_push (zok_i' ⟨by omega, by omega⟩) (fun _ _ _ _ _ _ h => lv_iconst hx hb hd rfl h) k
theorem zb8 {n : Int} (h1 : -128 ≤ n) (h2 : n ≤ 127) : (Int8.ofInt n).toInt32 = Int32.ofInt n := by
  rw [← zi_of (Int8.ofInt n).toInt32, Int8.toInt_toInt32, Int8.toInt_ofInt, show Int8.size = 256 from rfl]
  congr 1
  simp only [Int.bmod]; omega
theorem zb16 {n : Int} (h1 : -32768 ≤ n) (h2 : n ≤ 32767) : (Int16.ofInt n).toInt32 = Int32.ofInt n := by
  rw [← zi_of (Int16.ofInt n).toInt32, Int16.toInt_toInt32, Int16.toInt_ofInt, show Int16.size = 65536 from rfl]
  congr 1
  simp only [Int.bmod]; omega
theorem zs_bipush {n : Int} (hx : p.tables.exec = Jvm.exec) (hb : c.code = cc) (hd : decode cc pc = .ok (.bipush n, 2)) (hn : -128 ≤ n ∧ n ≤ 127) (k : zAW p l e R s m args below meth c cells slots Q nL Λ D ad sa cs A  (pc + 2) ls ((0, n) :: st) mem) : zAW p l e R s m args below meth c cells slots Q nL Λ D ad sa cs A  pc ls st mem :=
  zs_push (zok_i' ⟨by omega, by omega⟩) (fun _ _ _ _ _ _ h => lv_bipush hx hb hd (zb8 hn.1 hn.2) h) k
theorem zs_sipush {n : Int} (hx : p.tables.exec = Jvm.exec) (hb : c.code = cc) (hd : decode cc pc = .ok (.sipush n, 3)) (hn : -32768 ≤ n ∧ n ≤ 32767) (k : zAW p l e R s m args below meth c cells slots Q nL Λ D ad sa cs A  (pc + 3) ls ((0, n) :: st) mem) : zAW p l e R s m args below meth c cells slots Q nL Λ D ad sa cs A  pc ls st mem :=
  zs_push (zok_i' ⟨by omega, by omega⟩) (fun _ _ _ _ _ _ h => lv_sipush hx hb hd (zb16 hn.1 hn.2) h) k
theorem zs_lconst {n : Fin 2} (hx : p.tables.exec = Jvm.exec) (hb : c.code = cc) (hd : decode cc pc = .ok (.lconst n, 1)) (k : zAW p l e R s m args below meth c cells slots Q nL Λ D ad sa cs A  (pc + 1) ls ((1, ((n : Nat) : Int)) :: st) mem) : zAW p l e R s m args below meth c cells slots Q nL Λ D ad sa cs A  pc ls st mem :=
  zs_push (zok_l' ⟨by omega, by omega⟩) (fun _ _ _ _ _ _ h => lv_lconst hx hb hd (by rcases n with ⟨n, hn⟩; match n, hn with | 0, _ => rfl | 1, _ => rfl) h) k
theorem zs_ldc {i : Nat} {n : Int} (hx : p.tables.exec = Jvm.exec) (hb : c.code = cc) (hown : s.vm.findClass own = some m.cls) (hc : (Cond.constant own i (Int32.ofInt n)).before args s = true) (hd : decode cc pc = .ok (.ldc i, 2)) (hn : zR32 n) (k : zAW p l e R s m args below meth c cells slots Q nL Λ D ad sa cs A  (pc + 2) ls ((0, n) :: st) mem) : zAW p l e R s m args below meth c cells slots Q nL Λ D ad sa cs A  pc ls st mem :=
  zs_push (zok_i' hn) (fun _ _ _ _ _ _ h => lv_ldc hx hb hown hc hd h) k
theorem zs_ldcw {i : Nat} {n : Int} (hx : p.tables.exec = Jvm.exec) (hb : c.code = cc) (hown : s.vm.findClass own = some m.cls) (hc : (Cond.constant own i (Int32.ofInt n)).before args s = true) (hd : decode cc pc = .ok (.ldc_w i, 3)) (hn : zR32 n) (k : zAW p l e R s m args below meth c cells slots Q nL Λ D ad sa cs A  (pc + 3) ls ((0, n) :: st) mem) : zAW p l e R s m args below meth c cells slots Q nL Λ D ad sa cs A  pc ls st mem :=
  zs_push (zok_i' hn) (fun _ _ _ _ _ _ h => lv_ldcw hx hb hown hc hd h) k
theorem zs_ldc2 {i : Nat} {n : Int} (hx : p.tables.exec = Jvm.exec) (hb : c.code = cc) (hown : s.vm.findClass own = some m.cls) (hc : (Cond.constantLong own i (Int64.ofInt n)).before args s = true) (hd : decode cc pc = .ok (.ldc2_w i, 3)) (hn : zR64 n) (k : zAW p l e R s m args below meth c cells slots Q nL Λ D ad sa cs A  (pc + 3) ls ((1, n) :: st) mem) : zAW p l e R s m args below meth c cells slots Q nL Λ D ad sa cs A  pc ls st mem :=
  zs_push (zok_l' hn) (fun _ _ _ _ _ _ h => lv_ldc2 hx hb hown hc hd h) k
/-- loads -/
theorem zload {L : Array Slot} {k t : Nat} (hL : zLs ad sa nL ls L) (ht : (ls k).1 = t) (h9 : t ≠ 9) : L[k]? = some (.val (zE ad sa (ls k))) := hL.2.2 k (by rw [ht]; exact h9)
theorem zv_i {v : zV} (h : v.1 = 0) : zE ad sa v = .int (Int32.ofInt v.2) := by obtain ⟨t, x⟩ := v; cases h; rfl
theorem zv_l {v : zV} (h : v.1 = 1) : zE ad sa v = .long (Int64.ofInt v.2) := by obtain ⟨t, x⟩ := v; cases h; rfl
theorem zv_r {v : zV} (h : v.1 = 2 ∨ v.1 = 3) : ∃ x : Nat, zE ad sa v = .ref x := by
  obtain ⟨t, x⟩ := v
  rcases h with h | h <;> cases h
  · exact ⟨ad x.toNat, rfl⟩
  · exact ⟨sa x.toNat, rfl⟩
theorem zs_load {k len : Nat} (row : ∀ (H : Heap) (locs : List Loc) (L : Array Slot) (rest : List Value), zLs ad sa nL ls L → va_S A s.heap H locs → W p l e R s m args below meth c  H locs cells slots Q (F0 m (pc + len) L (zE ad sa (ls k) :: rest)) → W p l e R s m args below meth c  H locs cells slots Q (F0 m pc L rest))
    (kk : zAW p l e R s m args below meth c cells slots Q nL Λ D ad sa cs A  (pc + len) ls (ls k :: st) mem) : zAW p l e R s m args below meth c cells slots Q nL Λ D ad sa cs A  pc ls st mem := by
  intro hm hs hl H locs L hP hD hL hS
  exact row H locs L _ hL hS (kk hm (zcons (hl k) hs) hl H locs L hP hD hL hS)
theorem zs_iload_n {i : Fin 4} (hx : p.tables.exec = Jvm.exec) (hb : c.code = cc) (hd : decode cc pc = .ok (.iload_n i, 1)) (ht : (ls i.val).1 = 0) (kk : zAW p l e R s m args below meth c cells slots Q nL Λ D ad sa cs A  (pc + 1) ls (ls i.val :: st) mem) : zAW p l e R s m args below meth c cells slots Q nL Λ D ad sa cs A  pc ls st mem :=
  zs_load (fun _ _ L _ hL _ h => lv_iload_n hx hb hd rfl (by rw [zload hL ht (by decide), zv_i ht]) (by rw [← zv_i ht]; exact h)) kk
theorem zs_iload {i : Nat} (hx : p.tables.exec = Jvm.exec) (hb : c.code = cc) (hd : decode cc pc = .ok (.iload i, 2)) (ht : (ls i).1 = 0) (kk : zAW p l e R s m args below meth c cells slots Q nL Λ D ad sa cs A  (pc + 2) ls (ls i :: st) mem) : zAW p l e R s m args below meth c cells slots Q nL Λ D ad sa cs A  pc ls st mem :=
  zs_load (fun _ _ L _ hL _ h => lv_iload hx hb hd (by rw [zload hL ht (by decide), zv_i ht]) (by rw [← zv_i ht]; exact h)) kk
theorem zs_lload_n {i : Fin 4} (hx : p.tables.exec = Jvm.exec) (hb : c.code = cc) (hd : decode cc pc = .ok (.lload_n i, 1)) (ht : (ls i.val).1 = 1) (kk : zAW p l e R s m args below meth c cells slots Q nL Λ D ad sa cs A  (pc + 1) ls (ls i.val :: st) mem) : zAW p l e R s m args below meth c cells slots Q nL Λ D ad sa cs A  pc ls st mem :=
  zs_load (fun _ _ L _ hL _ h => lv_lload_n hx hb hd rfl (by rw [zload hL ht (by decide), zv_l ht]) (by rw [← zv_l ht]; exact h)) kk
theorem zs_lload {i : Nat} (hx : p.tables.exec = Jvm.exec) (hb : c.code = cc) (hd : decode cc pc = .ok (.lload i, 2)) (ht : (ls i).1 = 1) (kk : zAW p l e R s m args below meth c cells slots Q nL Λ D ad sa cs A  (pc + 2) ls (ls i :: st) mem) : zAW p l e R s m args below meth c cells slots Q nL Λ D ad sa cs A  pc ls st mem :=
  zs_load (fun _ _ L _ hL _ h => lv_lload hx hb hd (by rw [zload hL ht (by decide), zv_l ht]) (by rw [← zv_l ht]; exact h)) kk
theorem zs_aload_n {i : Fin 4} (hx : p.tables.exec = Jvm.exec) (hb : c.code = cc) (hd : decode cc pc = .ok (.aload_n i, 1)) (ht : (ls i.val).1 = 2 ∨ (ls i.val).1 = 3) (kk : zAW p l e R s m args below meth c cells slots Q nL Λ D ad sa cs A  (pc + 1) ls (ls i.val :: st) mem) : zAW p l e R s m args below meth c cells slots Q nL Λ D ad sa cs A  pc ls st mem := by
  obtain ⟨x, hxx⟩ := zv_r (ad := ad) (sa := sa) ht
  exact zs_load (fun _ _ L _ hL _ h => lv_aload_n hx hb hd rfl (by rw [hL.2.2 i.val (by rcases ht with h | h <;> rw [h] <;> decide), hxx]) (by rw [← hxx]; exact h)) kk
theorem zs_aload {i : Nat} (hx : p.tables.exec = Jvm.exec) (hb : c.code = cc) (hd : decode cc pc = .ok (.aload i, 2)) (ht : (ls i).1 = 2 ∨ (ls i).1 = 3) (kk : zAW p l e R s m args below meth c cells slots Q nL Λ D ad sa cs A  (pc + 2) ls (ls i :: st) mem) : zAW p l e R s m args below meth c cells slots Q nL Λ D ad sa cs A  pc ls st mem := by
  obtain ⟨x, hxx⟩ := zv_r (ad := ad) (sa := sa) ht
  exact zs_load (fun _ _ L _ hL _ h => lv_aload hx hb hd (by rw [hL.2.2 i (by rcases ht with h | h <;> rw [h] <;> decide), hxx]) (by rw [← hxx]; exact h)) kk
/-- stores -/
theorem zst_ok {ls : zL} {i : Nat} {v : zV} (hv : zok v) (hl : ∀ k, zok (ls k)) : ∀ k, zok (zst ls i v k) := by
  intro k
  simp only [zst]
  split
  · exact hv
  · split
    · exact zok_n
    · exact hl k
theorem zst2_ok {ls : zL} {i : Nat} {v : zV} (hv : zok v) (hl : ∀ k, zok (ls k)) : ∀ k, zok (zst2 ls i v k) := by
  intro k
  simp only [zst2]
  split
  · exact hv
  · split
    · exact zok_n
    · split
      · exact zok_n
      · exact hl k
def zas (ad sa : Nat → Nat) (ls : zL) (nL : Nat) : List (Nat × Value) := (List.range nL).filterMap fun k => if (ls k).1 = 9 then none else some (k, zE ad sa (ls k))
theorem zas_has {L : Array Slot} (h : zLs ad sa nL ls L) : lv_has L nL (zas ad sa ls nL) := by
  refine ⟨h.1, h.2.1, fun q hq => ?_⟩
  obtain ⟨k, -, hk⟩ := List.mem_filterMap.mp hq
  by_cases h9 : (ls k).1 = 9
  · rw [if_pos h9] at hk; cases hk
  · rw [if_neg h9] at hk
    cases hk
    exact h.2.2 k h9
theorem zas_in {L : Array Slot} (h : zLs ad sa nL ls L) {k : Nat} (h9 : (ls k).1 ≠ 9) : (k, zE ad sa (ls k)) ∈ zas ad sa ls nL := by
  have hlt : k < nL := by rw [← h.1]; exact lv_lt (h.2.2 k h9)
  exact List.mem_filterMap.mpr ⟨k, List.mem_range.mpr hlt, by rw [if_neg h9]⟩
theorem zas_st {L L' : Array Slot} {i : Nat} {v : zV} {lv' : List (Nat × Value)} (hL : zLs ad sa nL ls L) (hl : (i, zE ad sa v) :: (zas ad sa ls nL).filter (fun q => !(q.1 == i) && !(q.1 + 1 == i && q.2.category == 2)) = lv') (h : lv_has L' nL lv') : zLs ad sa nL (zst ls i v) L' := by
  refine ⟨h.1, h.2.1, fun k h9 => h.2.2 (k, zE ad sa (zst ls i v k)) ?_⟩
  subst hl
  by_cases hk : k = i
  · subst hk
    rw [show zst ls k v k = v by simp [zst]]
    exact List.mem_cons_self
  · by_cases hq : k + 1 = i ∧ (ls k).1 = 1
    · exact absurd (show (zst ls i v k).1 = 9 by simp [zst, hk, hq]) h9
    · have he : zst ls i v k = ls k := by simp only [zst]; rw [if_neg hk, if_neg hq]
      rw [he] at h9 ⊢
      refine List.mem_cons_of_mem _ (List.mem_filter.mpr ⟨zas_in hL h9, ?_⟩)
      simp only [Bool.and_eq_true, Bool.not_eq_true', beq_eq_false_iff_ne, ne_eq, Bool.and_eq_false_iff]
      refine ⟨hk, ?_⟩
      by_cases h1 : k + 1 = i
      · right
        rw [zE_cat]
        rw [if_neg (fun z => hq ⟨h1, z⟩)]
        decide
      · exact Or.inl h1
theorem zas_st2 {L L' : Array Slot} {i : Nat} {v : zV} {lv' : List (Nat × Value)} (hL : zLs ad sa nL ls L) (hl : (i, zE ad sa v) :: (zas ad sa ls nL).filter (fun q => !(q.1 == i) && (!(q.1 == i + 1) && !(q.1 + 1 == i && q.2.category == 2))) = lv') (h : lv_has L' nL lv') : zLs ad sa nL (zst2 ls i v) L' := by
  refine ⟨h.1, h.2.1, fun k h9 => h.2.2 (k, zE ad sa (zst2 ls i v k)) ?_⟩
  subst hl
  by_cases hk : k = i
  · subst hk
    rw [show zst2 ls k v k = v by simp [zst2]]
    exact List.mem_cons_self
  · by_cases hk2 : k = i + 1
    · exact absurd (show (zst2 ls i v k).1 = 9 by simp [zst2, hk, hk2]) h9
    · by_cases hq : k + 1 = i ∧ (ls k).1 = 1
      · exact absurd (show (zst2 ls i v k).1 = 9 by simp only [zst2]; rw [if_neg hk, if_neg hk2, if_pos hq]) h9
      · have he : zst2 ls i v k = ls k := by simp only [zst2]; rw [if_neg hk, if_neg hk2, if_neg hq]
        rw [he] at h9 ⊢
        refine List.mem_cons_of_mem _ (List.mem_filter.mpr ⟨zas_in hL h9, ?_⟩)
        simp only [Bool.and_eq_true, Bool.not_eq_true', beq_eq_false_iff_ne, ne_eq, Bool.and_eq_false_iff]
        refine ⟨hk, hk2, ?_⟩
        by_cases h1 : k + 1 = i
        · right
          rw [zE_cat]
          rw [if_neg (fun z => hq ⟨h1, z⟩)]
          decide
        · exact Or.inl h1
theorem zs_istore_n {i : Fin 4} {x : Int} (hx : p.tables.exec = Jvm.exec) (hb : c.code = cc) (hd : decode cc pc = .ok (.istore_n i, 1)) (hi : i.val < nL) (kk : zAW p l e R s m args below meth c cells slots Q nL Λ D ad sa cs A  (pc + 1) (zst ls i.val (0, x)) st mem) : zAW p l e R s m args below meth c cells slots Q nL Λ D ad sa cs A  pc ls ((0, x) :: st) mem := by
  intro hm hs hl H locs L hP hD hL hS
  exact lv_istore_n (lv := zas ad sa ls nL) hx hb hd rfl (zas_has hL) hi rfl (fun L' h => kk hm (ztl hs) (zst_ok (zhd hs) hl) H locs L' hP hD (zas_st hL rfl h) hS)
theorem zs_istore {i : Nat} {x : Int} (hx : p.tables.exec = Jvm.exec) (hb : c.code = cc) (hd : decode cc pc = .ok (.istore i, 2)) (hi : i < nL) (kk : zAW p l e R s m args below meth c cells slots Q nL Λ D ad sa cs A  (pc + 2) (zst ls i (0, x)) st mem) : zAW p l e R s m args below meth c cells slots Q nL Λ D ad sa cs A  pc ls ((0, x) :: st) mem := by
  intro hm hs hl H locs L hP hD hL hS
  exact lv_istore (lv := zas ad sa ls nL) hx hb hd (zas_has hL) hi rfl (fun L' h => kk hm (ztl hs) (zst_ok (zhd hs) hl) H locs L' hP hD (zas_st hL rfl h) hS)
theorem zs_lstore_n {i : Fin 4} {x : Int} (hx : p.tables.exec = Jvm.exec) (hb : c.code = cc) (hd : decode cc pc = .ok (.lstore_n i, 1)) (hi : i.val + 1 < nL) (kk : zAW p l e R s m args below meth c cells slots Q nL Λ D ad sa cs A  (pc + 1) (zst2 ls i.val (1, x)) st mem) : zAW p l e R s m args below meth c cells slots Q nL Λ D ad sa cs A  pc ls ((1, x) :: st) mem := by
  intro hm hs hl H locs L hP hD hL hS
  exact lv_lstore_n (lv := zas ad sa ls nL) hx hb hd rfl (zas_has hL) hi rfl (fun L' h => kk hm (ztl hs) (zst2_ok (zhd hs) hl) H locs L' hP hD (zas_st2 hL rfl h) hS)
theorem zs_lstore {i : Nat} {x : Int} (hx : p.tables.exec = Jvm.exec) (hb : c.code = cc) (hd : decode cc pc = .ok (.lstore i, 2)) (hi : i + 1 < nL) (kk : zAW p l e R s m args below meth c cells slots Q nL Λ D ad sa cs A  (pc + 2) (zst2 ls i (1, x)) st mem) : zAW p l e R s m args below meth c cells slots Q nL Λ D ad sa cs A  pc ls ((1, x) :: st) mem := by
  intro hm hs hl H locs L hP hD hL hS
  exact lv_lstore (lv := zas ad sa ls nL) hx hb hd (zas_has hL) hi rfl (fun L' h => kk hm (ztl hs) (zst2_ok (zhd hs) hl) H locs L' hP hD (zas_st2 hL rfl h) hS)
theorem zs_astore_n {i : Fin 4} {v : zV} (hx : p.tables.exec = Jvm.exec) (hb : c.code = cc) (hd : decode cc pc = .ok (.astore_n i, 1)) (ht : v.1 = 2 ∨ v.1 = 3) (hi : i.val < nL) (kk : zAW p l e R s m args below meth c cells slots Q nL Λ D ad sa cs A  (pc + 1) (zst ls i.val v) st mem) : zAW p l e R s m args below meth c cells slots Q nL Λ D ad sa cs A  pc ls (v :: st) mem := by
  obtain ⟨x, hxx⟩ := zv_r (ad := ad) (sa := sa) ht
  intro hm hs hl H locs L hP hD hL hS
  rw [List.map_cons, hxx]
  exact lv_astore_n (lv := zas ad sa ls nL) hx hb hd rfl (zas_has hL) hi rfl (fun L' h => kk hm (ztl hs) (zst_ok (zhd hs) hl) H locs L' hP hD (zas_st hL (by rw [hxx]) h) hS)
theorem zs_astore {i : Nat} {v : zV} (hx : p.tables.exec = Jvm.exec) (hb : c.code = cc) (hd : decode cc pc = .ok (.astore i, 2)) (ht : v.1 = 2 ∨ v.1 = 3) (hi : i < nL) (kk : zAW p l e R s m args below meth c cells slots Q nL Λ D ad sa cs A  (pc + 2) (zst ls i v) st mem) : zAW p l e R s m args below meth c cells slots Q nL Λ D ad sa cs A  pc ls (v :: st) mem := by
  obtain ⟨x, hxx⟩ := zv_r (ad := ad) (sa := sa) ht
  intro hm hs hl H locs L hP hD hL hS
  rw [List.map_cons, hxx]
  exact lv_astore (lv := zas ad sa ls nL) hx hb hd (zas_has hL) hi rfl (fun L' h => kk hm (ztl hs) (zst_ok (zhd hs) hl) H locs L' hP hD (zas_st hL (by rw [hxx]) h) hS)
theorem zs_iinc {i : Nat} {n : Int} (hx : p.tables.exec = Jvm.exec) (hb : c.code = cc) (hd : decode cc pc = .ok (.iinc i n, 3)) (ht : (ls i).1 = 0) (hi : i < nL) (kk : zAW p l e R s m args below meth c cells slots Q nL Λ D ad sa cs A  (pc + 3) (zst ls i (0, zAdd (ls i).2 n)) st mem) : zAW p l e R s m args below meth c cells slots Q nL Λ D ad sa cs A  pc ls st mem := by
  intro hm hs hl H locs L hP hD hL hS
  have h9 : (ls i).1 ≠ 9 := by rw [ht]; decide
  obtain ⟨k, hk⟩ := List.getElem?_of_mem (zas_in hL h9)
  rw [zv_i ht] at hk
  exact lv_iinc (v := Int32.ofInt (ls i).2 + Int32.ofInt n) (lv := zas ad sa ls nL) hx hb hd (zas_has hL) hk rfl hi rfl (fun L' h => kk hm hs (zst_ok (zok_i _) hl) H locs L' hP hD (zas_st hL (by rw [zAdd, zE_i]) h) hS)
end ZR
