/-! ===== what must hold ahead of a stretch of code ===== -/
abbrev zCt : Type := List Nat × Nat × (List Int → zM → Prop) × (List Int → zM → Int → zM → Prop)
abbrev zPo : Type := Nat → Option (Nat × Nat × Nat × Int)
abbrev zJ : Type := Nat → zL → List zV → zM → Prop
def zp1 (t : Nat) (st : List zV) (f : Int → List zV → Prop) : Prop := match st with
  | [] => False
  | a :: r => a.1 = t ∧ f a.2 r
def zpv (st : List zV) (f : zV → List zV → Prop) : Prop := match st with
  | [] => False
  | a :: r => f a r
def zarr (Λ : List zC) (kd : Nat) (a : Int) (f : Nat → List (Nat × Nat) → Prop) : Prop := match Λ[a.toNat]? with
  | none => False
  | some κ => κ.1 = kd ∧ f κ.2.1 κ.2.2
def zob (Λ : List zC) (a : Int) (ci f : Nat) (F : Nat × Nat → Prop) : Prop := match Λ[a.toNat]? with
  | none => False
  | some κ => κ.1 = 0 ∧ κ.2.1 = ci ∧ match κ.2.2[f]? with
    | none => False
    | some t => F t
def zpl (pl : zPo) (k kd : Nat) (F : Nat → Nat → Int → Prop) : Prop := match pl k with
  | none => False
  | some q => q.1 = kd ∧ F q.2.1 q.2.2.1 q.2.2.2
def ztg (pc : Nat) (off : Int) (J : Nat → Prop) : Prop := 0 ≤ (pc : Int) + off ∧ J ((pc : Int) + off).toNat
def zswT (pc : Nat) (J : Nat → Prop) (x : Int) : Int → List Int → Prop
  | _, [] => True
  | k, o :: r => (x = k → ztg pc o J) ∧ zswT pc J x (k + 1) r
def zswL (pc : Nat) (J : Nat → Prop) (x d : Int) : List (Int × Int) → Prop
  | [] => ztg pc d J
  | q :: r => (x = q.1 → ztg pc q.2 J) ∧ (¬ x = q.1 → zswL pc J x d r)
def zaa (K : Nat → Prop) (i : Int) : Int → List (Nat × Nat) → Prop
  | _, [] => True
  | k, t :: r => (i = k → K t.2) ∧ zaa K i (k + 1) r
def zinv (Λ : List zC) (ct : Option zCt) (st : List zV) (mem : zM) (K : List zV → zM → Prop) : Prop := match ct with
  | none => False
  | some q => (st.take q.1.length).map (·.1) = q.1.reverse ∧ zcats (st.drop q.1.length) ≤ 8 ∧ q.2.2.1 ((st.take q.1.length).map (·.2)).reverse mem ∧
      ∀ (r : Int) (mem' : zM), zrt q.2.1 r → zokM Λ mem' → q.2.2.2 ((st.take q.1.length).map (·.2)).reverse mem r mem' → K (zres q.2.1 r (st.drop q.1.length)) mem'
/-- one instruction -/
def zwI (Λ : List zC) (pl : zPo) (cv cS : Nat → Option zCt) (rt : Nat) (RP : Int → zM → Prop) (thr : Nat → Option Nat) (XP : Nat → zM → Prop) (nL : Nat) (i : Instr) (n pc : Nat) (ls : zL) (st : List zV) (mem : zM) (J : zJ) (K : zL → List zV → zM → Prop) : Prop := match i with
  | .iconst x => n = 1 ∧ (-1 ≤ x ∧ x ≤ 5) ∧ K ls ((0, x) :: st) mem
  | .bipush x => n = 2 ∧ (-128 ≤ x ∧ x ≤ 127) ∧ K ls ((0, x) :: st) mem
  | .sipush x => n = 3 ∧ (-32768 ≤ x ∧ x ≤ 32767) ∧ K ls ((0, x) :: st) mem
  | .lconst x => n = 1 ∧ K ls ((1, ((x : Nat) : Int)) :: st) mem
  | .ldc k => n = 2 ∧ (zpl pl k 1 (fun _ _ z => K ls ((0, z) :: st) mem) ∨ zpl pl k 3 (fun x _ _ => K ls ((3, ((3 + x : Nat) : Int)) :: st) mem))
  | .ldc_w k => n = 3 ∧ zpl pl k 1 (fun _ _ z => K ls ((0, z) :: st) mem)
  | .ldc2_w k => n = 3 ∧ zpl pl k 2 (fun _ _ z => K ls ((1, z) :: st) mem)
  | .getstatic k => n = 3 ∧ zpl pl k 4 (fun x _ _ => K ls ((3, (x : Int)) :: st) mem)
  | .iload_n k => n = 1 ∧ (ls k.val).1 = 0 ∧ K ls (ls k.val :: st) mem
  | .iload k => n = 2 ∧ (ls k).1 = 0 ∧ K ls (ls k :: st) mem
  | .lload_n k => n = 1 ∧ (ls k.val).1 = 1 ∧ K ls (ls k.val :: st) mem
  | .lload k => n = 2 ∧ (ls k).1 = 1 ∧ K ls (ls k :: st) mem
  | .aload_n k => n = 1 ∧ ((ls k.val).1 = 2 ∨ (ls k.val).1 = 3) ∧ K ls (ls k.val :: st) mem
  | .aload k => n = 2 ∧ ((ls k).1 = 2 ∨ (ls k).1 = 3) ∧ K ls (ls k :: st) mem
  | .istore_n k => n = 1 ∧ k.val < nL ∧ zp1 0 st fun x r => K (zst ls k.val (0, x)) r mem
  | .istore k => n = 2 ∧ k < nL ∧ zp1 0 st fun x r => K (zst ls k (0, x)) r mem
  | .lstore_n k => n = 1 ∧ k.val + 1 < nL ∧ zp1 1 st fun x r => K (zst2 ls k.val (1, x)) r mem
  | .lstore k => n = 2 ∧ k + 1 < nL ∧ zp1 1 st fun x r => K (zst2 ls k (1, x)) r mem
  | .astore_n k => n = 1 ∧ k.val < nL ∧ zpv st fun v r => (v.1 = 2 ∨ v.1 = 3) ∧ K (zst ls k.val v) r mem
  | .astore k => n = 2 ∧ k < nL ∧ zpv st fun v r => (v.1 = 2 ∨ v.1 = 3) ∧ K (zst ls k v) r mem
  | .iinc k x => n = 3 ∧ k < nL ∧ (ls k).1 = 0 ∧ K (zst ls k (0, zAdd (ls k).2 x)) st mem
  | .iadd => n = 1 ∧ zp1 0 st fun y r => zp1 0 r fun x r => K ls ((0, zAdd x y) :: r) mem
  | .isub => n = 1 ∧ zp1 0 st fun y r => zp1 0 r fun x r => K ls ((0, zSub x y) :: r) mem
  | .imul => n = 1 ∧ zp1 0 st fun y r => zp1 0 r fun x r => K ls ((0, zMul x y) :: r) mem
  | .idiv => n = 1 ∧ zp1 0 st fun y r => zp1 0 r fun x r => ¬ y = 0 ∧ K ls ((0, zDiv x y) :: r) mem
  | .irem => n = 1 ∧ zp1 0 st fun y r => zp1 0 r fun x r => ¬ y = 0 ∧ K ls ((0, zRem x y) :: r) mem
  | .iand => n = 1 ∧ zp1 0 st fun y r => zp1 0 r fun x r => K ls ((0, zAnd x y) :: r) mem
  | .ior => n = 1 ∧ zp1 0 st fun y r => zp1 0 r fun x r => K ls ((0, zOr x y) :: r) mem
  | .ixor => n = 1 ∧ zp1 0 st fun y r => zp1 0 r fun x r => K ls ((0, zXor x y) :: r) mem
  | .ishl => n = 1 ∧ zp1 0 st fun y r => zp1 0 r fun x r => K ls ((0, zShl x y) :: r) mem
  | .ishr => n = 1 ∧ zp1 0 st fun y r => zp1 0 r fun x r => K ls ((0, zShr x y) :: r) mem
  | .iushr => n = 1 ∧ zp1 0 st fun y r => zp1 0 r fun x r => K ls ((0, zUsh x y) :: r) mem
  | .ineg => n = 1 ∧ zp1 0 st fun x r => K ls ((0, zNeg x) :: r) mem
  | .i2b => n = 1 ∧ zp1 0 st fun x r => K ls ((0, zI2b x) :: r) mem
  | .i2l => n = 1 ∧ zp1 0 st fun x r => K ls ((1, x) :: r) mem
  | .l2i => n = 1 ∧ zp1 1 st fun x r => K ls ((0, zL2i x) :: r) mem
  | .ladd => n = 1 ∧ zp1 1 st fun y r => zp1 1 r fun x r => K ls ((1, zLAdd x y) :: r) mem
  | .lmul => n = 1 ∧ zp1 1 st fun y r => zp1 1 r fun x r => K ls ((1, zLMul x y) :: r) mem
  | .ldiv => n = 1 ∧ zp1 1 st fun y r => zp1 1 r fun x r => ¬ y = 0 ∧ K ls ((1, zLDiv x y) :: r) mem
  | .lrem => n = 1 ∧ zp1 1 st fun y r => zp1 1 r fun x r => ¬ y = 0 ∧ K ls ((1, zLRem x y) :: r) mem
  | .lcmp => n = 1 ∧ zp1 1 st fun y r => zp1 1 r fun x r => K ls ((0, zLcmp x y) :: r) mem
  | .dup => n = 1 ∧ zpv st fun v r => v.1 ≠ 1 ∧ K ls (v :: v :: r) mem
  | .pop => n = 1 ∧ zpv st fun v r => v.1 ≠ 1 ∧ K ls r mem
  | .dup2 => n = 1 ∧ zpv st fun v r => v.1 ≠ 1 ∧ zpv r fun w r => w.1 ≠ 1 ∧ K ls (v :: w :: v :: w :: r) mem
  | .ifCond c o => n = 3 ∧ 0 ≤ (pc : Int) + o ∧ zp1 0 st fun x r => (zCmp c x 0 → J ((pc : Int) + o).toNat ls r mem) ∧ (¬ zCmp c x 0 → K ls r mem)
  | .if_icmp c o => n = 3 ∧ 0 ≤ (pc : Int) + o ∧ zp1 0 st fun y r => zp1 0 r fun x r => (zCmp c x y → J ((pc : Int) + o).toNat ls r mem) ∧ (¬ zCmp c x y → K ls r mem)
  | .goto o => n = 3 ∧ ztg pc o fun t => J t ls st mem
  | .ifnonnull o => n = 3 ∧ zpv st fun v r => (v.1 = 2 ∨ v.1 = 3) ∧ ztg pc o fun t => J t ls r mem
  | .ifnull _ => n = 3 ∧ zpv st fun v r => (v.1 = 2 ∨ v.1 = 3) ∧ K ls r mem
  | .tableswitch d lo hi offs => zp1 0 st fun x r => (offs.size : Int) = hi - lo + 1 ∧ ((x < lo ∨ hi < x) → ztg pc d fun t => J t ls r mem) ∧ zswT pc (fun t => J t ls r mem) x lo offs.toList
  | .lookupswitch d ps => zp1 0 st fun x r => (ps.toList.zip (ps.toList.drop 1)).all (fun (a, next) => a.1 < next.1) = true ∧ zswL pc (fun t => J t ls r mem) x d ps.toList
  | .getfield k => n = 3 ∧ zp1 2 st fun a r => zpl pl k 0 fun ci f _ => zob Λ a ci f fun t => (t.1 = 0 ∨ t.1 = 2 ∨ t.1 = 4) ∧ K ls (zFv t (mem a.toNat f) :: r) mem
  | .putfield k => n = 3 ∧ zp1 0 st fun v r => zp1 2 r fun a r => zpl pl k 0 fun ci f w => zob Λ a ci f fun t => (t.1 = 0 ∧ w = 1 ∨ t.1 = 4 ∧ w = 2 ∧ (v = 0 ∨ v = 1)) ∧ K ls r (zset mem a.toNat f v)
  | .iaload => n = 1 ∧ zp1 0 st fun i r => zpv r fun a r => (a.1 = 2 ∧ zarr Λ 1 a.2 fun N _ => (0 ≤ i ∧ i < N) ∧ K ls ((0, mem a.2.toNat i.toNat) :: r) mem) ∨ (a.1 = 3 ∧ match zStV[a.2.toNat]? with
      | none => False
      | some vs => (0 ≤ i ∧ i < vs.length) ∧ K ls ((0, vs.getD i.toNat 0) :: r) mem)
  | .laload => n = 1 ∧ zp1 0 st fun i r => zp1 2 r fun a r => zarr Λ 2 a fun N _ => (0 ≤ i ∧ i < N) ∧ K ls ((1, mem a.toNat i.toNat) :: r) mem
  | .baload => n = 1 ∧ zp1 0 st fun i r => zp1 2 r fun a r => (zarr Λ 3 a fun N _ => (0 ≤ i ∧ i < N) ∧ K ls ((0, mem a.toNat i.toNat) :: r) mem) ∨ (zarr Λ 4 a fun N _ => (0 ≤ i ∧ i < N) ∧ K ls ((0, mem a.toNat i.toNat) :: r) mem)
  | .aaload => n = 1 ∧ zp1 0 st fun i r => zp1 2 r fun a r => zarr Λ 5 a fun N ts => (0 ≤ i ∧ i < N ∧ ts.length = N) ∧ zaa (fun t => K ls ((2, (t : Int)) :: r) mem) i 0 ts
  | .iastore => n = 1 ∧ zp1 0 st fun v r => zp1 0 r fun i r => zp1 2 r fun a r => zarr Λ 1 a fun N _ => (0 ≤ i ∧ i < N) ∧ K ls r (zset mem a.toNat i.toNat v)
  | .lastore => n = 1 ∧ zp1 1 st fun v r => zp1 0 r fun i r => zp1 2 r fun a r => zarr Λ 2 a fun N _ => (0 ≤ i ∧ i < N) ∧ K ls r (zset mem a.toNat i.toNat v)
  | .bastore => n = 1 ∧ zp1 0 st fun v r => zp1 0 r fun i r => zp1 2 r fun a r => (zarr Λ 3 a fun N _ => (0 ≤ i ∧ i < N) ∧ (v = 0 ∨ v = 1) ∧ K ls r (zset mem a.toNat i.toNat v)) ∨ (zarr Λ 4 a fun N _ => (0 ≤ i ∧ i < N) ∧ (-128 ≤ v ∧ v ≤ 127) ∧ K ls r (zset mem a.toNat i.toNat v))
  | .arraylength => n = 1 ∧ zp1 2 st fun a r => (zarr Λ 1 a fun N _ => N ≤ 2147483647 ∧ K ls ((0, (N : Int)) :: r) mem) ∨ (zarr Λ 2 a fun N _ => N ≤ 2147483647 ∧ K ls ((0, (N : Int)) :: r) mem)
  | .invokevirtual k => n = 3 ∧ zinv Λ (cv k) st mem (K ls)
  | .invokestatic k => n = 3 ∧ (zinv Λ (cS k) st mem (K ls) ∨ zpl pl k 6 fun _ _ _ => zp1 0 st fun N r => zp1 0 r fun dp r => zp1 2 r fun b r => zp1 0 r fun sp r => zp1 2 r fun a r => r = [] ∧ zarr Λ 1 a fun na _ => zarr Λ 1 b fun nb _ => (0 ≤ sp ∧ 0 ≤ dp ∧ 0 ≤ N ∧ sp + N ≤ na ∧ dp + N ≤ nb) ∧ K ls [] (zcopy mem a.toNat sp.toNat b.toNat dp.toNat N.toNat))
  | .ireturn => n = 1 ∧ zp1 0 st fun v r => r = [] ∧ (rt = 0 ∨ rt = 4 ∧ (v = 0 ∨ v = 1)) ∧ RP v mem
  | .lreturn => n = 1 ∧ zp1 1 st fun v r => r = [] ∧ rt = 1 ∧ RP v mem
  | .return_ => n = 1 ∧ st = [] ∧ rt = 9 ∧ RP 0 mem
  | .new _ => st = [] ∧ match thr pc with
    | none => False
    | some E => XP E mem
  | _ => False
def zrun (Λ : List zC) (pl : zPo) (cv cS : Nat → Option zCt) (rt : Nat) (RP : Int → zM → Prop) (thr : Nat → Option Nat) (XP : Nat → zM → Prop) (nL : Nat) (J : zJ) : List (Instr × Nat) → zJ
  | [], pc, ls, st, mem => J pc ls st mem
  | q :: r, pc, ls, st, mem => zwI Λ pl cv cS rt RP thr XP nL q.1 q.2 pc ls st mem J (fun ls' st' mem' => zrun Λ pl cv cS rt RP thr XP nL J r (pc + q.2) ls' st' mem')
def zwp (Λ : List zC) (pl : zPo) (cv cS : Nat → Option zCt) (rt : Nat) (RP : Int → zM → Prop) (thr : Nat → Option Nat) (XP : Nat → zM → Prop) (nL : Nat) (B : Nat → List (Instr × Nat)) (X : Nat → Option (zL → List zV → zM → Prop)) : Nat → zJ
  | 0 => fun _ _ _ _ => False
  | f + 1 => fun pc ls st mem => zrun Λ pl cv cS rt RP thr XP nL (fun pc' ls' st' mem' => match X pc' with
      | some Jn => Jn ls' st' mem'
      | none => zwp Λ pl cv cS rt RP thr XP nL B X f pc' ls' st' mem') (B pc) pc ls st mem
def zdec (cc : ByteArray) : Nat → List (Instr × Nat) → Prop
  | _, [] => True
  | pc, q :: r => decode cc pc = .ok (q.1, q.2) ∧ zdec cc (pc + q.2) r
/-- what the entries of a pool say -/
def zPlok (own : String) (pl : zPo) : Prop := ∀ (k kd x y : Nat) (z : Int), pl k = some (kd, x, y, z) →
  (kd = 0 → ∃ q : vw_C, zCl[x]? = some q ∧ y < q.2.2 ∧ (q.2.1 y).1 = q.1 ∧ (Cond.fieldLink own k q.1 (q.2.1 y).2.1 (q.2.1 y).2.2.1 ∈ zTbl ∨ ∃ host, Cond.fieldLinkNest own k q.1 (q.2.1 y).2.1 (q.2.1 y).2.2.1 host ∈ lw_tbl) ∧ (z = 1 → (q.2.1 y).2.2.2 = false ∧ parseFieldDescriptor (q.2.1 y).2.2.1 = some .int) ∧ (z = 2 → (q.2.1 y).2.2.2 = false ∧ parseFieldDescriptor (q.2.1 y).2.2.1 = some .boolean)) ∧
  (kd = 1 → Cond.constant own k (Int32.ofInt z) ∈ zTbl ∧ zR32 z) ∧ (kd = 2 → Cond.constantLong own k (Int64.ofInt z) ∈ zTbl ∧ zR64 z) ∧ (kd = 3 → ∃ tx, (own, k, tx, x) ∈ zTxR) ∧
  (kd = 4 → ∃ nm, zStN[x]? = some nm ∧ (Cond.fieldLink own k "SandRails" nm "[I" ∈ zTbl ∨ ∃ host, Cond.fieldLinkNest own k "SandRails" nm "[I" host ∈ lw_tbl)) ∧ (kd = 6 → Cond.methodLink own k arraycopyName ∈ zTbl)
def zClok : Prop := ∀ (ci : Nat) (q : vw_C), zCl[ci]? = some q → (∀ w ∈ u_ws q.1 q.2.1 q.2.2, w ∈ zTbl) ∧ ∃ ty0 : Nat → FieldType, (∀ k, k < q.2.2 → parseFieldDescriptor (q.2.1 k).2.2.1 = some (ty0 k)) ∧ ∀ a, a < q.2.2 → ∀ b, b < q.2.2 → a ≠ b → (q.2.1 a).2.1 ≠ (q.2.1 b).2.1
def zSyok : Prop := Cond.native arraycopyName ∈ zTbl ∧ Cond.static arraycopyName ∈ zTbl ∧ Cond.initialized "java/lang/System" ∈ zTbl
