/-! ===== an abstract machine over numbers: values (tag, number): 0 int, 1 long, 2 a cell of the layout, 3 a constant (static array, text), 9 nothing ===== -/
abbrev zV : Type := Nat × Int
abbrev zM : Type := Nat → Nat → Int
abbrev zL : Type := Nat → zV
/-- a cell of the layout: (0, number of its class, fields (0 int, 4 boolean, 2 reference; target)); arrays (1 int, 2 long, 3 boolean, 4 byte, 5 references; length; targets) -/
abbrev zC : Type := Nat × Nat × List (Nat × Nat)
def zR32 (x : Int) : Prop := -2147483648 ≤ x ∧ x ≤ 2147483647
def zR64 (x : Int) : Prop := -9223372036854775808 ≤ x ∧ x ≤ 9223372036854775807
def zE (ad sa : Nat → Nat) (v : zV) : Value := match v.1 with
  | 0 => .int (Int32.ofInt v.2)
  | 1 => .long (Int64.ofInt v.2)
  | 2 => .ref (ad v.2.toNat)
  | _ => .ref (sa v.2.toNat)
def zok (v : zV) : Prop := (v.1 = 0 → zR32 v.2) ∧ (v.1 = 1 → zR64 v.2)
def zF (ad : Nat → Nat) (t : Nat × Nat) (x : Int) : Value := if t.1 = 2 then .ref (ad t.2) else .int (Int32.ofInt x)
def zEl (ad : Nat → Nat) (cs : Nat → ClassId) (κ : zC) (f : Nat → Int) : va_E := match κ.1 with
  | 0 => .inr (κ.2.1, κ.2.2.mapIdx fun k t => zF ad t (f k))
  | 1 => .inl (cs 0, κ.2.1, .inl fun i => Int32.ofInt (f i))
  | 2 => .inl (cs 1, κ.2.1, .inr (.inl fun i => Int64.ofInt (f i)))
  | 3 => .inl (cs 2, κ.2.1, .inl fun i => Int32.ofInt (f i))
  | 4 => .inl (cs 3, κ.2.1, .inl fun i => Int32.ofInt (f i))
  | _ => .inl (cs 4, κ.2.1, .inr (.inr (.inr (.inr fun i => (κ.2.2[i]?).map fun t => ad t.2))))
def zWd (Λ : List zC) (ad : Nat → Nat) (cs : Nat → ClassId) (mem : zM) : va_W := Λ.mapIdx fun id κ => (ad id, zEl ad cs κ (mem id))
def zset (mem : zM) (a k : Nat) (v : Int) : zM := fun b j => if b = a then (if j = k then v else mem b j) else mem b j
def zcopy (mem : zM) (a : Nat) (sp : Nat) (b : Nat) (dp n : Nat) : zM := fun c j => if c = b then (if dp ≤ j ∧ j < dp + n then mem a (sp + (j - dp)) else mem c j) else mem c j
/-- the numbers are of their kinds -/
def zokM (Λ : List zC) (mem : zM) : Prop := ∀ (id : Nat) (κ : zC), Λ[id]? = some κ →
  (κ.1 = 0 → ∀ (k : Nat) (t : Nat × Nat), κ.2.2[k]? = some t → (t.1 = 0 → zR32 (mem id k)) ∧ (t.1 = 4 → 0 ≤ mem id k ∧ mem id k ≤ 1)) ∧
  (κ.1 = 1 → ∀ i, i < κ.2.1 → zR32 (mem id i)) ∧ (κ.1 = 2 → ∀ i, i < κ.2.1 → zR64 (mem id i)) ∧
  (κ.1 = 3 → ∀ i, i < κ.2.1 → 0 ≤ mem id i ∧ mem id i ≤ 1) ∧ (κ.1 = 4 → ∀ i, i < κ.2.1 → -128 ≤ mem id i ∧ mem id i ≤ 127)
theorem zWd_get {Λ : List zC} {ad : Nat → Nat} {cs : Nat → ClassId} {mem : zM} {id : Nat} {κ : zC} (h : Λ[id]? = some κ) : (zWd Λ ad cs mem)[id]? = some (ad id, zEl ad cs κ (mem id)) := by
  simp [zWd, List.getElem?_mapIdx, h]
theorem zWd_set {Λ : List zC} {ad : Nat → Nat} {cs : Nat → ClassId} {mem mem' : zM} {id : Nat} {κ : zC} {e : va_E} (h : Λ[id]? = some κ) (he : zEl ad cs κ (mem' id) = e) (ho : ∀ b, b ≠ id → mem' b = mem b) : (zWd Λ ad cs mem).set id (ad id, e) = zWd Λ ad cs mem' := by
  apply List.ext_getElem?
  intro j
  rw [List.getElem?_set]
  by_cases hj : id = j
  · subst hj
    have hlt : id < (zWd Λ ad cs mem).length := by
      have := (List.getElem?_eq_some_iff.mp h).1
      simpa [zWd] using this
    rw [if_pos rfl, if_pos hlt, zWd_get h, he]
  · rw [if_neg hj]
    simp only [zWd, List.getElem?_mapIdx]
    cases hq : Λ[j]? with
    | none => rfl
    | some q => simp [ho j (fun q => hj q.symm)]
theorem zWd_addr {Λ : List zC} {ad : Nat → Nat} {cs : Nat → ClassId} {mem : zM} {k : Nat} {q : Nat × va_E} (h : (zWd Λ ad cs mem)[k]? = some q) : k < Λ.length ∧ q.1 = ad k := by
  simp only [zWd, List.getElem?_mapIdx] at h
  cases hq : Λ[k]? with
  | none => rw [hq] at h; cases h
  | some κ => rw [hq] at h; cases h; exact ⟨(List.getElem?_eq_some_iff.mp hq).1, rfl⟩
/-- numbers of 32 bits -/
theorem zi_toInt {x : Int} (h : zR32 x) : (Int32.ofInt x).toInt = x := by
  obtain ⟨h1, h2⟩ := h
  rw [Int32.toInt_ofInt, show Int32.size = 4294967296 from rfl]
  simp only [Int.bmod]
  omega
theorem zi_of (z : Int32) : Int32.ofInt z.toInt = z := Int32.ofInt_toInt z
theorem zi_rng (z : Int32) : zR32 z.toInt := by
  have h1 := Int32.le_toInt z
  have h2 := Int32.toInt_lt z
  constructor <;> simp only [Int.reducePow, Int.reduceNeg] at h1 h2 ⊢ <;> omega
theorem zl_toInt {x : Int} (h : zR64 x) : (Int64.ofInt x).toInt = x := by
  obtain ⟨h1, h2⟩ := h
  rw [Int64.toInt_ofInt, show Int64.size = 18446744073709551616 from rfl]
  simp only [Int.bmod]
  omega
theorem zl_of (z : Int64) : Int64.ofInt z.toInt = z := Int64.ofInt_toInt z
theorem zl_rng (z : Int64) : zR64 z.toInt := by
  have h1 := Int64.le_toInt z
  have h2 := Int64.toInt_lt z
  constructor <;> simp only [Int.reducePow, Int.reduceNeg] at h1 h2 ⊢ <;> omega
def zw (x : Int) : Int := (x + 2147483648) % 4294967296 - 2147483648
def zW (x : Int) : Int := (x + 9223372036854775808) % 18446744073709551616 - 9223372036854775808
theorem zw_bmod (x : Int) : x.bmod 4294967296 = zw x := by
  simp only [Int.bmod, zw]; omega
theorem zW_bmod (x : Int) : x.bmod 18446744073709551616 = zW x := by
  simp only [Int.bmod, zW]; omega
theorem zw_id {x : Int} (h1 : -2147483648 ≤ x) (h2 : x ≤ 2147483647) : zw x = x := by simp only [zw]; omega
theorem zW_id {x : Int} (h1 : -9223372036854775808 ≤ x) (h2 : x ≤ 9223372036854775807) : zW x = x := by simp only [zW]; omega
def zAdd (x y : Int) : Int := (Int32.ofInt x + Int32.ofInt y).toInt
def zSub (x y : Int) : Int := (Int32.ofInt x - Int32.ofInt y).toInt
def zMul (x y : Int) : Int := (Int32.ofInt x * Int32.ofInt y).toInt
def zNeg (x : Int) : Int := (-Int32.ofInt x).toInt
def zDiv (x y : Int) : Int := (Int32.ofInt x / Int32.ofInt y).toInt
def zRem (x y : Int) : Int := (Int32.ofInt x - Int32.ofInt x / Int32.ofInt y * Int32.ofInt y).toInt
def zAnd (x y : Int) : Int := (Int32.ofInt x &&& Int32.ofInt y).toInt
def zOr (x y : Int) : Int := (Int32.ofInt x ||| Int32.ofInt y).toInt
def zXor (x y : Int) : Int := (Int32.ofInt x ^^^ Int32.ofInt y).toInt
def zShl (x y : Int) : Int := (Int32.ofInt x <<< (Int32.ofInt y &&& 31)).toInt
def zShr (x y : Int) : Int := (Int32.ofInt x >>> (Int32.ofInt y &&& 31)).toInt
def zUsh (x y : Int) : Int := ((Int32.ofInt x).toUInt32 >>> ((Int32.ofInt y).toUInt32 &&& Int32.toUInt32 31)).toInt32.toInt
def zI2b (x : Int) : Int := (Int32.ofInt x).toInt8.toInt32.toInt
def zL2i (x : Int) : Int := (Int64.ofInt x).toInt32.toInt
def zLAdd (x y : Int) : Int := (Int64.ofInt x + Int64.ofInt y).toInt
def zLMul (x y : Int) : Int := (Int64.ofInt x * Int64.ofInt y).toInt
def zLDiv (x y : Int) : Int := (Int64.ofInt x / Int64.ofInt y).toInt
def zLRem (x y : Int) : Int := (Int64.ofInt x - Int64.ofInt x / Int64.ofInt y * Int64.ofInt y).toInt
def zLcmp (x y : Int) : Int := if x < y then -1 else if x = y then 0 else 1
def zCmp (c : ClassFile.Cond) (x y : Int) : Prop := match c with
  | .eq => x = y
  | .ne => ¬ x = y
  | .lt => x < y
  | .ge => y ≤ x
  | .gt => y < x
  | .le => x ≤ y
/-- locals -/
def zst (ls : zL) (i : Nat) (v : zV) : zL := fun j => if j = i then v else if j + 1 = i ∧ (ls j).1 = 1 then (9, 0) else ls j
def zst2 (ls : zL) (i : Nat) (v : zV) : zL := fun j => if j = i then v else if j = i + 1 then (9, 0) else if j + 1 = i ∧ (ls j).1 = 1 then (9, 0) else ls j
def zLs (ad sa : Nat → Nat) (nL : Nat) (ls : zL) (L : Array Slot) : Prop := L.size = nL ∧ lv_wf L ∧ ∀ k, (ls k).1 ≠ 9 → L[k]? = some (.val (zE ad sa (ls k)))
theorem zE_cat (ad sa : Nat → Nat) (v : zV) : (zE ad sa v).category = if v.1 = 1 then 2 else 1 := by
  obtain ⟨t, x⟩ := v
  match t with
  | 0 => rfl
  | 1 => rfl
  | 2 => rfl
  | n + 3 => rfl
