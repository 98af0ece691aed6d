/-! ===== methods of the outer face that may throw ===== -/
/-- what is thrown, by number -/
def zXn : List String := ["java/lang/IllegalArgumentException", "java/lang/UnsupportedOperationException", "java/lang/IndexOutOfBoundsException", "java/util/NoSuchElementException", "java/lang/IllegalStateException"]
def zXT : List (Nat × String) := [(89, "the text is wrong"), (99, "there are as many orders as there may be"), (127, "no such cell"), (129, "no such kind"), (142, "no such wear or width"), (153, "there are as many rails as there may be"), (159, "no such strength or men"), (168, "there are as many gangs as there may be"), (176, "no such gang"), (178, "no such task"), (185, "no such store"), (192, "no such number of it"), (199, "the line is set out"), (227, "no such cell or way"), (233, "so many rails cannot be set out there"), (241, "nothing can be lifted"), (243, "no such way"), (248, "nothing can be laid there"), (254, "the train cannot go"), (259, "the train is not beside a well"), (264, "nothing can be dug out"), (266, "one cannot rest so long"), (112, "no such orders"), (115, "so many acts cannot be"), (213, "no such rail"), (274, "a rail has nothing of that number"), (288, "no route ends there, or nothing of that number"), (290, "the line is not set out"), (296, "no route ends there, or fewer than no minutes"), (205, "fewer than no plates"), (218, "the rail is not carried"), (325, "so many nights cannot be looked at")]
def zXc : List String := ["java/lang/Exception"]
def zX6 (n : UInt8) : ByteArray := ⟨#[0x2a, 0x2b, 0xb7, 0x00, n, 0xb1]⟩
def zXw (ic : Nat) (cls : String) (ix : Nat) (n : UInt8) : List Cond := (zowA "SandRails" ic cls "java/lang/RuntimeException" ix (zX6 n) zXc).filter vx_no
/-- words that the tables decide but that aren't good: carried along -/
def zNg : List Cond := zXn.map (fun x => .castable x x) ++ ["java/lang/RuntimeException", "java/lang/Exception", "java/lang/Throwable"].map (fun x => .declares (Bundle.initS x))
def zIsG (w : Cond) : Bool := match w with
  | .castable .. => true
  | .declares _ => true
  | _ => false
theorem zNg_is : ∀ w ∈ zNg, zIsG w = true := by decide +kernel
theorem zNg_on : ∀ w ∈ zNg, w.onTables = true := by decide +kernel
theorem zNg_warm {w : Cond} (hw : zIsG w = true) {s U : State} (hW : s.WarmedH U.vm) (h : va_Nw w s) : va_Nw w U := by
  cases w <;> simp only [zIsG] at hw <;> first | exact va_Nw.warmC hW h | exact va_tabs rfl (rfl : (s.setVm U.vm).vm = U.vm) (by rw [Cond.declares_setVm hW.alike]; exact h) | (cases hw)
theorem zNg_cast {x : String} (h : x ∈ zXn) : Cond.castable x x ∈ zNg := List.mem_append_left _ (List.mem_map.mpr ⟨x, h, rfl⟩)
/-- what a throw and its catching want beside zGl -/
def zGx (A : Nat → Prop) (U : State) : Prop := vx_Zq Bundle.tN "UNASSIGNED_STACK" Bundle.steD A U U.heap ∧ vx_Zq Bundle.tN "SUPPRESSED_SENTINEL" Bundle.listD A U U.heap ∧ (∀ q ∈ zXT, ∃ a, vk_R "SandRails" q.1 q.2 a U) ∧ (∀ x ∈ zXn, ∀ y ∈ zXn, x ≠ y → va_Nc x y U) ∧ ∀ w ∈ zNg, va_Nw w U
theorem zGx_call {A B : Nat → Prop} {s U : State} {locs : List Loc} (h : zGx A s) (hS : va_S A s.heap U.heap locs) (hAB : ∀ q, B q → A q) (hW : s.WarmedH U.vm) : zGx B U := by
  obtain ⟨h1, h2, h3, h4, h5⟩ := h
  have hk : ∀ a : Nat, a < s.heap.size → ¬ A a → U.heap[a]? = s.heap[a]? := hS.2.1
  exact ⟨((h1.moved hW.alike).kept hk).narrow hAB, ((h2.moved hW.alike).kept hk).narrow hAB, fun q hq => by obtain ⟨a, ha⟩ := h3 q hq; exact ⟨a, vk_R.warm hW ha⟩, fun x hx y hy hn => va_Nc.moved hW.alike (h4 x hx y hy hn), fun w hw => zNg_warm (zNg_is w hw) hW (h5 w hw)⟩
theorem zGx_same {A : Nat → Prop} {s U : State} (h : zGx A s) (hv : s.vm = U.vm) (hh : U.heap = s.heap) : zGx A U := by
  obtain ⟨h1, h2, h3, h4, h5⟩ := h
  have hal : s.vm.Alike U.vm := by rw [← hv]; exact Vm.Alike.refl s.vm
  exact ⟨by rw [hh]; exact h1.moved hal, by rw [hh]; exact h2.moved hal, fun q hq => by obtain ⟨a, ha⟩ := h3 q hq; exact ⟨a, vk_R.same hv.symm ha⟩, fun x hx y hy hn => va_Nc.moved hal (h4 x hx y hy hn), fun w hw => va_tabs (zNg_on w hw) hv (h5 w hw)⟩
def zRmX (lv : Nat) : Room := { frames := lv + 12, cells := 1, slots := 6, locals := 40 * lv + 700 }
def zPreX (Λ : List zC) (D : va_G) (ad sa sv : Nat → Nat) (cs : Nat → ClassId) (sz : Nat) (vs : List zV) (mem : zM) : Array Value → State → Prop :=
  va_Pc (vs.map (zE ad sa)) (fun U => U.heap.size = sz ∧ zGl D cs sa sv (zA Λ ad sz) U ∧ va_P D zCl (zWd Λ ad cs mem) U.heap ∧ va_D (zA Λ ad sz) (zWd Λ ad cs mem) ∧ zGx (zA Λ ad sz) U)
def zXC (Λ : List zC) (D : va_G) (ad : Nat → Nat) (cs : Nat → ClassId) (sz : Nat) (xp : Nat → zM → Prop) : String → State → State → Prop :=
  vx_X (S := Nat × zM) (fun u => zokM Λ u.2 ∧ xp u.1 u.2) (fun E u t => zXn[u.1]? = some E ∧ va_P D zCl (zWd Λ ad cs u.2) t.heap) (zA Λ ad sz)
def zMetX (l : Launch) (Λ : List zC) (y : MethodName) (code : ByteArray) (maxL : Nat) (ret : Option FieldType) (lv : Nat) (tags : List Nat) (rt : Nat) (pre : List Int → zM → Prop) (post : List Int → zM → Int → zM → Prop) (xp : List Int → zM → Nat → zM → Prop) : Prop :=
  ∀ (D : va_G) (ad sa sv : Nat → Nat) (cs : Nat → ClassId) (sz : Nat) (vs : List Int) (mem : zM), l.stackTraces = false → vs.length = tags.length → (∀ v ∈ tags.zip vs, zok v) → zokM Λ mem → pre vs mem →
    vx_Met l y (.code y code maxL ret :: zTbl) (zRmX lv) (zPreX Λ D ad sa sv cs sz (tags.zip vs) mem) (zQ rt Λ D ad cs sz (post vs mem)) (zXC Λ D ad cs sz (xp vs mem)) 1 6 (zA Λ ad sz)
/-- a place where a method throws: new, dup, the text, the constructor, athrow -/
def zSite (cc : ByteArray) (pc E : Nat) : Prop := ∃ (ik is ic ix : Nat) (nn : UInt8) (cls text : String), zXn[E]? = some cls ∧ (is, text) ∈ zXT ∧ Bundle.fit cls = true ∧ Cond.classLink "SandRails" ik cls ∈ zTbl ∧ Cond.initialized cls ∈ zTbl ∧ (∀ w ∈ zXw ic cls ix nn, w ∈ zTbl ∨ w ∈ zNg) ∧ (decode (zX6 nn) 0 = .ok (.aload_n 0, 1) ∧ decode (zX6 nn) 1 = .ok (.aload_n 1, 1) ∧ decode (zX6 nn) 2 = .ok (.invokespecial ix, 3) ∧ decode (zX6 nn) 5 = .ok (.return_, 1)) ∧ decode cc pc = .ok (.new ik, 3) ∧ decode cc (pc + 3) = .ok (.dup, 1) ∧
  ((decode cc (pc + 4) = .ok (.ldc is, 2) ∧ decode cc (pc + 6) = .ok (.invokespecial ic, 3) ∧ decode cc (pc + 9) = .ok (.athrow, 1)) ∨ (decode cc (pc + 4) = .ok (.ldc_w is, 3) ∧ decode cc (pc + 7) = .ok (.invokespecial ic, 3) ∧ decode cc (pc + 10) = .ok (.athrow, 1)))
theorem zXc_fit : ∀ n ∈ zXc, Bundle.fit n = true := by decide +kernel
theorem zRT_fit : Bundle.fit "java/lang/RuntimeException" = true := by decide +kernel
theorem zX6_7 : decode (zX6 7) 0 = .ok (.aload_n 0, 1) ∧ decode (zX6 7) 1 = .ok (.aload_n 1, 1) ∧ decode (zX6 7) 2 = .ok (.invokespecial 7, 3) ∧ decode (zX6 7) 5 = .ok (.return_, 1) := by decide +kernel
theorem zX6_13 : decode (zX6 13) 0 = .ok (.aload_n 0, 1) ∧ decode (zX6 13) 1 = .ok (.aload_n 1, 1) ∧ decode (zX6 13) 2 = .ok (.invokespecial 13, 3) ∧ decode (zX6 13) 5 = .ok (.return_, 1) := by decide +kernel
def zTf (L : List (Nat × Nat)) : Nat → Option Nat := fun pc => (L.find? (fun q => q.1 == pc)).map (·.2)
theorem zTf_n {cc : ByteArray} : ∀ pc E, zTf [] pc = some E → zSite cc pc E := fun _ _ h => by cases h
theorem zTf_c {cc : ByteArray} {pc E : Nat} {L : List (Nat × Nat)} (h : zSite cc pc E) (t : ∀ pc E, zTf L pc = some E → zSite cc pc E) : ∀ pc' E', zTf ((pc, E) :: L) pc' = some E' → zSite cc pc' E' := by
  intro pc' E' h'
  unfold zTf at h'
  by_cases hp : pc = pc'
  · subst hp
    rw [List.find?_cons, show ((pc, E).1 == pc) = true from beq_self_eq_true pc] at h'
    cases h'
    exact h
  · rw [List.find?_cons, show ((pc, E).1 == pc') = false from beq_eq_false_iff_ne.mpr hp] at h'
    exact t pc' E' h'
theorem zG_dec {L : List Cond} (h : L.all (fun w => (decide (w ∈ lw_tbl) && goodWord w) || decide (w ∈ zNg)) = true) : ∀ w ∈ L, w ∈ zTbl ∨ w ∈ zNg := fun w hw => by
  have h1 := List.all_eq_true.mp h w hw
  simp only [Bool.or_eq_true, Bool.and_eq_true, decide_eq_true_eq] at h1
  exact h1.imp (fun h => List.mem_filter.mpr h) id
theorem zXa_0 : ∀ w ∈ zXw 91 "java/lang/IllegalArgumentException" 7 7, w ∈ zTbl ∨ w ∈ zNg := zG_dec (by decide +kernel)
theorem zXa_1 : ∀ w ∈ zXw 101 "java/lang/UnsupportedOperationException" 7 7, w ∈ zTbl ∨ w ∈ zNg := zG_dec (by decide +kernel)
theorem zXa_2 : ∀ w ∈ zXw 114 "java/lang/IndexOutOfBoundsException" 7 7, w ∈ zTbl ∨ w ∈ zNg := zG_dec (by decide +kernel)
theorem zXa_3 : ∀ w ∈ zXw 187 "java/util/NoSuchElementException" 13 13, w ∈ zTbl ∨ w ∈ zNg := zG_dec (by decide +kernel)
theorem zXa_4 : ∀ w ∈ zXw 201 "java/lang/IllegalStateException" 7 7, w ∈ zTbl ∨ w ∈ zNg := zG_dec (by decide +kernel)
