/-! ===== the law's start: what the tables and the premise give ===== -/
def zAtc : List Bool → Cond → Cond
  | [], c => c
  | b :: r, .and x y => zAtc r (cond b y x)
  | _ :: _, c => c
theorem zAtc_b {args : Array Value} {s : State} : ∀ (p : List Bool) (c : Cond), c.before args s = true → (zAtc p c).before args s = true := by
  intro p
  induction p with
  | nil => intro c h; exact h
  | cons b r ih =>
    intro c h
    cases c
    case and x y =>
      rw [Cond.before_and, Bool.and_eq_true] at h
      cases b
      · exact ih x h.1
      · exact ih y h.2
    all_goals exact h
def zNr (p : List Bool) (w : Cond) : Bool := decide (zAtc p narrow_1 = w)
theorem zNr_b {args : Array Value} {s : State} {p : List Bool} {w : Cond} (h : narrow_1.before args s = true) (hp : zNr p w = true) : w.before args s = true := by
  have e : zAtc p narrow_1 = w := of_decide_eq_true hp
  rw [← e]
  exact zAtc_b p _ h
theorem zst_inst : ∀ (c : Nat) (q : vw_C), zCl[c]? = some q → ∃ n, Cond.instantiable q.1 n ∈ lw_tbl := by
  intro c q h
  match c, h with
  | 0, h => cases h; exact ⟨3, zT_mem (n := 157) (by decide +kernel)⟩
  | 1, h => cases h; exact ⟨4, zT_mem (n := 214) (by decide +kernel)⟩
  | 2, h => cases h; exact ⟨7, zT_mem (n := 234) (by decide +kernel)⟩
  | 3, h => cases h; exact ⟨4, zT_mem (n := 317) (by decide +kernel)⟩
  | 4, h => cases h; exact ⟨6, zT_mem (n := 311) (by decide +kernel)⟩
  | 5, h => cases h; exact ⟨9, zT_mem (n := 396) (by decide +kernel)⟩
  | 6, h => cases h; exact ⟨5, zT_mem (n := 374) (by decide +kernel)⟩
  | 7, h => cases h; exact ⟨2, zT_mem (n := 337) (by decide +kernel)⟩
  | 8, h => cases h; exact ⟨9, zT_mem (n := 175) (by decide +kernel)⟩
  | 9, h => cases h; exact ⟨10, zT_mem (n := 151) (by decide +kernel)⟩
  | 10, h => cases h; exact ⟨9, zT_mem (n := 143) (by decide +kernel)⟩
  | 11, h => cases h; exact ⟨25, zT_mem (n := 1467) (by decide +kernel)⟩
  | k + 12, h => simp [zCl] at h
theorem zst_arr {args : Array Value} {s : State} {ty : FieldType} (h : (Cond.arrayClass ty).before args s = true) : ∃ cA : ClassId, ArrOfT s cA ty ∧ s.vm.findClass ("[" ++ ty.toString) = some cA := by
  obtain ⟨cA, kA, comp, h1, h2, h3⟩ := Cond.arrayClass_spec (args := args) (first := s) (o := none) (s := s) (idx := []) h
  exact ⟨cA, fun n z => ⟨fun k h => (by cases h), kA, h2, comp, h3⟩, h1⟩
theorem zst_arrO {args : Array Value} {s : State} {C : String} (h : (Cond.arrayOver (.object C)).before args s = true) : ∃ cA : ClassId, ArrOfT s cA (.object C) ∧ va_RA s cA (.object C) := by
  obtain ⟨comp, cA, kA, h1, _, h2, h3, h4⟩ := Cond.arrayOver_spec (args := args) (first := s) (o := none) (s := s) (idx := []) h
  exact ⟨cA, fun n z => ⟨fun k h => (by cases h), kA, h2, comp, h3⟩, kA, comp, h2, h3, h1, h4⟩
theorem zst_K {args : Array Value} {s : State} (hts : ∀ w ∈ lw_tbl, w.before args s = true) : ∃ (D : va_G) (cs : Nat → ClassId), zCg D cs s := by
  have h0 : ∀ c : Nat, ∃ d : ClassId × (Nat → Nat), ∀ q : vw_C, zCl[c]? = some q → u_Kn s q.1 q.2.1 q.2.2 d.1 d.2 := by
    intro c
    cases hc : zCl[c]? with
    | none => exact ⟨(0, fun _ => 0), fun q h => by cases h⟩
    | some q =>
      obtain ⟨n, hn⟩ := zst_inst c q hc
      obtain ⟨cC, iS, hK⟩ := u_known (ws := zTbl) (C := q.1) (T := q.2.1) (N := q.2.2) (n := n) (fun w hw => hts w (List.mem_filter.mp hw).1) (zClok_ok c q hc).1 (hts _ hn)
      exact ⟨(cC, iS), fun q' h => by cases h; exact hK⟩
  obtain ⟨d, hd⟩ := Classical.axiomOfChoice h0
  obtain ⟨c0, a0, b0⟩ := zst_arr (ty := .int) (hts _ (zT_mem (n := 173) (by decide +kernel)))
  obtain ⟨c1, a1, b1⟩ := zst_arr (ty := .long) (hts _ (zT_mem (n := 429) (by decide +kernel)))
  obtain ⟨c2, a2, b2⟩ := zst_arr (ty := .boolean) (hts _ (zT_mem (n := 262) (by decide +kernel)))
  obtain ⟨c3, a3, b3⟩ := zst_arr (ty := .byte) (hts _ (zT_mem (n := 884) (by decide +kernel)))
  obtain ⟨c4, a4, b4⟩ := zst_arrO (C := "SandRails$Orders") (hts _ (zT_mem (n := 372) (by decide +kernel)))
  refine ⟨(fun c => (d c).1, fun c => (d c).2), (fun k => match k with | 0 => c0 | 1 => c1 | 2 => c2 | 3 => c3 | _ => c4), ⟨fun c q hq => hd c q hq, fun k q hq => ?_⟩, fun w hw hn => ?_, va_AO.of (hts _ (zT_mem (n := 372) (by decide +kernel)))⟩
  · match k, hq with
    | 0, hq => cases hq; exact ⟨a0, b0⟩
    | 1, hq => cases hq; exact ⟨a1, b1⟩
    | 2, hq => cases hq; exact ⟨a2, b2⟩
    | 3, hq => cases hq; exact ⟨a3, b3⟩
    | 4, hq => cases hq; exact ⟨a4, b4⟩
    | k + 5, hq => simp [zTys] at hq
  · have hb := hts w hw
    cases w <;> simp only [zIsN] at hn <;> first | exact va_Nw.of rfl hb | (cases hn)
/-- the three rows of numbers that the class holds -/
theorem zst_s0 {args : Array Value} {s : State} {A : Nat → Prop} (hts : ∀ w ∈ lw_tbl, w.before args s = true) (hn : narrow_1.before args s = true) (hA : ∀ a : Nat, a < s.heap.size → ¬ A a) : ∃ t : Nat, va_Z "SandRails" "WAYS_BY_NUMBER" "[I" (.ref t) A s s.heap ∧ va_T .int t 4 (fun i => .int (Int32.ofInt (([0, 3, 1, 2] : List Int).getD i 0))) A s s.heap := by
  obtain ⟨t, ht, hT⟩ := va_Tof (args := args) (s := s) (tm := (Term.static "SandRails" "WAYS_BY_NUMBER" "[I")) (ty := .int) (N := 4) (f := fun i => .int (Int32.ofInt (([0, 3, 1, 2] : List Int).getD i 0))) (A := A) (by decide) (zNr_b (p := [false, false, false, false, false, true, false, true, false, true, false]) hn (by decide +kernel)) (va_eqt (zNr_b (p := [false, false, false, false, false, true, false, true, false, true, true]) hn (by decide +kernel))) (fun j hj => by
    match j, hj with
    | 0, _ => exact va_eqt (zNr_b (p := [false, false, false, false, false, true, false, true, true, false]) hn (by decide +kernel))
    | 1, _ => exact va_eqt (zNr_b (p := [false, false, false, false, false, true, false, true, true, true, false]) hn (by decide +kernel))
    | 2, _ => exact va_eqt (zNr_b (p := [false, false, false, false, false, true, false, true, true, true, true]) hn (by decide +kernel))
    | 3, _ => exact va_eqt (zNr_b (p := [false, false, false, false, false, true, true, false, false, false]) hn (by decide +kernel))
    | k + 4, h => exact absurd h (by omega)) hA
  exact ⟨t, va_Zof (hts _ (zT_mem (n := 1410) (by decide +kernel))) (hts _ (zT_mem (n := 116) (by decide +kernel))) ht hA, hT⟩
theorem zst_s1 {args : Array Value} {s : State} {A : Nat → Prop} (hts : ∀ w ∈ lw_tbl, w.before args s = true) (hn : narrow_1.before args s = true) (hA : ∀ a : Nat, a < s.heap.size → ¬ A a) : ∃ t : Nat, va_Z "SandRails" "LEAST_STORES" "[I" (.ref t) A s s.heap ∧ va_T .int t 8 (fun i => .int (Int32.ofInt (([0, 0, 0, 1, 0, 0, 0, 1] : List Int).getD i 0))) A s s.heap := by
  obtain ⟨t, ht, hT⟩ := va_Tof (args := args) (s := s) (tm := (Term.static "SandRails" "LEAST_STORES" "[I")) (ty := .int) (N := 8) (f := fun i => .int (Int32.ofInt (([0, 0, 0, 1, 0, 0, 0, 1] : List Int).getD i 0))) (A := A) (by decide) (zNr_b (p := [false, false, false, false, false, false, true, true, true, false, false]) hn (by decide +kernel)) (va_eqt (zNr_b (p := [false, false, false, false, false, false, true, true, true, false, true]) hn (by decide +kernel))) (fun j hj => by
    match j, hj with
    | 0, _ => exact va_eqt (zNr_b (p := [false, false, false, false, false, false, true, true, true, true, false]) hn (by decide +kernel))
    | 1, _ => exact va_eqt (zNr_b (p := [false, false, false, false, false, false, true, true, true, true, true]) hn (by decide +kernel))
    | 2, _ => exact va_eqt (zNr_b (p := [false, false, false, false, false, true, false, false, false, false]) hn (by decide +kernel))
    | 3, _ => exact va_eqt (zNr_b (p := [false, false, false, false, false, true, false, false, false, true, false]) hn (by decide +kernel))
    | 4, _ => exact va_eqt (zNr_b (p := [false, false, false, false, false, true, false, false, false, true, true]) hn (by decide +kernel))
    | 5, _ => exact va_eqt (zNr_b (p := [false, false, false, false, false, true, false, false, true, false]) hn (by decide +kernel))
    | 6, _ => exact va_eqt (zNr_b (p := [false, false, false, false, false, true, false, false, true, true, false]) hn (by decide +kernel))
    | 7, _ => exact va_eqt (zNr_b (p := [false, false, false, false, false, true, false, false, true, true, true]) hn (by decide +kernel))
    | k + 8, h => exact absurd h (by omega)) hA
  exact ⟨t, va_Zof (hts _ (zT_mem (n := 1032) (by decide +kernel))) (hts _ (zT_mem (n := 116) (by decide +kernel))) ht hA, hT⟩
theorem zst_s2 {args : Array Value} {s : State} {A : Nat → Prop} (hts : ∀ w ∈ lw_tbl, w.before args s = true) (hn : narrow_1.before args s = true) (hA : ∀ a : Nat, a < s.heap.size → ¬ A a) : ∃ t : Nat, va_Z "SandRails" "MOST_STORES" "[I" (.ref t) A s s.heap ∧ va_T .int t 8 (fun i => .int (Int32.ofInt (([9999, 9999, 60, 60, 9, 18, 100, 4] : List Int).getD i 0))) A s s.heap := by
  obtain ⟨t, ht, hT⟩ := va_Tof (args := args) (s := s) (tm := (Term.static "SandRails" "MOST_STORES" "[I")) (ty := .int) (N := 8) (f := fun i => .int (Int32.ofInt (([9999, 9999, 60, 60, 9, 18, 100, 4] : List Int).getD i 0))) (A := A) (by decide) (zNr_b (p := [false, false, false, false, false, false, false, true, true, true, false]) hn (by decide +kernel)) (va_eqt (zNr_b (p := [false, false, false, false, false, false, false, true, true, true, true]) hn (by decide +kernel))) (fun j hj => by
    match j, hj with
    | 0, _ => exact va_eqt (zNr_b (p := [false, false, false, false, false, false, true, false, false, false]) hn (by decide +kernel))
    | 1, _ => exact va_eqt (zNr_b (p := [false, false, false, false, false, false, true, false, false, true, false]) hn (by decide +kernel))
    | 2, _ => exact va_eqt (zNr_b (p := [false, false, false, false, false, false, true, false, false, true, true]) hn (by decide +kernel))
    | 3, _ => exact va_eqt (zNr_b (p := [false, false, false, false, false, false, true, false, true, false]) hn (by decide +kernel))
    | 4, _ => exact va_eqt (zNr_b (p := [false, false, false, false, false, false, true, false, true, true, false]) hn (by decide +kernel))
    | 5, _ => exact va_eqt (zNr_b (p := [false, false, false, false, false, false, true, false, true, true, true]) hn (by decide +kernel))
    | 6, _ => exact va_eqt (zNr_b (p := [false, false, false, false, false, false, true, true, false, false]) hn (by decide +kernel))
    | 7, _ => exact va_eqt (zNr_b (p := [false, false, false, false, false, false, true, true, false, true, false]) hn (by decide +kernel))
    | k + 8, h => exact absurd h (by omega)) hA
  exact ⟨t, va_Zof (hts _ (zT_mem (n := 1030) (by decide +kernel))) (hts _ (zT_mem (n := 116) (by decide +kernel))) ht hA, hT⟩
/-- the texts: where the premise tells of them -/
def zTxN : List Nat := [97, 103, 105, 107, 109, 111, 113, 115, 117, 119, 124, 126, 128, 130, 159, 164, 172, 174, 176, 178, 180, 182, 184, 186, 157, 152]
def zTxM : List Nat := [193, 217, 195, 197, 199, 201, 216, 203, 208, 214, 175, 177, 179, 181, 149, 160, 127, 129, 131, 133, 135, 137, 139, 141, 168, 173]
def zTm (i : Nat) : Term := .string "SandRails$Reader" (zTxN.getD i 0)
def zP1 : List (List Bool) := [[false, false, false, true, false, false, true, true, false, false], [false, false, false, true, false, true, false, false, false, true, false], [false, false, false, true, false, true, false, true, false, true, true], [false, false, false, true, false, true, true, false, false, true, true], [false, false, false, true, false, true, true, true, true, false, true], [false, false, false, true, true, false, false, false, true, true, true], [false, false, false, true, true, false, true, false, false, false], [false, false, false, true, true, false, true, true, false, true, true], [false, false, false, true, true, true, false, false, true, true, false], [false, false, false, true, true, true, false, true, true, true, false], [false, false, false, true, true, true, true, true, false, true, false], [false, false, true, false, false, false, false, false, true, false], [false, false, true, false, false, false, false, true, true, true, true], [false, false, true, false, false, false, true, true, false, true, true], [false, false, true, false, false, true, false, false, true, false], [false, false, true, false, false, true, false, true, true, true, false], [false, false, true, false, false, true, true, true, false, true, true], [false, false, true, false, true, false, false, false, true, true, false], [false, false, true, false, true, false, true, false, false, false], [false, false, true, false, true, false, true, true, true, false, true], [false, false, true, false, true, true, false, true, false, true, true], [false, false, true, false, true, true, true, false, true, true, true], [false, false, true, true, false, false, false, false, false, true, true], [false, false, true, true, false, false, false, true, true, true, false], [false, false, true, true, false, false, true, false, true, true, true], [false, false, true, true, false, false, true, true, true, true, true]]
def zP2 : List (List Bool) := [[false, false, false, true, false, false, true, true, false, true, false], [false, false, false, true, false, true, false, false, false, true, true], [false, false, false, true, false, true, false, true, true, false], [false, false, false, true, false, true, true, false, true, false], [false, false, false, true, false, true, true, true, true, true, false], [false, false, false, true, true, false, false, true, false, false], [false, false, false, true, true, false, true, false, false, true, false], [false, false, false, true, true, false, true, true, true, false, false], [false, false, false, true, true, true, false, false, true, true, true], [false, false, false, true, true, true, false, true, true, true, true], [false, false, false, true, true, true, true, true, false, true, true], [false, false, true, false, false, false, false, false, true, true, false], [false, false, true, false, false, false, true, false, false, false], [false, false, true, false, false, false, true, true, true, false, false], [false, false, true, false, false, true, false, false, true, true, false], [false, false, true, false, false, true, false, true, true, true, true], [false, false, true, false, false, true, true, true, true, false, false], [false, false, true, false, true, false, false, false, true, true, true], [false, false, true, false, true, false, true, false, false, true, false], [false, false, true, false, true, false, true, true, true, true, false], [false, false, true, false, true, true, false, true, true, false], [false, false, true, false, true, true, true, true, false, false], [false, false, true, true, false, false, false, false, true, false], [false, false, true, true, false, false, false, true, true, true, true], [false, false, true, true, false, false, true, true, false, false], [false, false, true, true, false, true, false, false, false, false]]
def zP3 : List (List Bool) := [[false, false, false, true, false, false, true, true, false, true, true], [false, false, false, true, false, true, false, false, true, false], [false, false, false, true, false, true, false, true, true, true, false], [false, false, false, true, false, true, true, false, true, true, false], [false, false, false, true, false, true, true, true, true, true, true], [false, false, false, true, true, false, false, true, false, true, false], [false, false, false, true, true, false, true, false, false, true, true], [false, false, false, true, true, false, true, true, true, false, true], [false, false, false, true, true, true, false, true, false, false], [false, false, false, true, true, true, true, false, false, false], [false, false, false, true, true, true, true, true, true, false, false], [false, false, true, false, false, false, false, false, true, true, true], [false, false, true, false, false, false, true, false, false, true, false], [false, false, true, false, false, false, true, true, true, false, true], [false, false, true, false, false, true, false, false, true, true, true], [false, false, true, false, false, true, true, false, false, false], [false, false, true, false, false, true, true, true, true, false, true], [false, false, true, false, true, false, false, true, false, false], [false, false, true, false, true, false, true, false, false, true, true], [false, false, true, false, true, false, true, true, true, true, true], [false, false, true, false, true, true, false, true, true, true, false], [false, false, true, false, true, true, true, true, false, true, false], [false, false, true, true, false, false, false, false, true, true, false], [false, false, true, true, false, false, true, false, false, false], [false, false, true, true, false, false, true, true, false, true, false], [false, false, true, true, false, true, false, false, false, true, false]]
def zP4 : List (List Bool) := [[false, false, false, true, false, false, true, true, true, false, false], [false, false, false, true, false, true, false, false, true, true, false], [false, false, false, true, false, true, false, true, true, true, true], [false, false, false, true, false, true, true, false, true, true, true], [false, false, false, true, true, false, false, false, false, false], [false, false, false, true, true, false, false, true, false, true, true], [false, false, false, true, true, false, true, false, true, false], [false, false, false, true, true, false, true, true, true, true, false], [false, false, false, true, true, true, false, true, false, true, false], [false, false, false, true, true, true, true, false, false, true, false], [false, false, false, true, true, true, true, true, true, false, true], [false, false, true, false, false, false, false, true, false, false], [false, false, true, false, false, false, true, false, false, true, true], [false, false, true, false, false, false, true, true, true, true, false], [false, false, true, false, false, true, false, true, false, false], [false, false, true, false, false, true, true, false, false, true, false], [false, false, true, false, false, true, true, true, true, true, false], [false, false, true, false, true, false, false, true, false, true, false], [false, false, true, false, true, false, true, false, true, false], [false, false, true, false, true, true, false, false, false, false], [false, false, true, false, true, true, false, true, true, true, true], [false, false, true, false, true, true, true, true, false, true, true], [false, false, true, true, false, false, false, false, true, true, true], [false, false, true, true, false, false, true, false, false, true, false], [false, false, true, true, false, false, true, true, false, true, true], [false, false, true, true, false, true, false, false, false, true, true]]
def zP5 : List (List (List Bool)) := [[[false, false, false, true, false, false, true, true, true, false, true], [false, false, false, true, false, false, true, true, true, true, false], [false, false, false, true, false, false, true, true, true, true, true], [false, false, false, true, false, true, false, false, false, false]],
  [[false, false, false, true, false, true, false, false, true, true, true], [false, false, false, true, false, true, false, true, false, false], [false, false, false, true, false, true, false, true, false, true, false]],
  [[false, false, false, true, false, true, true, false, false, false], [false, false, false, true, false, true, true, false, false, true, false]],
  [[false, false, false, true, false, true, true, true, false, false], [false, false, false, true, false, true, true, true, false, true, false], [false, false, false, true, false, true, true, true, false, true, true], [false, false, false, true, false, true, true, true, true, false, false]],
  [[false, false, false, true, true, false, false, false, false, true, false], [false, false, false, true, true, false, false, false, false, true, true], [false, false, false, true, true, false, false, false, true, false], [false, false, false, true, true, false, false, false, true, true, false]],
  [[false, false, false, true, true, false, false, true, true, false], [false, false, false, true, true, false, false, true, true, true, false], [false, false, false, true, true, false, false, true, true, true, true]],
  [[false, false, false, true, true, false, true, false, true, true, false], [false, false, false, true, true, false, true, false, true, true, true], [false, false, false, true, true, false, true, true, false, false], [false, false, false, true, true, false, true, true, false, true, false]],
  [[false, false, false, true, true, false, true, true, true, true, true], [false, false, false, true, true, true, false, false, false, false], [false, false, false, true, true, true, false, false, false, true, false], [false, false, false, true, true, true, false, false, false, true, true], [false, false, false, true, true, true, false, false, true, false]],
  [[false, false, false, true, true, true, false, true, false, true, true], [false, false, false, true, true, true, false, true, true, false]],
  [[false, false, false, true, true, true, true, false, false, true, true], [false, false, false, true, true, true, true, false, true, false], [false, false, false, true, true, true, true, false, true, true, false], [false, false, false, true, true, true, true, false, true, true, true], [false, false, false, true, true, true, true, true, false, false]],
  [[false, false, false, true, true, true, true, true, true, true, false], [false, false, false, true, true, true, true, true, true, true, true], [false, false, true, false, false, false, false, false, false, false], [false, false, true, false, false, false, false, false, false, true, false], [false, false, true, false, false, false, false, false, false, true, true]],
  [[false, false, true, false, false, false, false, true, false, true, false], [false, false, true, false, false, false, false, true, false, true, true], [false, false, true, false, false, false, false, true, true, false], [false, false, true, false, false, false, false, true, true, true, false]],
  [[false, false, true, false, false, false, true, false, true, false], [false, false, true, false, false, false, true, false, true, true, false], [false, false, true, false, false, false, true, false, true, true, true], [false, false, true, false, false, false, true, true, false, false], [false, false, true, false, false, false, true, true, false, true, false]],
  [[false, false, true, false, false, false, true, true, true, true, true], [false, false, true, false, false, true, false, false, false, false], [false, false, true, false, false, true, false, false, false, true, false], [false, false, true, false, false, true, false, false, false, true, true]],
  [[false, false, true, false, false, true, false, true, false, true, false], [false, false, true, false, false, true, false, true, false, true, true], [false, false, true, false, false, true, false, true, true, false]],
  [[false, false, true, false, false, true, true, false, false, true, true], [false, false, true, false, false, true, true, false, true, false], [false, false, true, false, false, true, true, false, true, true, false], [false, false, true, false, false, true, true, false, true, true, true], [false, false, true, false, false, true, true, true, false, false], [false, false, true, false, false, true, true, true, false, true, false]],
  [[false, false, true, false, false, true, true, true, true, true, true], [false, false, true, false, true, false, false, false, false, false], [false, false, true, false, true, false, false, false, false, true, false], [false, false, true, false, true, false, false, false, false, true, true], [false, false, true, false, true, false, false, false, true, false]],
  [[false, false, true, false, true, false, false, true, false, true, true], [false, false, true, false, true, false, false, true, true, false], [false, false, true, false, true, false, false, true, true, true, false], [false, false, true, false, true, false, false, true, true, true, true]],
  [[false, false, true, false, true, false, true, false, true, true, false], [false, false, true, false, true, false, true, false, true, true, true], [false, false, true, false, true, false, true, true, false, false], [false, false, true, false, true, false, true, true, false, true, false], [false, false, true, false, true, false, true, true, false, true, true], [false, false, true, false, true, false, true, true, true, false, false]],
  [[false, false, true, false, true, true, false, false, false, true, false], [false, false, true, false, true, true, false, false, false, true, true], [false, false, true, false, true, true, false, false, true, false], [false, false, true, false, true, true, false, false, true, true, false], [false, false, true, false, true, true, false, false, true, true, true], [false, false, true, false, true, true, false, true, false, false], [false, false, true, false, true, true, false, true, false, true, false]],
  [[false, false, true, false, true, true, true, false, false, false], [false, false, true, false, true, true, true, false, false, true, false], [false, false, true, false, true, true, true, false, false, true, true], [false, false, true, false, true, true, true, false, true, false], [false, false, true, false, true, true, true, false, true, true, false]],
  [[false, false, true, false, true, true, true, true, true, false, false], [false, false, true, false, true, true, true, true, true, false, true], [false, false, true, false, true, true, true, true, true, true, false], [false, false, true, false, true, true, true, true, true, true, true], [false, false, true, true, false, false, false, false, false, false], [false, false, true, true, false, false, false, false, false, true, false]],
  [[false, false, true, true, false, false, false, true, false, false], [false, false, true, true, false, false, false, true, false, true, false], [false, false, true, true, false, false, false, true, false, true, true], [false, false, true, true, false, false, false, true, true, false]],
  [[false, false, true, true, false, false, true, false, false, true, true], [false, false, true, true, false, false, true, false, true, false], [false, false, true, true, false, false, true, false, true, true, false]],
  [[false, false, true, true, false, false, true, true, true, false, false], [false, false, true, true, false, false, true, true, true, false, true], [false, false, true, true, false, false, true, true, true, true, false]],
  [[false, false, true, true, false, true, false, false, true, false], [false, false, true, true, false, true, false, false, true, true, false]]]
def zP6 : List (List Bool) := [[true, true, false, false, false, true, true, false, false, false], [true, true, true, true, false, true, false, true, true, true], [true, true, false, false, false, true, true, true, true, true], [true, true, false, false, true, false, true, false, false, false], [true, true, false, false, true, true, false, false, false, true], [true, true, false, false, true, true, true, false, false, true], [true, true, true, true, false, false, true, true, true, true], [true, true, false, true, false, false, false, false, true, true], [true, true, false, true, false, false, true, false, true, false], [true, true, true, true, false, false, false, true, true, false], [true, true, true, true, true, false, false, false, false, true], [true, true, true, true, true, false, true, false, true, false], [true, true, true, true, true, true, false, true, false, false], [true, true, true, true, true, true, true, true, false, true], [true, true, false, true, false, true, false, false, true, false], [true, true, false, true, false, true, true, true, false, true], [true, true, false, true, true, false, false, true, true, true], [true, true, false, true, true, true, false, false, false, false], [true, true, false, true, true, true, true, false, true, true], [true, true, true, false, false, false, false, true, true, true], [true, true, true, false, false, true, false, false, false, true], [true, true, true, false, false, true, true, true, false, false], [true, true, true, false, true, false, false, true, false, true], [true, true, true, false, true, false, true, true, false, true], [true, true, true, false, true, true, false, true, false, true], [true, true, true, false, true, true, true, true, false, false]]
theorem zst_c1 : (List.range 26).all (fun i => zNr (zP1.getD i []) (.exactly (zTm i) "java/lang/String")) = true := by decide +kernel
theorem zst_c2 : (List.range 26).all (fun i => zNr (zP2.getD i []) (.eq (.field (zTm i) "java/lang/String" "coder" "B") (.int 0))) = true := by decide +kernel
theorem zst_c3 : (List.range 26).all (fun i => zNr (zP3.getD i []) (.arrayOf (.field (zTm i) "java/lang/String" "value" "[B") .byte)) = true := by decide +kernel
theorem zst_c4 : (List.range 26).all (fun i => zNr (zP4.getD i []) (.eq (.length (.field (zTm i) "java/lang/String" "value" "[B")) (.int (Int32.ofNat ((zTx.map List.length).getD i 0))))) = true := by decide +kernel
theorem zst_c6 : (List.range 26).all (fun i => zNr (zP6.getD i []) (.eq (zTm i) (.string "SandRailsModel" (zTxM.getD i 0)))) = true := by decide +kernel
theorem zst_c5 : (List.range 26).all (fun i => (List.range ((zTx.map List.length).getD i 0)).all (fun j => zNr ((zP5.getD i []).getD j []) (.eq (.elem (.field (zTm i) "java/lang/String" "value" "[B") (.int (Int32.ofNat j))) (.int (((zTx.map (·.map Int32.ofInt)).getD i []).getD j 0))))) = true := by decide +kernel
theorem zrange {n : Nat} {f : Nat → Bool} (h : (List.range n).all f = true) {i : Nat} (hi : i < n) : f i = true := List.all_eq_true.mp h i (List.mem_range.mpr hi)
