/-- a row of references, empty -/
def zNo : Nat → Option Nat := fun _ => none
theorem zgc {α : Type} {x y : α} {T : List α} {n : Nat} (h : T[n]? = some y) : (x :: T)[n + 1]? = some y := h
theorem zgl {α : Type} {y : α} {A B : List α} {n : Nat} (h : A[n]? = some y) : (A ++ B)[n]? = some y := by
  rw [List.getElem?_append_left (List.getElem?_eq_some_iff.mp h).1]; exact h
theorem zgr {α : Type} {y : α} {A B : List α} {m j : Nat} (hm : A.length = m) (h : B[j]? = some y) : (A ++ B)[m + j]? = some y := by
  rw [List.getElem?_append_right (by omega), hm, Nat.add_sub_cancel_left]; exact h
theorem zsc {α : Type} {x v : α} {T T' : List α} {n : Nat} (h : T.set n v = T') : (x :: T).set (n + 1) v = x :: T' := congrArg (x :: ·) h
theorem zsl {α : Type} {v : α} {A B A' : List α} {n : Nat} (hn : n < A.length) (h : A.set n v = A') : (A ++ B).set n v = A' ++ B := by
  rw [List.set_append_left _ _ hn, h]
theorem zsr {α : Type} {v y : α} {A : List α} {n : Nat} (hn : A.length = n) : (A ++ [y]).set n v = A ++ [v] := by
  subst hn
  rw [List.set_append_right _ _ (Nat.le_refl _), Nat.sub_self]; rfl
theorem zK_eq {p : Program} {l : Launch} {e : Env} {R : Room} {s : State} {m : MethodId} {args : Array Value} {below : List Frame} {meth : Method} {c : Code} {Q : State → Prop} {D : va_G} {A : Nat → Prop} {L : Array Slot} {cells slots : Nat} {ws ws' : va_W} {pc : Nat} {st : List Value} (h : ws = ws') (k : zK p l e R s m args below meth c Q D A L cells slots ws' pc st) : zK p l e R s m args below meth c Q D A L cells slots ws pc st := h ▸ k
def FX0 (cs : Nat → ClassId) (a : Nat) (u : Nat → Nat) : va_W := (a, .inr (0, [.ref (u 0), .ref (u 1), .int 1])) :: (([] ++ [(u 0, (.inl (cs 0, (100, .inl fun _ => 0)) : va_E))]) ++ [(u 1, (.inl (cs 0, (100, .inl fun _ => 0)) : va_E))])
theorem FX0_ext {cs : Nat → ClassId} {a : Nat} {u u1 : Nat → Nat} (h : ∀ j, j < 2 → u j = u1 j) : FX0 cs a u = FX0 cs a u1 := by
  unfold FX0
  simp only [h 0 (by omega), h 1 (by omega)]
theorem FX0_len {cs : Nat → ClassId} {a : Nat} {u : Nat → Nat} : (FX0 cs a u).length = 3 := rfl
set_option maxHeartbeats 8000000 in
set_option maxRecDepth 100000 in
theorem cX0_con (l : Launch) : zCon l yX0_init cX0_init 1 0 2 200 0 [.null, .null, .int 0] FX0 := by
  refine zCon_of (own := RX0) (by decide +kernel) rfl rfl (by decide) ?_
  intro p e s m args below meth c Q D cs A L a X hin hl ret
  refine zk_aload (i := 0) (x := a) X (by decide +kernel) (lv_at hl 0 rfl) ?_
  refine zk_obj (idx := 3) X hl.1 (zG_mem (n := 161) (by decide +kernel)) (zG_mem (n := 148) (by decide +kernel)) (zG_mem (n := 149) (by decide +kernel)) (by decide +kernel) ?_
  refine zk_aload (i := 0) (x := a) X (by decide +kernel) (lv_at hl 0 rfl) ?_
  refine zk_bipush (n := 100) (v := 100) X (by decide +kernel) (by decide) ?_
  refine zk_newarr (atype := .int) (N := 100) X (t0 := 0) (a0 := (100, .inl fun _ => 0)) (zG_mem (n := 173) (by decide +kernel)) rfl rfl (fun _ h1 h2 => zra_p h1 h2) (fun _ => rfl) (by decide) (by decide) (by decide) (by decide) (by decide) (by decide +kernel) (fun q0 => ?_)
  show zK p l e _ s m args below meth c Q D A L 1 100 ((a, .inr (0, [.null, .null, .int 0])) :: ([] ++ [(q0, (.inl (cs 0, (100, .inl fun _ => 0)) : va_E))])) 9 [.ref q0, .ref a]
  refine zk_put (k := 9) X zClok_ok hin (q0 := 0) (ci := 0) (f := 0) (ty := (.array .int)) rfl rfl (by decide) rfl (zG_mem (n := 162) (by decide +kernel)) rfl (by exact Nat.le_of_ble_eq_true rfl) (by decide +kernel) rfl rfl (by decide +kernel) ?_
  show zK p l e _ s m args below meth c Q D A L 1 100 ((a, .inr (0, [.ref q0, .null, .int 0])) :: ([] ++ [(q0, (.inl (cs 0, (100, .inl fun _ => 0)) : va_E))])) 12 []
  refine zk_aload (i := 0) (x := a) X (by decide +kernel) (lv_at hl 0 rfl) ?_
  refine zk_bipush (n := 100) (v := 100) X (by decide +kernel) (by decide) ?_
  refine zk_newarr (atype := .int) (N := 100) X (t0 := 0) (a0 := (100, .inl fun _ => 0)) (zG_mem (n := 173) (by decide +kernel)) rfl rfl (fun _ h1 h2 => zra_p h1 h2) (fun _ => rfl) (by decide) (by decide) (by decide) (by decide) (by decide) (by decide +kernel) (fun q1 => ?_)
  show zK p l e _ s m args below meth c Q D A L 2 200 ((a, .inr (0, [.ref q0, .null, .int 0])) :: (([] ++ [(q0, (.inl (cs 0, (100, .inl fun _ => 0)) : va_E))]) ++ [(q1, (.inl (cs 0, (100, .inl fun _ => 0)) : va_E))])) 17 [.ref q1, .ref a]
  refine zk_put (k := 15) X zClok_ok hin (q0 := 0) (ci := 0) (f := 1) (ty := (.array .int)) rfl rfl (by decide) rfl (zG_mem (n := 163) (by decide +kernel)) rfl (by exact Nat.le_of_ble_eq_true rfl) (by decide +kernel) rfl rfl (by decide +kernel) ?_
  show zK p l e _ s m args below meth c Q D A L 2 200 ((a, .inr (0, [.ref q0, .ref q1, .int 0])) :: (([] ++ [(q0, (.inl (cs 0, (100, .inl fun _ => 0)) : va_E))]) ++ [(q1, (.inl (cs 0, (100, .inl fun _ => 0)) : va_E))])) 20 []
  refine zk_aload (i := 0) (x := a) X (by decide +kernel) (lv_at hl 0 rfl) ?_
  refine zk_iconst (n := 1) (v := 1) X (by decide +kernel) (by decide) ?_
  refine zk_put (k := 18) X zClok_ok hin (q0 := 0) (ci := 0) (f := 2) (ty := .int) rfl rfl (by decide) rfl (zG_mem (n := 164) (by decide +kernel)) rfl (by exact Nat.le_of_ble_eq_true rfl) (by decide +kernel) rfl rfl (by decide +kernel) ?_
  show zK p l e _ s m args below meth c Q D A L 2 200 ((a, .inr (0, [.ref q0, .ref q1, .int 1])) :: (([] ++ [(q0, (.inl (cs 0, (100, .inl fun _ => 0)) : va_E))]) ++ [(q1, (.inl (cs 0, (100, .inl fun _ => 0)) : va_E))])) 25 []
  exact ret _ 25 (fun k => if k = 0 then q0 else if k = 1 then q1 else 0) (by decide +kernel)
def FX1 (cs : Nat → ClassId) (a : Nat) (u : Nat → Nat) : va_W := (a, .inr (1, [.ref (u 0), .ref (u 1), .ref (u 2), .int 0])) :: ((([] ++ [(u 0, (.inl (cs 0, (4, .inl fun _ => 0)) : va_E))]) ++ [(u 1, (.inl (cs 0, (4, .inl fun _ => 0)) : va_E))]) ++ [(u 2, (.inl (cs 0, (4, .inl fun _ => 0)) : va_E))])
theorem FX1_ext {cs : Nat → ClassId} {a : Nat} {u u1 : Nat → Nat} (h : ∀ j, j < 3 → u j = u1 j) : FX1 cs a u = FX1 cs a u1 := by
  unfold FX1
  simp only [h 0 (by omega), h 1 (by omega), h 2 (by omega)]
theorem FX1_len {cs : Nat → ClassId} {a : Nat} {u : Nat → Nat} : (FX1 cs a u).length = 4 := rfl
set_option maxHeartbeats 8000000 in
set_option maxRecDepth 100000 in
theorem cX1_con (l : Launch) : zCon l yX1_init cX1_init 1 0 3 12 1 [.null, .null, .null, .int 0] FX1 := by
  refine zCon_of (own := RX1) (by decide +kernel) rfl rfl (by decide) ?_
  intro p e s m args below meth c Q D cs A L a X hin hl ret
  refine zk_aload (i := 0) (x := a) X (by decide +kernel) (lv_at hl 0 rfl) ?_
  refine zk_obj (idx := 3) X hl.1 (zG_mem (n := 218) (by decide +kernel)) (zG_mem (n := 148) (by decide +kernel)) (zG_mem (n := 149) (by decide +kernel)) (by decide +kernel) ?_
  refine zk_aload (i := 0) (x := a) X (by decide +kernel) (lv_at hl 0 rfl) ?_
  refine zk_iconst (n := 4) (v := 4) X (by decide +kernel) (by decide) ?_
  refine zk_newarr (atype := .int) (N := 4) X (t0 := 0) (a0 := (4, .inl fun _ => 0)) (zG_mem (n := 173) (by decide +kernel)) rfl rfl (fun _ h1 h2 => zra_p h1 h2) (fun _ => rfl) (by decide) (by decide) (by decide) (by decide) (by decide) (by decide +kernel) (fun q0 => ?_)
  show zK p l e _ s m args below meth c Q D A L 1 4 ((a, .inr (1, [.null, .null, .null, .int 0])) :: ([] ++ [(q0, (.inl (cs 0, (4, .inl fun _ => 0)) : va_E))])) 8 [.ref q0, .ref a]
  refine zk_put (k := 9) X zClok_ok hin (q0 := 0) (ci := 1) (f := 0) (ty := (.array .int)) rfl rfl (by decide) rfl (zG_mem (n := 219) (by decide +kernel)) rfl (by exact Nat.le_of_ble_eq_true rfl) (by decide +kernel) rfl rfl (by decide +kernel) ?_
  show zK p l e _ s m args below meth c Q D A L 1 4 ((a, .inr (1, [.ref q0, .null, .null, .int 0])) :: ([] ++ [(q0, (.inl (cs 0, (4, .inl fun _ => 0)) : va_E))])) 11 []
  refine zk_aload (i := 0) (x := a) X (by decide +kernel) (lv_at hl 0 rfl) ?_
  refine zk_iconst (n := 4) (v := 4) X (by decide +kernel) (by decide) ?_
  refine zk_newarr (atype := .int) (N := 4) X (t0 := 0) (a0 := (4, .inl fun _ => 0)) (zG_mem (n := 173) (by decide +kernel)) rfl rfl (fun _ h1 h2 => zra_p h1 h2) (fun _ => rfl) (by decide) (by decide) (by decide) (by decide) (by decide) (by decide +kernel) (fun q1 => ?_)
  show zK p l e _ s m args below meth c Q D A L 2 8 ((a, .inr (1, [.ref q0, .null, .null, .int 0])) :: (([] ++ [(q0, (.inl (cs 0, (4, .inl fun _ => 0)) : va_E))]) ++ [(q1, (.inl (cs 0, (4, .inl fun _ => 0)) : va_E))])) 15 [.ref q1, .ref a]
  refine zk_put (k := 15) X zClok_ok hin (q0 := 0) (ci := 1) (f := 1) (ty := (.array .int)) rfl rfl (by decide) rfl (zG_mem (n := 220) (by decide +kernel)) rfl (by exact Nat.le_of_ble_eq_true rfl) (by decide +kernel) rfl rfl (by decide +kernel) ?_
  show zK p l e _ s m args below meth c Q D A L 2 8 ((a, .inr (1, [.ref q0, .ref q1, .null, .int 0])) :: (([] ++ [(q0, (.inl (cs 0, (4, .inl fun _ => 0)) : va_E))]) ++ [(q1, (.inl (cs 0, (4, .inl fun _ => 0)) : va_E))])) 18 []
  refine zk_aload (i := 0) (x := a) X (by decide +kernel) (lv_at hl 0 rfl) ?_
  refine zk_iconst (n := 4) (v := 4) X (by decide +kernel) (by decide) ?_
  refine zk_newarr (atype := .int) (N := 4) X (t0 := 0) (a0 := (4, .inl fun _ => 0)) (zG_mem (n := 173) (by decide +kernel)) rfl rfl (fun _ h1 h2 => zra_p h1 h2) (fun _ => rfl) (by decide) (by decide) (by decide) (by decide) (by decide) (by decide +kernel) (fun q2 => ?_)
  show zK p l e _ s m args below meth c Q D A L 3 12 ((a, .inr (1, [.ref q0, .ref q1, .null, .int 0])) :: ((([] ++ [(q0, (.inl (cs 0, (4, .inl fun _ => 0)) : va_E))]) ++ [(q1, (.inl (cs 0, (4, .inl fun _ => 0)) : va_E))]) ++ [(q2, (.inl (cs 0, (4, .inl fun _ => 0)) : va_E))])) 22 [.ref q2, .ref a]
  refine zk_put (k := 18) X zClok_ok hin (q0 := 0) (ci := 1) (f := 2) (ty := (.array .int)) rfl rfl (by decide) rfl (zG_mem (n := 221) (by decide +kernel)) rfl (by exact Nat.le_of_ble_eq_true rfl) (by decide +kernel) rfl rfl (by decide +kernel) ?_
  show zK p l e _ s m args below meth c Q D A L 3 12 ((a, .inr (1, [.ref q0, .ref q1, .ref q2, .int 0])) :: ((([] ++ [(q0, (.inl (cs 0, (4, .inl fun _ => 0)) : va_E))]) ++ [(q1, (.inl (cs 0, (4, .inl fun _ => 0)) : va_E))]) ++ [(q2, (.inl (cs 0, (4, .inl fun _ => 0)) : va_E))])) 25 []
  refine zk_aload (i := 0) (x := a) X (by decide +kernel) (lv_at hl 0 rfl) ?_
  refine zk_iconst (n := 0) (v := 0) X (by decide +kernel) (by decide) ?_
  refine zk_put (k := 21) X zClok_ok hin (q0 := 0) (ci := 1) (f := 3) (ty := .int) rfl rfl (by decide) rfl (zG_mem (n := 222) (by decide +kernel)) rfl (by exact Nat.le_of_ble_eq_true rfl) (by decide +kernel) rfl rfl (by decide +kernel) ?_
  show zK p l e _ s m args below meth c Q D A L 3 12 ((a, .inr (1, [.ref q0, .ref q1, .ref q2, .int 0])) :: ((([] ++ [(q0, (.inl (cs 0, (4, .inl fun _ => 0)) : va_E))]) ++ [(q1, (.inl (cs 0, (4, .inl fun _ => 0)) : va_E))]) ++ [(q2, (.inl (cs 0, (4, .inl fun _ => 0)) : va_E))])) 30 []
  exact ret _ 30 (fun k => if k = 0 then q0 else if k = 1 then q1 else if k = 2 then q2 else 0) (by decide +kernel)
def FX2 (cs : Nat → ClassId) (a : Nat) (u : Nat → Nat) : va_W := (a, .inr (2, [.ref (u 0), .ref (u 1), .ref (u 2), .ref (u 3), .int 0, .int 0, .ref (u 4)])) :: ((((([] ++ [(u 0, (.inl (cs 0, (100, .inl fun _ => 0)) : va_E))]) ++ [(u 1, (.inl (cs 0, (100, .inl fun _ => 0)) : va_E))]) ++ [(u 2, (.inl (cs 0, (100, .inl fun _ => 0)) : va_E))]) ++ [(u 3, (.inl (cs 0, (100, .inl fun _ => 0)) : va_E))]) ++ [(u 4, (.inl (cs 2, (100, .inl fun _ => 0)) : va_E))])
theorem FX2_ext {cs : Nat → ClassId} {a : Nat} {u u1 : Nat → Nat} (h : ∀ j, j < 5 → u j = u1 j) : FX2 cs a u = FX2 cs a u1 := by
  unfold FX2
  simp only [h 0 (by omega), h 1 (by omega), h 2 (by omega), h 3 (by omega), h 4 (by omega)]
theorem FX2_len {cs : Nat → ClassId} {a : Nat} {u : Nat → Nat} : (FX2 cs a u).length = 6 := rfl
set_option maxHeartbeats 8000000 in
set_option maxRecDepth 100000 in
theorem cX2_con (l : Launch) : zCon l yX2_init cX2_init 1 0 5 500 2 [.null, .null, .null, .null, .int 0, .int 0, .null] FX2 := by
  refine zCon_of (own := RX2) (by decide +kernel) rfl rfl (by decide) ?_
  intro p e s m args below meth c Q D cs A L a X hin hl ret
  refine zk_aload (i := 0) (x := a) X (by decide +kernel) (lv_at hl 0 rfl) ?_
  refine zk_obj (idx := 3) X hl.1 (zG_mem (n := 238) (by decide +kernel)) (zG_mem (n := 148) (by decide +kernel)) (zG_mem (n := 149) (by decide +kernel)) (by decide +kernel) ?_
  refine zk_aload (i := 0) (x := a) X (by decide +kernel) (lv_at hl 0 rfl) ?_
  refine zk_bipush (n := 100) (v := 100) X (by decide +kernel) (by decide) ?_
  refine zk_newarr (atype := .int) (N := 100) X (t0 := 0) (a0 := (100, .inl fun _ => 0)) (zG_mem (n := 173) (by decide +kernel)) rfl rfl (fun _ h1 h2 => zra_p h1 h2) (fun _ => rfl) (by decide) (by decide) (by decide) (by decide) (by decide) (by decide +kernel) (fun q0 => ?_)
  show zK p l e _ s m args below meth c Q D A L 1 100 ((a, .inr (2, [.null, .null, .null, .null, .int 0, .int 0, .null])) :: ([] ++ [(q0, (.inl (cs 0, (100, .inl fun _ => 0)) : va_E))])) 9 [.ref q0, .ref a]
  refine zk_put (k := 9) X zClok_ok hin (q0 := 0) (ci := 2) (f := 0) (ty := (.array .int)) rfl rfl (by decide) rfl (zG_mem (n := 239) (by decide +kernel)) rfl (by exact Nat.le_of_ble_eq_true rfl) (by decide +kernel) rfl rfl (by decide +kernel) ?_
  show zK p l e _ s m args below meth c Q D A L 1 100 ((a, .inr (2, [.ref q0, .null, .null, .null, .int 0, .int 0, .null])) :: ([] ++ [(q0, (.inl (cs 0, (100, .inl fun _ => 0)) : va_E))])) 12 []
  refine zk_aload (i := 0) (x := a) X (by decide +kernel) (lv_at hl 0 rfl) ?_
  refine zk_bipush (n := 100) (v := 100) X (by decide +kernel) (by decide) ?_
  refine zk_newarr (atype := .int) (N := 100) X (t0 := 0) (a0 := (100, .inl fun _ => 0)) (zG_mem (n := 173) (by decide +kernel)) rfl rfl (fun _ h1 h2 => zra_p h1 h2) (fun _ => rfl) (by decide) (by decide) (by decide) (by decide) (by decide) (by decide +kernel) (fun q1 => ?_)
  show zK p l e _ s m args below meth c Q D A L 2 200 ((a, .inr (2, [.ref q0, .null, .null, .null, .int 0, .int 0, .null])) :: (([] ++ [(q0, (.inl (cs 0, (100, .inl fun _ => 0)) : va_E))]) ++ [(q1, (.inl (cs 0, (100, .inl fun _ => 0)) : va_E))])) 17 [.ref q1, .ref a]
  refine zk_put (k := 15) X zClok_ok hin (q0 := 0) (ci := 2) (f := 1) (ty := (.array .int)) rfl rfl (by decide) rfl (zG_mem (n := 240) (by decide +kernel)) rfl (by exact Nat.le_of_ble_eq_true rfl) (by decide +kernel) rfl rfl (by decide +kernel) ?_
  show zK p l e _ s m args below meth c Q D A L 2 200 ((a, .inr (2, [.ref q0, .ref q1, .null, .null, .int 0, .int 0, .null])) :: (([] ++ [(q0, (.inl (cs 0, (100, .inl fun _ => 0)) : va_E))]) ++ [(q1, (.inl (cs 0, (100, .inl fun _ => 0)) : va_E))])) 20 []
  refine zk_aload (i := 0) (x := a) X (by decide +kernel) (lv_at hl 0 rfl) ?_
  refine zk_bipush (n := 100) (v := 100) X (by decide +kernel) (by decide) ?_
  refine zk_newarr (atype := .int) (N := 100) X (t0 := 0) (a0 := (100, .inl fun _ => 0)) (zG_mem (n := 173) (by decide +kernel)) rfl rfl (fun _ h1 h2 => zra_p h1 h2) (fun _ => rfl) (by decide) (by decide) (by decide) (by decide) (by decide) (by decide +kernel) (fun q2 => ?_)
  show zK p l e _ s m args below meth c Q D A L 3 300 ((a, .inr (2, [.ref q0, .ref q1, .null, .null, .int 0, .int 0, .null])) :: ((([] ++ [(q0, (.inl (cs 0, (100, .inl fun _ => 0)) : va_E))]) ++ [(q1, (.inl (cs 0, (100, .inl fun _ => 0)) : va_E))]) ++ [(q2, (.inl (cs 0, (100, .inl fun _ => 0)) : va_E))])) 25 [.ref q2, .ref a]
  refine zk_put (k := 18) X zClok_ok hin (q0 := 0) (ci := 2) (f := 2) (ty := (.array .int)) rfl rfl (by decide) rfl (zG_mem (n := 241) (by decide +kernel)) rfl (by exact Nat.le_of_ble_eq_true rfl) (by decide +kernel) rfl rfl (by decide +kernel) ?_
  show zK p l e _ s m args below meth c Q D A L 3 300 ((a, .inr (2, [.ref q0, .ref q1, .ref q2, .null, .int 0, .int 0, .null])) :: ((([] ++ [(q0, (.inl (cs 0, (100, .inl fun _ => 0)) : va_E))]) ++ [(q1, (.inl (cs 0, (100, .inl fun _ => 0)) : va_E))]) ++ [(q2, (.inl (cs 0, (100, .inl fun _ => 0)) : va_E))])) 28 []
  refine zk_aload (i := 0) (x := a) X (by decide +kernel) (lv_at hl 0 rfl) ?_
  refine zk_bipush (n := 100) (v := 100) X (by decide +kernel) (by decide) ?_
  refine zk_newarr (atype := .int) (N := 100) X (t0 := 0) (a0 := (100, .inl fun _ => 0)) (zG_mem (n := 173) (by decide +kernel)) rfl rfl (fun _ h1 h2 => zra_p h1 h2) (fun _ => rfl) (by decide) (by decide) (by decide) (by decide) (by decide) (by decide +kernel) (fun q3 => ?_)
  show zK p l e _ s m args below meth c Q D A L 4 400 ((a, .inr (2, [.ref q0, .ref q1, .ref q2, .null, .int 0, .int 0, .null])) :: (((([] ++ [(q0, (.inl (cs 0, (100, .inl fun _ => 0)) : va_E))]) ++ [(q1, (.inl (cs 0, (100, .inl fun _ => 0)) : va_E))]) ++ [(q2, (.inl (cs 0, (100, .inl fun _ => 0)) : va_E))]) ++ [(q3, (.inl (cs 0, (100, .inl fun _ => 0)) : va_E))])) 33 [.ref q3, .ref a]
  refine zk_put (k := 21) X zClok_ok hin (q0 := 0) (ci := 2) (f := 3) (ty := (.array .int)) rfl rfl (by decide) rfl (zG_mem (n := 242) (by decide +kernel)) rfl (by exact Nat.le_of_ble_eq_true rfl) (by decide +kernel) rfl rfl (by decide +kernel) ?_
  show zK p l e _ s m args below meth c Q D A L 4 400 ((a, .inr (2, [.ref q0, .ref q1, .ref q2, .ref q3, .int 0, .int 0, .null])) :: (((([] ++ [(q0, (.inl (cs 0, (100, .inl fun _ => 0)) : va_E))]) ++ [(q1, (.inl (cs 0, (100, .inl fun _ => 0)) : va_E))]) ++ [(q2, (.inl (cs 0, (100, .inl fun _ => 0)) : va_E))]) ++ [(q3, (.inl (cs 0, (100, .inl fun _ => 0)) : va_E))])) 36 []
  refine zk_aload (i := 0) (x := a) X (by decide +kernel) (lv_at hl 0 rfl) ?_
  refine zk_iconst (n := 0) (v := 0) X (by decide +kernel) (by decide) ?_
  refine zk_put (k := 24) X zClok_ok hin (q0 := 0) (ci := 2) (f := 4) (ty := .int) rfl rfl (by decide) rfl (zG_mem (n := 243) (by decide +kernel)) rfl (by exact Nat.le_of_ble_eq_true rfl) (by decide +kernel) rfl rfl (by decide +kernel) ?_
  show zK p l e _ s m args below meth c Q D A L 4 400 ((a, .inr (2, [.ref q0, .ref q1, .ref q2, .ref q3, .int 0, .int 0, .null])) :: (((([] ++ [(q0, (.inl (cs 0, (100, .inl fun _ => 0)) : va_E))]) ++ [(q1, (.inl (cs 0, (100, .inl fun _ => 0)) : va_E))]) ++ [(q2, (.inl (cs 0, (100, .inl fun _ => 0)) : va_E))]) ++ [(q3, (.inl (cs 0, (100, .inl fun _ => 0)) : va_E))])) 41 []
  refine zk_aload (i := 0) (x := a) X (by decide +kernel) (lv_at hl 0 rfl) ?_
  refine zk_iconst (n := 0) (v := 0) X (by decide +kernel) (by decide) ?_
  refine zk_put (k := 28) X zClok_ok hin (q0 := 0) (ci := 2) (f := 5) (ty := .int) rfl rfl (by decide) rfl (zG_mem (n := 244) (by decide +kernel)) rfl (by exact Nat.le_of_ble_eq_true rfl) (by decide +kernel) rfl rfl (by decide +kernel) ?_
  show zK p l e _ s m args below meth c Q D A L 4 400 ((a, .inr (2, [.ref q0, .ref q1, .ref q2, .ref q3, .int 0, .int 0, .null])) :: (((([] ++ [(q0, (.inl (cs 0, (100, .inl fun _ => 0)) : va_E))]) ++ [(q1, (.inl (cs 0, (100, .inl fun _ => 0)) : va_E))]) ++ [(q2, (.inl (cs 0, (100, .inl fun _ => 0)) : va_E))]) ++ [(q3, (.inl (cs 0, (100, .inl fun _ => 0)) : va_E))])) 46 []
  refine zk_aload (i := 0) (x := a) X (by decide +kernel) (lv_at hl 0 rfl) ?_
  refine zk_bipush (n := 100) (v := 100) X (by decide +kernel) (by decide) ?_
  refine zk_newarr (atype := .boolean) (N := 100) X (t0 := 2) (a0 := (100, .inl fun _ => 0)) (zG_mem (n := 262) (by decide +kernel)) rfl rfl (fun _ h1 h2 => zra_p h1 h2) (fun _ => rfl) (by decide) (by decide) (by decide) (by decide) (by decide) (by decide +kernel) (fun q4 => ?_)
  show zK p l e _ s m args below meth c Q D A L 5 500 ((a, .inr (2, [.ref q0, .ref q1, .ref q2, .ref q3, .int 0, .int 0, .null])) :: ((((([] ++ [(q0, (.inl (cs 0, (100, .inl fun _ => 0)) : va_E))]) ++ [(q1, (.inl (cs 0, (100, .inl fun _ => 0)) : va_E))]) ++ [(q2, (.inl (cs 0, (100, .inl fun _ => 0)) : va_E))]) ++ [(q3, (.inl (cs 0, (100, .inl fun _ => 0)) : va_E))]) ++ [(q4, (.inl (cs 2, (100, .inl fun _ => 0)) : va_E))])) 51 [.ref q4, .ref a]
  refine zk_put (k := 31) X zClok_ok hin (q0 := 0) (ci := 2) (f := 6) (ty := (.array .boolean)) rfl rfl (by decide) rfl (zG_mem (n := 246) (by decide +kernel)) rfl (by exact Nat.le_of_ble_eq_true rfl) (by decide +kernel) rfl rfl (by decide +kernel) ?_
  show zK p l e _ s m args below meth c Q D A L 5 500 ((a, .inr (2, [.ref q0, .ref q1, .ref q2, .ref q3, .int 0, .int 0, .ref q4])) :: ((((([] ++ [(q0, (.inl (cs 0, (100, .inl fun _ => 0)) : va_E))]) ++ [(q1, (.inl (cs 0, (100, .inl fun _ => 0)) : va_E))]) ++ [(q2, (.inl (cs 0, (100, .inl fun _ => 0)) : va_E))]) ++ [(q3, (.inl (cs 0, (100, .inl fun _ => 0)) : va_E))]) ++ [(q4, (.inl (cs 2, (100, .inl fun _ => 0)) : va_E))])) 54 []
  exact ret _ 54 (fun k => if k = 0 then q0 else if k = 1 then q1 else if k = 2 then q2 else if k = 3 then q3 else if k = 4 then q4 else 0) (by decide +kernel)
def FX3 (cs : Nat → ClassId) (a : Nat) (u : Nat → Nat) : va_W := (a, .inr (3, [.ref (u 0), .ref (u 1), .ref (u 2), .int 0])) :: ((([] ++ [(u 0, (.inl (cs 0, (200, .inl fun _ => 0)) : va_E))]) ++ [(u 1, (.inl (cs 0, (200, .inl fun _ => 0)) : va_E))]) ++ [(u 2, (.inl (cs 0, (200, .inl fun _ => 0)) : va_E))])
theorem FX3_ext {cs : Nat → ClassId} {a : Nat} {u u1 : Nat → Nat} (h : ∀ j, j < 3 → u j = u1 j) : FX3 cs a u = FX3 cs a u1 := by
  unfold FX3
  simp only [h 0 (by omega), h 1 (by omega), h 2 (by omega)]
theorem FX3_len {cs : Nat → ClassId} {a : Nat} {u : Nat → Nat} : (FX3 cs a u).length = 4 := rfl
set_option maxHeartbeats 8000000 in
set_option maxRecDepth 100000 in
theorem cX3_con (l : Launch) : zCon l yX3_init cX3_init 1 0 3 600 3 [.null, .null, .null, .int 0] FX3 := by
  refine zCon_of (own := RX3) (by decide +kernel) rfl rfl (by decide) ?_
  intro p e s m args below meth c Q D cs A L a X hin hl ret
  refine zk_aload (i := 0) (x := a) X (by decide +kernel) (lv_at hl 0 rfl) ?_
  refine zk_obj (idx := 3) X hl.1 (zG_mem (n := 321) (by decide +kernel)) (zG_mem (n := 148) (by decide +kernel)) (zG_mem (n := 149) (by decide +kernel)) (by decide +kernel) ?_
  refine zk_aload (i := 0) (x := a) X (by decide +kernel) (lv_at hl 0 rfl) ?_
  refine zk_sipush (n := 200) (v := 200) X (by decide +kernel) (by decide) ?_
  refine zk_newarr (atype := .int) (N := 200) X (t0 := 0) (a0 := (200, .inl fun _ => 0)) (zG_mem (n := 173) (by decide +kernel)) rfl rfl (fun _ h1 h2 => zra_p h1 h2) (fun _ => rfl) (by decide) (by decide) (by decide) (by decide) (by decide) (by decide +kernel) (fun q0 => ?_)
  show zK p l e _ s m args below meth c Q D A L 1 200 ((a, .inr (3, [.null, .null, .null, .int 0])) :: ([] ++ [(q0, (.inl (cs 0, (200, .inl fun _ => 0)) : va_E))])) 10 [.ref q0, .ref a]
  refine zk_put (k := 11) X zClok_ok hin (q0 := 0) (ci := 3) (f := 0) (ty := (.array .int)) rfl rfl (by decide) rfl (zG_mem (n := 322) (by decide +kernel)) rfl (by exact Nat.le_of_ble_eq_true rfl) (by decide +kernel) rfl rfl (by decide +kernel) ?_
  show zK p l e _ s m args below meth c Q D A L 1 200 ((a, .inr (3, [.ref q0, .null, .null, .int 0])) :: ([] ++ [(q0, (.inl (cs 0, (200, .inl fun _ => 0)) : va_E))])) 13 []
  refine zk_aload (i := 0) (x := a) X (by decide +kernel) (lv_at hl 0 rfl) ?_
  refine zk_sipush (n := 200) (v := 200) X (by decide +kernel) (by decide) ?_
  refine zk_newarr (atype := .int) (N := 200) X (t0 := 0) (a0 := (200, .inl fun _ => 0)) (zG_mem (n := 173) (by decide +kernel)) rfl rfl (fun _ h1 h2 => zra_p h1 h2) (fun _ => rfl) (by decide) (by decide) (by decide) (by decide) (by decide) (by decide +kernel) (fun q1 => ?_)
  show zK p l e _ s m args below meth c Q D A L 2 400 ((a, .inr (3, [.ref q0, .null, .null, .int 0])) :: (([] ++ [(q0, (.inl (cs 0, (200, .inl fun _ => 0)) : va_E))]) ++ [(q1, (.inl (cs 0, (200, .inl fun _ => 0)) : va_E))])) 19 [.ref q1, .ref a]
  refine zk_put (k := 15) X zClok_ok hin (q0 := 0) (ci := 3) (f := 1) (ty := (.array .int)) rfl rfl (by decide) rfl (zG_mem (n := 323) (by decide +kernel)) rfl (by exact Nat.le_of_ble_eq_true rfl) (by decide +kernel) rfl rfl (by decide +kernel) ?_
  show zK p l e _ s m args below meth c Q D A L 2 400 ((a, .inr (3, [.ref q0, .ref q1, .null, .int 0])) :: (([] ++ [(q0, (.inl (cs 0, (200, .inl fun _ => 0)) : va_E))]) ++ [(q1, (.inl (cs 0, (200, .inl fun _ => 0)) : va_E))])) 22 []
  refine zk_aload (i := 0) (x := a) X (by decide +kernel) (lv_at hl 0 rfl) ?_
  refine zk_sipush (n := 200) (v := 200) X (by decide +kernel) (by decide) ?_
  refine zk_newarr (atype := .int) (N := 200) X (t0 := 0) (a0 := (200, .inl fun _ => 0)) (zG_mem (n := 173) (by decide +kernel)) rfl rfl (fun _ h1 h2 => zra_p h1 h2) (fun _ => rfl) (by decide) (by decide) (by decide) (by decide) (by decide) (by decide +kernel) (fun q2 => ?_)
  show zK p l e _ s m args below meth c Q D A L 3 600 ((a, .inr (3, [.ref q0, .ref q1, .null, .int 0])) :: ((([] ++ [(q0, (.inl (cs 0, (200, .inl fun _ => 0)) : va_E))]) ++ [(q1, (.inl (cs 0, (200, .inl fun _ => 0)) : va_E))]) ++ [(q2, (.inl (cs 0, (200, .inl fun _ => 0)) : va_E))])) 28 [.ref q2, .ref a]
  refine zk_put (k := 18) X zClok_ok hin (q0 := 0) (ci := 3) (f := 2) (ty := (.array .int)) rfl rfl (by decide) rfl (zG_mem (n := 324) (by decide +kernel)) rfl (by exact Nat.le_of_ble_eq_true rfl) (by decide +kernel) rfl rfl (by decide +kernel) ?_
  show zK p l e _ s m args below meth c Q D A L 3 600 ((a, .inr (3, [.ref q0, .ref q1, .ref q2, .int 0])) :: ((([] ++ [(q0, (.inl (cs 0, (200, .inl fun _ => 0)) : va_E))]) ++ [(q1, (.inl (cs 0, (200, .inl fun _ => 0)) : va_E))]) ++ [(q2, (.inl (cs 0, (200, .inl fun _ => 0)) : va_E))])) 31 []
  refine zk_aload (i := 0) (x := a) X (by decide +kernel) (lv_at hl 0 rfl) ?_
  refine zk_iconst (n := 0) (v := 0) X (by decide +kernel) (by decide) ?_
  refine zk_put (k := 21) X zClok_ok hin (q0 := 0) (ci := 3) (f := 3) (ty := .int) rfl rfl (by decide) rfl (zG_mem (n := 325) (by decide +kernel)) rfl (by exact Nat.le_of_ble_eq_true rfl) (by decide +kernel) rfl rfl (by decide +kernel) ?_
  show zK p l e _ s m args below meth c Q D A L 3 600 ((a, .inr (3, [.ref q0, .ref q1, .ref q2, .int 0])) :: ((([] ++ [(q0, (.inl (cs 0, (200, .inl fun _ => 0)) : va_E))]) ++ [(q1, (.inl (cs 0, (200, .inl fun _ => 0)) : va_E))]) ++ [(q2, (.inl (cs 0, (200, .inl fun _ => 0)) : va_E))])) 36 []
  exact ret _ 36 (fun k => if k = 0 then q0 else if k = 1 then q1 else if k = 2 then q2 else 0) (by decide +kernel)
def FX7 (cs : Nat → ClassId) (a : Nat) (u : Nat → Nat) : va_W := (a, .inr (7, [.ref (u 0), .int 0])) :: ([] ++ [(u 0, (.inl (cs 0, (400, .inl fun _ => 0)) : va_E))])
theorem FX7_ext {cs : Nat → ClassId} {a : Nat} {u u1 : Nat → Nat} (h : ∀ j, j < 1 → u j = u1 j) : FX7 cs a u = FX7 cs a u1 := by
  unfold FX7
  simp only [h 0 (by omega)]
theorem FX7_len {cs : Nat → ClassId} {a : Nat} {u : Nat → Nat} : (FX7 cs a u).length = 2 := rfl
set_option maxHeartbeats 8000000 in
set_option maxRecDepth 100000 in
theorem cX7_con (l : Launch) : zCon l yX7_init cX7_init 1 0 1 400 7 [.null, .int 0] FX7 := by
  refine zCon_of (own := RX7) (by decide +kernel) rfl rfl (by decide) ?_
  intro p e s m args below meth c Q D cs A L a X hin hl ret
  refine zk_aload (i := 0) (x := a) X (by decide +kernel) (lv_at hl 0 rfl) ?_
  refine zk_obj (idx := 3) X hl.1 (zG_mem (n := 341) (by decide +kernel)) (zG_mem (n := 148) (by decide +kernel)) (zG_mem (n := 149) (by decide +kernel)) (by decide +kernel) ?_
  refine zk_aload (i := 0) (x := a) X (by decide +kernel) (lv_at hl 0 rfl) ?_
  refine zk_sipush (n := 400) (v := 400) X (by decide +kernel) (by decide) ?_
  refine zk_newarr (atype := .int) (N := 400) X (t0 := 0) (a0 := (400, .inl fun _ => 0)) (zG_mem (n := 173) (by decide +kernel)) rfl rfl (fun _ h1 h2 => zra_p h1 h2) (fun _ => rfl) (by decide) (by decide) (by decide) (by decide) (by decide) (by decide +kernel) (fun q0 => ?_)
  show zK p l e _ s m args below meth c Q D A L 1 400 ((a, .inr (7, [.null, .int 0])) :: ([] ++ [(q0, (.inl (cs 0, (400, .inl fun _ => 0)) : va_E))])) 10 [.ref q0, .ref a]
  refine zk_put (k := 9) X zClok_ok hin (q0 := 0) (ci := 7) (f := 0) (ty := (.array .int)) rfl rfl (by decide) rfl (zG_mem (n := 342) (by decide +kernel)) rfl (by exact Nat.le_of_ble_eq_true rfl) (by decide +kernel) rfl rfl (by decide +kernel) ?_
  show zK p l e _ s m args below meth c Q D A L 1 400 ((a, .inr (7, [.ref q0, .int 0])) :: ([] ++ [(q0, (.inl (cs 0, (400, .inl fun _ => 0)) : va_E))])) 13 []
  refine zk_aload (i := 0) (x := a) X (by decide +kernel) (lv_at hl 0 rfl) ?_
  refine zk_iconst (n := 0) (v := 0) X (by decide +kernel) (by decide) ?_
  refine zk_put (k := 15) X zClok_ok hin (q0 := 0) (ci := 7) (f := 1) (ty := .int) rfl rfl (by decide) rfl (zG_mem (n := 343) (by decide +kernel)) rfl (by exact Nat.le_of_ble_eq_true rfl) (by decide +kernel) rfl rfl (by decide +kernel) ?_
  show zK p l e _ s m args below meth c Q D A L 1 400 ((a, .inr (7, [.ref q0, .int 0])) :: ([] ++ [(q0, (.inl (cs 0, (400, .inl fun _ => 0)) : va_E))])) 18 []
  exact ret _ 18 (fun k => if k = 0 then q0 else 0) (by decide +kernel)
def FX8 (cs : Nat → ClassId) (a : Nat) (u : Nat → Nat) : va_W := (a, .inr (8, [.ref (u 0), .ref (u 1), .ref (u 2), .ref (u 3), .int 0, .ref (u 4), .ref (u 5), .int 0, .int (-1)])) :: (((((([] ++ [(u 0, (.inl (cs 0, (16, .inl fun _ => 0)) : va_E))]) ++ [(u 1, (.inl (cs 0, (16, .inl fun _ => 0)) : va_E))]) ++ [(u 2, (.inl (cs 0, (16, .inl fun _ => 0)) : va_E))]) ++ [(u 3, (.inl (cs 0, (16, .inl fun _ => 0)) : va_E))]) ++ [(u 4, (.inl (cs 0, (16, .inl fun _ => 0)) : va_E))]) ++ [(u 5, (.inl (cs 0, (16, .inl fun _ => 0)) : va_E))])
theorem FX8_ext {cs : Nat → ClassId} {a : Nat} {u u1 : Nat → Nat} (h : ∀ j, j < 6 → u j = u1 j) : FX8 cs a u = FX8 cs a u1 := by
  unfold FX8
  simp only [h 0 (by omega), h 1 (by omega), h 2 (by omega), h 3 (by omega), h 4 (by omega), h 5 (by omega)]
theorem FX8_len {cs : Nat → ClassId} {a : Nat} {u : Nat → Nat} : (FX8 cs a u).length = 7 := rfl
set_option maxHeartbeats 8000000 in
set_option maxRecDepth 100000 in
theorem cX8_con (l : Launch) : zCon l yX8_init cX8_init 1 0 6 96 8 [.null, .null, .null, .null, .int 0, .null, .null, .int 0, .int 0] FX8 := by
  refine zCon_of (own := RX8) (by decide +kernel) rfl rfl (by decide) ?_
  intro p e s m args below meth c Q D cs A L a X hin hl ret
  refine zk_aload (i := 0) (x := a) X (by decide +kernel) (lv_at hl 0 rfl) ?_
  refine zk_obj (idx := 3) X hl.1 (zG_mem (n := 179) (by decide +kernel)) (zG_mem (n := 148) (by decide +kernel)) (zG_mem (n := 149) (by decide +kernel)) (by decide +kernel) ?_
  refine zk_aload (i := 0) (x := a) X (by decide +kernel) (lv_at hl 0 rfl) ?_
  refine zk_bipush (n := 16) (v := 16) X (by decide +kernel) (by decide) ?_
  refine zk_newarr (atype := .int) (N := 16) X (t0 := 0) (a0 := (16, .inl fun _ => 0)) (zG_mem (n := 173) (by decide +kernel)) rfl rfl (fun _ h1 h2 => zra_p h1 h2) (fun _ => rfl) (by decide) (by decide) (by decide) (by decide) (by decide) (by decide +kernel) (fun q0 => ?_)
  show zK p l e _ s m args below meth c Q D A L 1 16 ((a, .inr (8, [.null, .null, .null, .null, .int 0, .null, .null, .int 0, .int 0])) :: ([] ++ [(q0, (.inl (cs 0, (16, .inl fun _ => 0)) : va_E))])) 9 [.ref q0, .ref a]
  refine zk_put (k := 9) X zClok_ok hin (q0 := 0) (ci := 8) (f := 0) (ty := (.array .int)) rfl rfl (by decide) rfl (zG_mem (n := 180) (by decide +kernel)) rfl (by exact Nat.le_of_ble_eq_true rfl) (by decide +kernel) rfl rfl (by decide +kernel) ?_
  show zK p l e _ s m args below meth c Q D A L 1 16 ((a, .inr (8, [.ref q0, .null, .null, .null, .int 0, .null, .null, .int 0, .int 0])) :: ([] ++ [(q0, (.inl (cs 0, (16, .inl fun _ => 0)) : va_E))])) 12 []
  refine zk_aload (i := 0) (x := a) X (by decide +kernel) (lv_at hl 0 rfl) ?_
  refine zk_bipush (n := 16) (v := 16) X (by decide +kernel) (by decide) ?_
  refine zk_newarr (atype := .int) (N := 16) X (t0 := 0) (a0 := (16, .inl fun _ => 0)) (zG_mem (n := 173) (by decide +kernel)) rfl rfl (fun _ h1 h2 => zra_p h1 h2) (fun _ => rfl) (by decide) (by decide) (by decide) (by decide) (by decide) (by decide +kernel) (fun q1 => ?_)
  show zK p l e _ s m args below meth c Q D A L 2 32 ((a, .inr (8, [.ref q0, .null, .null, .null, .int 0, .null, .null, .int 0, .int 0])) :: (([] ++ [(q0, (.inl (cs 0, (16, .inl fun _ => 0)) : va_E))]) ++ [(q1, (.inl (cs 0, (16, .inl fun _ => 0)) : va_E))])) 17 [.ref q1, .ref a]
  refine zk_put (k := 15) X zClok_ok hin (q0 := 0) (ci := 8) (f := 1) (ty := (.array .int)) rfl rfl (by decide) rfl (zG_mem (n := 181) (by decide +kernel)) rfl (by exact Nat.le_of_ble_eq_true rfl) (by decide +kernel) rfl rfl (by decide +kernel) ?_
  show zK p l e _ s m args below meth c Q D A L 2 32 ((a, .inr (8, [.ref q0, .ref q1, .null, .null, .int 0, .null, .null, .int 0, .int 0])) :: (([] ++ [(q0, (.inl (cs 0, (16, .inl fun _ => 0)) : va_E))]) ++ [(q1, (.inl (cs 0, (16, .inl fun _ => 0)) : va_E))])) 20 []
  refine zk_aload (i := 0) (x := a) X (by decide +kernel) (lv_at hl 0 rfl) ?_
  refine zk_bipush (n := 16) (v := 16) X (by decide +kernel) (by decide) ?_
  refine zk_newarr (atype := .int) (N := 16) X (t0 := 0) (a0 := (16, .inl fun _ => 0)) (zG_mem (n := 173) (by decide +kernel)) rfl rfl (fun _ h1 h2 => zra_p h1 h2) (fun _ => rfl) (by decide) (by decide) (by decide) (by decide) (by decide) (by decide +kernel) (fun q2 => ?_)
  show zK p l e _ s m args below meth c Q D A L 3 48 ((a, .inr (8, [.ref q0, .ref q1, .null, .null, .int 0, .null, .null, .int 0, .int 0])) :: ((([] ++ [(q0, (.inl (cs 0, (16, .inl fun _ => 0)) : va_E))]) ++ [(q1, (.inl (cs 0, (16, .inl fun _ => 0)) : va_E))]) ++ [(q2, (.inl (cs 0, (16, .inl fun _ => 0)) : va_E))])) 25 [.ref q2, .ref a]
  refine zk_put (k := 18) X zClok_ok hin (q0 := 0) (ci := 8) (f := 2) (ty := (.array .int)) rfl rfl (by decide) rfl (zG_mem (n := 182) (by decide +kernel)) rfl (by exact Nat.le_of_ble_eq_true rfl) (by decide +kernel) rfl rfl (by decide +kernel) ?_
  show zK p l e _ s m args below meth c Q D A L 3 48 ((a, .inr (8, [.ref q0, .ref q1, .ref q2, .null, .int 0, .null, .null, .int 0, .int 0])) :: ((([] ++ [(q0, (.inl (cs 0, (16, .inl fun _ => 0)) : va_E))]) ++ [(q1, (.inl (cs 0, (16, .inl fun _ => 0)) : va_E))]) ++ [(q2, (.inl (cs 0, (16, .inl fun _ => 0)) : va_E))])) 28 []
  refine zk_aload (i := 0) (x := a) X (by decide +kernel) (lv_at hl 0 rfl) ?_
  refine zk_bipush (n := 16) (v := 16) X (by decide +kernel) (by decide) ?_
  refine zk_newarr (atype := .int) (N := 16) X (t0 := 0) (a0 := (16, .inl fun _ => 0)) (zG_mem (n := 173) (by decide +kernel)) rfl rfl (fun _ h1 h2 => zra_p h1 h2) (fun _ => rfl) (by decide) (by decide) (by decide) (by decide) (by decide) (by decide +kernel) (fun q3 => ?_)
  show zK p l e _ s m args below meth c Q D A L 4 64 ((a, .inr (8, [.ref q0, .ref q1, .ref q2, .null, .int 0, .null, .null, .int 0, .int 0])) :: (((([] ++ [(q0, (.inl (cs 0, (16, .inl fun _ => 0)) : va_E))]) ++ [(q1, (.inl (cs 0, (16, .inl fun _ => 0)) : va_E))]) ++ [(q2, (.inl (cs 0, (16, .inl fun _ => 0)) : va_E))]) ++ [(q3, (.inl (cs 0, (16, .inl fun _ => 0)) : va_E))])) 33 [.ref q3, .ref a]
  refine zk_put (k := 21) X zClok_ok hin (q0 := 0) (ci := 8) (f := 3) (ty := (.array .int)) rfl rfl (by decide) rfl (zG_mem (n := 183) (by decide +kernel)) rfl (by exact Nat.le_of_ble_eq_true rfl) (by decide +kernel) rfl rfl (by decide +kernel) ?_
  show zK p l e _ s m args below meth c Q D A L 4 64 ((a, .inr (8, [.ref q0, .ref q1, .ref q2, .ref q3, .int 0, .null, .null, .int 0, .int 0])) :: (((([] ++ [(q0, (.inl (cs 0, (16, .inl fun _ => 0)) : va_E))]) ++ [(q1, (.inl (cs 0, (16, .inl fun _ => 0)) : va_E))]) ++ [(q2, (.inl (cs 0, (16, .inl fun _ => 0)) : va_E))]) ++ [(q3, (.inl (cs 0, (16, .inl fun _ => 0)) : va_E))])) 36 []
  refine zk_aload (i := 0) (x := a) X (by decide +kernel) (lv_at hl 0 rfl) ?_
  refine zk_iconst (n := 0) (v := 0) X (by decide +kernel) (by decide) ?_
  refine zk_put (k := 24) X zClok_ok hin (q0 := 0) (ci := 8) (f := 4) (ty := .int) rfl rfl (by decide) rfl (zG_mem (n := 184) (by decide +kernel)) rfl (by exact Nat.le_of_ble_eq_true rfl) (by decide +kernel) rfl rfl (by decide +kernel) ?_
  show zK p l e _ s m args below meth c Q D A L 4 64 ((a, .inr (8, [.ref q0, .ref q1, .ref q2, .ref q3, .int 0, .null, .null, .int 0, .int 0])) :: (((([] ++ [(q0, (.inl (cs 0, (16, .inl fun _ => 0)) : va_E))]) ++ [(q1, (.inl (cs 0, (16, .inl fun _ => 0)) : va_E))]) ++ [(q2, (.inl (cs 0, (16, .inl fun _ => 0)) : va_E))]) ++ [(q3, (.inl (cs 0, (16, .inl fun _ => 0)) : va_E))])) 41 []
  refine zk_aload (i := 0) (x := a) X (by decide +kernel) (lv_at hl 0 rfl) ?_
  refine zk_bipush (n := 16) (v := 16) X (by decide +kernel) (by decide) ?_
  refine zk_newarr (atype := .int) (N := 16) X (t0 := 0) (a0 := (16, .inl fun _ => 0)) (zG_mem (n := 173) (by decide +kernel)) rfl rfl (fun _ h1 h2 => zra_p h1 h2) (fun _ => rfl) (by decide) (by decide) (by decide) (by decide) (by decide) (by decide +kernel) (fun q4 => ?_)
  show zK p l e _ s m args below meth c Q D A L 5 80 ((a, .inr (8, [.ref q0, .ref q1, .ref q2, .ref q3, .int 0, .null, .null, .int 0, .int 0])) :: ((((([] ++ [(q0, (.inl (cs 0, (16, .inl fun _ => 0)) : va_E))]) ++ [(q1, (.inl (cs 0, (16, .inl fun _ => 0)) : va_E))]) ++ [(q2, (.inl (cs 0, (16, .inl fun _ => 0)) : va_E))]) ++ [(q3, (.inl (cs 0, (16, .inl fun _ => 0)) : va_E))]) ++ [(q4, (.inl (cs 0, (16, .inl fun _ => 0)) : va_E))])) 46 [.ref q4, .ref a]
  refine zk_put (k := 28) X zClok_ok hin (q0 := 0) (ci := 8) (f := 5) (ty := (.array .int)) rfl rfl (by decide) rfl (zG_mem (n := 186) (by decide +kernel)) rfl (by exact Nat.le_of_ble_eq_true rfl) (by decide +kernel) rfl rfl (by decide +kernel) ?_
  show zK p l e _ s m args below meth c Q D A L 5 80 ((a, .inr (8, [.ref q0, .ref q1, .ref q2, .ref q3, .int 0, .ref q4, .null, .int 0, .int 0])) :: ((((([] ++ [(q0, (.inl (cs 0, (16, .inl fun _ => 0)) : va_E))]) ++ [(q1, (.inl (cs 0, (16, .inl fun _ => 0)) : va_E))]) ++ [(q2, (.inl (cs 0, (16, .inl fun _ => 0)) : va_E))]) ++ [(q3, (.inl (cs 0, (16, .inl fun _ => 0)) : va_E))]) ++ [(q4, (.inl (cs 0, (16, .inl fun _ => 0)) : va_E))])) 49 []
  refine zk_aload (i := 0) (x := a) X (by decide +kernel) (lv_at hl 0 rfl) ?_
  refine zk_bipush (n := 16) (v := 16) X (by decide +kernel) (by decide) ?_
  refine zk_newarr (atype := .int) (N := 16) X (t0 := 0) (a0 := (16, .inl fun _ => 0)) (zG_mem (n := 173) (by decide +kernel)) rfl rfl (fun _ h1 h2 => zra_p h1 h2) (fun _ => rfl) (by decide) (by decide) (by decide) (by decide) (by decide) (by decide +kernel) (fun q5 => ?_)
  show zK p l e _ s m args below meth c Q D A L 6 96 ((a, .inr (8, [.ref q0, .ref q1, .ref q2, .ref q3, .int 0, .ref q4, .null, .int 0, .int 0])) :: (((((([] ++ [(q0, (.inl (cs 0, (16, .inl fun _ => 0)) : va_E))]) ++ [(q1, (.inl (cs 0, (16, .inl fun _ => 0)) : va_E))]) ++ [(q2, (.inl (cs 0, (16, .inl fun _ => 0)) : va_E))]) ++ [(q3, (.inl (cs 0, (16, .inl fun _ => 0)) : va_E))]) ++ [(q4, (.inl (cs 0, (16, .inl fun _ => 0)) : va_E))]) ++ [(q5, (.inl (cs 0, (16, .inl fun _ => 0)) : va_E))])) 54 [.ref q5, .ref a]
  refine zk_put (k := 31) X zClok_ok hin (q0 := 0) (ci := 8) (f := 6) (ty := (.array .int)) rfl rfl (by decide) rfl (zG_mem (n := 187) (by decide +kernel)) rfl (by exact Nat.le_of_ble_eq_true rfl) (by decide +kernel) rfl rfl (by decide +kernel) ?_
  show zK p l e _ s m args below meth c Q D A L 6 96 ((a, .inr (8, [.ref q0, .ref q1, .ref q2, .ref q3, .int 0, .ref q4, .ref q5, .int 0, .int 0])) :: (((((([] ++ [(q0, (.inl (cs 0, (16, .inl fun _ => 0)) : va_E))]) ++ [(q1, (.inl (cs 0, (16, .inl fun _ => 0)) : va_E))]) ++ [(q2, (.inl (cs 0, (16, .inl fun _ => 0)) : va_E))]) ++ [(q3, (.inl (cs 0, (16, .inl fun _ => 0)) : va_E))]) ++ [(q4, (.inl (cs 0, (16, .inl fun _ => 0)) : va_E))]) ++ [(q5, (.inl (cs 0, (16, .inl fun _ => 0)) : va_E))])) 57 []
  refine zk_aload (i := 0) (x := a) X (by decide +kernel) (lv_at hl 0 rfl) ?_
  refine zk_iconst (n := 0) (v := 0) X (by decide +kernel) (by decide) ?_
  refine zk_put (k := 34) X zClok_ok hin (q0 := 0) (ci := 8) (f := 7) (ty := .int) rfl rfl (by decide) rfl (zG_mem (n := 188) (by decide +kernel)) rfl (by exact Nat.le_of_ble_eq_true rfl) (by decide +kernel) rfl rfl (by decide +kernel) ?_
  show zK p l e _ s m args below meth c Q D A L 6 96 ((a, .inr (8, [.ref q0, .ref q1, .ref q2, .ref q3, .int 0, .ref q4, .ref q5, .int 0, .int 0])) :: (((((([] ++ [(q0, (.inl (cs 0, (16, .inl fun _ => 0)) : va_E))]) ++ [(q1, (.inl (cs 0, (16, .inl fun _ => 0)) : va_E))]) ++ [(q2, (.inl (cs 0, (16, .inl fun _ => 0)) : va_E))]) ++ [(q3, (.inl (cs 0, (16, .inl fun _ => 0)) : va_E))]) ++ [(q4, (.inl (cs 0, (16, .inl fun _ => 0)) : va_E))]) ++ [(q5, (.inl (cs 0, (16, .inl fun _ => 0)) : va_E))])) 62 []
  refine zk_aload (i := 0) (x := a) X (by decide +kernel) (lv_at hl 0 rfl) ?_
  refine zk_iconst (n := (-1)) (v := (-1)) X (by decide +kernel) (by decide) ?_
  refine zk_put (k := 37) X zClok_ok hin (q0 := 0) (ci := 8) (f := 8) (ty := .int) rfl rfl (by decide) rfl (zG_mem (n := 191) (by decide +kernel)) rfl (by exact Nat.le_of_ble_eq_true rfl) (by decide +kernel) rfl rfl (by decide +kernel) ?_
  show zK p l e _ s m args below meth c Q D A L 6 96 ((a, .inr (8, [.ref q0, .ref q1, .ref q2, .ref q3, .int 0, .ref q4, .ref q5, .int 0, .int (-1)])) :: (((((([] ++ [(q0, (.inl (cs 0, (16, .inl fun _ => 0)) : va_E))]) ++ [(q1, (.inl (cs 0, (16, .inl fun _ => 0)) : va_E))]) ++ [(q2, (.inl (cs 0, (16, .inl fun _ => 0)) : va_E))]) ++ [(q3, (.inl (cs 0, (16, .inl fun _ => 0)) : va_E))]) ++ [(q4, (.inl (cs 0, (16, .inl fun _ => 0)) : va_E))]) ++ [(q5, (.inl (cs 0, (16, .inl fun _ => 0)) : va_E))])) 67 []
  exact ret _ 67 (fun k => if k = 0 then q0 else if k = 1 then q1 else if k = 2 then q2 else if k = 3 then q3 else if k = 4 then q4 else if k = 5 then q5 else 0) (by decide +kernel)
def FX6 (cs : Nat → ClassId) (a : Nat) (u : Nat → Nat) : va_W := (a, .inr (6, [.ref (u 0), .ref (u 1), .int 0, .int 0, .int 0])) :: (([] ++ [(u 0, (.inl (cs 0, (6, .inl fun _ => 0)) : va_E))]) ++ [(u 1, (.inl (cs 0, (6, .inl fun _ => 0)) : va_E))])
theorem FX6_ext {cs : Nat → ClassId} {a : Nat} {u u1 : Nat → Nat} (h : ∀ j, j < 2 → u j = u1 j) : FX6 cs a u = FX6 cs a u1 := by
  unfold FX6
  simp only [h 0 (by omega), h 1 (by omega)]
theorem FX6_len {cs : Nat → ClassId} {a : Nat} {u : Nat → Nat} : (FX6 cs a u).length = 3 := rfl
set_option maxHeartbeats 8000000 in
set_option maxRecDepth 100000 in
theorem cX6_con (l : Launch) : zCon l yX6_init cX6_init 1 0 2 12 6 [.null, .null, .int 0, .int 0, .int 0] FX6 := by
  refine zCon_of (own := RX6) (by decide +kernel) rfl rfl (by decide) ?_
  intro p e s m args below meth c Q D cs A L a X hin hl ret
  refine zk_aload (i := 0) (x := a) X (by decide +kernel) (lv_at hl 0 rfl) ?_
  refine zk_obj (idx := 3) X hl.1 (zG_mem (n := 378) (by decide +kernel)) (zG_mem (n := 148) (by decide +kernel)) (zG_mem (n := 149) (by decide +kernel)) (by decide +kernel) ?_
  refine zk_aload (i := 0) (x := a) X (by decide +kernel) (lv_at hl 0 rfl) ?_
  refine zk_bipush (n := 6) (v := 6) X (by decide +kernel) (by decide) ?_
  refine zk_newarr (atype := .int) (N := 6) X (t0 := 0) (a0 := (6, .inl fun _ => 0)) (zG_mem (n := 173) (by decide +kernel)) rfl rfl (fun _ h1 h2 => zra_p h1 h2) (fun _ => rfl) (by decide) (by decide) (by decide) (by decide) (by decide) (by decide +kernel) (fun q0 => ?_)
  show zK p l e _ s m args below meth c Q D A L 1 6 ((a, .inr (6, [.null, .null, .int 0, .int 0, .int 0])) :: ([] ++ [(q0, (.inl (cs 0, (6, .inl fun _ => 0)) : va_E))])) 9 [.ref q0, .ref a]
  refine zk_put (k := 9) X zClok_ok hin (q0 := 0) (ci := 6) (f := 0) (ty := (.array .int)) rfl rfl (by decide) rfl (zG_mem (n := 379) (by decide +kernel)) rfl (by exact Nat.le_of_ble_eq_true rfl) (by decide +kernel) rfl rfl (by decide +kernel) ?_
  show zK p l e _ s m args below meth c Q D A L 1 6 ((a, .inr (6, [.ref q0, .null, .int 0, .int 0, .int 0])) :: ([] ++ [(q0, (.inl (cs 0, (6, .inl fun _ => 0)) : va_E))])) 12 []
  refine zk_aload (i := 0) (x := a) X (by decide +kernel) (lv_at hl 0 rfl) ?_
  refine zk_bipush (n := 6) (v := 6) X (by decide +kernel) (by decide) ?_
  refine zk_newarr (atype := .int) (N := 6) X (t0 := 0) (a0 := (6, .inl fun _ => 0)) (zG_mem (n := 173) (by decide +kernel)) rfl rfl (fun _ h1 h2 => zra_p h1 h2) (fun _ => rfl) (by decide) (by decide) (by decide) (by decide) (by decide) (by decide +kernel) (fun q1 => ?_)
  show zK p l e _ s m args below meth c Q D A L 2 12 ((a, .inr (6, [.ref q0, .null, .int 0, .int 0, .int 0])) :: (([] ++ [(q0, (.inl (cs 0, (6, .inl fun _ => 0)) : va_E))]) ++ [(q1, (.inl (cs 0, (6, .inl fun _ => 0)) : va_E))])) 17 [.ref q1, .ref a]
  refine zk_put (k := 15) X zClok_ok hin (q0 := 0) (ci := 6) (f := 1) (ty := (.array .int)) rfl rfl (by decide) rfl (zG_mem (n := 380) (by decide +kernel)) rfl (by exact Nat.le_of_ble_eq_true rfl) (by decide +kernel) rfl rfl (by decide +kernel) ?_
  show zK p l e _ s m args below meth c Q D A L 2 12 ((a, .inr (6, [.ref q0, .ref q1, .int 0, .int 0, .int 0])) :: (([] ++ [(q0, (.inl (cs 0, (6, .inl fun _ => 0)) : va_E))]) ++ [(q1, (.inl (cs 0, (6, .inl fun _ => 0)) : va_E))])) 20 []
  refine zk_aload (i := 0) (x := a) X (by decide +kernel) (lv_at hl 0 rfl) ?_
  refine zk_iconst (n := 0) (v := 0) X (by decide +kernel) (by decide) ?_
  refine zk_put (k := 18) X zClok_ok hin (q0 := 0) (ci := 6) (f := 2) (ty := .int) rfl rfl (by decide) rfl (zG_mem (n := 381) (by decide +kernel)) rfl (by exact Nat.le_of_ble_eq_true rfl) (by decide +kernel) rfl rfl (by decide +kernel) ?_
  show zK p l e _ s m args below meth c Q D A L 2 12 ((a, .inr (6, [.ref q0, .ref q1, .int 0, .int 0, .int 0])) :: (([] ++ [(q0, (.inl (cs 0, (6, .inl fun _ => 0)) : va_E))]) ++ [(q1, (.inl (cs 0, (6, .inl fun _ => 0)) : va_E))])) 25 []
  refine zk_aload (i := 0) (x := a) X (by decide +kernel) (lv_at hl 0 rfl) ?_
  refine zk_iconst (n := 0) (v := 0) X (by decide +kernel) (by decide) ?_
  refine zk_put (k := 22) X zClok_ok hin (q0 := 0) (ci := 6) (f := 3) (ty := .int) rfl rfl (by decide) rfl (zG_mem (n := 382) (by decide +kernel)) rfl (by exact Nat.le_of_ble_eq_true rfl) (by decide +kernel) rfl rfl (by decide +kernel) ?_
  show zK p l e _ s m args below meth c Q D A L 2 12 ((a, .inr (6, [.ref q0, .ref q1, .int 0, .int 0, .int 0])) :: (([] ++ [(q0, (.inl (cs 0, (6, .inl fun _ => 0)) : va_E))]) ++ [(q1, (.inl (cs 0, (6, .inl fun _ => 0)) : va_E))])) 30 []
  refine zk_aload (i := 0) (x := a) X (by decide +kernel) (lv_at hl 0 rfl) ?_
  refine zk_iconst (n := 0) (v := 0) X (by decide +kernel) (by decide) ?_
  refine zk_put (k := 25) X zClok_ok hin (q0 := 0) (ci := 6) (f := 4) (ty := .int) rfl rfl (by decide) rfl (zG_mem (n := 383) (by decide +kernel)) rfl (by exact Nat.le_of_ble_eq_true rfl) (by decide +kernel) rfl rfl (by decide +kernel) ?_
  show zK p l e _ s m args below meth c Q D A L 2 12 ((a, .inr (6, [.ref q0, .ref q1, .int 0, .int 0, .int 0])) :: (([] ++ [(q0, (.inl (cs 0, (6, .inl fun _ => 0)) : va_E))]) ++ [(q1, (.inl (cs 0, (6, .inl fun _ => 0)) : va_E))])) 35 []
  exact ret _ 35 (fun k => if k = 0 then q0 else if k = 1 then q1 else 0) (by decide +kernel)
def FX5 (cs : Nat → ClassId) (a : Nat) (u : Nat → Nat) : va_W := (a, .inr (5, [.ref (u 0), .ref (u 1), .ref (u 2), .ref (u 3), .int 1, .int (-1), .int 0, .int 0, .int 0])) :: (((([] ++ [(u 0, (.inl (cs 1, (6000, .inr (.inl fun _ => 0))) : va_E))]) ++ [(u 1, (.inl (cs 0, (100, .inl fun _ => 0)) : va_E))]) ++ [(u 2, (.inl (cs 2, (100, .inl fun _ => 0)) : va_E))]) ++ [(u 3, (.inl (cs 1, (100, .inr (.inl fun _ => 0))) : va_E))])
theorem FX5_ext {cs : Nat → ClassId} {a : Nat} {u u1 : Nat → Nat} (h : ∀ j, j < 4 → u j = u1 j) : FX5 cs a u = FX5 cs a u1 := by
  unfold FX5
  simp only [h 0 (by omega), h 1 (by omega), h 2 (by omega), h 3 (by omega)]
theorem FX5_len {cs : Nat → ClassId} {a : Nat} {u : Nat → Nat} : (FX5 cs a u).length = 5 := rfl
set_option maxHeartbeats 8000000 in
set_option maxRecDepth 100000 in
theorem cX5_con (l : Launch) : zCon l yX5_init cX5_init 1 0 4 6300 5 [.null, .null, .null, .null, .int 0, .int 0, .int 0, .int 0, .int 0] FX5 := by
  refine zCon_of (own := RX5) (by decide +kernel) rfl rfl (by decide) ?_
  intro p e s m args below meth c Q D cs A L a X hin hl ret
  refine zk_aload (i := 0) (x := a) X (by decide +kernel) (lv_at hl 0 rfl) ?_
  refine zk_obj (idx := 3) X hl.1 (zG_mem (n := 400) (by decide +kernel)) (zG_mem (n := 148) (by decide +kernel)) (zG_mem (n := 149) (by decide +kernel)) (by decide +kernel) ?_
  refine zk_aload (i := 0) (x := a) X (by decide +kernel) (lv_at hl 0 rfl) ?_
  refine zk_sipush (n := 6000) (v := 6000) X (by decide +kernel) (by decide) ?_
  refine zk_newarr (atype := .long) (N := 6000) X (t0 := 1) (a0 := (6000, .inr (.inl fun _ => 0))) (zG_mem (n := 429) (by decide +kernel)) rfl rfl (fun _ h1 h2 => zra_p h1 h2) (fun _ => rfl) (by decide) (by decide) (by decide) (by decide) (by decide) (by decide +kernel) (fun q0 => ?_)
  show zK p l e _ s m args below meth c Q D A L 1 6000 ((a, .inr (5, [.null, .null, .null, .null, .int 0, .int 0, .int 0, .int 0, .int 0])) :: ([] ++ [(q0, (.inl (cs 1, (6000, .inr (.inl fun _ => 0))) : va_E))])) 10 [.ref q0, .ref a]
  refine zk_put (k := 11) X zClok_ok hin (q0 := 0) (ci := 5) (f := 0) (ty := (.array .long)) rfl rfl (by decide) rfl (zG_mem (n := 401) (by decide +kernel)) rfl (by exact Nat.le_of_ble_eq_true rfl) (by decide +kernel) rfl rfl (by decide +kernel) ?_
  show zK p l e _ s m args below meth c Q D A L 1 6000 ((a, .inr (5, [.ref q0, .null, .null, .null, .int 0, .int 0, .int 0, .int 0, .int 0])) :: ([] ++ [(q0, (.inl (cs 1, (6000, .inr (.inl fun _ => 0))) : va_E))])) 13 []
  refine zk_aload (i := 0) (x := a) X (by decide +kernel) (lv_at hl 0 rfl) ?_
  refine zk_bipush (n := 100) (v := 100) X (by decide +kernel) (by decide) ?_
  refine zk_newarr (atype := .int) (N := 100) X (t0 := 0) (a0 := (100, .inl fun _ => 0)) (zG_mem (n := 173) (by decide +kernel)) rfl rfl (fun _ h1 h2 => zra_p h1 h2) (fun _ => rfl) (by decide) (by decide) (by decide) (by decide) (by decide) (by decide +kernel) (fun q1 => ?_)
  show zK p l e _ s m args below meth c Q D A L 2 6100 ((a, .inr (5, [.ref q0, .null, .null, .null, .int 0, .int 0, .int 0, .int 0, .int 0])) :: (([] ++ [(q0, (.inl (cs 1, (6000, .inr (.inl fun _ => 0))) : va_E))]) ++ [(q1, (.inl (cs 0, (100, .inl fun _ => 0)) : va_E))])) 18 [.ref q1, .ref a]
  refine zk_put (k := 15) X zClok_ok hin (q0 := 0) (ci := 5) (f := 1) (ty := (.array .int)) rfl rfl (by decide) rfl (zG_mem (n := 402) (by decide +kernel)) rfl (by exact Nat.le_of_ble_eq_true rfl) (by decide +kernel) rfl rfl (by decide +kernel) ?_
  show zK p l e _ s m args below meth c Q D A L 2 6100 ((a, .inr (5, [.ref q0, .ref q1, .null, .null, .int 0, .int 0, .int 0, .int 0, .int 0])) :: (([] ++ [(q0, (.inl (cs 1, (6000, .inr (.inl fun _ => 0))) : va_E))]) ++ [(q1, (.inl (cs 0, (100, .inl fun _ => 0)) : va_E))])) 21 []
  refine zk_aload (i := 0) (x := a) X (by decide +kernel) (lv_at hl 0 rfl) ?_
  refine zk_bipush (n := 100) (v := 100) X (by decide +kernel) (by decide) ?_
  refine zk_newarr (atype := .boolean) (N := 100) X (t0 := 2) (a0 := (100, .inl fun _ => 0)) (zG_mem (n := 262) (by decide +kernel)) rfl rfl (fun _ h1 h2 => zra_p h1 h2) (fun _ => rfl) (by decide) (by decide) (by decide) (by decide) (by decide) (by decide +kernel) (fun q2 => ?_)
  show zK p l e _ s m args below meth c Q D A L 3 6200 ((a, .inr (5, [.ref q0, .ref q1, .null, .null, .int 0, .int 0, .int 0, .int 0, .int 0])) :: ((([] ++ [(q0, (.inl (cs 1, (6000, .inr (.inl fun _ => 0))) : va_E))]) ++ [(q1, (.inl (cs 0, (100, .inl fun _ => 0)) : va_E))]) ++ [(q2, (.inl (cs 2, (100, .inl fun _ => 0)) : va_E))])) 26 [.ref q2, .ref a]
  refine zk_put (k := 19) X zClok_ok hin (q0 := 0) (ci := 5) (f := 2) (ty := (.array .boolean)) rfl rfl (by decide) rfl (zG_mem (n := 403) (by decide +kernel)) rfl (by exact Nat.le_of_ble_eq_true rfl) (by decide +kernel) rfl rfl (by decide +kernel) ?_
  show zK p l e _ s m args below meth c Q D A L 3 6200 ((a, .inr (5, [.ref q0, .ref q1, .ref q2, .null, .int 0, .int 0, .int 0, .int 0, .int 0])) :: ((([] ++ [(q0, (.inl (cs 1, (6000, .inr (.inl fun _ => 0))) : va_E))]) ++ [(q1, (.inl (cs 0, (100, .inl fun _ => 0)) : va_E))]) ++ [(q2, (.inl (cs 2, (100, .inl fun _ => 0)) : va_E))])) 29 []
  refine zk_aload (i := 0) (x := a) X (by decide +kernel) (lv_at hl 0 rfl) ?_
  refine zk_bipush (n := 100) (v := 100) X (by decide +kernel) (by decide) ?_
  refine zk_newarr (atype := .long) (N := 100) X (t0 := 1) (a0 := (100, .inr (.inl fun _ => 0))) (zG_mem (n := 429) (by decide +kernel)) rfl rfl (fun _ h1 h2 => zra_p h1 h2) (fun _ => rfl) (by decide) (by decide) (by decide) (by decide) (by decide) (by decide +kernel) (fun q3 => ?_)
  show zK p l e _ s m args below meth c Q D A L 4 6300 ((a, .inr (5, [.ref q0, .ref q1, .ref q2, .null, .int 0, .int 0, .int 0, .int 0, .int 0])) :: (((([] ++ [(q0, (.inl (cs 1, (6000, .inr (.inl fun _ => 0))) : va_E))]) ++ [(q1, (.inl (cs 0, (100, .inl fun _ => 0)) : va_E))]) ++ [(q2, (.inl (cs 2, (100, .inl fun _ => 0)) : va_E))]) ++ [(q3, (.inl (cs 1, (100, .inr (.inl fun _ => 0))) : va_E))])) 34 [.ref q3, .ref a]
  refine zk_put (k := 23) X zClok_ok hin (q0 := 0) (ci := 5) (f := 3) (ty := (.array .long)) rfl rfl (by decide) rfl (zG_mem (n := 404) (by decide +kernel)) rfl (by exact Nat.le_of_ble_eq_true rfl) (by decide +kernel) rfl rfl (by decide +kernel) ?_
  show zK p l e _ s m args below meth c Q D A L 4 6300 ((a, .inr (5, [.ref q0, .ref q1, .ref q2, .ref q3, .int 0, .int 0, .int 0, .int 0, .int 0])) :: (((([] ++ [(q0, (.inl (cs 1, (6000, .inr (.inl fun _ => 0))) : va_E))]) ++ [(q1, (.inl (cs 0, (100, .inl fun _ => 0)) : va_E))]) ++ [(q2, (.inl (cs 2, (100, .inl fun _ => 0)) : va_E))]) ++ [(q3, (.inl (cs 1, (100, .inr (.inl fun _ => 0))) : va_E))])) 37 []
  refine zk_aload (i := 0) (x := a) X (by decide +kernel) (lv_at hl 0 rfl) ?_
  refine zk_iconst (n := 1) (v := 1) X (by decide +kernel) (by decide) ?_
  refine zk_put (k := 26) X zClok_ok hin (q0 := 0) (ci := 5) (f := 4) (ty := .int) rfl rfl (by decide) rfl (zG_mem (n := 405) (by decide +kernel)) rfl (by exact Nat.le_of_ble_eq_true rfl) (by decide +kernel) rfl rfl (by decide +kernel) ?_
  show zK p l e _ s m args below meth c Q D A L 4 6300 ((a, .inr (5, [.ref q0, .ref q1, .ref q2, .ref q3, .int 1, .int 0, .int 0, .int 0, .int 0])) :: (((([] ++ [(q0, (.inl (cs 1, (6000, .inr (.inl fun _ => 0))) : va_E))]) ++ [(q1, (.inl (cs 0, (100, .inl fun _ => 0)) : va_E))]) ++ [(q2, (.inl (cs 2, (100, .inl fun _ => 0)) : va_E))]) ++ [(q3, (.inl (cs 1, (100, .inr (.inl fun _ => 0))) : va_E))])) 42 []
  refine zk_aload (i := 0) (x := a) X (by decide +kernel) (lv_at hl 0 rfl) ?_
  refine zk_iconst (n := (-1)) (v := (-1)) X (by decide +kernel) (by decide) ?_
  refine zk_put (k := 30) X zClok_ok hin (q0 := 0) (ci := 5) (f := 5) (ty := .int) rfl rfl (by decide) rfl (zG_mem (n := 406) (by decide +kernel)) rfl (by exact Nat.le_of_ble_eq_true rfl) (by decide +kernel) rfl rfl (by decide +kernel) ?_
  show zK p l e _ s m args below meth c Q D A L 4 6300 ((a, .inr (5, [.ref q0, .ref q1, .ref q2, .ref q3, .int 1, .int (-1), .int 0, .int 0, .int 0])) :: (((([] ++ [(q0, (.inl (cs 1, (6000, .inr (.inl fun _ => 0))) : va_E))]) ++ [(q1, (.inl (cs 0, (100, .inl fun _ => 0)) : va_E))]) ++ [(q2, (.inl (cs 2, (100, .inl fun _ => 0)) : va_E))]) ++ [(q3, (.inl (cs 1, (100, .inr (.inl fun _ => 0))) : va_E))])) 47 []
  refine zk_aload (i := 0) (x := a) X (by decide +kernel) (lv_at hl 0 rfl) ?_
  refine zk_iconst (n := 0) (v := 0) X (by decide +kernel) (by decide) ?_
  refine zk_put (k := 33) X zClok_ok hin (q0 := 0) (ci := 5) (f := 6) (ty := .int) rfl rfl (by decide) rfl (zG_mem (n := 407) (by decide +kernel)) rfl (by exact Nat.le_of_ble_eq_true rfl) (by decide +kernel) rfl rfl (by decide +kernel) ?_
  show zK p l e _ s m args below meth c Q D A L 4 6300 ((a, .inr (5, [.ref q0, .ref q1, .ref q2, .ref q3, .int 1, .int (-1), .int 0, .int 0, .int 0])) :: (((([] ++ [(q0, (.inl (cs 1, (6000, .inr (.inl fun _ => 0))) : va_E))]) ++ [(q1, (.inl (cs 0, (100, .inl fun _ => 0)) : va_E))]) ++ [(q2, (.inl (cs 2, (100, .inl fun _ => 0)) : va_E))]) ++ [(q3, (.inl (cs 1, (100, .inr (.inl fun _ => 0))) : va_E))])) 52 []
  refine zk_aload (i := 0) (x := a) X (by decide +kernel) (lv_at hl 0 rfl) ?_
  refine zk_iconst (n := 0) (v := 0) X (by decide +kernel) (by decide) ?_
  refine zk_put (k := 36) X zClok_ok hin (q0 := 0) (ci := 5) (f := 7) (ty := .int) rfl rfl (by decide) rfl (zG_mem (n := 408) (by decide +kernel)) rfl (by exact Nat.le_of_ble_eq_true rfl) (by decide +kernel) rfl rfl (by decide +kernel) ?_
  show zK p l e _ s m args below meth c Q D A L 4 6300 ((a, .inr (5, [.ref q0, .ref q1, .ref q2, .ref q3, .int 1, .int (-1), .int 0, .int 0, .int 0])) :: (((([] ++ [(q0, (.inl (cs 1, (6000, .inr (.inl fun _ => 0))) : va_E))]) ++ [(q1, (.inl (cs 0, (100, .inl fun _ => 0)) : va_E))]) ++ [(q2, (.inl (cs 2, (100, .inl fun _ => 0)) : va_E))]) ++ [(q3, (.inl (cs 1, (100, .inr (.inl fun _ => 0))) : va_E))])) 57 []
  refine zk_aload (i := 0) (x := a) X (by decide +kernel) (lv_at hl 0 rfl) ?_
  refine zk_iconst (n := 0) (v := 0) X (by decide +kernel) (by decide) ?_
  refine zk_put (k := 39) X zClok_ok hin (q0 := 0) (ci := 5) (f := 8) (ty := .int) rfl rfl (by decide) rfl (zG_mem (n := 409) (by decide +kernel)) rfl (by exact Nat.le_of_ble_eq_true rfl) (by decide +kernel) rfl rfl (by decide +kernel) ?_
  show zK p l e _ s m args below meth c Q D A L 4 6300 ((a, .inr (5, [.ref q0, .ref q1, .ref q2, .ref q3, .int 1, .int (-1), .int 0, .int 0, .int 0])) :: (((([] ++ [(q0, (.inl (cs 1, (6000, .inr (.inl fun _ => 0))) : va_E))]) ++ [(q1, (.inl (cs 0, (100, .inl fun _ => 0)) : va_E))]) ++ [(q2, (.inl (cs 2, (100, .inl fun _ => 0)) : va_E))]) ++ [(q3, (.inl (cs 1, (100, .inr (.inl fun _ => 0))) : va_E))])) 62 []
  exact ret _ 62 (fun k => if k = 0 then q0 else if k = 1 then q1 else if k = 2 then q2 else if k = 3 then q3 else 0) (by decide +kernel)
def FX9 (cs : Nat → ClassId) (a : Nat) (u : Nat → Nat) : va_W := (a, .inr (9, [.ref (u 0), .ref (u 3), .ref (u 10), .ref (u 14), .ref (u 20), .int 0, .int (-1), .int 0, .int 0, .int (-1)])) :: ((((([] ++ FX0 cs (u 0) (fun k => u (1 + k))) ++ FX8 cs (u 3) (fun k => u (4 + k))) ++ FX1 cs (u 10) (fun k => u (11 + k))) ++ FX2 cs (u 14) (fun k => u (15 + k))) ++ [(u 20, (.inl (cs 0, (8, .inl (upd ((upd ((upd ((upd ((upd ((upd ((upd ((upd (fun _ => 0) 0 0)) 1 0)) 2 0)) 3 30)) 4 1)) 5 3)) 6 0)) 7 2))) : va_E))])
theorem FX9_ext {cs : Nat → ClassId} {a : Nat} {u u1 : Nat → Nat} (h : ∀ j, j < 21 → u j = u1 j) : FX9 cs a u = FX9 cs a u1 := by
  unfold FX9
  rw [FX0_ext (u := fun k => u (1 + k)) (u1 := fun k => u1 (1 + k)) (fun j hj => h (1 + j) (by omega)), FX8_ext (u := fun k => u (4 + k)) (u1 := fun k => u1 (4 + k)) (fun j hj => h (4 + j) (by omega)), FX1_ext (u := fun k => u (11 + k)) (u1 := fun k => u1 (11 + k)) (fun j hj => h (11 + j) (by omega)), FX2_ext (u := fun k => u (15 + k)) (u1 := fun k => u1 (15 + k)) (fun j hj => h (15 + j) (by omega))]
  simp only [h 0 (by omega), h 3 (by omega), h 10 (by omega), h 14 (by omega), h 20 (by omega)]
theorem FX9_len {cs : Nat → ClassId} {a : Nat} {u : Nat → Nat} : (FX9 cs a u).length = 22 := rfl
set_option maxHeartbeats 8000000 in
set_option maxRecDepth 100000 in
theorem cX9_con (l : Launch) : zCon l yX9_init cX9_init 1 1 21 839 9 [.null, .null, .null, .null, .null, .int 0, .int 0, .int 0, .int 0, .int 0] FX9 := by
  refine zCon_of (own := RX9) (by decide +kernel) rfl rfl (by decide) ?_
  intro p e s m args below meth c Q D cs A L a X hin hl ret
  refine zk_aload (i := 0) (x := a) X (by decide +kernel) (lv_at hl 0 rfl) ?_
  refine zk_obj (idx := 3) X hl.1 (zG_mem (n := 155) (by decide +kernel)) (zG_mem (n := 148) (by decide +kernel)) (zG_mem (n := 149) (by decide +kernel)) (by decide +kernel) ?_
  refine zk_aload (i := 0) (x := a) X (by decide +kernel) (lv_at hl 0 rfl) ?_
  refine zk_new (idx := 9) X (ci := 0) (df := [.null, .null, .int 0]) (ty := tyX0) rfl (zClok_ok 0 _ rfl).1 tyX0_ok (by decide) (zG_mem (n := 156) (by decide +kernel)) (zG_mem (n := 157) (by decide +kernel)) (zG_mem (n := 118) (by decide +kernel)) (by decide) (by decide) (by decide +kernel) (fun q0 => ?_)
  refine zk_dup X (by decide +kernel) rfl ?_
  refine zk_init (idx := 11) X hl.1 (pre := (a, .inr (9, [.null, .null, .null, .null, .null, .int 0, .int 0, .int 0, .int 0, .int 0])) :: []) (cX0_con l) (by decide) (by decide) ⟨by decide, by decide +kernel⟩ rfl (zG_mem (n := 160) (by decide +kernel)) (zG_mem (n := 118) (by decide +kernel)) (zG_mem (n := 159) (by decide +kernel)) (Or.inr ⟨"SandRails", zT_mem (n := 158) (by decide +kernel)⟩) (by decide) (by decide) (by exact Nat.le_of_ble_eq_true rfl) (by decide +kernel) (fun w0 => ?_)
  show zK p l e _ s m args below meth c Q D A L 3 203 ((a, .inr (9, [.null, .null, .null, .null, .null, .int 0, .int 0, .int 0, .int 0, .int 0])) :: ([] ++ FX0 cs q0 w0)) 12 [.ref q0, .ref a]
  refine zk_put (k := 12) X zClok_ok hin (q0 := 0) (ci := 9) (f := 0) (ty := (.object "SandRails$Desert")) rfl rfl (by decide) rfl (zG_mem (n := 263) (by decide +kernel)) rfl (by exact Nat.le_of_ble_eq_true rfl) (by decide +kernel) rfl rfl (by decide +kernel) ?_
  show zK p l e _ s m args below meth c Q D A L 3 203 ((a, .inr (9, [.ref q0, .null, .null, .null, .null, .int 0, .int 0, .int 0, .int 0, .int 0])) :: ([] ++ FX0 cs q0 w0)) 15 []
  refine zk_aload (i := 0) (x := a) X (by decide +kernel) (lv_at hl 0 rfl) ?_
  refine zk_new (idx := 18) X (ci := 8) (df := [.null, .null, .null, .null, .int 0, .null, .null, .int 0, .int 0]) (ty := tyX8) rfl (zClok_ok 8 _ rfl).1 tyX8_ok (by decide) (zG_mem (n := 174) (by decide +kernel)) (zG_mem (n := 175) (by decide +kernel)) (zG_mem (n := 119) (by decide +kernel)) (by decide) (by decide) (by decide +kernel) (fun q1 => ?_)
  refine zk_dup X (by decide +kernel) rfl ?_
  refine zk_init (idx := 20) X hl.1 (pre := (a, .inr (9, [.ref q0, .null, .null, .null, .null, .int 0, .int 0, .int 0, .int 0, .int 0])) :: ([] ++ FX0 cs q0 w0)) (cX8_con l) (by decide) (by decide) ⟨by decide, by decide +kernel⟩ rfl (zG_mem (n := 178) (by decide +kernel)) (zG_mem (n := 119) (by decide +kernel)) (zG_mem (n := 177) (by decide +kernel)) (Or.inr ⟨"SandRails", zT_mem (n := 176) (by decide +kernel)⟩) (by decide) (by decide) (by exact Nat.le_of_ble_eq_true rfl) (by decide +kernel) (fun w1 => ?_)
  show zK p l e _ s m args below meth c Q D A L 10 308 ((a, .inr (9, [.ref q0, .null, .null, .null, .null, .int 0, .int 0, .int 0, .int 0, .int 0])) :: (([] ++ FX0 cs q0 w0) ++ FX8 cs q1 w1)) 23 [.ref q1, .ref a]
  refine zk_put (k := 21) X zClok_ok hin (q0 := 0) (ci := 9) (f := 1) (ty := (.object "SandRails$Track")) rfl rfl (by decide) rfl (zG_mem (n := 267) (by decide +kernel)) rfl (by exact Nat.le_of_ble_eq_true rfl) (by decide +kernel) rfl rfl (by decide +kernel) ?_
  show zK p l e _ s m args below meth c Q D A L 10 308 ((a, .inr (9, [.ref q0, .ref q1, .null, .null, .null, .int 0, .int 0, .int 0, .int 0, .int 0])) :: (([] ++ FX0 cs q0 w0) ++ FX8 cs q1 w1)) 26 []
  refine zk_aload (i := 0) (x := a) X (by decide +kernel) (lv_at hl 0 rfl) ?_
  refine zk_new (idx := 25) X (ci := 1) (df := [.null, .null, .null, .int 0]) (ty := tyX1) rfl (zClok_ok 1 _ rfl).1 tyX1_ok (by decide) (zG_mem (n := 213) (by decide +kernel)) (zG_mem (n := 214) (by decide +kernel)) (zG_mem (n := 120) (by decide +kernel)) (by decide) (by decide) (by decide +kernel) (fun q2 => ?_)
  refine zk_dup X (by decide +kernel) rfl ?_
  refine zk_init (idx := 27) X hl.1 (pre := (a, .inr (9, [.ref q0, .ref q1, .null, .null, .null, .int 0, .int 0, .int 0, .int 0, .int 0])) :: (([] ++ FX0 cs q0 w0) ++ FX8 cs q1 w1)) (cX1_con l) (by decide) (by decide) ⟨by decide, by decide +kernel⟩ rfl (zG_mem (n := 217) (by decide +kernel)) (zG_mem (n := 120) (by decide +kernel)) (zG_mem (n := 216) (by decide +kernel)) (Or.inr ⟨"SandRails", zT_mem (n := 215) (by decide +kernel)⟩) (by decide) (by decide) (by exact Nat.le_of_ble_eq_true rfl) (by decide +kernel) (fun w2 => ?_)
  show zK p l e _ s m args below meth c Q D A L 14 324 ((a, .inr (9, [.ref q0, .ref q1, .null, .null, .null, .int 0, .int 0, .int 0, .int 0, .int 0])) :: ((([] ++ FX0 cs q0 w0) ++ FX8 cs q1 w1) ++ FX1 cs q2 w2)) 34 [.ref q2, .ref a]
  refine zk_put (k := 28) X zClok_ok hin (q0 := 0) (ci := 9) (f := 2) (ty := (.object "SandRails$Gangs")) rfl rfl (by decide) rfl (zG_mem (n := 271) (by decide +kernel)) rfl (by exact Nat.le_of_ble_eq_true rfl) (by decide +kernel) rfl rfl (by decide +kernel) ?_
  show zK p l e _ s m args below meth c Q D A L 14 324 ((a, .inr (9, [.ref q0, .ref q1, .ref q2, .null, .null, .int 0, .int 0, .int 0, .int 0, .int 0])) :: ((([] ++ FX0 cs q0 w0) ++ FX8 cs q1 w1) ++ FX1 cs q2 w2)) 37 []
  refine zk_aload (i := 0) (x := a) X (by decide +kernel) (lv_at hl 0 rfl) ?_
  refine zk_new (idx := 32) X (ci := 2) (df := [.null, .null, .null, .null, .int 0, .int 0, .null]) (ty := tyX2) rfl (zClok_ok 2 _ rfl).1 tyX2_ok (by decide) (zG_mem (n := 233) (by decide +kernel)) (zG_mem (n := 234) (by decide +kernel)) (zG_mem (n := 121) (by decide +kernel)) (by decide) (by decide) (by decide +kernel) (fun q3 => ?_)
  refine zk_dup X (by decide +kernel) rfl ?_
  refine zk_init (idx := 34) X hl.1 (pre := (a, .inr (9, [.ref q0, .ref q1, .ref q2, .null, .null, .int 0, .int 0, .int 0, .int 0, .int 0])) :: ((([] ++ FX0 cs q0 w0) ++ FX8 cs q1 w1) ++ FX1 cs q2 w2)) (cX2_con l) (by decide) (by decide) ⟨by decide, by decide +kernel⟩ rfl (zG_mem (n := 237) (by decide +kernel)) (zG_mem (n := 121) (by decide +kernel)) (zG_mem (n := 236) (by decide +kernel)) (Or.inr ⟨"SandRails", zT_mem (n := 235) (by decide +kernel)⟩) (by decide) (by decide) (by exact Nat.le_of_ble_eq_true rfl) (by decide +kernel) (fun w3 => ?_)
  show zK p l e _ s m args below meth c Q D A L 20 831 ((a, .inr (9, [.ref q0, .ref q1, .ref q2, .null, .null, .int 0, .int 0, .int 0, .int 0, .int 0])) :: (((([] ++ FX0 cs q0 w0) ++ FX8 cs q1 w1) ++ FX1 cs q2 w2) ++ FX2 cs q3 w3)) 45 [.ref q3, .ref a]
  refine zk_put (k := 35) X zClok_ok hin (q0 := 0) (ci := 9) (f := 3) (ty := (.object "SandRails$Log")) rfl rfl (by decide) rfl (zG_mem (n := 273) (by decide +kernel)) rfl (by exact Nat.le_of_ble_eq_true rfl) (by decide +kernel) rfl rfl (by decide +kernel) ?_
  show zK p l e _ s m args below meth c Q D A L 20 831 ((a, .inr (9, [.ref q0, .ref q1, .ref q2, .ref q3, .null, .int 0, .int 0, .int 0, .int 0, .int 0])) :: (((([] ++ FX0 cs q0 w0) ++ FX8 cs q1 w1) ++ FX1 cs q2 w2) ++ FX2 cs q3 w3)) 48 []
  refine zk_aload (i := 0) (x := a) X (by decide +kernel) (lv_at hl 0 rfl) ?_
  refine zk_bipush (n := 8) (v := 8) X (by decide +kernel) (by decide) ?_
  refine zk_newarr (atype := .int) (N := 8) X (t0 := 0) (a0 := (8, .inl fun _ => 0)) (zG_mem (n := 173) (by decide +kernel)) rfl rfl (fun _ h1 h2 => zra_p h1 h2) (fun _ => rfl) (by decide) (by decide) (by decide) (by decide) (by decide) (by decide +kernel) (fun q4 => ?_)
  show zK p l e _ s m args below meth c Q D A L 21 839 ((a, .inr (9, [.ref q0, .ref q1, .ref q2, .ref q3, .null, .int 0, .int 0, .int 0, .int 0, .int 0])) :: ((((([] ++ FX0 cs q0 w0) ++ FX8 cs q1 w1) ++ FX1 cs q2 w2) ++ FX2 cs q3 w3) ++ [(q4, (.inl (cs 0, (8, .inl fun _ => 0)) : va_E))])) 53 [.ref q4, .ref a]
  refine zk_dup X (by decide +kernel) rfl ?_
  refine zk_iconst (n := 0) (v := 0) X (by decide +kernel) (by decide) ?_
  refine zk_iconst (n := 0) (v := 0) X (by decide +kernel) (by decide) ?_
  refine zk_iastore X (q0 := 21) rfl (fun h => h.elim (by decide) (by decide)) (by decide +kernel) ?_
  show zK p l e _ s m args below meth c Q D A L 21 839 ((a, .inr (9, [.ref q0, .ref q1, .ref q2, .ref q3, .null, .int 0, .int 0, .int 0, .int 0, .int 0])) :: ((((([] ++ FX0 cs q0 w0) ++ FX8 cs q1 w1) ++ FX1 cs q2 w2) ++ FX2 cs q3 w3) ++ [(q4, (.inl (cs 0, (8, .inl (upd (fun _ => 0) 0 0))) : va_E))])) 57 [.ref q4, .ref a]
  refine zk_dup X (by decide +kernel) rfl ?_
  refine zk_iconst (n := 1) (v := 1) X (by decide +kernel) (by decide) ?_
  refine zk_iconst (n := 0) (v := 0) X (by decide +kernel) (by decide) ?_
  refine zk_iastore X (q0 := 21) rfl (fun h => h.elim (by decide) (by decide)) (by decide +kernel) ?_
  show zK p l e _ s m args below meth c Q D A L 21 839 ((a, .inr (9, [.ref q0, .ref q1, .ref q2, .ref q3, .null, .int 0, .int 0, .int 0, .int 0, .int 0])) :: ((((([] ++ FX0 cs q0 w0) ++ FX8 cs q1 w1) ++ FX1 cs q2 w2) ++ FX2 cs q3 w3) ++ [(q4, (.inl (cs 0, (8, .inl (upd ((upd (fun _ => 0) 0 0)) 1 0))) : va_E))])) 61 [.ref q4, .ref a]
  refine zk_dup X (by decide +kernel) rfl ?_
  refine zk_iconst (n := 2) (v := 2) X (by decide +kernel) (by decide) ?_
  refine zk_iconst (n := 0) (v := 0) X (by decide +kernel) (by decide) ?_
  refine zk_iastore X (q0 := 21) rfl (fun h => h.elim (by decide) (by decide)) (by decide +kernel) ?_
  show zK p l e _ s m args below meth c Q D A L 21 839 ((a, .inr (9, [.ref q0, .ref q1, .ref q2, .ref q3, .null, .int 0, .int 0, .int 0, .int 0, .int 0])) :: ((((([] ++ FX0 cs q0 w0) ++ FX8 cs q1 w1) ++ FX1 cs q2 w2) ++ FX2 cs q3 w3) ++ [(q4, (.inl (cs 0, (8, .inl (upd ((upd ((upd (fun _ => 0) 0 0)) 1 0)) 2 0))) : va_E))])) 65 [.ref q4, .ref a]
  refine zk_dup X (by decide +kernel) rfl ?_
  refine zk_iconst (n := 3) (v := 3) X (by decide +kernel) (by decide) ?_
  refine zk_bipush (n := 30) (v := 30) X (by decide +kernel) (by decide) ?_
  refine zk_iastore X (q0 := 21) rfl (fun h => h.elim (by decide) (by decide)) (by decide +kernel) ?_
  show zK p l e _ s m args below meth c Q D A L 21 839 ((a, .inr (9, [.ref q0, .ref q1, .ref q2, .ref q3, .null, .int 0, .int 0, .int 0, .int 0, .int 0])) :: ((((([] ++ FX0 cs q0 w0) ++ FX8 cs q1 w1) ++ FX1 cs q2 w2) ++ FX2 cs q3 w3) ++ [(q4, (.inl (cs 0, (8, .inl (upd ((upd ((upd ((upd (fun _ => 0) 0 0)) 1 0)) 2 0)) 3 30))) : va_E))])) 70 [.ref q4, .ref a]
  refine zk_dup X (by decide +kernel) rfl ?_
  refine zk_iconst (n := 4) (v := 4) X (by decide +kernel) (by decide) ?_
  refine zk_iconst (n := 1) (v := 1) X (by decide +kernel) (by decide) ?_
  refine zk_iastore X (q0 := 21) rfl (fun h => h.elim (by decide) (by decide)) (by decide +kernel) ?_
  show zK p l e _ s m args below meth c Q D A L 21 839 ((a, .inr (9, [.ref q0, .ref q1, .ref q2, .ref q3, .null, .int 0, .int 0, .int 0, .int 0, .int 0])) :: ((((([] ++ FX0 cs q0 w0) ++ FX8 cs q1 w1) ++ FX1 cs q2 w2) ++ FX2 cs q3 w3) ++ [(q4, (.inl (cs 0, (8, .inl (upd ((upd ((upd ((upd ((upd (fun _ => 0) 0 0)) 1 0)) 2 0)) 3 30)) 4 1))) : va_E))])) 74 [.ref q4, .ref a]
  refine zk_dup X (by decide +kernel) rfl ?_
  refine zk_iconst (n := 5) (v := 5) X (by decide +kernel) (by decide) ?_
  refine zk_iconst (n := 3) (v := 3) X (by decide +kernel) (by decide) ?_
  refine zk_iastore X (q0 := 21) rfl (fun h => h.elim (by decide) (by decide)) (by decide +kernel) ?_
  show zK p l e _ s m args below meth c Q D A L 21 839 ((a, .inr (9, [.ref q0, .ref q1, .ref q2, .ref q3, .null, .int 0, .int 0, .int 0, .int 0, .int 0])) :: ((((([] ++ FX0 cs q0 w0) ++ FX8 cs q1 w1) ++ FX1 cs q2 w2) ++ FX2 cs q3 w3) ++ [(q4, (.inl (cs 0, (8, .inl (upd ((upd ((upd ((upd ((upd ((upd (fun _ => 0) 0 0)) 1 0)) 2 0)) 3 30)) 4 1)) 5 3))) : va_E))])) 78 [.ref q4, .ref a]
  refine zk_dup X (by decide +kernel) rfl ?_
  refine zk_bipush (n := 6) (v := 6) X (by decide +kernel) (by decide) ?_
  refine zk_iconst (n := 0) (v := 0) X (by decide +kernel) (by decide) ?_
  refine zk_iastore X (q0 := 21) rfl (fun h => h.elim (by decide) (by decide)) (by decide +kernel) ?_
  show zK p l e _ s m args below meth c Q D A L 21 839 ((a, .inr (9, [.ref q0, .ref q1, .ref q2, .ref q3, .null, .int 0, .int 0, .int 0, .int 0, .int 0])) :: ((((([] ++ FX0 cs q0 w0) ++ FX8 cs q1 w1) ++ FX1 cs q2 w2) ++ FX2 cs q3 w3) ++ [(q4, (.inl (cs 0, (8, .inl (upd ((upd ((upd ((upd ((upd ((upd ((upd (fun _ => 0) 0 0)) 1 0)) 2 0)) 3 30)) 4 1)) 5 3)) 6 0))) : va_E))])) 83 [.ref q4, .ref a]
  refine zk_dup X (by decide +kernel) rfl ?_
  refine zk_bipush (n := 7) (v := 7) X (by decide +kernel) (by decide) ?_
  refine zk_iconst (n := 2) (v := 2) X (by decide +kernel) (by decide) ?_
  refine zk_iastore X (q0 := 21) rfl (fun h => h.elim (by decide) (by decide)) (by decide +kernel) ?_
  show zK p l e _ s m args below meth c Q D A L 21 839 ((a, .inr (9, [.ref q0, .ref q1, .ref q2, .ref q3, .null, .int 0, .int 0, .int 0, .int 0, .int 0])) :: ((((([] ++ FX0 cs q0 w0) ++ FX8 cs q1 w1) ++ FX1 cs q2 w2) ++ FX2 cs q3 w3) ++ [(q4, (.inl (cs 0, (8, .inl (upd ((upd ((upd ((upd ((upd ((upd ((upd ((upd (fun _ => 0) 0 0)) 1 0)) 2 0)) 3 30)) 4 1)) 5 3)) 6 0)) 7 2))) : va_E))])) 88 [.ref q4, .ref a]
  refine zk_put (k := 39) X zClok_ok hin (q0 := 0) (ci := 9) (f := 4) (ty := (.array .int)) rfl rfl (by decide) rfl (zG_mem (n := 275) (by decide +kernel)) rfl (by exact Nat.le_of_ble_eq_true rfl) (by decide +kernel) rfl rfl (by decide +kernel) ?_
  show zK p l e _ s m args below meth c Q D A L 21 839 ((a, .inr (9, [.ref q0, .ref q1, .ref q2, .ref q3, .ref q4, .int 0, .int 0, .int 0, .int 0, .int 0])) :: ((((([] ++ FX0 cs q0 w0) ++ FX8 cs q1 w1) ++ FX1 cs q2 w2) ++ FX2 cs q3 w3) ++ [(q4, (.inl (cs 0, (8, .inl (upd ((upd ((upd ((upd ((upd ((upd ((upd ((upd (fun _ => 0) 0 0)) 1 0)) 2 0)) 3 30)) 4 1)) 5 3)) 6 0)) 7 2))) : va_E))])) 91 []
  refine zk_aload (i := 0) (x := a) X (by decide +kernel) (lv_at hl 0 rfl) ?_
  refine zk_iconst (n := 0) (v := 0) X (by decide +kernel) (by decide) ?_
  refine zk_put (k := 43) X zClok_ok hin (q0 := 0) (ci := 9) (f := 5) (ty := .int) rfl rfl (by decide) rfl (zG_mem (n := 276) (by decide +kernel)) rfl (by exact Nat.le_of_ble_eq_true rfl) (by decide +kernel) rfl rfl (by decide +kernel) ?_
  show zK p l e _ s m args below meth c Q D A L 21 839 ((a, .inr (9, [.ref q0, .ref q1, .ref q2, .ref q3, .ref q4, .int 0, .int 0, .int 0, .int 0, .int 0])) :: ((((([] ++ FX0 cs q0 w0) ++ FX8 cs q1 w1) ++ FX1 cs q2 w2) ++ FX2 cs q3 w3) ++ [(q4, (.inl (cs 0, (8, .inl (upd ((upd ((upd ((upd ((upd ((upd ((upd ((upd (fun _ => 0) 0 0)) 1 0)) 2 0)) 3 30)) 4 1)) 5 3)) 6 0)) 7 2))) : va_E))])) 96 []
  refine zk_aload (i := 0) (x := a) X (by decide +kernel) (lv_at hl 0 rfl) ?_
  refine zk_iconst (n := (-1)) (v := (-1)) X (by decide +kernel) (by decide) ?_
  refine zk_put (k := 47) X zClok_ok hin (q0 := 0) (ci := 9) (f := 6) (ty := .int) rfl rfl (by decide) rfl (zG_mem (n := 278) (by decide +kernel)) rfl (by exact Nat.le_of_ble_eq_true rfl) (by decide +kernel) rfl rfl (by decide +kernel) ?_
  show zK p l e _ s m args below meth c Q D A L 21 839 ((a, .inr (9, [.ref q0, .ref q1, .ref q2, .ref q3, .ref q4, .int 0, .int (-1), .int 0, .int 0, .int 0])) :: ((((([] ++ FX0 cs q0 w0) ++ FX8 cs q1 w1) ++ FX1 cs q2 w2) ++ FX2 cs q3 w3) ++ [(q4, (.inl (cs 0, (8, .inl (upd ((upd ((upd ((upd ((upd ((upd ((upd ((upd (fun _ => 0) 0 0)) 1 0)) 2 0)) 3 30)) 4 1)) 5 3)) 6 0)) 7 2))) : va_E))])) 101 []
  refine zk_aload (i := 0) (x := a) X (by decide +kernel) (lv_at hl 0 rfl) ?_
  refine zk_iconst (n := 0) (v := 0) X (by decide +kernel) (by decide) ?_
  refine zk_put (k := 50) X zClok_ok hin (q0 := 0) (ci := 9) (f := 7) (ty := .int) rfl rfl (by decide) rfl (zG_mem (n := 280) (by decide +kernel)) rfl (by exact Nat.le_of_ble_eq_true rfl) (by decide +kernel) rfl rfl (by decide +kernel) ?_
  show zK p l e _ s m args below meth c Q D A L 21 839 ((a, .inr (9, [.ref q0, .ref q1, .ref q2, .ref q3, .ref q4, .int 0, .int (-1), .int 0, .int 0, .int 0])) :: ((((([] ++ FX0 cs q0 w0) ++ FX8 cs q1 w1) ++ FX1 cs q2 w2) ++ FX2 cs q3 w3) ++ [(q4, (.inl (cs 0, (8, .inl (upd ((upd ((upd ((upd ((upd ((upd ((upd ((upd (fun _ => 0) 0 0)) 1 0)) 2 0)) 3 30)) 4 1)) 5 3)) 6 0)) 7 2))) : va_E))])) 106 []
  refine zk_aload (i := 0) (x := a) X (by decide +kernel) (lv_at hl 0 rfl) ?_
  refine zk_iconst (n := 0) (v := 0) X (by decide +kernel) (by decide) ?_
  refine zk_put (k := 53) X zClok_ok hin (q0 := 0) (ci := 9) (f := 8) (ty := .int) rfl rfl (by decide) rfl (zG_mem (n := 282) (by decide +kernel)) rfl (by exact Nat.le_of_ble_eq_true rfl) (by decide +kernel) rfl rfl (by decide +kernel) ?_
  show zK p l e _ s m args below meth c Q D A L 21 839 ((a, .inr (9, [.ref q0, .ref q1, .ref q2, .ref q3, .ref q4, .int 0, .int (-1), .int 0, .int 0, .int 0])) :: ((((([] ++ FX0 cs q0 w0) ++ FX8 cs q1 w1) ++ FX1 cs q2 w2) ++ FX2 cs q3 w3) ++ [(q4, (.inl (cs 0, (8, .inl (upd ((upd ((upd ((upd ((upd ((upd ((upd ((upd (fun _ => 0) 0 0)) 1 0)) 2 0)) 3 30)) 4 1)) 5 3)) 6 0)) 7 2))) : va_E))])) 111 []
  refine zk_aload (i := 0) (x := a) X (by decide +kernel) (lv_at hl 0 rfl) ?_
  refine zk_iconst (n := (-1)) (v := (-1)) X (by decide +kernel) (by decide) ?_
  refine zk_put (k := 56) X zClok_ok hin (q0 := 0) (ci := 9) (f := 9) (ty := .int) rfl rfl (by decide) rfl (zG_mem (n := 284) (by decide +kernel)) rfl (by exact Nat.le_of_ble_eq_true rfl) (by decide +kernel) rfl rfl (by decide +kernel) ?_
  show zK p l e _ s m args below meth c Q D A L 21 839 ((a, .inr (9, [.ref q0, .ref q1, .ref q2, .ref q3, .ref q4, .int 0, .int (-1), .int 0, .int 0, .int (-1)])) :: ((((([] ++ FX0 cs q0 w0) ++ FX8 cs q1 w1) ++ FX1 cs q2 w2) ++ FX2 cs q3 w3) ++ [(q4, (.inl (cs 0, (8, .inl (upd ((upd ((upd ((upd ((upd ((upd ((upd ((upd (fun _ => 0) 0 0)) 1 0)) 2 0)) 3 30)) 4 1)) 5 3)) 6 0)) 7 2))) : va_E))])) 116 []
  exact ret _ 116 (fun k => if k = 0 then q0 else if k < 3 then w0 (k - 1) else if k = 3 then q1 else if k < 10 then w1 (k - 4) else if k = 10 then q2 else if k < 14 then w2 (k - 11) else if k = 14 then q3 else if k < 20 then w3 (k - 15) else if k = 20 then q4 else 0) (by decide +kernel)
def FX4 (cs : Nat → ClassId) (a : Nat) (u : Nat → Nat) : va_W := (a, .inr (4, [.ref (u 0), .ref (u 4), .int 0, .int 0, .int 0, .int (-1)])) :: (([] ++ FX3 cs (u 0) (fun k => u (1 + k))) ++ FX7 cs (u 4) (fun k => u (5 + k)))
theorem FX4_ext {cs : Nat → ClassId} {a : Nat} {u u1 : Nat → Nat} (h : ∀ j, j < 6 → u j = u1 j) : FX4 cs a u = FX4 cs a u1 := by
  unfold FX4
  rw [FX3_ext (u := fun k => u (1 + k)) (u1 := fun k => u1 (1 + k)) (fun j hj => h (1 + j) (by omega)), FX7_ext (u := fun k => u (5 + k)) (u1 := fun k => u1 (5 + k)) (fun j hj => h (5 + j) (by omega))]
  simp only [h 0 (by omega), h 4 (by omega)]
theorem FX4_len {cs : Nat → ClassId} {a : Nat} {u : Nat → Nat} : (FX4 cs a u).length = 7 := rfl
set_option maxHeartbeats 8000000 in
set_option maxRecDepth 100000 in
theorem cX4_con (l : Launch) : zCon l yX4_init cX4_init 1 1 6 1006 4 [.null, .null, .int 0, .int 0, .int 0, .int 0] FX4 := by
  refine zCon_of (own := RX4) (by decide +kernel) rfl rfl (by decide) ?_
  intro p e s m args below meth c Q D cs A L a X hin hl ret
  refine zk_aload (i := 0) (x := a) X (by decide +kernel) (lv_at hl 0 rfl) ?_
  refine zk_obj (idx := 3) X hl.1 (zG_mem (n := 315) (by decide +kernel)) (zG_mem (n := 148) (by decide +kernel)) (zG_mem (n := 149) (by decide +kernel)) (by decide +kernel) ?_
  refine zk_aload (i := 0) (x := a) X (by decide +kernel) (lv_at hl 0 rfl) ?_
  refine zk_new (idx := 9) X (ci := 3) (df := [.null, .null, .null, .int 0]) (ty := tyX3) rfl (zClok_ok 3 _ rfl).1 tyX3_ok (by decide) (zG_mem (n := 316) (by decide +kernel)) (zG_mem (n := 317) (by decide +kernel)) (zG_mem (n := 123) (by decide +kernel)) (by decide) (by decide) (by decide +kernel) (fun q0 => ?_)
  refine zk_dup X (by decide +kernel) rfl ?_
  refine zk_init (idx := 11) X hl.1 (pre := (a, .inr (4, [.null, .null, .int 0, .int 0, .int 0, .int 0])) :: []) (cX3_con l) (by decide) (by decide) ⟨by decide, by decide +kernel⟩ rfl (zG_mem (n := 320) (by decide +kernel)) (zG_mem (n := 123) (by decide +kernel)) (zG_mem (n := 319) (by decide +kernel)) (Or.inr ⟨"SandRails", zT_mem (n := 318) (by decide +kernel)⟩) (by decide) (by decide) (by exact Nat.le_of_ble_eq_true rfl) (by decide +kernel) (fun w0 => ?_)
  show zK p l e _ s m args below meth c Q D A L 4 604 ((a, .inr (4, [.null, .null, .int 0, .int 0, .int 0, .int 0])) :: ([] ++ FX3 cs q0 w0)) 12 [.ref q0, .ref a]
  refine zk_put (k := 12) X zClok_ok hin (q0 := 0) (ci := 4) (f := 0) (ty := (.object "SandRails$Orders")) rfl rfl (by decide) rfl (zG_mem (n := 350) (by decide +kernel)) rfl (by exact Nat.le_of_ble_eq_true rfl) (by decide +kernel) rfl rfl (by decide +kernel) ?_
  show zK p l e _ s m args below meth c Q D A L 4 604 ((a, .inr (4, [.ref q0, .null, .int 0, .int 0, .int 0, .int 0])) :: ([] ++ FX3 cs q0 w0)) 15 []
  refine zk_aload (i := 0) (x := a) X (by decide +kernel) (lv_at hl 0 rfl) ?_
  refine zk_new (idx := 18) X (ci := 7) (df := [.null, .int 0]) (ty := tyX7) rfl (zClok_ok 7 _ rfl).1 tyX7_ok (by decide) (zG_mem (n := 336) (by decide +kernel)) (zG_mem (n := 337) (by decide +kernel)) (zG_mem (n := 124) (by decide +kernel)) (by decide) (by decide) (by decide +kernel) (fun q1 => ?_)
  refine zk_dup X (by decide +kernel) rfl ?_
  refine zk_init (idx := 20) X hl.1 (pre := (a, .inr (4, [.ref q0, .null, .int 0, .int 0, .int 0, .int 0])) :: ([] ++ FX3 cs q0 w0)) (cX7_con l) (by decide) (by decide) ⟨by decide, by decide +kernel⟩ rfl (zG_mem (n := 340) (by decide +kernel)) (zG_mem (n := 124) (by decide +kernel)) (zG_mem (n := 339) (by decide +kernel)) (Or.inr ⟨"SandRails", zT_mem (n := 338) (by decide +kernel)⟩) (by decide) (by decide) (by exact Nat.le_of_ble_eq_true rfl) (by decide +kernel) (fun w1 => ?_)
  show zK p l e _ s m args below meth c Q D A L 6 1006 ((a, .inr (4, [.ref q0, .null, .int 0, .int 0, .int 0, .int 0])) :: (([] ++ FX3 cs q0 w0) ++ FX7 cs q1 w1)) 23 [.ref q1, .ref a]
  refine zk_put (k := 21) X zClok_ok hin (q0 := 0) (ci := 4) (f := 1) (ty := (.object "SandRails$Tape")) rfl rfl (by decide) rfl (zG_mem (n := 352) (by decide +kernel)) rfl (by exact Nat.le_of_ble_eq_true rfl) (by decide +kernel) rfl rfl (by decide +kernel) ?_
  show zK p l e _ s m args below meth c Q D A L 6 1006 ((a, .inr (4, [.ref q0, .ref q1, .int 0, .int 0, .int 0, .int 0])) :: (([] ++ FX3 cs q0 w0) ++ FX7 cs q1 w1)) 26 []
  refine zk_aload (i := 0) (x := a) X (by decide +kernel) (lv_at hl 0 rfl) ?_
  refine zk_iconst (n := 0) (v := 0) X (by decide +kernel) (by decide) ?_
  refine zk_put (k := 25) X zClok_ok hin (q0 := 0) (ci := 4) (f := 2) (ty := .int) rfl rfl (by decide) rfl (zG_mem (n := 354) (by decide +kernel)) rfl (by exact Nat.le_of_ble_eq_true rfl) (by decide +kernel) rfl rfl (by decide +kernel) ?_
  show zK p l e _ s m args below meth c Q D A L 6 1006 ((a, .inr (4, [.ref q0, .ref q1, .int 0, .int 0, .int 0, .int 0])) :: (([] ++ FX3 cs q0 w0) ++ FX7 cs q1 w1)) 31 []
  refine zk_aload (i := 0) (x := a) X (by decide +kernel) (lv_at hl 0 rfl) ?_
  refine zk_iconst (n := 0) (v := 0) X (by decide +kernel) (by decide) ?_
  refine zk_put (k := 29) X zClok_ok hin (q0 := 0) (ci := 4) (f := 3) (ty := .int) rfl rfl (by decide) rfl (zG_mem (n := 355) (by decide +kernel)) rfl (by exact Nat.le_of_ble_eq_true rfl) (by decide +kernel) rfl rfl (by decide +kernel) ?_
  show zK p l e _ s m args below meth c Q D A L 6 1006 ((a, .inr (4, [.ref q0, .ref q1, .int 0, .int 0, .int 0, .int 0])) :: (([] ++ FX3 cs q0 w0) ++ FX7 cs q1 w1)) 36 []
  refine zk_aload (i := 0) (x := a) X (by decide +kernel) (lv_at hl 0 rfl) ?_
  refine zk_iconst (n := 0) (v := 0) X (by decide +kernel) (by decide) ?_
  refine zk_put (k := 32) X zClok_ok hin (q0 := 0) (ci := 4) (f := 4) (ty := .int) rfl rfl (by decide) rfl (zG_mem (n := 356) (by decide +kernel)) rfl (by exact Nat.le_of_ble_eq_true rfl) (by decide +kernel) rfl rfl (by decide +kernel) ?_
  show zK p l e _ s m args below meth c Q D A L 6 1006 ((a, .inr (4, [.ref q0, .ref q1, .int 0, .int 0, .int 0, .int 0])) :: (([] ++ FX3 cs q0 w0) ++ FX7 cs q1 w1)) 41 []
  refine zk_aload (i := 0) (x := a) X (by decide +kernel) (lv_at hl 0 rfl) ?_
  refine zk_iconst (n := (-1)) (v := (-1)) X (by decide +kernel) (by decide) ?_
  refine zk_put (k := 35) X zClok_ok hin (q0 := 0) (ci := 4) (f := 5) (ty := .int) rfl rfl (by decide) rfl (zG_mem (n := 357) (by decide +kernel)) rfl (by exact Nat.le_of_ble_eq_true rfl) (by decide +kernel) rfl rfl (by decide +kernel) ?_
  show zK p l e _ s m args below meth c Q D A L 6 1006 ((a, .inr (4, [.ref q0, .ref q1, .int 0, .int 0, .int 0, .int (-1)])) :: (([] ++ FX3 cs q0 w0) ++ FX7 cs q1 w1)) 46 []
  exact ret _ 46 (fun k => if k = 0 then q0 else if k < 4 then w0 (k - 1) else if k = 4 then q1 else if k < 6 then w1 (k - 5) else 0) (by decide +kernel)
