/-! ===== from the law's entry to its loop ===== -/
section ZKE
variable {p : Program} {l : Launch} {e : Env} {R : Room} {s : State} {m : MethodId} {args : Array Value} {below : List Frame} {meth : Method} {c : Code} {cells slots : Nat} {Q : State → Prop} {cc : ByteArray} {nL : Nat} {own : String} {D : va_G} {cs : Nat → ClassId} {A : Nat → Prop} {pc : Nat} {L : Array Slot} {ws : va_W} {st : List Value} {lv mc ms : Nat}
theorem zk_astore {i : Fin 4} {x : Nat} {v w : List (Nat × Value)} (X : zKx p R s m args meth c cc nL own D cs A lv mc ms) (hd : decode cc pc = .ok (.astore_n i, 1)) (hl : lv_has L nL v) (hn : i.val < nL) (hw : (i.val, Value.ref x) :: v.filter (fun q => !(q.1 == i.val) && !(q.1 + 1 == i.val && q.2.category == 2)) = w) (kk : ∀ L' : Array Slot, lv_has L' nL w → zK p l e R s m args below meth c Q D A L' cells slots ws (pc + 1) st) : zK p l e R s m args below meth c Q D A L cells slots ws pc (.ref x :: st) := fun H locs h1 h2 h3 => lv_astore_n X.1.1 X.1.2.1 hd rfl hl hn hw (fun L' h => kk L' h H locs h1 h2 h3)
theorem zk_istoreN {i : Nat} {x : Int32} {v w : List (Nat × Value)} (X : zKx p R s m args meth c cc nL own D cs A lv mc ms) (hd : decode cc pc = .ok (.istore i, 2)) (hl : lv_has L nL v) (hn : i < nL) (hw : (i, Value.int x) :: v.filter (fun q => !(q.1 == i) && !(q.1 + 1 == i && q.2.category == 2)) = w) (kk : ∀ L' : Array Slot, lv_has L' nL w → zK p l e R s m args below meth c Q D A L' cells slots ws (pc + 2) st) : zK p l e R s m args below meth c Q D A L cells slots ws pc (.int x :: st) := fun H locs h1 h2 h3 => lv_istore X.1.1 X.1.2.1 hd hl hn hw (fun L' h => kk L' h H locs h1 h2 h3)
end ZKE
theorem zlHf_all {P : Nat → (Nat → Nat → zL → List zV → zM → Prop) → Prop} {L : List (Nat × (Nat → Nat → zL → List zV → zM → Prop))} (h : ∀ q ∈ L, P q.1 q.2) : ∀ pc J, zlHf L pc = some J → P pc J := by
  intro pc J hJ
  unfold zlHf at hJ
  obtain ⟨q, hq, rfl⟩ := Option.map_eq_some_iff.mp hJ
  have h1 : (q.1 == pc) = true := List.find?_some (p := fun q : Nat × (Nat → Nat → zL → List zV → zM → Prop) => q.1 == pc) hq
  have h2 := List.mem_of_find?_eq_some hq
  have h3 : q.1 = pc := beq_iff_eq.mp h1
  subst h3
  exact h q h2
theorem hI_law (N : Nat) (hN : N ≤ 3072) (xs : Nat → Int) : ∀ pc J, zlHf (HL_law N) pc = some J → ∀ n k ls st mem, zokM zLay mem → (∀ j, zok (ls j)) → J n k ls st mem → zlwp N xs zLay (fun _ => none) (zCf VL_law) (zCf WL_law) (fun v _ => v = 1) 7 (zBf BL_law) (zlBelow (zlHf (HL_law N)) n) 20 k pc ls st mem := by
  generalize hB : zlBelow (zlHf (HL_law N)) = Bl
  refine zlHf_all (P := fun pc J => ∀ n k ls st mem, zokM zLay mem → (∀ j, zok (ls j)) → J n k ls st mem → zlwp N xs zLay (fun _ => none) (zCf VL_law) (zCf WL_law) (fun v _ => v = 1) 7 (zBf BL_law) (Bl n) 20 k pc ls st mem) ?_
  have e : HL_law N = [(23, zlJ N 0 0 2), (188, zlJ N 6 0 1), (261, zlJ N 6 0 1), (286, zlJ N 6 0 1), (302, zlJ N 6 0 1), (315, zlJ N 6 0 1), (367, zlJ N 6 0 1), (395, zlJ N 6 0 1), (435, zlJ N 6 0 1), (475, zlJ N 6 0 1), (515, zlJ N 6 0 1), (555, zlJ N 6 0 1), (607, zlJ N 6 0 1), (623, zlJ N 6 0 1), (651, zlJ N 6 0 1), (695, zlJ N 6 0 1), (711, zlJ N 6 0 1), (727, zlJ N 6 0 1), (755, zlJ N 6 0 1), (795, zlJ N 6 0 1), (808, zlJ N 6 0 1), (848, zlJ N 6 0 1), (901, zlJ N 6 0 1), (941, zlJ N 6 0 1), (981, zlJ N 6 0 1), (1022, zlJ N 6 0 1), (1035, zlJ N 6 0 1), (1048, zlJ N 6 0 1), (1076, zlJ N 6 0 1), (1101, zlJ N 6 0 1), (1141, zlJ N 6 0 1), (1197, zlJ N 6 0 1), (1208, zlJ N 6 0 1), (1221, zlJ N 6 0 1), (1246, zlJ N 6 6 0)] := rfl
  rw [e]
  refine List.forall_mem_cons.mpr ⟨fun n k ls st mem _ _ h => by rw [← hB]; exact lL_law_23 N hN xs n k ls st mem h, ?_⟩
  refine List.forall_mem_cons.mpr ⟨fun n k ls st mem _ _ h => by rw [← hB]; exact lL_law_188 N hN xs n k ls st mem h, ?_⟩
  refine List.forall_mem_cons.mpr ⟨fun n k ls st mem _ _ h => by rw [← hB]; exact lL_law_261 N hN xs n k ls st mem h, ?_⟩
  refine List.forall_mem_cons.mpr ⟨fun n k ls st mem _ _ h => by rw [← hB]; exact lL_law_286 N hN xs n k ls st mem h, ?_⟩
  refine List.forall_mem_cons.mpr ⟨fun n k ls st mem _ _ h => by rw [← hB]; exact lL_law_302 N hN xs n k ls st mem h, ?_⟩
  refine List.forall_mem_cons.mpr ⟨fun n k ls st mem _ _ h => by rw [← hB]; exact lL_law_315 N hN xs n k ls st mem h, ?_⟩
  refine List.forall_mem_cons.mpr ⟨fun n k ls st mem _ _ h => by rw [← hB]; exact lL_law_367 N hN xs n k ls st mem h, ?_⟩
  refine List.forall_mem_cons.mpr ⟨fun n k ls st mem _ _ h => by rw [← hB]; exact lL_law_395 N hN xs n k ls st mem h, ?_⟩
  refine List.forall_mem_cons.mpr ⟨fun n k ls st mem _ _ h => by rw [← hB]; exact lL_law_435 N hN xs n k ls st mem h, ?_⟩
  refine List.forall_mem_cons.mpr ⟨fun n k ls st mem _ _ h => by rw [← hB]; exact lL_law_475 N hN xs n k ls st mem h, ?_⟩
  refine List.forall_mem_cons.mpr ⟨fun n k ls st mem _ _ h => by rw [← hB]; exact lL_law_515 N hN xs n k ls st mem h, ?_⟩
  refine List.forall_mem_cons.mpr ⟨fun n k ls st mem _ _ h => by rw [← hB]; exact lL_law_555 N hN xs n k ls st mem h, ?_⟩
  refine List.forall_mem_cons.mpr ⟨fun n k ls st mem _ _ h => by rw [← hB]; exact lL_law_607 N hN xs n k ls st mem h, ?_⟩
  refine List.forall_mem_cons.mpr ⟨fun n k ls st mem _ _ h => by rw [← hB]; exact lL_law_623 N hN xs n k ls st mem h, ?_⟩
  refine List.forall_mem_cons.mpr ⟨fun n k ls st mem _ _ h => by rw [← hB]; exact lL_law_651 N hN xs n k ls st mem h, ?_⟩
  refine List.forall_mem_cons.mpr ⟨fun n k ls st mem _ _ h => by rw [← hB]; exact lL_law_695 N hN xs n k ls st mem h, ?_⟩
  refine List.forall_mem_cons.mpr ⟨fun n k ls st mem _ _ h => by rw [← hB]; exact lL_law_711 N hN xs n k ls st mem h, ?_⟩
  refine List.forall_mem_cons.mpr ⟨fun n k ls st mem _ _ h => by rw [← hB]; exact lL_law_727 N hN xs n k ls st mem h, ?_⟩
  refine List.forall_mem_cons.mpr ⟨fun n k ls st mem _ _ h => by rw [← hB]; exact lL_law_755 N hN xs n k ls st mem h, ?_⟩
  refine List.forall_mem_cons.mpr ⟨fun n k ls st mem _ _ h => by rw [← hB]; exact lL_law_795 N hN xs n k ls st mem h, ?_⟩
  refine List.forall_mem_cons.mpr ⟨fun n k ls st mem _ _ h => by rw [← hB]; exact lL_law_808 N hN xs n k ls st mem h, ?_⟩
  refine List.forall_mem_cons.mpr ⟨fun n k ls st mem _ _ h => by rw [← hB]; exact lL_law_848 N hN xs n k ls st mem h, ?_⟩
  refine List.forall_mem_cons.mpr ⟨fun n k ls st mem _ _ h => by rw [← hB]; exact lL_law_901 N hN xs n k ls st mem h, ?_⟩
  refine List.forall_mem_cons.mpr ⟨fun n k ls st mem _ _ h => by rw [← hB]; exact lL_law_941 N hN xs n k ls st mem h, ?_⟩
  refine List.forall_mem_cons.mpr ⟨fun n k ls st mem _ _ h => by rw [← hB]; exact lL_law_981 N hN xs n k ls st mem h, ?_⟩
  refine List.forall_mem_cons.mpr ⟨fun n k ls st mem _ _ h => by rw [← hB]; exact lL_law_1022 N hN xs n k ls st mem h, ?_⟩
  refine List.forall_mem_cons.mpr ⟨fun n k ls st mem _ _ h => by rw [← hB]; exact lL_law_1035 N hN xs n k ls st mem h, ?_⟩
  refine List.forall_mem_cons.mpr ⟨fun n k ls st mem _ _ h => by rw [← hB]; exact lL_law_1048 N hN xs n k ls st mem h, ?_⟩
  refine List.forall_mem_cons.mpr ⟨fun n k ls st mem _ _ h => by rw [← hB]; exact lL_law_1076 N hN xs n k ls st mem h, ?_⟩
  refine List.forall_mem_cons.mpr ⟨fun n k ls st mem _ _ h => by rw [← hB]; exact lL_law_1101 N hN xs n k ls st mem h, ?_⟩
  refine List.forall_mem_cons.mpr ⟨fun n k ls st mem _ _ h => by rw [← hB]; exact lL_law_1141 N hN xs n k ls st mem h, ?_⟩
  refine List.forall_mem_cons.mpr ⟨fun n k ls st mem _ _ h => by rw [← hB]; exact lL_law_1197 N hN xs n k ls st mem h, ?_⟩
  refine List.forall_mem_cons.mpr ⟨fun n k ls st mem _ _ h => by rw [← hB]; exact lL_law_1208 N hN xs n k ls st mem h, ?_⟩
  refine List.forall_mem_cons.mpr ⟨fun n k ls st mem _ _ h => by rw [← hB]; exact lL_law_1221 N hN xs n k ls st mem h, ?_⟩
  refine List.forall_mem_cons.mpr ⟨fun n k ls st mem _ _ h => by rw [← hB]; exact lL_law_1246 N hN xs n k ls st mem h, ?_⟩
  exact fun _ h => absurd h List.not_mem_nil
def zls0 : zL := fun k => match k with
  | 0 => (3, 60)
  | 1 => (2, 0)
  | 2 => (2, 80)
  | 3 => (2, 94)
  | 4 => (0, 0)
  | _ => (9, 0)
theorem zls0_ok : ∀ k, zok (zls0 k) := fun k => match k with
  | 0 => ⟨fun h => absurd h (by decide), fun h => absurd h (by decide)⟩
  | 1 => ⟨fun h => absurd h (by decide), fun h => absurd h (by decide)⟩
  | 2 => ⟨fun h => absurd h (by decide), fun h => absurd h (by decide)⟩
  | 3 => ⟨fun h => absurd h (by decide), fun h => absurd h (by decide)⟩
  | 4 => ⟨fun _ => ⟨by decide, by decide⟩, fun h => absurd h (by decide)⟩
  | k + 5 => ⟨fun h => absurd (show (9 : Nat) = 0 from h) (by decide), fun h => absurd (show (9 : Nat) = 1 from h) (by decide)⟩
theorem zls0_J (N : Nat) : zlJ N 0 0 2 16002 0 zls0 [] zM0 := ⟨rfl, rfl, rfl, rfl, rfl, rfl, zInv_0, by decide, by show (0 : Int) + 0 ≤ (N : Int); omega, by decide, by decide⟩
theorem zst_ret {p : Program} {l : Launch} {e : Env} {s : State} {m : MethodId} {below : List Frame} {meth : Method} {c : Code} {b : Nat} {D : va_G} {ad sa : Nat → Nat} {cs : Nat → ClassId} (hx : p.tables.exec = Jvm.exec) (hb : c.code = code) (hr : meth.sig.returnType = ret) (hlocks : meth.locks = false) (k : Nat) : zRet p l e room_1 s m #[Value.ref b] below meth c (95 + k) (29602 + 6 * k) (lw_Z below #[Value.ref b] s) 7 zLay D ad sa cs (fun q => s.heap.size ≤ q) code 4 (fun v _ => k ≤ 3000 ∧ v = 1) := by
  refine ⟨fun pc ls v mem hd _ hv => ?_, fun _ _ _ _ _ h => absurd h (by decide), fun _ _ _ _ h => absurd h (by decide)⟩
  obtain ⟨hk, rfl⟩ : k ≤ 3000 ∧ v = 1 := hv
  intro hm hs hl H locs L hP hD hLs hS
  show W p l e room_1 s m #[Value.ref b] below meth c H locs (95 + k) (29602 + 6 * k) (lw_Z below #[Value.ref b] s) (F0 m pc L [.int (Int32.ofInt 1)])
  rw [show Int32.ofInt 1 = 1 by decide]
  refine W.widen (k := 601024) (n := 7293034) (by omega) (by omega) ?_
  refine va_forget (fun q hq => hS.2.2 q hq) ?_
  exact lw_ret hx hb hr hlocks hd
set_option maxHeartbeats 8000000 in
set_option maxRecDepth 100000 in
theorem whole_start {p : Program} {e : Env} {s : State} {m : MethodId} {below : List Frame} {meth : Method} {c : Code} (l : Launch) (hltr : l.stackTraces = false) {b L : Nat} {xs : Nat → Int32} (hL : L ≤ 3072) (C0 : lw_At p s m meth c b L xs) : W p l e room_1 s m #[Value.ref b] below meth c s.heap [] 0 0 (lw_Z below #[Value.ref b] s) (entryFrame m ([Value.ref b] : List Value).toArray 7) := by
  obtain ⟨hx, hb, hr, hml, hown, hts, hX, hbl, hlocks, hgv⟩ := C0
  have hn : narrow_1.before #[Value.ref b] s = true := by
    rw [Cond.before_and, Bool.and_eq_true] at hgv
    exact hgv.2
  obtain ⟨D, cs, hC⟩ := zst_K hts
  have hA : ∀ a : Nat, a < s.heap.size → ¬ (fun q : Nat => s.heap.size ≤ q) a := fun a h h' => Nat.not_le_of_lt h h'
  obtain ⟨sa, sv, hG, hsa⟩ := zst_G (A := fun q : Nat => s.heap.size ≤ q) b hts hn hA hC
  have hGx : zGx (fun q : Nat => s.heap.size ≤ q) s := zst_X hts hn hA
  have S : CallFix p m c code 7 s #[Value.ref b] zTbl "SandRailsLaw" := ⟨hx, hb, hml, hown, fun w hw => hts w (List.mem_filter.mp hw).1⟩
  have hA' : ∀ q : Nat, s.heap.size ≤ q → (fun q : Nat => s.heap.size ≤ q) q := fun _ h => h
  have X : zKx p room_1 s m #[Value.ref b] meth c code 7 "SandRailsLaw" D cs (fun q : Nat => s.heap.size ≤ q) 3 95 29602 := ⟨S, hC, hA', by decide, by decide, by decide, by decide⟩
  rw [lg_entry_eq]
  have hl := lv_entry ([Value.ref b]) (n := 7) (by show 1 ≤ 7; decide)
  generalize (lg_sl ([Value.ref b]) ++ List.replicate (7 - (lg_sl ([Value.ref b])).length) Slot.unset).toArray = L0 at hl ⊢
  have hl : lv_has L0 7 [(0, .ref b)] := hl
  refine (?_ : zK p l e room_1 s m #[Value.ref b] below meth c (lw_Z below #[Value.ref b] s) D (fun q : Nat => s.heap.size ≤ q) L0 0 0 [] 0 []) s.heap [] (fun k q h => (by cases h)) ⟨fun i j x y h => (by cases h), fun k q h => (by cases h)⟩ va_S.rf
  refine zk_new (idx := 8) X (ci := 10) (df := [.null, .null, .int 0, .null, .null, .null, .int 0, .null, .null]) (ty := tyX10) rfl (zClok_ok 10 _ rfl).1 tyX10_ok (by decide) (zG_mem (n := 142) (by decide +kernel)) (zG_mem (n := 143) (by decide +kernel)) (zG_mem (n := 116) (by decide +kernel)) (by decide) (by decide) (by decide +kernel) (fun q0 => ?_)
  refine zk_dup X (by decide +kernel) rfl ?_
  refine zk_init (idx := 92) X hl.1 (pre := []) (cX10_con l) (by decide) (by decide) ⟨by decide, by decide +kernel⟩ rfl (zG_mem (n := 146) (by decide +kernel)) (zG_mem (n := 116) (by decide +kernel)) (zG_mem (n := 145) (by decide +kernel)) (Or.inl (zG_mem (n := 144) (by decide +kernel))) (by decide) (by decide) (by exact Nat.le_of_ble_eq_true rfl) (by decide +kernel) (fun w0 => ?_)
  show zK p l e room_1 s m #[Value.ref b] below meth c (lw_Z below #[Value.ref b] s) D (fun q : Nat => s.heap.size ≤ q) L0 80 11668 ([] ++ FX10 cs q0 w0) 7 [.ref q0]
  refine zk_astore (i := 1) X (by decide +kernel) hl (by decide) rfl (fun L1 hl1 => ?_)
  refine zk_new (idx := 93) X (ci := 11) (df := [.int 0, .null, .null, .int 0, .null, .int 0, .int 0, .int 0, .int 0, .int 0, .int 0, .null, .int 0, .int 0, .null, .null, .null, .null, .null, .null, .null, .null, .int 0, .int 0, .null]) (ty := tyX11) rfl (zClok_ok 11 _ rfl).1 tyX11_ok (by decide) (zG_mem (n := 1466) (by decide +kernel)) (zG_mem (n := 1467) (by decide +kernel)) (zG_mem (n := 127) (by decide +kernel)) (by decide) (by decide) (by decide +kernel) (fun q1 => ?_)
  refine zk_dup X (by decide +kernel) rfl ?_
  refine zk_init (idx := 95) X hl1.1 (pre := [] ++ FX10 cs q0 w0) (cX11_con l) (by decide) (by decide) ⟨by decide, by decide +kernel⟩ rfl (zG_mem (n := 1470) (by decide +kernel)) (zG_mem (n := 127) (by decide +kernel)) (zG_mem (n := 1469) (by decide +kernel)) (Or.inl (zG_mem (n := 1468) (by decide +kernel))) (by decide) (by decide) (by exact Nat.le_of_ble_eq_true rfl) (by decide +kernel) (fun w1 => ?_)
  show zK p l e room_1 s m #[Value.ref b] below meth c (lw_Z below #[Value.ref b] s) D (fun q : Nat => s.heap.size ≤ q) L1 94 29601 (([] ++ FX10 cs q0 w0) ++ FX11 cs q1 w1) 15 [.ref q1]
  refine zk_astore (i := 2) X (by decide +kernel) hl1 (by decide) rfl (fun L2 hl2 => ?_)
  refine zk_iconst (n := 1) (v := 1) X (by decide +kernel) (by decide) ?_
  refine zk_newarr (atype := .long) (N := 1) X (t0 := 1) (a0 := (1, .inr (.inl fun _ => 0))) (zG_mem (n := 429) (by decide +kernel)) rfl rfl (fun _ h1 h2 => zra_p h1 h2) (fun _ => rfl) (by decide) (by decide) (by decide) (by decide) (by decide) (by decide +kernel) (fun q2 => ?_)
  show zK p l e room_1 s m #[Value.ref b] below meth c (lw_Z below #[Value.ref b] s) D (fun q : Nat => s.heap.size ≤ q) L2 95 29602 ((([] ++ FX10 cs q0 w0) ++ FX11 cs q1 w1) ++ [(q2, (.inl (cs 1, (1, .inr (.inl fun _ => 0))) : va_E))]) 19 [.ref q2]
  refine zk_astore (i := 3) X (by decide +kernel) hl2 (by decide) rfl (fun L3 hl3 => ?_)
  refine zk_iconst (n := 0) (v := 0) X (by decide +kernel) (by decide) ?_
  refine zk_istoreN (i := 4) X (by decide +kernel) hl3 (by decide) rfl (fun L4 hl4 => ?_)
  refine zK_eq (zst_list cs q0 q1 q2 w0 w1) ?_
  intro H locs hP hD hS
  have C : zLc p l e room_1 s m #[Value.ref b] below meth c 95 29602 (lw_Z below #[Value.ref b] s) 7 zLay D (zAd q0 q1 q2 w0 w1) sa sv cs (fun q : Nat => s.heap.size ≤ q) code "SandRailsLaw" b L xs (fun _ => none) (zCf VL_law) (zCf WL_law) (fun v _ => v = 1) :=
    ⟨S, hG, fun _ _ _ _ _ h => (by cases h), ⟨by decide, by decide⟩, fun k i q hk hq => zlV_call S hG hA' (vL_law l i q hq) ⟨by decide, by decide⟩ ⟨by show 95 + k ≤ 601024; omega, by show 29602 + 6 * k ≤ 7293034; omega⟩, fun k i q hk hq => zlW_call S hG hGx hA' hltr (wL_law l i q hq) ⟨by decide, by decide⟩ ⟨by show 95 + k + 1 ≤ 601024; omega, by show 29602 + 6 * k + 6 ≤ 7293034; omega⟩, fun k => zst_ret hx hb hr hlocks k, hX, hbl, hA b hbl, hsa, hL⟩
  have hLs : zLs (zAd q0 q1 q2 w0 w1) sa 7 zls0 L4 := ⟨hl4.1, hl4.2.1, fun k hk => by
    match k, hk with
    | 0, _ =>
      show L4[0]? = some (.val (.ref (sa 60)))
      rw [hsa]
      exact lv_at hl4 4 rfl
    | 1, _ => exact lv_at hl4 3 rfl
    | 2, _ => exact lv_at hl4 2 rfl
    | 3, _ => exact lv_at hl4 1 rfl
    | 4, _ =>
      show L4[4]? = some (.val (.int (Int32.ofInt 0)))
      rw [show Int32.ofInt 0 = 0 by decide]
      exact lv_at hl4 0 rfl
    | k + 5, h => exact absurd rfl h⟩
  exact zlloops zClok_ok zSyok_ok C (B := zBf BL_law) oL_law (I := zlHf (HL_law L)) (F := 20) (hI_law L hL _) 16002 23 _ rfl 0 zls0 [] zM0 (zls0_J L) zM0_ok (fun v h => (by cases h)) zls0_ok H locs L4 hP hD hLs hS
