/-! ===== branches, fields, arrays ===== -/
theorem zq_eq {x y : Int} (hx : zR32 x) (hy : zR32 y) : Int32.ofInt x = Int32.ofInt y ↔ x = y := ⟨fun h => by rw [← zi_toInt hx, ← zi_toInt hy, h], fun h => by rw [h]⟩
theorem zq_lt {x y : Int} (hx : zR32 x) (hy : zR32 y) : Int32.ofInt x < Int32.ofInt y ↔ x < y := by rw [Int32.lt_iff_toInt_lt, zi_toInt hx, zi_toInt hy]
theorem zq_le {x y : Int} (hx : zR32 x) (hy : zR32 y) : Int32.ofInt x ≤ Int32.ofInt y ↔ x ≤ y := by rw [Int32.le_iff_toInt_le, zi_toInt hx, zi_toInt hy]
theorem zR0 : zR32 0 := ⟨by omega, by omega⟩
theorem zi0 : (0 : Int32) = Int32.ofInt 0 := rfl
theorem zcl (z : Int32) : z.toNatClampNeg = z.toInt.toNat := rfl
theorem zcl_i {i : Int} (h : zR32 i) : (Int32.ofInt i).toNatClampNeg = i.toNat := by rw [zcl, zi_toInt h]
theorem zin {i : Int} {n : Nat} (h : zR32 i) (h0 : 0 ≤ i) (h1 : i < n) : vp_in (Int32.ofInt i) n := vp_in_iff.mpr (by rw [zi_toInt h]; exact ⟨h0, h1⟩)
theorem zokM_set {Λ : List zC} {mem : zM} {a k : Nat} {v : Int} {κ : zC} (h : zokM Λ mem) (hκ : Λ[a]? = some κ)
    (h0 : κ.1 = 0 → ∀ t, κ.2.2[k]? = some t → (t.1 = 0 → zR32 v) ∧ (t.1 = 4 → 0 ≤ v ∧ v ≤ 1)) (h1 : κ.1 = 1 → zR32 v) (h2 : κ.1 = 2 → zR64 v) (h3 : κ.1 = 3 → 0 ≤ v ∧ v ≤ 1) (h4 : κ.1 = 4 → -128 ≤ v ∧ v ≤ 127) : zokM Λ (zset mem a k v) := by
  intro id κ' hid
  obtain ⟨g0, g1, g2, g3, g4⟩ := h id κ' hid
  by_cases hia : id = a
  · subst hia
    cases hκ.symm.trans hid
    refine ⟨fun e j t ht => ?_, fun e i hi => ?_, fun e i hi => ?_, fun e i hi => ?_, fun e i hi => ?_⟩ <;> simp only [zset, if_pos]
    · by_cases hj : j = k
      · subst hj; rw [if_pos rfl]; exact h0 e t ht
      · rw [if_neg hj]; exact g0 e j t ht
    · by_cases hj : i = k
      · rw [if_pos hj]; exact h1 e
      · rw [if_neg hj]; exact g1 e i hi
    · by_cases hj : i = k
      · rw [if_pos hj]; exact h2 e
      · rw [if_neg hj]; exact g2 e i hi
    · by_cases hj : i = k
      · rw [if_pos hj]; exact h3 e
      · rw [if_neg hj]; exact g3 e i hi
    · by_cases hj : i = k
      · rw [if_pos hj]; exact h4 e
      · rw [if_neg hj]; exact g4 e i hi
  · have he : ∀ j, zset mem a k v id j = mem id j := fun j => by simp only [zset]; rw [if_neg hia]
    simp only [he]
    exact ⟨g0, g1, g2, g3, g4⟩
section ZS
variable {p : Program} {l : Launch} {e : Env} {R : Room} {s : State} {m : MethodId} {args : Array Value} {below : List Frame} {meth : Method} {c : Code} {cells slots : Nat} {Q : State → Prop} {cc : ByteArray} {nL : Nat} {own : String} {Λ : List zC} {D : va_G} {ad sa : Nat → Nat} {cs : Nat → ClassId} {A : Nat → Prop} {pc : Nat} {ls : zL} {st : List zV} {mem : zM}
theorem zs_if {cnd : ClassFile.Cond} {off : Int} {tgt : Nat} {x : Int} (hx : p.tables.exec = Jvm.exec) (hb : c.code = cc) (hd : decode cc pc = .ok (.ifCond cnd off, 3)) (ht : (pc : Int) + off = (tgt : Int)) (kt : zCmp cnd x 0 → zAW p l e R s m args below meth c cells slots Q nL Λ D ad sa cs A  tgt ls st mem) (kf : ¬ zCmp cnd x 0 → zAW p l e R s m args below meth c cells slots Q nL Λ D ad sa cs A  (pc + 3) ls st mem) : zAW p l e R s m args below meth c cells slots Q nL Λ D ad sa cs A  pc ls ((0, x) :: st) mem := by
  intro hm hs hl H locs L hP hD hL hS
  have hr := zhi hs
  cases cnd with
  | eq => exact lv_if_eq hx hb hd ht (fun h => kt ((zq_eq hr zR0).mp h) hm (ztl hs) hl H locs L hP hD hL hS) (fun h => kf (fun q => h ((zq_eq hr zR0).mpr q)) hm (ztl hs) hl H locs L hP hD hL hS)
  | ne => exact lv_if_ne hx hb hd ht (fun h => kt (fun q => h ((zq_eq hr zR0).mpr q)) hm (ztl hs) hl H locs L hP hD hL hS) (fun h => kf (fun q => q ((zq_eq hr zR0).mp h)) hm (ztl hs) hl H locs L hP hD hL hS)
  | lt => exact lv_if_lt hx hb hd ht (fun h => kt ((zq_lt hr zR0).mp h) hm (ztl hs) hl H locs L hP hD hL hS) (fun h => kf (fun q => h ((zq_lt hr zR0).mpr q)) hm (ztl hs) hl H locs L hP hD hL hS)
  | ge => exact lv_if_ge hx hb hd ht (fun h => kt ((zq_le zR0 hr).mp h) hm (ztl hs) hl H locs L hP hD hL hS) (fun h => kf (fun q => h ((zq_le zR0 hr).mpr q)) hm (ztl hs) hl H locs L hP hD hL hS)
  | gt => exact lv_if_gt hx hb hd ht (fun h => kt ((zq_lt zR0 hr).mp h) hm (ztl hs) hl H locs L hP hD hL hS) (fun h => kf (fun q => h ((zq_lt zR0 hr).mpr q)) hm (ztl hs) hl H locs L hP hD hL hS)
  | le => exact lv_if_le hx hb hd ht (fun h => kt ((zq_le hr zR0).mp h) hm (ztl hs) hl H locs L hP hD hL hS) (fun h => kf (fun q => h ((zq_le hr zR0).mpr q)) hm (ztl hs) hl H locs L hP hD hL hS)
theorem zs_icmp {cnd : ClassFile.Cond} {off : Int} {tgt : Nat} {x y : Int} (hx : p.tables.exec = Jvm.exec) (hb : c.code = cc) (hd : decode cc pc = .ok (.if_icmp cnd off, 3)) (ht : (pc : Int) + off = (tgt : Int)) (kt : zCmp cnd x y → zAW p l e R s m args below meth c cells slots Q nL Λ D ad sa cs A  tgt ls st mem) (kf : ¬ zCmp cnd x y → zAW p l e R s m args below meth c cells slots Q nL Λ D ad sa cs A  (pc + 3) ls st mem) : zAW p l e R s m args below meth c cells slots Q nL Λ D ad sa cs A  pc ls ((0, y) :: (0, x) :: st) mem := by
  intro hm hs hl H locs L hP hD hL hS
  have hy := zhi hs
  have hr := zhi (ztl hs)
  cases cnd with
  | eq => exact lv_icmp_eq hx hb hd ht (fun h => kt ((zq_eq hr hy).mp h) hm (ztl (ztl hs)) hl H locs L hP hD hL hS) (fun h => kf (fun q => h ((zq_eq hr hy).mpr q)) hm (ztl (ztl hs)) hl H locs L hP hD hL hS)
  | ne => exact lv_icmp_ne hx hb hd ht (fun h => kt (fun q => h ((zq_eq hr hy).mpr q)) hm (ztl (ztl hs)) hl H locs L hP hD hL hS) (fun h => kf (fun q => q ((zq_eq hr hy).mp h)) hm (ztl (ztl hs)) hl H locs L hP hD hL hS)
  | lt => exact lv_icmp_lt hx hb hd ht (fun h => kt ((zq_lt hr hy).mp h) hm (ztl (ztl hs)) hl H locs L hP hD hL hS) (fun h => kf (fun q => h ((zq_lt hr hy).mpr q)) hm (ztl (ztl hs)) hl H locs L hP hD hL hS)
  | ge => exact lv_icmp_ge hx hb hd ht (fun h => kt ((zq_le hy hr).mp h) hm (ztl (ztl hs)) hl H locs L hP hD hL hS) (fun h => kf (fun q => h ((zq_le hy hr).mpr q)) hm (ztl (ztl hs)) hl H locs L hP hD hL hS)
  | gt => exact lv_icmp_gt hx hb hd ht (fun h => kt ((zq_lt hy hr).mp h) hm (ztl (ztl hs)) hl H locs L hP hD hL hS) (fun h => kf (fun q => h ((zq_lt hy hr).mpr q)) hm (ztl (ztl hs)) hl H locs L hP hD hL hS)
  | le => exact lv_icmp_le hx hb hd ht (fun h => kt ((zq_le hr hy).mp h) hm (ztl (ztl hs)) hl H locs L hP hD hL hS) (fun h => kf (fun q => h ((zq_le hr hy).mpr q)) hm (ztl (ztl hs)) hl H locs L hP hD hL hS)
theorem zs_goto {off : Int} {tgt : Nat} (hx : p.tables.exec = Jvm.exec) (hb : c.code = cc) (hd : decode cc pc = .ok (.goto off, 3)) (ht : (pc : Int) + off = (tgt : Int)) (k : zAW p l e R s m args below meth c cells slots Q nL Λ D ad sa cs A  tgt ls st mem) : zAW p l e R s m args below meth c cells slots Q nL Λ D ad sa cs A  pc ls st mem :=
  fun hm hs hl H locs L hP hD hL hS => lv_goto hx hb hd ht (k hm hs hl H locs L hP hD hL hS)
theorem zs_ifnonnull {off : Int} {tgt : Nat} {v : zV} (hx : p.tables.exec = Jvm.exec) (hb : c.code = cc) (hd : decode cc pc = .ok (.ifnonnull off, 3)) (ht : (pc : Int) + off = (tgt : Int)) (hv : v.1 = 2 ∨ v.1 = 3) (k : zAW p l e R s m args below meth c cells slots Q nL Λ D ad sa cs A  tgt ls st mem) : zAW p l e R s m args below meth c cells slots Q nL Λ D ad sa cs A  pc ls (v :: st) mem := by
  obtain ⟨x, hxx⟩ := zv_r (ad := ad) (sa := sa) hv
  intro hm hs hl H locs L hP hD hL hS
  rw [List.map_cons, hxx]
  exact lv_ifnonnull hx hb hd ht (k hm (ztl hs) hl H locs L hP hD hL hS)
theorem zs_ifnull {off : Int} {v : zV} (hx : p.tables.exec = Jvm.exec) (hb : c.code = cc) (hd : decode cc pc = .ok (.ifnull off, 3)) (hv : v.1 = 2 ∨ v.1 = 3) (k : zAW p l e R s m args below meth c cells slots Q nL Λ D ad sa cs A  (pc + 3) ls st mem) : zAW p l e R s m args below meth c cells slots Q nL Λ D ad sa cs A  pc ls (v :: st) mem := by
  obtain ⟨x, hxx⟩ := zv_r (ad := ad) (sa := sa) hv
  intro hm hs hl H locs L hP hD hL hS
  rw [List.map_cons, hxx]
  exact lv_ifnull hx hb hd (k hm (ztl hs) hl H locs L hP hD hL hS)
theorem zs_tableOut {d lo hi : Int} {offs : Array Int} {len tgt : Nat} {x : Int} (hx : p.tables.exec = Jvm.exec) (hb : c.code = cc) (hd : decode cc pc = .ok (.tableswitch d lo hi offs, len)) (h : x < lo ∨ hi < x) (ht : (pc : Int) + d = (tgt : Int)) (k : zAW p l e R s m args below meth c cells slots Q nL Λ D ad sa cs A  tgt ls st mem) : zAW p l e R s m args below meth c cells slots Q nL Λ D ad sa cs A  pc ls ((0, x) :: st) mem :=
  fun hm hs hl H locs L hP hD hL hS => lv_tableOut hx hb hd (by rw [zi_toInt (zhi hs)]; exact h) ht (k hm (ztl hs) hl H locs L hP hD hL hS)
theorem zs_tableIn {d lo hi : Int} {offs : Array Int} {len tgt : Nat} {x off : Int} (hx : p.tables.exec = Jvm.exec) (hb : c.code = cc) (hd : decode cc pc = .ok (.tableswitch d lo hi offs, len)) (h1 : ¬ x < lo) (h2 : ¬ hi < x) (ho : offs[(x - lo).toNat]? = some off) (ht : (pc : Int) + off = (tgt : Int)) (k : zAW p l e R s m args below meth c cells slots Q nL Λ D ad sa cs A  tgt ls st mem) : zAW p l e R s m args below meth c cells slots Q nL Λ D ad sa cs A  pc ls ((0, x) :: st) mem := by
  intro hm hs hl H locs L hP hD hL hS
  have e := zi_toInt (zhi hs)
  exact lv_tableIn hx hb hd (by rw [e]; exact h1) (by rw [e]; exact h2) (by rw [e]; exact ho) ht (k hm (ztl hs) hl H locs L hP hD hL hS)
theorem zs_lookup {d : Int} {ps : Array (Int × Int)} {len tgt : Nat} {x off : Int} (hx : p.tables.exec = Jvm.exec) (hb : c.code = cc) (hd : decode cc pc = .ok (.lookupswitch d ps, len)) (hp : (ps.toList.zip (ps.toList.drop 1)).all (fun (a, next) => a.1 < next.1) = true) (ho : Op.lookupswitch.offset ps.toList d x = off) (ht : (pc : Int) + off = (tgt : Int)) (k : zAW p l e R s m args below meth c cells slots Q nL Λ D ad sa cs A  tgt ls st mem) : zAW p l e R s m args below meth c cells slots Q nL Λ D ad sa cs A  pc ls ((0, x) :: st) mem := by
  intro hm hs hl H locs L hP hD hL hS
  exact lv_lookup hx hb hd hp (by rw [zi_toInt (zhi hs)]; exact ho) ht (k hm (ztl hs) hl H locs L hP hD hL hS)
/-- stack -/
theorem zcat1 {v : zV} (h : v.1 ≠ 1) : (zE ad sa v).category = 1 := by rw [zE_cat, if_neg h]
theorem zs_dup {v : zV} (hx : p.tables.exec = Jvm.exec) (hb : c.code = cc) (hd : decode cc pc = .ok (.dup, 1)) (hv : v.1 ≠ 1) (k : zAW p l e R s m args below meth c cells slots Q nL Λ D ad sa cs A  (pc + 1) ls (v :: v :: st) mem) : zAW p l e R s m args below meth c cells slots Q nL Λ D ad sa cs A  pc ls (v :: st) mem :=
  fun hm hs hl H locs L hP hD hL hS => lv_dup hx hb hd (zcat1 hv) (k hm (zcons (zhd hs) hs) hl H locs L hP hD hL hS)
theorem zs_pop {v : zV} (hx : p.tables.exec = Jvm.exec) (hb : c.code = cc) (hd : decode cc pc = .ok (.pop, 1)) (hv : v.1 ≠ 1) (k : zAW p l e R s m args below meth c cells slots Q nL Λ D ad sa cs A  (pc + 1) ls st mem) : zAW p l e R s m args below meth c cells slots Q nL Λ D ad sa cs A  pc ls (v :: st) mem :=
  fun hm hs hl H locs L hP hD hL hS => lv_pop hx hb hd (zcat1 hv) (k hm (ztl hs) hl H locs L hP hD hL hS)
theorem zs_dup2 {v w : zV} (hx : p.tables.exec = Jvm.exec) (hb : c.code = cc) (hd : decode cc pc = .ok (.dup2, 1)) (hv : v.1 ≠ 1) (hw : w.1 ≠ 1) (k : zAW p l e R s m args below meth c cells slots Q nL Λ D ad sa cs A  (pc + 1) ls (v :: w :: v :: w :: st) mem) : zAW p l e R s m args below meth c cells slots Q nL Λ D ad sa cs A  pc ls (v :: w :: st) mem :=
  fun hm hs hl H locs L hP hD hL hS => lv_dup2_11 hx hb hd (zcat1 hv) (zcat1 hw) (k hm (zcons (zhd hs) (zcons (zhd (ztl hs)) hs)) hl H locs L hP hD hL hS)
theorem zs_i2l {x : Int} (hx : p.tables.exec = Jvm.exec) (hb : c.code = cc) (hd : decode cc pc = .ok (.i2l, 1)) (k : zAW p l e R s m args below meth c cells slots Q nL Λ D ad sa cs A  (pc + 1) ls ((1, x) :: st) mem) : zAW p l e R s m args below meth c cells slots Q nL Λ D ad sa cs A  pc ls ((0, x) :: st) mem := by
  intro hm hs hl H locs L hP hD hL hS
  have hr := zhi hs
  exact lv_i2l hx hb hd (by rw [← zl_of (Int32.ofInt x).toInt64, Int32.toInt_toInt64, zi_toInt hr]) (k hm (zcons (zok_l' ⟨by have := hr.1; omega, by have := hr.2; omega⟩) (ztl hs)) hl H locs L hP hD hL hS)
theorem zs_l2i {x : Int} (hx : p.tables.exec = Jvm.exec) (hb : c.code = cc) (hd : decode cc pc = .ok (.l2i, 1)) (k : zAW p l e R s m args below meth c cells slots Q nL Λ D ad sa cs A  (pc + 1) ls ((0, zL2i x) :: st) mem) : zAW p l e R s m args below meth c cells slots Q nL Λ D ad sa cs A  pc ls ((1, x) :: st) mem := by
  intro hm hs hl H locs L hP hD hL hS
  have h := k hm (zcons (zok_i _) (ztl hs)) hl H locs L hP hD hL hS
  rw [List.map_cons, zL2i, zE_i] at h
  exact lv_l2i hx hb hd rfl h
theorem zs_lcmp {x y : Int} (hx : p.tables.exec = Jvm.exec) (hb : c.code = cc) (hd : decode cc pc = .ok (.lcmp, 1)) (k : zAW p l e R s m args below meth c cells slots Q nL Λ D ad sa cs A  (pc + 1) ls ((0, zLcmp x y) :: st) mem) : zAW p l e R s m args below meth c cells slots Q nL Λ D ad sa cs A  pc ls ((1, y) :: (1, x) :: st) mem := by
  intro hm hs hl H locs L hP hD hL hS
  have hy := zhl hs
  have hr := zhl (ztl hs)
  have e : Int32.ofInt (zLcmp x y) = lg_cmp (Int64.ofInt x) (Int64.ofInt y) := by
    unfold zLcmp lg_cmp
    by_cases h1 : x < y
    · have h2 : ¬ Int64.ofInt x > Int64.ofInt y := by rw [gt_iff_lt, Int64.lt_iff_toInt_lt, zl_toInt hy, zl_toInt hr]; omega
      have h3 : ¬ Int64.ofInt x = Int64.ofInt y := fun q => by have := congrArg Int64.toInt q; rw [zl_toInt hr, zl_toInt hy] at this; omega
      rw [if_pos h1, if_neg h2, if_neg h3]; rfl
    · rw [if_neg h1]
      by_cases h2 : x = y
      · subst h2
        have h3 : ¬ Int64.ofInt x > Int64.ofInt x := by rw [gt_iff_lt, Int64.lt_iff_toInt_lt]; omega
        rw [if_pos rfl, if_neg h3, if_pos rfl]; rfl
      · have h3 : Int64.ofInt x > Int64.ofInt y := by rw [gt_iff_lt, Int64.lt_iff_toInt_lt, zl_toInt hy, zl_toInt hr]; omega
        rw [if_neg h2, if_pos h3]; rfl
  have hok : zok (0, zLcmp x y) := zok_i' (by unfold zLcmp zR32; omega)
  have h := k hm (zcons hok (ztl (ztl hs))) hl H locs L hP hD hL hS
  rw [List.map_cons, show zE ad sa (0, zLcmp x y) = .int (lg_cmp (Int64.ofInt x) (Int64.ofInt y)) from congrArg Value.int e] at h
  exact W.lcmp hx hb hd h
/-- fields -/
theorem zfl {ci : Nat} {fs : List (Nat × Nat)} {f : Nat} {t : Nat × Nat} {g : Nat → Int} (ht : fs[f]? = some t) : (fs.mapIdx fun k t => zF ad t (g k))[f]? = some (zF ad t (g f)) := by
  rw [List.getElem?_mapIdx, ht]; rfl
def zFv (t : Nat × Nat) (x : Int) : zV := if t.1 = 2 then (2, (t.2 : Int)) else (0, x)
theorem zFv_E (t : Nat × Nat) (x : Int) : zE ad sa (zFv t x) = zF ad t x := by
  unfold zFv zF
  by_cases h : t.1 = 2
  · rw [if_pos h, if_pos h]; rfl
  · rw [if_neg h, if_neg h]; rfl
theorem zFv_ok {Λ : List zC} {mem : zM} {a ci f : Nat} {fs : List (Nat × Nat)} {t : Nat × Nat} (hm : zokM Λ mem) (hΛ : Λ[a]? = some (0, ci, fs)) (ht : fs[f]? = some t) (hk : t.1 = 0 ∨ t.1 = 2 ∨ t.1 = 4) : zok (zFv t (mem a f)) := by
  unfold zFv
  have h := (hm a _ hΛ).1 rfl f t ht
  rcases hk with h0 | h0 | h0
  · rw [if_neg (by rw [h0]; decide)]; exact zok_i' (h.1 h0)
  · rw [if_pos h0]; exact zok_r _
  · rw [if_neg (by rw [h0]; decide)]; exact zok_i' ⟨by have := (h.2 h0).1; omega, by have := (h.2 h0).2; omega⟩
/-- what a field's entry of the pool says -/
def zFL (own : String) (s : State) (args : Array Value) (idx : Nat) (q : vw_C) (f : Nat) : Prop := f < q.2.2 ∧ (q.2.1 f).1 = q.1 ∧ ((Cond.fieldLink own idx q.1 (q.2.1 f).2.1 (q.2.1 f).2.2.1).before args s = true ∨ ∃ host, (Cond.fieldLinkNest own idx q.1 (q.2.1 f).2.1 (q.2.1 f).2.2.1 host).before args s = true)
theorem zs_getfield {Ts : List Cond} {tys : List (ClassId × FieldType)} {idx ci f : Nat} {q : vw_C} {a : Int} {fs : List (Nat × Nat)} {t : Nat × Nat} (hx : p.tables.exec = Jvm.exec) (hb : c.code = cc) (hown : s.vm.findClass own = some m.cls) (hts : ∀ w ∈ Ts, w.before args s = true) (hin : ∀ w ∈ u_ws q.1 q.2.1 q.2.2, w ∈ Ts) (hK : va_K D zCl tys s) (hd : decode cc pc = .ok (.getfield idx, 3)) (hq : zCl[ci]? = some q) (hF : zFL own s args idx q f) (hΛ : Λ[a.toNat]? = some (0, ci, fs)) (ht : fs[f]? = some t) (hk : t.1 = 0 ∨ t.1 = 2 ∨ t.1 = 4)
    (kk : zAW p l e R s m args below meth c cells slots Q nL Λ D ad sa cs A  (pc + 3) ls (zFv t (mem a.toNat f) :: st) mem) : zAW p l e R s m args below meth c cells slots Q nL Λ D ad sa cs A  pc ls ((2, a) :: st) mem := by
  intro hm hs hl H locs L hP hD hL hS
  obtain ⟨C, T, N⟩ := q
  obtain ⟨hf, hdc, hlk⟩ := hF
  have h := kk hm (zcons (zFv_ok hm hΛ ht hk) (ztl hs)) hl H locs L hP hD hL hS
  rw [List.map_cons, zFv_E] at h
  have he := zWd_get (ad := ad) (cs := cs) (mem := mem) hΛ
  dsimp only at hdc
  rcases hlk with hlk | ⟨host, hlk⟩
  · exact va_get hx hb hts hin hown hK hP a.toNat he hq f hf hlk (fun x h => by rw [hdc] at h; exact h) (zfl (ci := ci) ht) hd h
  · exact va_getN hx hb hts hin hown hK hP a.toNat he hq f hf hlk (fun x h => by rw [hdc] at h; exact h) (zfl (ci := ci) ht) hd h
theorem zfs_set {fs : List (Nat × Nat)} {f : Nat} {t : Nat × Nat} {g : Nat → Int} {v : Int} {mem : zM} {a : Nat} (ht : fs[f]? = some t) (h2 : t.1 ≠ 2) : (fs.mapIdx fun k t => zF ad t (mem a k)).set f (.int (Int32.ofInt v)) = fs.mapIdx fun k t => zF ad t (zset mem a f v a k) := by
  apply List.ext_getElem?
  intro j
  rw [List.getElem?_set]
  by_cases hj : f = j
  · subst hj
    have hlt : f < (fs.mapIdx fun k t => zF ad t (mem a k)).length := by rw [List.length_mapIdx]; exact (List.getElem?_eq_some_iff.mp ht).1
    rw [if_pos rfl, if_pos hlt, List.getElem?_mapIdx, ht]
    simp [zF, h2, zset]
  · rw [if_neg hj, List.getElem?_mapIdx, List.getElem?_mapIdx]
    cases hq : fs[j]? with
    | none => rfl
    | some u =>
      have hjf : ¬ j = f := fun q => hj q.symm
      simp [zset, hjf]
theorem zs_putfield {Ts : List Cond} {tys : List (ClassId × FieldType)} {idx ci f : Nat} {q : vw_C} {a v : Int} {fs : List (Nat × Nat)} {t : Nat × Nat} {ty0 : Nat → FieldType} (hx : p.tables.exec = Jvm.exec) (hb : c.code = cc) (hown : s.vm.findClass own = some m.cls) (hts : ∀ w ∈ Ts, w.before args s = true) (hin : ∀ w ∈ u_ws q.1 q.2.1 q.2.2, w ∈ Ts) (hty : ∀ k, k < q.2.2 → parseFieldDescriptor (q.2.1 k).2.2.1 = some (ty0 k)) (hnm : ∀ a, a < q.2.2 → ∀ b, b < q.2.2 → a ≠ b → (q.2.1 a).2.1 ≠ (q.2.1 b).2.1)
    (hK : va_K D zCl tys s) (hd : decode cc pc = .ok (.putfield idx, 3)) (hq : zCl[ci]? = some q) (hF : zFL own s args idx q f) (hfin : (q.2.1 f).2.2.2 = false) (hΛ : Λ[a.toNat]? = some (0, ci, fs)) (ht : fs[f]? = some t) (hk : t.1 = 0 ∧ parseFieldDescriptor (q.2.1 f).2.2.1 = some .int ∨ t.1 = 4 ∧ parseFieldDescriptor (q.2.1 f).2.2.1 = some .boolean ∧ (v = 0 ∨ v = 1))
    (kk : zAW p l e R s m args below meth c cells slots Q nL Λ D ad sa cs A  (pc + 3) ls st (zset mem a.toNat f v)) : zAW p l e R s m args below meth c cells slots Q nL Λ D ad sa cs A  pc ls ((0, v) :: (2, a) :: st) mem := by
  intro hm hs hl H locs L hP hD hL hS
  obtain ⟨C, T, N⟩ := q
  obtain ⟨hf, hdc, hlk⟩ := hF
  have hv := zhi hs
  have he := zWd_get (ad := ad) (cs := cs) (mem := mem) hΛ
  have h2 : t.1 ≠ 2 := by rcases hk with h | h <;> rw [h.1] <;> decide
  have hle : f < (fs.mapIdx fun k t => zF ad t (mem a.toNat k)).length := by rw [List.length_mapIdx]; exact (List.getElem?_eq_some_iff.mp ht).1
  have hw : ∀ u : List Value, u = (fs.mapIdx fun k t => zF ad t (mem a.toNat k)).set f (.int (Int32.ofInt v)) → (zWd Λ ad cs mem).set a.toNat (ad a.toNat, .inr (ci, u)) = zWd Λ ad cs (zset mem a.toNat f v) := by
    intro u hu
    rw [hu]
    refine zWd_set hΛ ?_ (fun b hb => by funext j; simp only [zset]; rw [if_neg hb])
    show Sum.inr (ci, _) = _
    rw [zfs_set (g := fun _ => 0) ht h2]
  have hm' : zokM Λ (zset mem a.toNat f v) := zokM_set hm hΛ (fun _ t' ht' => by
    cases ht.symm.trans ht'
    rcases hk with h | h
    · exact ⟨fun _ => hv, fun z => absurd (h.1.symm.trans z) (by decide)⟩
    · have h01 : 0 ≤ v ∧ v ≤ 1 := by have := h.2.2; omega
      exact ⟨fun z => absurd (h.1.symm.trans z) (by decide), fun _ => h01⟩) (fun z => by cases z) (fun z => by cases z) (fun z => by cases z) (fun z => by cases z)
  have go : ∀ (H1 : Heap) (locs1 : List Loc), va_P D zCl ((zWd Λ ad cs mem).set a.toNat (ad a.toNat, .inr (ci, (fs.mapIdx fun k t => zF ad t (mem a.toNat k)).set f (.int (Int32.ofInt v))))) H1 → va_D A ((zWd Λ ad cs mem).set a.toNat (ad a.toNat, .inr (ci, (fs.mapIdx fun k t => zF ad t (mem a.toNat k)).set f (.int (Int32.ofInt v))))) → va_S A s.heap H1 locs1 → W p l e R s m args below meth c  H1 locs1 cells slots Q (F0 m (pc + 3) L (st.map (zE ad sa))) := by
    intro H1 locs1 hP1 hD1 hS1
    rw [hw _ rfl] at hP1 hD1
    exact kk hm' (ztl (ztl hs)) hl H1 locs1 L hP1 hD1 hL hS1
  dsimp only at hdc hfin hk
  have hnf : ∃ ty, parseFieldDescriptor (T f).2.2.1 = some ty ∧ narrow ty (.int (Int32.ofInt v)) = .int (Int32.ofInt v) ∧ fits ty (.int (Int32.ofInt v)) = true := by
    rcases hk with h | h
    · exact ⟨_, h.2, rfl, rfl⟩
    · refine ⟨_, h.2.1, ?_⟩
      rcases h.2.2 with r | r <;> subst r <;> exact ⟨rfl, rfl⟩
  obtain ⟨ty, n1, n2, n3⟩ := hnf
  rcases hlk with hlk | ⟨host, hlk⟩
  · exact va_put hx hb hts hin ty0 hty hnm hown hK hP hD hS a.toNat he hq f hf hlk (fun x h => by rw [hdc] at h; exact h) hfin n1 n2 n3 hle hd go
  · exact va_putN hx hb hts hin ty0 hty hnm hown hK hP hD hS a.toNat he hq f hf hlk (fun x h => by rw [hdc] at h; exact h) hfin n1 n2 n3 hle hd go
end ZS
