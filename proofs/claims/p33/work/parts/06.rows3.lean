/-! ===== arrays ===== -/
theorem zup_i {mem : zM} {a k : Nat} {v : Int} : (fun i => Int32.ofInt (zset mem a k v a i)) = upd (fun i => Int32.ofInt (mem a i)) k (Int32.ofInt v) := by
  funext i
  by_cases h : i = k
  · subst h; simp [zset, upd]
  · simp [zset, upd, h]
theorem zup_l {mem : zM} {a k : Nat} {v : Int} : (fun i => Int64.ofInt (zset mem a k v a i)) = vp_updL (fun i => Int64.ofInt (mem a i)) k (Int64.ofInt v) := by
  funext i
  by_cases h : i = k
  · subst h; simp [zset, vp_updL]
  · simp [zset, vp_updL, h]
theorem zset_off {mem : zM} {a k : Nat} {v : Int} : ∀ b, b ≠ a → zset mem a k v b = mem b := fun b hb => by funext j; simp only [zset]; rw [if_neg hb]
theorem zR01 {x : Int} (h : 0 ≤ x ∧ x ≤ 1) : zR32 x := ⟨by omega, by omega⟩
theorem zR8 {x : Int} (h : -128 ≤ x ∧ x ≤ 127) : zR32 x := ⟨by omega, by omega⟩
section ZT
variable {p : Program} {l : Launch} {e : Env} {R : Room} {s : State} {m : MethodId} {args : Array Value} {below : List Frame} {meth : Method} {c : Code} {cells slots : Nat} {Q : State → Prop} {cc : ByteArray} {nL : Nat} {own : String} {Λ : List zC} {D : va_G} {ad sa : Nat → Nat} {cs : Nat → ClassId} {A : Nat → Prop} {pc : Nat} {ls : zL} {st : List zV} {mem : zM}
theorem zs_iaload {a i : Int} {n : Nat} {ts : List (Nat × Nat)} (hx : p.tables.exec = Jvm.exec) (hb : c.code = cc) (hK : va_K D zCl (zTys cs) s) (hd : decode cc pc = .ok (.iaload, 1)) (hΛ : Λ[a.toNat]? = some (1, n, ts)) (h0 : 0 ≤ i) (h1 : i < n) (kk : zAW p l e R s m args below meth c cells slots Q nL Λ D ad sa cs A  (pc + 1) ls ((0, mem a.toNat i.toNat) :: st) mem) : zAW p l e R s m args below meth c cells slots Q nL Λ D ad sa cs A  pc ls ((0, i) :: (2, a) :: st) mem := by
  intro hm hs hl H locs L hP hD hL hS
  have hi := zhi hs
  have h := kk hm (zcons (zok_i' ((hm _ _ hΛ).2.1 rfl i.toNat (by show i.toNat < n; omega))) (ztl (ztl hs))) hl H locs L hP hD hL hS
  refine va_iald hx hb hK hP a.toNat 0 (zWd_get hΛ) rfl (zin hi h0 h1) hd ?_
  rw [zcl_i hi]; exact h
theorem zs_laload {a i : Int} {n : Nat} {ts : List (Nat × Nat)} (hx : p.tables.exec = Jvm.exec) (hb : c.code = cc) (hK : va_K D zCl (zTys cs) s) (hd : decode cc pc = .ok (.laload, 1)) (hΛ : Λ[a.toNat]? = some (2, n, ts)) (h0 : 0 ≤ i) (h1 : i < n) (kk : zAW p l e R s m args below meth c cells slots Q nL Λ D ad sa cs A  (pc + 1) ls ((1, mem a.toNat i.toNat) :: st) mem) : zAW p l e R s m args below meth c cells slots Q nL Λ D ad sa cs A  pc ls ((0, i) :: (2, a) :: st) mem := by
  intro hm hs hl H locs L hP hD hL hS
  have hi := zhi hs
  have h := kk hm (zcons (zok_l' ((hm _ _ hΛ).2.2.1 rfl i.toNat (by show i.toNat < n; omega))) (ztl (ztl hs))) hl H locs L hP hD hL hS
  refine va_lald hx hb hK hP a.toNat 1 (zWd_get hΛ) rfl (zin hi h0 h1) hd ?_
  rw [zcl_i hi]; exact h
theorem zs_zaload {a i : Int} {n : Nat} {ts : List (Nat × Nat)} (hx : p.tables.exec = Jvm.exec) (hb : c.code = cc) (hK : va_K D zCl (zTys cs) s) (hd : decode cc pc = .ok (.baload, 1)) (hΛ : Λ[a.toNat]? = some (3, n, ts)) (h0 : 0 ≤ i) (h1 : i < n) (kk : zAW p l e R s m args below meth c cells slots Q nL Λ D ad sa cs A  (pc + 1) ls ((0, mem a.toNat i.toNat) :: st) mem) : zAW p l e R s m args below meth c cells slots Q nL Λ D ad sa cs A  pc ls ((0, i) :: (2, a) :: st) mem := by
  intro hm hs hl H locs L hP hD hL hS
  have hi := zhi hs
  have h := kk hm (zcons (zok_i' (zR01 ((hm _ _ hΛ).2.2.2.1 rfl i.toNat (by show i.toNat < n; omega)))) (ztl (ztl hs))) hl H locs L hP hD hL hS
  refine va_zald hx hb hK hP a.toNat 2 (zWd_get hΛ) rfl (zin hi h0 h1) hd ?_
  rw [zcl_i hi]; exact h
theorem zs_baload {a i : Int} {n : Nat} {ts : List (Nat × Nat)} (hx : p.tables.exec = Jvm.exec) (hb : c.code = cc) (hK : va_K D zCl (zTys cs) s) (hd : decode cc pc = .ok (.baload, 1)) (hΛ : Λ[a.toNat]? = some (4, n, ts)) (h0 : 0 ≤ i) (h1 : i < n) (kk : zAW p l e R s m args below meth c cells slots Q nL Λ D ad sa cs A  (pc + 1) ls ((0, mem a.toNat i.toNat) :: st) mem) : zAW p l e R s m args below meth c cells slots Q nL Λ D ad sa cs A  pc ls ((0, i) :: (2, a) :: st) mem := by
  intro hm hs hl H locs L hP hD hL hS
  have hi := zhi hs
  have h := kk hm (zcons (zok_i' (zR8 ((hm _ _ hΛ).2.2.2.2 rfl i.toNat (by show i.toNat < n; omega)))) (ztl (ztl hs))) hl H locs L hP hD hL hS
  refine va_bald hx hb hK hP a.toNat 3 (zWd_get hΛ) rfl (zin hi h0 h1) hd ?_
  rw [zcl_i hi]; exact h
theorem zs_aaload {a i : Int} {n : Nat} {ts : List (Nat × Nat)} {t : Nat × Nat} (hx : p.tables.exec = Jvm.exec) (hb : c.code = cc) (hK : va_K D zCl (zTys cs) s) (hd : decode cc pc = .ok (.aaload, 1)) (hΛ : Λ[a.toNat]? = some (5, n, ts)) (h0 : 0 ≤ i) (h1 : i < n) (ht : ts[i.toNat]? = some t) (kk : zAW p l e R s m args below meth c cells slots Q nL Λ D ad sa cs A  (pc + 1) ls ((2, (t.2 : Int)) :: st) mem) : zAW p l e R s m args below meth c cells slots Q nL Λ D ad sa cs A  pc ls ((0, i) :: (2, a) :: st) mem := by
  intro hm hs hl H locs L hP hD hL hS
  have hi := zhi hs
  have h := kk hm (zcons (zok_r _) (ztl (ztl hs))) hl H locs L hP hD hL hS
  refine va_aldq hx hb hK hP a.toNat 4 (zWd_get hΛ) rfl (zin hi h0 h1) hd ?_
  rw [zcl_i hi]
  dsimp only
  rw [ht]
  exact h
theorem zs_iastore {a i v : Int} {n : Nat} {ts : List (Nat × Nat)} (hx : p.tables.exec = Jvm.exec) (hb : c.code = cc) (hK : va_K D zCl (zTys cs) s) (hd : decode cc pc = .ok (.iastore, 1)) (hΛ : Λ[a.toNat]? = some (1, n, ts)) (h0 : 0 ≤ i) (h1 : i < n) (kk : zAW p l e R s m args below meth c cells slots Q nL Λ D ad sa cs A  (pc + 1) ls st (zset mem a.toNat i.toNat v)) : zAW p l e R s m args below meth c cells slots Q nL Λ D ad sa cs A  pc ls ((0, v) :: (0, i) :: (2, a) :: st) mem := by
  intro hm hs hl H locs L hP hD hL hS
  have hv := zhi hs
  have hi := zhi (ztl hs)
  have hm' : zokM Λ (zset mem a.toNat i.toNat v) := zokM_set hm hΛ (fun z => by cases z) (fun _ => hv) (fun z => by cases z) (fun z => by cases z) (fun z => by cases z)
  refine va_iast hx hb hK hP hD hS a.toNat 0 (zWd_get hΛ) rfl (zin hi h0 h1) hd (fun H1 locs1 hP1 hD1 hS1 => ?_)
  rw [zcl_i hi, zWd_set (mem' := zset mem a.toNat i.toNat v) hΛ (by show Sum.inl (cs 0, n, Sum.inl _) = _; rw [zup_i]) zset_off] at hP1 hD1
  exact kk hm' (ztl (ztl (ztl hs))) hl H1 locs1 L hP1 hD1 hL hS1
theorem zs_lastore {a i v : Int} {n : Nat} {ts : List (Nat × Nat)} (hx : p.tables.exec = Jvm.exec) (hb : c.code = cc) (hK : va_K D zCl (zTys cs) s) (hd : decode cc pc = .ok (.lastore, 1)) (hΛ : Λ[a.toNat]? = some (2, n, ts)) (h0 : 0 ≤ i) (h1 : i < n) (kk : zAW p l e R s m args below meth c cells slots Q nL Λ D ad sa cs A  (pc + 1) ls st (zset mem a.toNat i.toNat v)) : zAW p l e R s m args below meth c cells slots Q nL Λ D ad sa cs A  pc ls ((1, v) :: (0, i) :: (2, a) :: st) mem := by
  intro hm hs hl H locs L hP hD hL hS
  have hv := zhl hs
  have hi := zhi (ztl hs)
  have hm' : zokM Λ (zset mem a.toNat i.toNat v) := zokM_set hm hΛ (fun z => by cases z) (fun z => by cases z) (fun _ => hv) (fun z => by cases z) (fun z => by cases z)
  refine va_last hx hb hK hP hD hS a.toNat 1 (zWd_get hΛ) rfl (zin hi h0 h1) hd (fun H1 locs1 hP1 hD1 hS1 => ?_)
  rw [zcl_i hi, zWd_set (mem' := zset mem a.toNat i.toNat v) hΛ (by show Sum.inl (cs 1, n, Sum.inr (Sum.inl _)) = _; rw [zup_l]) zset_off] at hP1 hD1
  exact kk hm' (ztl (ztl (ztl hs))) hl H1 locs1 L hP1 hD1 hL hS1
theorem zs_zastore {a i v : Int} {n : Nat} {ts : List (Nat × Nat)} (hx : p.tables.exec = Jvm.exec) (hb : c.code = cc) (hK : va_K D zCl (zTys cs) s) (hd : decode cc pc = .ok (.bastore, 1)) (hΛ : Λ[a.toNat]? = some (3, n, ts)) (h0 : 0 ≤ i) (h1 : i < n) (hv01 : v = 0 ∨ v = 1) (kk : zAW p l e R s m args below meth c cells slots Q nL Λ D ad sa cs A  (pc + 1) ls st (zset mem a.toNat i.toNat v)) : zAW p l e R s m args below meth c cells slots Q nL Λ D ad sa cs A  pc ls ((0, v) :: (0, i) :: (2, a) :: st) mem := by
  intro hm hs hl H locs L hP hD hL hS
  have hi := zhi (ztl hs)
  have hm' : zokM Λ (zset mem a.toNat i.toNat v) := zokM_set hm hΛ (fun z => by cases z) (fun z => by cases z) (fun z => by cases z) (fun _ => by omega) (fun z => by cases z)
  have hn : vp_nar .boolean (Int32.ofInt v) = Int32.ofInt v := by rcases hv01 with r | r <;> subst r <;> rfl
  refine va_zast hx hb hK hP hD hS a.toNat 2 (zWd_get hΛ) rfl (zin hi h0 h1) hd (fun H1 locs1 hP1 hD1 hS1 => ?_)
  rw [hn, zcl_i hi, zWd_set (mem' := zset mem a.toNat i.toNat v) hΛ (by show Sum.inl (cs 2, n, Sum.inl _) = _; rw [zup_i]) zset_off] at hP1 hD1
  exact kk hm' (ztl (ztl (ztl hs))) hl H1 locs1 L hP1 hD1 hL hS1
theorem zs_bastore {a i v : Int} {n : Nat} {ts : List (Nat × Nat)} (hx : p.tables.exec = Jvm.exec) (hb : c.code = cc) (hK : va_K D zCl (zTys cs) s) (hd : decode cc pc = .ok (.bastore, 1)) (hΛ : Λ[a.toNat]? = some (4, n, ts)) (h0 : 0 ≤ i) (h1 : i < n) (hv8 : -128 ≤ v ∧ v ≤ 127) (kk : zAW p l e R s m args below meth c cells slots Q nL Λ D ad sa cs A  (pc + 1) ls st (zset mem a.toNat i.toNat v)) : zAW p l e R s m args below meth c cells slots Q nL Λ D ad sa cs A  pc ls ((0, v) :: (0, i) :: (2, a) :: st) mem := by
  intro hm hs hl H locs L hP hD hL hS
  have hi := zhi (ztl hs)
  have hm' : zokM Λ (zset mem a.toNat i.toNat v) := zokM_set hm hΛ (fun z => by cases z) (fun z => by cases z) (fun z => by cases z) (fun z => by cases z) (fun _ => hv8)
  have hn : vp_nar .byte (Int32.ofInt v) = Int32.ofInt v := by
    rw [vp_nar_byte]
    exact lg_i2b_small (by rw [zi_toInt (zR8 hv8)]; omega) (by rw [zi_toInt (zR8 hv8)]; omega)
  refine va_bast hx hb hK hP hD hS a.toNat 3 (zWd_get hΛ) rfl (zin hi h0 h1) hd (fun H1 locs1 hP1 hD1 hS1 => ?_)
  rw [hn, zcl_i hi, zWd_set (mem' := zset mem a.toNat i.toNat v) hΛ (by show Sum.inl (cs 3, n, Sum.inl _) = _; rw [zup_i]) zset_off] at hP1 hD1
  exact kk hm' (ztl (ztl (ztl hs))) hl H1 locs1 L hP1 hD1 hL hS1
theorem zs_alen {a : Int} {kd n : Nat} {ts : List (Nat × Nat)} (hx : p.tables.exec = Jvm.exec) (hb : c.code = cc) (hK : va_K D zCl (zTys cs) s) (hd : decode cc pc = .ok (.arraylength, 1)) (hΛ : Λ[a.toNat]? = some (kd, n, ts)) (hk : kd = 1 ∨ kd = 2) (hn : n ≤ 2147483647) (kk : zAW p l e R s m args below meth c cells slots Q nL Λ D ad sa cs A  (pc + 1) ls ((0, (n : Int)) :: st) mem) : zAW p l e R s m args below meth c cells slots Q nL Λ D ad sa cs A  pc ls ((2, a) :: st) mem := by
  intro hm hs hl H locs L hP hD hL hS
  have h := kk hm (zcons (zok_i' ⟨by omega, by omega⟩) (ztl hs)) hl H locs L hP hD hL hS
  have e : Int32.ofNat n = Int32.ofInt (n : Int) := (Int32.ofInt_eq_ofNat (n := n)).symm
  rcases hk with r | r <;> subst r
  · exact va_alen hx hb hK hP a.toNat 0 (zWd_get hΛ) (ty := .int) rfl e hd h
  · exact va_alen hx hb hK hP a.toNat 1 (zWd_get hΛ) (ty := .long) rfl e hd h
theorem zcp {mem : zM} {a b sp dp n : Nat} : (fun i => Int32.ofInt (zcopy mem a sp b dp n b i)) = va_cpy (fun i => Int32.ofInt (mem a i)) (fun i => Int32.ofInt (mem b i)) sp dp n := by
  funext i
  simp only [zcopy, va_cpy, if_pos]
  split <;> rfl
theorem zcopy_off {mem : zM} {a b sp dp n : Nat} : ∀ d, d ≠ b → zcopy mem a sp b dp n d = mem d := fun d hd => by funext j; simp only [zcopy]; rw [if_neg hd]
theorem zokM_copy {mem : zM} {a b sp dp n na nb : Nat} {ta tb : List (Nat × Nat)} (hm : zokM Λ mem) (ha : Λ[a]? = some (1, na, ta)) (hb : Λ[b]? = some (1, nb, tb)) (h : sp + n ≤ na) : zokM Λ (zcopy mem a sp b dp n) := by
  intro id κ hid
  obtain ⟨g0, g1, g2, g3, g4⟩ := hm id κ hid
  by_cases hib : id = b
  · subst hib
    cases hb.symm.trans hid
    refine ⟨fun z => (by cases z), fun _ i hi => ?_, fun z => (by cases z), fun z => (by cases z), fun z => (by cases z)⟩
    simp only [zcopy, if_pos]
    split
    · rename_i hq
      exact (hm a _ ha).2.1 rfl _ (by show _ < na; omega)
    · exact g1 rfl i hi
  · rw [zcopy_off id hib]
    exact ⟨g0, g1, g2, g3, g4⟩
theorem zs_arraycopy {idx : Nat} {a b sp dp n : Int} {na nb : Nat} {ta tb : List (Nat × Nat)} (hx : p.tables.exec = Jvm.exec) (hb : c.code = cc) (hml : c.maxLocals = nL) (hown : s.vm.findClass own = some m.cls) (hlink : (Cond.methodLink own idx arraycopyName).before args s = true) (hnat : (Cond.native arraycopyName).before args s = true) (hstat : (Cond.static arraycopyName).before args s = true) (hini : (Cond.initialized "java/lang/System").before args s = true) (hK : va_K D zCl (zTys cs) s) (hd : decode cc pc = .ok (.invokestatic idx, 3))
    (ha : Λ[a.toNat]? = some (1, na, ta)) (hbb : Λ[b.toNat]? = some (1, nb, tb)) (h1 : 0 ≤ sp) (h2 : 0 ≤ dp) (h3 : 0 ≤ n) (h4 : sp + n ≤ na) (h5 : dp + n ≤ nb) (hR : 1 ≤ R.frames ∧ 30 ≤ R.locals) (kk : zAW p l e R s m args below meth c cells slots Q nL Λ D ad sa cs A  (pc + 3) ls [] (zcopy mem a.toNat sp.toNat b.toNat dp.toNat n.toNat)) : zAW p l e R s m args below meth c cells slots Q nL Λ D ad sa cs A  pc ls [(0, n), (0, dp), (2, b), (0, sp), (2, a)] mem := by
  intro hm hs hl H locs L hP hD hL hS
  have hn := zhi hs
  have hdp := zhi (ztl hs)
  have hsp := zhi (ztl (ztl (ztl hs)))
  have c1 := zcl_i hn
  have c2 := zcl_i hdp
  have c3 := zcl_i hsp
  have hneg : ∀ {x : Int}, zR32 x → 0 ≤ x → ¬ Int32.ofInt x < 0 := fun hr h q => by have := (zq_lt hr zR0).mp q; omega
  refine va_copyi (ty := .int) (rest := []) hx hb (hml.trans hL.1.symm) hown hlink hnat hstat hini hK hP hD hS a.toNat b.toNat 0 0 (zWd_get ha) (zWd_get hbb) rfl rfl rfl (hneg hsp h1) (hneg hdp h2) (hneg hn h3) (by rw [c1, c3]; show _ ≤ na; omega) (by rw [c1, c2]; show _ ≤ nb; omega) (fun i _ => rfl) hR.1 (by show 0 + (7 + 11) ≤ R.locals; omega) hd (fun H1 locs1 hP1 hD1 hS1 => ?_)
  rw [c1, c2, c3, zWd_set (mem' := zcopy mem a.toNat sp.toNat b.toNat dp.toNat n.toNat) hbb (by show Sum.inl (cs 0, nb, Sum.inl _) = _; rw [zcp]) zcopy_off] at hP1 hD1
  exact kk (zokM_copy hm ha hbb (by omega)) (fun _ h => by cases h) hl H1 locs1 L hP1 hD1 hL hS1
end ZT
