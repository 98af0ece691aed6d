/-! ===== the rows together ===== -/
theorem zp1_inv {t : Nat} {st : List zV} {f : Int → List zV → Prop} (h : zp1 t st f) : ∃ x r, st = (t, x) :: r ∧ f x r := by
  cases st with
  | nil => exact h.elim
  | cons v r => obtain ⟨a, b⟩ := v; obtain ⟨h1, h2⟩ := h; dsimp only at h1; subst h1; exact ⟨b, r, rfl, h2⟩
theorem zpv_inv {st : List zV} {f : zV → List zV → Prop} (h : zpv st f) : ∃ v r, st = v :: r ∧ f v r := by
  cases st with
  | nil => exact h.elim
  | cons v r => exact ⟨v, r, rfl, h⟩
theorem zarr_inv {Λ : List zC} {kd : Nat} {a : Int} {f : Nat → List (Nat × Nat) → Prop} (h : zarr Λ kd a f) : ∃ n ts, Λ[a.toNat]? = some (kd, n, ts) ∧ f n ts := by
  unfold zarr at h
  cases hq : Λ[a.toNat]? with
  | none => rw [hq] at h; exact h.elim
  | some κ => rw [hq] at h; obtain ⟨k, n, ts⟩ := κ; obtain ⟨h1, h2⟩ := h; dsimp only at h1; subst h1; exact ⟨n, ts, rfl, h2⟩
theorem zob_inv {Λ : List zC} {a : Int} {ci f : Nat} {F : Nat × Nat → Prop} (h : zob Λ a ci f F) : ∃ fs t, Λ[a.toNat]? = some (0, ci, fs) ∧ fs[f]? = some t ∧ F t := by
  unfold zob at h
  cases hq : Λ[a.toNat]? with
  | none => rw [hq] at h; exact h.elim
  | some κ =>
    rw [hq] at h
    obtain ⟨k, n, ts⟩ := κ
    obtain ⟨h1, h2, h3⟩ := h
    dsimp only at h1 h2 h3
    subst h1; subst h2
    cases ht : ts[f]? with
    | none => rw [ht] at h3; exact h3.elim
    | some t => rw [ht] at h3; exact ⟨ts, t, rfl, ht, h3⟩
theorem zpl_inv {pl : zPo} {k kd : Nat} {F : Nat → Nat → Int → Prop} (h : zpl pl k kd F) : ∃ x y z, pl k = some (kd, x, y, z) ∧ F x y z := by
  unfold zpl at h
  cases hq : pl k with
  | none => rw [hq] at h; exact h.elim
  | some q => rw [hq] at h; obtain ⟨a, x, y, z⟩ := q; obtain ⟨h1, h2⟩ := h; dsimp only at h1; subst h1; exact ⟨x, y, z, rfl, h2⟩
theorem ztg_inv {pc : Nat} {off : Int} {J : Nat → Prop} (h : ztg pc off J) : ∃ t : Nat, (pc : Int) + off = (t : Int) ∧ J t := ⟨_, by have := h.1; omega, h.2⟩
theorem zswT_inv {pc : Nat} {J : Nat → Prop} {x : Int} : ∀ {k : Int} {os : List Int}, zswT pc J x k os → k ≤ x → x < k + os.length → ∃ (o : Int), os[(x - k).toNat]? = some o ∧ ztg pc o J := by
  intro k os
  induction os generalizing k with
  | nil => intro _ h1 h2; simp at h2; omega
  | cons o r ih =>
    intro h h1 h2
    by_cases hx : x = k
    · subst hx
      exact ⟨o, by simp, h.1 rfl⟩
    · obtain ⟨o', g1, g2⟩ := ih h.2 (by omega) (by simp at h2 ⊢; omega)
      refine ⟨o', ?_, g2⟩
      have e : (x - k).toNat = (x - (k + 1)).toNat + 1 := by omega
      rw [e, List.getElem?_cons_succ]
      exact g1
theorem zswL_inv {pc : Nat} {J : Nat → Prop} {x d : Int} : ∀ {ps : List (Int × Int)}, zswL pc J x d ps → ∃ o, Op.lookupswitch.offset ps d x = o ∧ ztg pc o J := by
  intro ps
  induction ps with
  | nil => intro h; exact ⟨d, rfl, h⟩
  | cons q r ih =>
    intro h
    obtain ⟨a, o⟩ := q
    by_cases hx : x = a
    · refine ⟨o, ?_, h.1 hx⟩
      rw [Op.lookupswitch.offset_cons, if_pos hx.symm]
    · obtain ⟨o', g1, g2⟩ := ih (h.2 hx)
      refine ⟨o', ?_, g2⟩
      rw [Op.lookupswitch.offset_cons, if_neg (fun q => hx q.symm)]
      exact g1
theorem zaa_inv {K : Nat → Prop} {i : Int} : ∀ {k : Int} {ts : List (Nat × Nat)}, zaa K i k ts → k ≤ i → i < k + ts.length → ∃ t, ts[(i - k).toNat]? = some t ∧ K t.2 := by
  intro k ts
  induction ts generalizing k with
  | nil => intro _ h1 h2; simp at h2; omega
  | cons o r ih =>
    intro h h1 h2
    by_cases hx : i = k
    · subst hx
      exact ⟨o, by simp, h.1 rfl⟩
    · obtain ⟨o', g1, g2⟩ := ih h.2 (by omega) (by simp at h2 ⊢; omega)
      refine ⟨o', ?_, g2⟩
      have e : (i - k).toNat = (i - (k + 1)).toNat + 1 := by omega
      rw [e, List.getElem?_cons_succ]
      exact g1
theorem zzip (l : List zV) : (l.map (·.1)).zip (l.map (·.2)) = l := by
  induction l with
  | nil => rfl
  | cons a r ih => simp only [List.map_cons, List.zip_cons_cons, ih]
section ZX
variable {p : Program} {l : Launch} {e : Env} {R : Room} {s : State} {m : MethodId} {args : Array Value} {below : List Frame} {meth : Method} {c : Code} {cells slots : Nat} {Q : State → Prop} {cc : ByteArray} {nL : Nat} {own : String} {Λ : List zC} {D : va_G} {ad sa sv : Nat → Nat} {cs : Nat → ClassId} {A : Nat → Prop} {pc : Nat} {ls : zL} {st : List zV} {mem : zM}
theorem zinv_sound {ct : Option zCt} {i : Instr} {K : List zV → zM → Prop} (hc : ∀ q, ct = some q → zCOK p l e R s m args below meth c cells slots nL Λ D ad sa cs A cc i q.1 q.2.1 q.2.2.1 q.2.2.2) (hd : decode cc pc = .ok (i, 3)) (hK : ∀ st mem, K st mem → zAW p l e R s m args below meth c cells slots Q nL Λ D ad sa cs A  (pc + 3) ls st mem) (h : zinv Λ ct st mem K) : zAW p l e R s m args below meth c cells slots Q nL Λ D ad sa cs A  pc ls st mem := by
  unfold zinv at h
  cases hq : ct with
  | none => rw [hq] at h; exact h.elim
  | some q =>
    rw [hq] at h
    obtain ⟨h1, h2, h3, h4⟩ := h
    have hvl : (((st.take q.1.length).map (·.2)).reverse).length = q.1.length := by
      have := congrArg List.length h1
      simp only [List.length_map, List.length_reverse] at this ⊢
      exact this
    have hz : (q.1.zip ((st.take q.1.length).map (·.2)).reverse).reverse = st.take q.1.length := by
      have e1 : q.1 = ((st.take q.1.length).reverse).map (·.1) := by rw [List.map_reverse, h1, List.reverse_reverse]
      have e2 : ((st.take q.1.length).map (·.2)).reverse = ((st.take q.1.length).reverse).map (·.2) := by rw [List.map_reverse]
      rw [e2]
      conv => lhs; arg 1; arg 1; rw [e1]
      rw [zzip, List.reverse_reverse]
    have := hc q hq Q pc ls _ (st.drop q.1.length) mem hd hvl h3 h2 (fun r mem' a b c => hK _ _ (h4 r mem' a b c))
    rw [hz, List.take_append_drop] at this
    exact this
/-- what is known where a method ends -/
def zRet (p : Program) (l : Launch) (e : Env) (R : Room) (s : State) (m : MethodId) (args : Array Value) (below : List Frame) (meth : Method) (c : Code) (cells slots : Nat) (Q : State → Prop) (nL : Nat) (Λ : List zC) (D : va_G) (ad sa : Nat → Nat) (cs : Nat → ClassId) (A : Nat → Prop) (cc : ByteArray) (rt : Nat) (RP : Int → zM → Prop) : Prop :=
  (∀ pc ls v mem, decode cc pc = .ok (.ireturn, 1) → (rt = 0 ∨ rt = 4 ∧ (v = 0 ∨ v = 1)) → RP v mem → zAW p l e R s m args below meth c cells slots Q nL Λ D ad sa cs A  pc ls [(0, v)] mem) ∧ (∀ pc ls v mem, decode cc pc = .ok (.lreturn, 1) → rt = 1 → RP v mem → zAW p l e R s m args below meth c cells slots Q nL Λ D ad sa cs A  pc ls [(1, v)] mem) ∧ (∀ pc ls mem, decode cc pc = .ok (.return_, 1) → rt = 9 → RP 0 mem → zAW p l e R s m args below meth c cells slots Q nL Λ D ad sa cs A  pc ls [] mem)
set_option maxHeartbeats 4000000 in
theorem zwI_sound {pl : zPo} {cv cS : Nat → Option zCt} {rt : Nat} {RP : Int → zM → Prop} {thr : Nat → Option Nat} {XP : Nat → zM → Prop} (S : CallFix p m c cc nL s args zTbl own) (hG : zGl D cs sa sv A s) (hpl : zPlok own pl) (hcl : zClok) (hsy : zSyok) (hR : 1 ≤ R.frames ∧ 30 ≤ R.locals)
    (hcv : ∀ k q, cv k = some q → zCOK p l e R s m args below meth c cells slots nL Λ D ad sa cs A cc (.invokevirtual k) q.1 q.2.1 q.2.2.1 q.2.2.2) (hcS : ∀ k q, cS k = some q → zCOK p l e R s m args below meth c cells slots nL Λ D ad sa cs A cc (.invokestatic k) q.1 q.2.1 q.2.2.1 q.2.2.2)
    (hret : zRet p l e R s m args below meth c cells slots Q nL Λ D ad sa cs A cc rt RP) (hthr : ∀ pc E ls mem, thr pc = some E → XP E mem → zAW p l e R s m args below meth c cells slots Q nL Λ D ad sa cs A  pc ls [] mem)
    {J : zJ} (hJ : ∀ pc ls st mem, J pc ls st mem → zAW p l e R s m args below meth c cells slots Q nL Λ D ad sa cs A  pc ls st mem) {i : Instr} {n : Nat} {K : zL → List zV → zM → Prop} (hd : decode cc pc = .ok (i, n)) (hK : ∀ ls st mem, K ls st mem → zAW p l e R s m args below meth c cells slots Q nL Λ D ad sa cs A  (pc + n) ls st mem) (h : zwI Λ pl cv cS rt RP thr XP nL i n pc ls st mem J K) : zAW p l e R s m args below meth c cells slots Q nL Λ D ad sa cs A  pc ls st mem := by
  obtain ⟨hx, hb, hml, hown, hts⟩ := id S
  have hKv := hG.1
  cases i with
  | iconst x => obtain ⟨rfl, h1, h2⟩ := h; exact zs_iconst hx hb hd h1 (hK _ _ _ h2)
  | bipush x => obtain ⟨rfl, h1, h2⟩ := h; exact zs_bipush hx hb hd h1 (hK _ _ _ h2)
  | sipush x => obtain ⟨rfl, h1, h2⟩ := h; exact zs_sipush hx hb hd h1 (hK _ _ _ h2)
  | lconst x => obtain ⟨rfl, h2⟩ := h; exact zs_lconst hx hb hd (hK _ _ _ h2)
  | ldc k =>
    obtain ⟨rfl, h | h⟩ := h
    · obtain ⟨x, y, z, h1, h2⟩ := zpl_inv h
      have g := (hpl k _ _ _ _ h1).2.1 rfl
      exact zs_ldc hx hb hown (hts _ g.1) hd g.2 (hK _ _ _ h2)
    · obtain ⟨x, y, z, h1, h2⟩ := zpl_inv h
      obtain ⟨tx, g⟩ := (hpl k _ _ _ _ h1).2.2.2.1 rfl
      exact zs_push (zok_c _) (fun H locs L rest _ _ w => va_ldcS hx hb hown (hG.2.2.2.2.1 _ g) hd w) (hK _ _ _ h2)
  | ldc_w k =>
    obtain ⟨rfl, h⟩ := h
    obtain ⟨x, y, z, h1, h2⟩ := zpl_inv h
    have g := (hpl k _ _ _ _ h1).2.1 rfl
    exact zs_ldcw hx hb hown (hts _ g.1) hd g.2 (hK _ _ _ h2)
  | ldc2_w k =>
    obtain ⟨rfl, h⟩ := h
    obtain ⟨x, y, z, h1, h2⟩ := zpl_inv h
    have g := (hpl k _ _ _ _ h1).2.2.1 rfl
    exact zs_ldc2 hx hb hown (hts _ g.1) hd g.2 (hK _ _ _ h2)
  | getstatic k =>
    obtain ⟨rfl, h⟩ := h
    obtain ⟨x, y, z, h1, h2⟩ := zpl_inv h
    obtain ⟨nm, g1, g2⟩ := (hpl k _ _ _ _ h1).2.2.2.2.1 rfl
    have hxl : x < zStV.length := (List.getElem?_eq_some_iff.mp g1).1
    have hZ := (hG.2.2.1 x nm _ g1 (List.getElem?_eq_getElem hxl)).1
    refine zs_push (len := 3) (v := (3, (x : Int))) (zok_c _) (fun H locs L rest _ hS w => ?_) (hK _ _ _ h2)
    rcases g2 with g2 | ⟨host, g2⟩
    · exact va_gets hx hb hZ hS hown (hts _ g2) (fun _ q => q) hd w
    · exact va_getsN hx hb hZ hS hown (va_Nw.use rfl (hG.2.1 _ g2 rfl)) (fun _ q => q) hd w
  | iload_n k => obtain ⟨rfl, h1, h2⟩ := h; exact zs_iload_n hx hb hd h1 (hK _ _ _ h2)
  | iload k => obtain ⟨rfl, h1, h2⟩ := h; exact zs_iload hx hb hd h1 (hK _ _ _ h2)
  | lload_n k => obtain ⟨rfl, h1, h2⟩ := h; exact zs_lload_n hx hb hd h1 (hK _ _ _ h2)
  | lload k => obtain ⟨rfl, h1, h2⟩ := h; exact zs_lload hx hb hd h1 (hK _ _ _ h2)
  | aload_n k => obtain ⟨rfl, h1, h2⟩ := h; exact zs_aload_n hx hb hd h1 (hK _ _ _ h2)
  | aload k => obtain ⟨rfl, h1, h2⟩ := h; exact zs_aload hx hb hd h1 (hK _ _ _ h2)
  | istore_n k => obtain ⟨rfl, h1, h2⟩ := h; obtain ⟨x, r, rfl, h3⟩ := zp1_inv h2; exact zs_istore_n hx hb hd h1 (hK _ _ _ h3)
  | istore k => obtain ⟨rfl, h1, h2⟩ := h; obtain ⟨x, r, rfl, h3⟩ := zp1_inv h2; exact zs_istore hx hb hd h1 (hK _ _ _ h3)
  | lstore_n k => obtain ⟨rfl, h1, h2⟩ := h; obtain ⟨x, r, rfl, h3⟩ := zp1_inv h2; exact zs_lstore_n hx hb hd h1 (hK _ _ _ h3)
  | lstore k => obtain ⟨rfl, h1, h2⟩ := h; obtain ⟨x, r, rfl, h3⟩ := zp1_inv h2; exact zs_lstore hx hb hd h1 (hK _ _ _ h3)
  | astore_n k => obtain ⟨rfl, h1, h2⟩ := h; obtain ⟨v, r, rfl, h3, h4⟩ := zpv_inv h2; exact zs_astore_n hx hb hd h3 h1 (hK _ _ _ h4)
  | astore k => obtain ⟨rfl, h1, h2⟩ := h; obtain ⟨v, r, rfl, h3, h4⟩ := zpv_inv h2; exact zs_astore hx hb hd h3 h1 (hK _ _ _ h4)
  | iinc k x => obtain ⟨rfl, h1, h2, h3⟩ := h; exact zs_iinc hx hb hd h2 h1 (hK _ _ _ h3)
  | iadd => obtain ⟨rfl, h⟩ := h; obtain ⟨y, r, rfl, hh1⟩ := zp1_inv h; obtain ⟨x, r, rfl, hh2⟩ := zp1_inv hh1; exact zs_ii rfl (fun _ _ _ _ w => lv_iadd hx hb hd w) (hK _ _ _ hh2)
  | isub => obtain ⟨rfl, h⟩ := h; obtain ⟨y, r, rfl, hh1⟩ := zp1_inv h; obtain ⟨x, r, rfl, hh2⟩ := zp1_inv hh1; exact zs_ii rfl (fun _ _ _ _ w => lv_isub hx hb hd w) (hK _ _ _ hh2)
  | imul => obtain ⟨rfl, h⟩ := h; obtain ⟨y, r, rfl, hh1⟩ := zp1_inv h; obtain ⟨x, r, rfl, hh2⟩ := zp1_inv hh1; exact zs_ii rfl (fun _ _ _ _ w => lv_imul hx hb hd w) (hK _ _ _ hh2)
  | idiv =>
    obtain ⟨rfl, h⟩ := h; obtain ⟨y, r, rfl, hh1⟩ := zp1_inv h; obtain ⟨x, r, rfl, h0, hh2⟩ := zp1_inv hh1
    intro hm hs hl H locs L hP hD hL hS
    have hy := zhi hs
    exact zs_ii (st := r) (x := x) (y := y) rfl (fun _ _ _ _ w => lv_idiv hx hb hd (fun q => h0 ((zq_eq hy zR0).mp q)) w) (hK _ _ _ hh2) hm hs hl H locs L hP hD hL hS
  | irem =>
    obtain ⟨rfl, h⟩ := h; obtain ⟨y, r, rfl, hh1⟩ := zp1_inv h; obtain ⟨x, r, rfl, h0, hh2⟩ := zp1_inv hh1
    intro hm hs hl H locs L hP hD hL hS
    have hy := zhi hs
    exact zs_ii (st := r) (x := x) (y := y) rfl (fun _ _ _ _ w => lv_irem hx hb hd (fun q => h0 ((zq_eq hy zR0).mp q)) w) (hK _ _ _ hh2) hm hs hl H locs L hP hD hL hS
  | iand => obtain ⟨rfl, h⟩ := h; obtain ⟨y, r, rfl, hh1⟩ := zp1_inv h; obtain ⟨x, r, rfl, hh2⟩ := zp1_inv hh1; exact zs_ii rfl (fun _ _ _ _ w => lv_iand hx hb hd w) (hK _ _ _ hh2)
  | ior => obtain ⟨rfl, h⟩ := h; obtain ⟨y, r, rfl, hh1⟩ := zp1_inv h; obtain ⟨x, r, rfl, hh2⟩ := zp1_inv hh1; exact zs_ii rfl (fun _ _ _ _ w => lv_ior hx hb hd w) (hK _ _ _ hh2)
  | ixor => obtain ⟨rfl, h⟩ := h; obtain ⟨y, r, rfl, hh1⟩ := zp1_inv h; obtain ⟨x, r, rfl, hh2⟩ := zp1_inv hh1; exact zs_ii rfl (fun _ _ _ _ w => lv_ixor hx hb hd w) (hK _ _ _ hh2)
  | ishl => obtain ⟨rfl, h⟩ := h; obtain ⟨y, r, rfl, hh1⟩ := zp1_inv h; obtain ⟨x, r, rfl, hh2⟩ := zp1_inv hh1; exact zs_ii rfl (fun _ _ _ _ w => lv_ishl hx hb hd w) (hK _ _ _ hh2)
  | ishr => obtain ⟨rfl, h⟩ := h; obtain ⟨y, r, rfl, hh1⟩ := zp1_inv h; obtain ⟨x, r, rfl, hh2⟩ := zp1_inv hh1; exact zs_ii rfl (fun _ _ _ _ w => lv_ishr hx hb hd w) (hK _ _ _ hh2)
  | iushr => obtain ⟨rfl, h⟩ := h; obtain ⟨y, r, rfl, hh1⟩ := zp1_inv h; obtain ⟨x, r, rfl, hh2⟩ := zp1_inv hh1; exact zs_ii rfl (fun _ _ _ _ w => lv_iushr hx hb hd rfl w) (hK _ _ _ hh2)
  | ineg => obtain ⟨rfl, h⟩ := h; obtain ⟨x, r, rfl, hh1⟩ := zp1_inv h; exact zs_i1 rfl (fun _ _ _ _ w => lv_ineg hx hb hd w) (hK _ _ _ hh1)
  | i2b => obtain ⟨rfl, h⟩ := h; obtain ⟨x, r, rfl, hh1⟩ := zp1_inv h; exact zs_i1 rfl (fun _ _ _ _ w => lv_i2b hx hb hd rfl w) (hK _ _ _ hh1)
  | i2l => obtain ⟨rfl, h⟩ := h; obtain ⟨x, r, rfl, hh1⟩ := zp1_inv h; exact zs_i2l hx hb hd (hK _ _ _ hh1)
  | l2i => obtain ⟨rfl, h⟩ := h; obtain ⟨x, r, rfl, hh1⟩ := zp1_inv h; exact zs_l2i hx hb hd (hK _ _ _ hh1)
  | ladd => obtain ⟨rfl, h⟩ := h; obtain ⟨y, r, rfl, hh1⟩ := zp1_inv h; obtain ⟨x, r, rfl, hh2⟩ := zp1_inv hh1; exact zs_ll rfl (fun _ _ _ _ w => lv_ladd hx hb hd w) (hK _ _ _ hh2)
  | lmul => obtain ⟨rfl, h⟩ := h; obtain ⟨y, r, rfl, hh1⟩ := zp1_inv h; obtain ⟨x, r, rfl, hh2⟩ := zp1_inv hh1; exact zs_ll rfl (fun _ _ _ _ w => lv_lmul hx hb hd w) (hK _ _ _ hh2)
  | ldiv =>
    obtain ⟨rfl, h⟩ := h; obtain ⟨y, r, rfl, hh1⟩ := zp1_inv h; obtain ⟨x, r, rfl, h0, hh2⟩ := zp1_inv hh1
    intro hm hs hl H locs L hP hD hL hS
    have hy := zhl hs
    exact zs_ll (st := r) (x := x) (y := y) rfl (fun _ _ _ _ w => lv_ldiv hx hb hd (fun q => h0 (by rw [← zl_toInt hy, q]; rfl)) w) (hK _ _ _ hh2) hm hs hl H locs L hP hD hL hS
  | lrem =>
    obtain ⟨rfl, h⟩ := h; obtain ⟨y, r, rfl, hh1⟩ := zp1_inv h; obtain ⟨x, r, rfl, h0, hh2⟩ := zp1_inv hh1
    intro hm hs hl H locs L hP hD hL hS
    have hy := zhl hs
    exact zs_ll (st := r) (x := x) (y := y) rfl (fun _ _ _ _ w => lv_lrem hx hb hd (fun q => h0 (by rw [← zl_toInt hy, q]; rfl)) w) (hK _ _ _ hh2) hm hs hl H locs L hP hD hL hS
  | lcmp => obtain ⟨rfl, h⟩ := h; obtain ⟨y, r, rfl, hh1⟩ := zp1_inv h; obtain ⟨x, r, rfl, hh2⟩ := zp1_inv hh1; exact zs_lcmp hx hb hd (hK _ _ _ hh2)
  | dup => obtain ⟨rfl, h⟩ := h; obtain ⟨v, r, rfl, h1, hh1⟩ := zpv_inv h; exact zs_dup hx hb hd h1 (hK _ _ _ hh1)
  | pop => obtain ⟨rfl, h⟩ := h; obtain ⟨v, r, rfl, h1, hh1⟩ := zpv_inv h; exact zs_pop hx hb hd h1 (hK _ _ _ hh1)
  | dup2 => obtain ⟨rfl, h⟩ := h; obtain ⟨v, r, rfl, h1, hh1⟩ := zpv_inv h; obtain ⟨w, r, rfl, h2, hh2⟩ := zpv_inv hh1; exact zs_dup2 hx hb hd h1 h2 (hK _ _ _ hh2)
  | ifCond cd o =>
    obtain ⟨rfl, h0, h⟩ := h; obtain ⟨x, r, rfl, h1, h2⟩ := zp1_inv h
    exact zs_if (tgt := ((pc : Int) + o).toNat) hx hb hd (by omega) (fun q => hJ _ _ _ _ (h1 q)) (fun q => hK _ _ _ (h2 q))
  | if_icmp cd o =>
    obtain ⟨rfl, h0, h⟩ := h; obtain ⟨y, r, rfl, hh1⟩ := zp1_inv h; obtain ⟨x, r, rfl, h1, h2⟩ := zp1_inv hh1
    exact zs_icmp (tgt := ((pc : Int) + o).toNat) hx hb hd (by omega) (fun q => hJ _ _ _ _ (h1 q)) (fun q => hK _ _ _ (h2 q))
  | goto o => obtain ⟨rfl, h⟩ := h; obtain ⟨t, h1, h2⟩ := ztg_inv h; exact zs_goto hx hb hd h1 (hJ _ _ _ _ h2)
  | ifnonnull o => obtain ⟨rfl, h⟩ := h; obtain ⟨v, r, rfl, h1, hh1⟩ := zpv_inv h; obtain ⟨t, h2, h3⟩ := ztg_inv hh1; exact zs_ifnonnull hx hb hd h2 h1 (hJ _ _ _ _ h3)
  | ifnull o => obtain ⟨rfl, h⟩ := h; obtain ⟨v, r, rfl, h1, hh1⟩ := zpv_inv h; exact zs_ifnull hx hb hd h1 (hK _ _ _ hh1)
  | tableswitch d lo hi offs =>
    simp only [zwI] at h
    obtain ⟨x, r, rfl, h0, h1, h2⟩ := zp1_inv h
    by_cases ho : x < lo ∨ hi < x
    · obtain ⟨t, g1, g2⟩ := ztg_inv (h1 ho); exact zs_tableOut hx hb hd ho g1 (hJ _ _ _ _ g2)
    · have hlen : (offs.toList.length : Int) = hi - lo + 1 := by rw [Array.length_toList]; exact h0
      obtain ⟨o, g1, g2⟩ := zswT_inv h2 (by omega) (by omega)
      obtain ⟨t, g3, g4⟩ := ztg_inv g2
      exact zs_tableIn hx hb hd (by omega) (by omega) (by rw [← Array.getElem?_toList]; exact g1) g3 (hJ _ _ _ _ g4)
  | lookupswitch d ps =>
    simp only [zwI] at h
    obtain ⟨x, r, rfl, h0, h1⟩ := zp1_inv h
    obtain ⟨o, g1, g2⟩ := zswL_inv h1
    obtain ⟨t, g3, g4⟩ := ztg_inv g2
    exact zs_lookup hx hb hd h0 g1 g3 (hJ _ _ _ _ g4)
  | getfield k =>
    obtain ⟨rfl, h⟩ := h; obtain ⟨a, r, rfl, hh1⟩ := zp1_inv h
    obtain ⟨ci, f, z, h1, hh2⟩ := zpl_inv hh1
    obtain ⟨fs, t, h2, h3, h4, h5⟩ := zob_inv hh2
    obtain ⟨q, g1, g2, g3, g4, -, -⟩ := (hpl k _ _ _ _ h1).1 rfl
    refine zs_getfield hx hb hown hts (hcl ci q g1).1 hKv hd g1 ⟨g2, g3, ?_⟩ h2 h3 h4 (hK _ _ _ h5)
    rcases g4 with g4 | ⟨host, g4⟩
    · exact Or.inl (hts _ g4)
    · exact Or.inr ⟨host, va_Nw.use rfl (hG.2.1 _ g4 rfl)⟩
  | putfield k =>
    obtain ⟨rfl, h⟩ := h; obtain ⟨v, r, rfl, hh1⟩ := zp1_inv h; obtain ⟨a, r, rfl, hh2⟩ := zp1_inv hh1
    obtain ⟨ci, f, z, h1, hh3⟩ := zpl_inv hh2
    obtain ⟨fs, t, h2, h3, h4, h5⟩ := zob_inv hh3
    obtain ⟨q, g1, g2, g3, g4, g5, g6⟩ := (hpl k _ _ _ _ h1).1 rfl
    obtain ⟨c1, ty0, c2, c3⟩ := hcl ci q g1
    have hF : zFL own s args k q f := ⟨g2, g3, by
      rcases g4 with g4 | ⟨host, g4⟩
      · exact Or.inl (hts _ g4)
      · exact Or.inr ⟨host, va_Nw.use rfl (hG.2.1 _ g4 rfl)⟩⟩
    rcases h4 with ⟨t0, w1⟩ | ⟨t0, w1, v01⟩
    · exact zs_putfield hx hb hown hts c1 c2 c3 hKv hd g1 hF (g5 w1).1 h2 h3 (Or.inl ⟨t0, (g5 w1).2⟩) (hK _ _ _ h5)
    · exact zs_putfield hx hb hown hts c1 c2 c3 hKv hd g1 hF (g6 w1).1 h2 h3 (Or.inr ⟨t0, (g6 w1).2, v01⟩) (hK _ _ _ h5)
  | iaload =>
    obtain ⟨rfl, h⟩ := h; obtain ⟨i, r, rfl, hh1⟩ := zp1_inv h; obtain ⟨v, r, rfl, hh2⟩ := zpv_inv hh1
    obtain ⟨tg, a⟩ := v
    rcases hh2 with ⟨h0, hh2⟩ | ⟨h0, hh2⟩
    · dsimp only at h0; subst h0
      obtain ⟨N, ts, h1, h2, h3⟩ := zarr_inv hh2
      exact zs_iaload hx hb hKv hd h1 h2.1 h2.2 (hK _ _ _ h3)
    · dsimp only at h0 hh2; subst h0
      cases hv : zStV[a.toNat]? with
      | none => rw [hv] at hh2; exact hh2.elim
      | some vs =>
        rw [hv] at hh2
        obtain ⟨⟨h1, h2⟩, h3⟩ := hh2
        have hlt : a.toNat < zStN.length := (List.getElem?_eq_some_iff.mp hv).1
        have hT := (hG.2.2.1 a.toNat _ vs (List.getElem?_eq_getElem hlt) hv).2
        intro hm hs hl H locs L hP hD hL hS
        have hi := zhi hs
        have hok : zok (0, vs.getD i.toNat 0) := by
          have hall : ∀ us ∈ zStV, ∀ j, zR32 (us.getD j 0) := by
            intro us hus j
            have hb2 : ∀ us ∈ zStV, ∀ w ∈ us, 0 ≤ w ∧ w ≤ 9999 := by decide
            cases hj : us[j]? with
            | none => rw [List.getD_eq_getElem?_getD, hj]; exact zR0
            | some w => rw [List.getD_eq_getElem?_getD, hj]; have := hb2 us hus w (List.mem_of_getElem? hj); exact ⟨by show _ ≤ w; omega, by show w ≤ _; omega⟩
          exact zok_i' (hall vs (List.mem_of_getElem? hv) _)
        refine va_ti hx hb hT hS (zin hi h1 h2) (v := .int (Int32.ofInt (vs.getD i.toNat 0))) (by rw [zcl_i hi]) hd ?_
        exact hK _ _ _ h3 hm (zcons hok (ztl (ztl hs))) hl H locs L hP hD hL hS
  | laload => obtain ⟨rfl, h⟩ := h; obtain ⟨i, r, rfl, hh1⟩ := zp1_inv h; obtain ⟨a, r, rfl, hh2⟩ := zp1_inv hh1; obtain ⟨N, ts, h1, h2, h3⟩ := zarr_inv hh2; exact zs_laload hx hb hKv hd h1 h2.1 h2.2 (hK _ _ _ h3)
  | baload =>
    obtain ⟨rfl, h⟩ := h; obtain ⟨i, r, rfl, hh1⟩ := zp1_inv h; obtain ⟨a, r, rfl, hh2⟩ := zp1_inv hh1
    rcases hh2 with hh2 | hh2
    · obtain ⟨N, ts, h1, h2, h3⟩ := zarr_inv hh2; exact zs_zaload hx hb hKv hd h1 h2.1 h2.2 (hK _ _ _ h3)
    · obtain ⟨N, ts, h1, h2, h3⟩ := zarr_inv hh2; exact zs_baload hx hb hKv hd h1 h2.1 h2.2 (hK _ _ _ h3)
  | aaload =>
    obtain ⟨rfl, h⟩ := h; obtain ⟨i, r, rfl, hh1⟩ := zp1_inv h; obtain ⟨a, r, rfl, hh2⟩ := zp1_inv hh1
    obtain ⟨N, ts, h1, ⟨h2, h3, h4⟩, h5⟩ := zarr_inv hh2
    obtain ⟨t, g1, g2⟩ := zaa_inv h5 h2 (by rw [h4]; omega)
    exact zs_aaload hx hb hKv hd h1 h2 h3 (by simpa using g1) (hK _ _ _ g2)
  | iastore => obtain ⟨rfl, h⟩ := h; obtain ⟨v, r, rfl, hh1⟩ := zp1_inv h; obtain ⟨i, r, rfl, hh2⟩ := zp1_inv hh1; obtain ⟨a, r, rfl, hh3⟩ := zp1_inv hh2; obtain ⟨N, ts, h1, h2, h3⟩ := zarr_inv hh3; exact zs_iastore hx hb hKv hd h1 h2.1 h2.2 (hK _ _ _ h3)
  | lastore => obtain ⟨rfl, h⟩ := h; obtain ⟨v, r, rfl, hh1⟩ := zp1_inv h; obtain ⟨i, r, rfl, hh2⟩ := zp1_inv hh1; obtain ⟨a, r, rfl, hh3⟩ := zp1_inv hh2; obtain ⟨N, ts, h1, h2, h3⟩ := zarr_inv hh3; exact zs_lastore hx hb hKv hd h1 h2.1 h2.2 (hK _ _ _ h3)
  | bastore =>
    obtain ⟨rfl, h⟩ := h; obtain ⟨v, r, rfl, hh1⟩ := zp1_inv h; obtain ⟨i, r, rfl, hh2⟩ := zp1_inv hh1; obtain ⟨a, r, rfl, hh3⟩ := zp1_inv hh2
    rcases hh3 with hh3 | hh3
    · obtain ⟨N, ts, h1, h2, h3, h4⟩ := zarr_inv hh3; exact zs_zastore hx hb hKv hd h1 h2.1 h2.2 h3 (hK _ _ _ h4)
    · obtain ⟨N, ts, h1, h2, h3, h4⟩ := zarr_inv hh3; exact zs_bastore hx hb hKv hd h1 h2.1 h2.2 h3 (hK _ _ _ h4)
  | arraylength =>
    obtain ⟨rfl, h⟩ := h; obtain ⟨a, r, rfl, hh1⟩ := zp1_inv h
    rcases hh1 with hh1 | hh1
    · obtain ⟨N, ts, h1, h2, h3⟩ := zarr_inv hh1; exact zs_alen hx hb hKv hd h1 (Or.inl rfl) h2 (hK _ _ _ h3)
    · obtain ⟨N, ts, h1, h2, h3⟩ := zarr_inv hh1; exact zs_alen hx hb hKv hd h1 (Or.inr rfl) h2 (hK _ _ _ h3)
  | invokevirtual k => obtain ⟨rfl, h⟩ := h; exact zinv_sound (fun q hq => hcv k q hq) hd (fun st mem w => hK _ _ _ w) h
  | invokestatic k =>
    obtain ⟨rfl, h | h⟩ := h
    · exact zinv_sound (fun q hq => hcS k q hq) hd (fun st mem w => hK _ _ _ w) h
    · obtain ⟨x, y, z, h1, hh1⟩ := zpl_inv h
      obtain ⟨N, r, rfl, hh2⟩ := zp1_inv hh1; obtain ⟨dp, r, rfl, hh3⟩ := zp1_inv hh2; obtain ⟨b, r, rfl, hh4⟩ := zp1_inv hh3; obtain ⟨sp, r, rfl, hh5⟩ := zp1_inv hh4; obtain ⟨a, r, rfl, rfl, hh6⟩ := zp1_inv hh5
      obtain ⟨na, ta, g1, hh7⟩ := zarr_inv hh6
      obtain ⟨nb, tb, g2, ⟨k1, k2, k3, k4, k5⟩, hh8⟩ := zarr_inv hh7
      exact zs_arraycopy hx hb hml hown (hts _ ((hpl k _ _ _ _ h1).2.2.2.2.2 rfl)) (hts _ hsy.1) (hts _ hsy.2.1) (hts _ hsy.2.2) hKv hd g1 g2 k1 k2 k3 k4 k5 hR (hK _ _ _ hh8)
  | ireturn => obtain ⟨rfl, h⟩ := h; obtain ⟨v, r, rfl, rfl, h1, h2⟩ := zp1_inv h; exact hret.1 _ _ _ _ hd h1 h2
  | lreturn => obtain ⟨rfl, h⟩ := h; obtain ⟨v, r, rfl, rfl, h1, h2⟩ := zp1_inv h; exact hret.2.1 _ _ _ _ hd h1 h2
  | return_ => obtain ⟨rfl, rfl, h1, h2⟩ := h; exact hret.2.2 _ _ _ hd h1 h2
  | new k =>
    obtain ⟨rfl, h⟩ := h
    cases hq : thr pc with
    | none => rw [hq] at h; exact h.elim
    | some E => rw [hq] at h; exact hthr _ _ _ _ hq h
  | _ => exact h.elim
end ZX
