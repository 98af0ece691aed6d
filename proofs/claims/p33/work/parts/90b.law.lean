/-! ===== the law's own machine: its script, its calls ===== -/
def zlI (N : Nat) (xs : Nat → Int) (Λ : List zC) (pl : zPo) (cv cw : Nat → Option zCt) (RP : Int → zM → Prop) (nL : Nat) (i : Instr) (n pc k : Nat) (ls : zL) (st : List zV) (mem : zM) (J : Nat → zJ) (K : Nat → zL → List zV → zM → Prop) : Prop := match i with
  | .iaload => n = 1 ∧ zp1 0 st fun j r => zpv r fun a r => a = (3, 60) ∧ (0 ≤ j ∧ j < N) ∧ K k ls ((0, xs j.toNat) :: r) mem
  | .arraylength => n = 1 ∧ zpv st fun a r => a = (3, 60) ∧ K k ls ((0, (N : Int)) :: r) mem
  | .invokestatic q => n = 3 ∧ k < 3000 ∧ zinv Λ (cw q) st mem (K (k + 1) ls)
  | .invokevirtual q => n = 3 ∧ k < 3000 ∧ zinv Λ (cv q) st mem (K k ls)
  | i => zwI Λ pl (fun _ => none) (fun _ => none) 4 (fun v m => k ≤ 3000 ∧ RP v m) (fun _ => none) (fun _ _ => False) nL i n pc ls st mem (J k) (K k)
def zlrun (N : Nat) (xs : Nat → Int) (Λ : List zC) (pl : zPo) (cv cw : Nat → Option zCt) (RP : Int → zM → Prop) (nL : Nat) (J : Nat → zJ) : List (Instr × Nat) → Nat → Nat → zL → List zV → zM → Prop
  | [], k, pc, ls, st, mem => J k pc ls st mem
  | q :: r, k, pc, ls, st, mem => zlI N xs Λ pl cv cw RP nL q.1 q.2 pc k ls st mem J (fun k' ls' st' mem' => zlrun N xs Λ pl cv cw RP nL J r k' (pc + q.2) ls' st' mem')
/-- stretches, up to places where what must hold is told -/
def zlwp (N : Nat) (xs : Nat → Int) (Λ : List zC) (pl : zPo) (cv cw : Nat → Option zCt) (RP : Int → zM → Prop) (nL : Nat) (B : Nat → List (Instr × Nat)) (X : Nat → Option (Nat → zL → List zV → zM → Prop)) : Nat → Nat → Nat → zL → List zV → zM → Prop
  | 0 => fun _ _ _ _ _ => False
  | f + 1 => fun k pc ls st mem => zlrun N xs Λ pl cv cw RP nL (fun k' pc' ls' st' mem' => match X pc' with
      | some Jn => Jn k' ls' st' mem'
      | none => zlwp N xs Λ pl cv cw RP nL B X f k' pc' ls' st' mem') (B pc) k pc ls st mem
section ZLM
variable {p : Program} {l : Launch} {e : Env} {R : Room} {s : State} {m : MethodId} {args : Array Value} {below : List Frame} {meth : Method} {c : Code} {cells slots : Nat} {Q : State → Prop} {cc : ByteArray} {nL : Nat} {own : String} {Λ : List zC} {D : va_G} {ad sa sv : Nat → Nat} {cs : Nat → ClassId} {A : Nat → Prop} {pc : Nat} {ls : zL} {st : List zV} {mem : zM}
/-- a call that makes a cell more -/
def zCOW (p : Program) (l : Launch) (e : Env) (R : Room) (s : State) (m : MethodId) (args : Array Value) (below : List Frame) (meth : Method) (c : Code) (cells slots : Nat) (Q : State → Prop) (nL : Nat) (Λ : List zC) (D : va_G) (ad sa : Nat → Nat) (cs : Nat → ClassId) (A : Nat → Prop) (cc : ByteArray) (i : Instr) (tags : List Nat) (rt : Nat) (pre : List Int → zM → Prop) (post : List Int → zM → Int → zM → Prop) : Prop :=
  ∀ (pc : Nat) (ls : zL) (vs : List Int) (rest : List zV) (mem : zM), decode cc pc = .ok (i, 3) → vs.length = tags.length → pre vs mem → zcats rest ≤ 8 →
    (∀ (r : Int) (mem' : zM), zrt rt r → zokM Λ mem' → post vs mem r mem' → zAW p l e R s m args below meth c (cells + 1) (slots + 6) Q nL Λ D ad sa cs A (pc + 3) ls (zres rt r rest) mem') → zAW p l e R s m args below meth c cells slots Q nL Λ D ad sa cs A  pc ls ((tags.zip vs).reverse ++ rest) mem
theorem zwordsW {y : MethodName} {code : ByteArray} {maxL : Nat} {ret : Option FieldType} {hh : List (Nat × Nat × Nat × Nat)} (hts : ∀ w ∈ zTbl, w.before args s = true) (hc : Cond.codeWith y code maxL ret hh ∈ zTbl) : ∀ w ∈ Cond.codeWith y code maxL ret hh :: zTbl, ∀ (a' : Array Value) (U : State), s.WarmedH U.vm → w.before a' U = true := by
  intro w hw a' U hW
  have hw' : w ∈ zTbl := by rcases List.mem_cons.mp hw with r | r; rw [r]; exact hc; exact r
  exact word_at hW (good_of_word (List.mem_filter.mp hw').2) (hts w hw')
theorem zcall_W {y : MethodName} {code : ByteArray} {maxL lv idx : Nat} {hh : List (Nat × Nat × Nat × Nat)} {tags : List Nat} {pre : List Int → zM → Prop} {post : List Int → zM → Int → zM → Prop}
    (S : CallFix p m c cc nL s args zTbl own) (hG : zGl D cs sa sv A s) (hGx : zGx A s) (hA : ∀ q, s.heap.size ≤ q → A q) (hltr : l.stackTraces = false) (hM : zMetW l Λ y code maxL hh lv tags pre post) (hnm : zNm y tags.length) (hcode : Cond.codeWith y code maxL (some .int) hh ∈ zTbl) (hini : Cond.initialized y.cls ∈ zTbl) (hst : Cond.static y ∈ zTbl) (hlk : Cond.methodLink own idx y ∈ zTbl)
    (hR : lv + 14 + 1 ≤ R.frames ∧ 8 + (maxL + 11) + (40 * lv + 900) ≤ R.locals) (hf : cells + 1 ≤ R.cells ∧ slots + 6 ≤ R.slots) : zCOW p l e R s m args below meth c cells slots Q nL Λ D ad sa cs A cc (.invokestatic idx) tags 0 pre post := by
  intro pc ls vs rest mem hd hlen hpre hcat kk
  intro hm hs hl H locs L hP hD hL hS
  obtain ⟨hsv, hsr⟩ := zrev hs
  have hAs := zA_sub (s := s) hD hS hA
  have hM' := hM D ad sa sv cs H.size vs mem hltr hlen hsv hm hpre
  have hn : ((tags.zip vs).map (zE ad sa)).length = tags.length := by rw [List.length_map, List.length_zip, hlen, Nat.min_self]
  have hstk : (((tags.zip vs).reverse ++ rest).map (zE ad sa)) = ((tags.zip vs).map (zE ad sa)).reverse ++ rest.map (zE ad sa) := by
    rw [List.map_append, List.map_reverse]
  have hp : PreS s H (zPreX Λ D ad sa sv cs H.size (tags.zip vs) mem) ((tags.zip vs).map (zE ad sa)) :=
    ⟨zPreX_blind, fun U hU hW => zPreX_at hG hGx hP hD hS hAs hU hW⟩
  have hcw : 2 * (F0 m pc L (((tags.zip vs).reverse ++ rest).map (zE ad sa))).monitorRoom + ((rest.map (zE ad sa)).map fun v => v.category).sum ≤ 8 := lv_room (by rw [zcats_E]; exact hcat)
  obtain ⟨hx, hb, hml, hown, hts⟩ := id S
  have hr := vx_runSW (e := e) (below := below) (meth := meth) (cells := cells) (slots := slots) (locs := locs) (g := F0 m pc L (((tags.zip vs).reverse ++ rest).map (zE ad sa))) S hM' ⟨⟨rfl, rfl, hR.1, hR.2, zwordsW hts hcode, List.mem_cons_self⟩, hts _ hcode, hts _ hini, hnm.1, zparams hnm.2, hts _ hlk, hts _ hst⟩ hp rfl hn hL.1 hstk hcw hd hf
  unfold zQ at hr
  rw [if_neg (by decide), if_neg (by decide)] at hr
  refine va_calli hr hS (fun q _ h => hAs q h) hAs (fun r mem' t H1 locs1 ht _ hp hB _ _ hS1 => ?_)
  have h := kk r.toInt mem' (by rw [zrt, if_neg (by decide), if_neg (by decide)]; exact zi_rng r) hp.2 hp.1
  unfold zres at h
  rw [if_neg (by decide), if_neg (by decide)] at h
  have g := h hp.2 (zcons (zok_i r) hsr) hl H1 locs1 L (by rw [← ht]; exact hB) (zWd_D hD) hL hS1
  rw [List.map_cons, zE_i] at g
  exact g
/-- the script: its length, its numbers -/
theorem zs_slen {b N : Nat} {ys : Nat → Int32} (hx : p.tables.exec = Jvm.exec) (hb : c.code = cc) (hX : va_X b N ys s s.heap) (hbl : b < s.heap.size) (hbA : ¬ A b) (hsa : sa 60 = b) (hN : N ≤ 3072) (hd : decode cc pc = .ok (.arraylength, 1)) (kk : zAW p l e R s m args below meth c cells slots Q nL Λ D ad sa cs A  (pc + 1) ls ((0, (N : Int)) :: st) mem) : zAW p l e R s m args below meth c cells slots Q nL Λ D ad sa cs A  pc ls ((3, 60) :: st) mem := by
  intro hm hs hl H locs L hP hD hL hS
  have h := kk hm (zcons (zok_i' ⟨by omega, by omega⟩) (ztl hs)) hl H locs L hP hD hL hS
  have eN : Int32.ofNat N = Int32.ofInt (N : Int) := (Int32.ofInt_eq_ofNat (n := N)).symm
  show W p l e R s m args below meth c  H locs cells slots Q (F0 m pc L (.ref (sa 60) :: st.map (zE ad sa)))
  rw [hsa]
  refine va_slen hx hb hX hbl hbA hS hd ?_
  rw [eN]; exact h
theorem zs_sld {b N : Nat} {ys : Nat → Int32} {j : Int} (hx : p.tables.exec = Jvm.exec) (hb : c.code = cc) (hX : va_X b N ys s s.heap) (hbl : b < s.heap.size) (hbA : ¬ A b) (hsa : sa 60 = b) (h0 : 0 ≤ j) (h1 : j < N) (hd : decode cc pc = .ok (.iaload, 1)) (kk : zAW p l e R s m args below meth c cells slots Q nL Λ D ad sa cs A  (pc + 1) ls ((0, (ys j.toNat).toInt) :: st) mem) : zAW p l e R s m args below meth c cells slots Q nL Λ D ad sa cs A  pc ls ((0, j) :: (3, 60) :: st) mem := by
  intro hm hs hl H locs L hP hD hL hS
  have hi := zhi hs
  have h := kk hm (zcons (zok_i _) (ztl (ztl hs))) hl H locs L hP hD hL hS
  show W p l e R s m args below meth c  H locs cells slots Q (F0 m pc L (.int (Int32.ofInt j) :: .ref (sa 60) :: st.map (zE ad sa)))
  rw [hsa]
  refine va_sld hx hb hX hbl hbA hS (zin hi h0 h1) hd ?_
  rw [zcl_i hi]
  rw [List.map_cons, zE_i] at h
  exact h
/-- what the law's frame stands on -/
def zLc (p : Program) (l : Launch) (e : Env) (R : Room) (s : State) (m : MethodId) (args : Array Value) (below : List Frame) (meth : Method) (c : Code) (c0 s0 : Nat) (Q : State → Prop) (nL : Nat) (Λ : List zC) (D : va_G) (ad sa sv : Nat → Nat) (cs : Nat → ClassId) (A : Nat → Prop) (cc : ByteArray) (own : String) (b N : Nat) (ys : Nat → Int32) (pl : zPo) (cv cw : Nat → Option zCt) (RP : Int → zM → Prop) : Prop :=
  CallFix p m c cc nL s args zTbl own ∧ zGl D cs sa sv A s ∧ zPlok own pl ∧ (1 ≤ R.frames ∧ 30 ≤ R.locals) ∧
  (∀ k i q, k < 3000 → cv i = some q → zCOK p l e R s m args below meth c (c0 + k) (s0 + 6 * k) nL Λ D ad sa cs A cc (.invokevirtual i) q.1 q.2.1 q.2.2.1 q.2.2.2) ∧
  (∀ k i q, k < 3000 → cw i = some q → zCOW p l e R s m args below meth c (c0 + k) (s0 + 6 * k) Q nL Λ D ad sa cs A cc (.invokestatic i) q.1 q.2.1 q.2.2.1 q.2.2.2) ∧
  (∀ k, zRet p l e R s m args below meth c (c0 + k) (s0 + 6 * k) Q nL Λ D ad sa cs A cc 4 (fun v m => k ≤ 3000 ∧ RP v m)) ∧ va_X b N ys s s.heap ∧ b < s.heap.size ∧ ¬ A b ∧ sa 60 = b ∧ N ≤ 3072
theorem zlI_sound {c0 s0 b N : Nat} {ys : Nat → Int32} {pl : zPo} {cv cw : Nat → Option zCt} {RP : Int → zM → Prop} {k : Nat} (hcl : zClok) (hsy : zSyok) (C : zLc p l e R s m args below meth c c0 s0 Q nL Λ D ad sa sv cs A cc own b N ys pl cv cw RP)
    {J : Nat → zJ} (hJ : ∀ k pc ls st mem, J k pc ls st mem → zAW p l e R s m args below meth c (c0 + k) (s0 + 6 * k) Q nL Λ D ad sa cs A pc ls st mem) {i : Instr} {n : Nat} {K : Nat → zL → List zV → zM → Prop} (hd : decode cc pc = .ok (i, n)) (hK : ∀ k ls st mem, K k ls st mem → zAW p l e R s m args below meth c (c0 + k) (s0 + 6 * k) Q nL Λ D ad sa cs A (pc + n) ls st mem) (h : zlI N (fun j => (ys j).toInt) Λ pl cv cw RP nL i n pc k ls st mem J K) : zAW p l e R s m args below meth c (c0 + k) (s0 + 6 * k) Q nL Λ D ad sa cs A pc ls st mem := by
  obtain ⟨S, hG, hpl, hR, hcv, hcw, hret, hX, hbl, hbA, hsa, hN⟩ := C
  obtain ⟨hx, hb, hml, hown, hts⟩ := id S
  have gen : zwI Λ pl (fun _ => none) (fun _ => none) 4 (fun v m => k ≤ 3000 ∧ RP v m) (fun _ => none) (fun _ _ => False) nL i n pc ls st mem (J k) (K k) → zAW p l e R s m args below meth c (c0 + k) (s0 + 6 * k) Q nL Λ D ad sa cs A pc ls st mem := fun h =>
    zwI_sound S hG hpl hcl hsy hR (fun _ _ h => by cases h) (fun _ _ h => by cases h) (hret k) (fun _ _ _ _ h => by cases h) (fun pc ls st mem w => hJ k pc ls st mem w) hd (fun ls st mem w => hK k ls st mem w) h
  cases i
  case iaload =>
    obtain ⟨rfl, h⟩ := h
    match st, h with
    | [(t, j)], h => exact h.2.elim
    | (t, j) :: a :: r, h =>
      obtain ⟨ht, rfl, ⟨h0, h1⟩, h2⟩ := h
      obtain rfl : t = 0 := ht
      exact zs_sld hx hb hX hbl hbA hsa h0 h1 hd (hK k _ _ _ h2)
  case arraylength =>
    obtain ⟨rfl, h⟩ := h
    match st, h with
    | a :: r, h =>
      obtain ⟨rfl, h2⟩ := h
      exact zs_slen hx hb hX hbl hbA hsa hN hd (hK k _ _ _ h2)
  case invokevirtual q =>
    obtain ⟨rfl, hk, h⟩ := h
    exact zinv_sound (fun z hz => hcv k q z hk hz) hd (fun st mem w => hK k _ _ _ w) h
  case invokestatic q =>
    obtain ⟨rfl, hk, h⟩ := h
    cases hq : cw q with
    | none => rw [hq] at h; exact h.elim
    | some z =>
      rw [hq] at h
      obtain ⟨g1, g2, g3, g4⟩ := h
      have hvl : (((st.take z.1.length).map (·.2)).reverse).length = z.1.length := by
        have := congrArg List.length g1
        simp only [List.length_map, List.length_reverse] at this ⊢
        exact this
      have hz : (z.1.zip ((st.take z.1.length).map (·.2)).reverse).reverse = st.take z.1.length := by
        have e1 : z.1 = ((st.take z.1.length).reverse).map (·.1) := by rw [List.map_reverse, g1, List.reverse_reverse]
        have e2 : ((st.take z.1.length).map (·.2)).reverse = ((st.take z.1.length).reverse).map (·.2) := by rw [List.map_reverse]
        rw [e2]
        conv => lhs; arg 1; arg 1; rw [e1]
        rw [zzip, List.reverse_reverse]
      have f1 : c0 + (k + 1) = c0 + k + 1 := by omega
      have f2 : s0 + 6 * (k + 1) = s0 + 6 * k + 6 := by omega
      have := hcw k q z hk hq pc ls _ (st.drop z.1.length) mem hd hvl g3 g2 (fun r mem' a b c => by
        have w := hK (k + 1) _ _ _ (g4 r mem' a b c)
        rw [f1, f2] at w
        exact w)
      rw [hz, List.take_append_drop] at this
      exact this
  all_goals exact gen h
theorem zlrun_sound {c0 s0 b N : Nat} {ys : Nat → Int32} {pl : zPo} {cv cw : Nat → Option zCt} {RP : Int → zM → Prop} (hcl : zClok) (hsy : zSyok) (C : zLc p l e R s m args below meth c c0 s0 Q nL Λ D ad sa sv cs A cc own b N ys pl cv cw RP)
    {J : Nat → zJ} (hJ : ∀ k pc ls st mem, J k pc ls st mem → zAW p l e R s m args below meth c (c0 + k) (s0 + 6 * k) Q nL Λ D ad sa cs A pc ls st mem) : ∀ (bl : List (Instr × Nat)) (k pc : Nat) (ls : zL) (st : List zV) (mem : zM), zdec cc pc bl → zlrun N (fun j => (ys j).toInt) Λ pl cv cw RP nL J bl k pc ls st mem → zAW p l e R s m args below meth c (c0 + k) (s0 + 6 * k) Q nL Λ D ad sa cs A pc ls st mem := by
  intro bl
  induction bl with
  | nil => intro k pc ls st mem _ h; exact hJ _ _ _ _ _ h
  | cons q r ih =>
    intro k pc ls st mem hd h
    exact zlI_sound hcl hsy C hJ hd.1 (fun k' ls' st' mem' w => ih _ _ _ _ _ hd.2 w) h
theorem zlwp_sound {c0 s0 b N : Nat} {ys : Nat → Int32} {pl : zPo} {cv cw : Nat → Option zCt} {RP : Int → zM → Prop} (hcl : zClok) (hsy : zSyok) (C : zLc p l e R s m args below meth c c0 s0 Q nL Λ D ad sa sv cs A cc own b N ys pl cv cw RP)
    {B : Nat → List (Instr × Nat)} (hB : ∀ pc, zdec cc pc (B pc)) {X : Nat → Option (Nat → zL → List zV → zM → Prop)} (hX : ∀ pc Jn, X pc = some Jn → ∀ k ls st mem, Jn k ls st mem → zAW p l e R s m args below meth c (c0 + k) (s0 + 6 * k) Q nL Λ D ad sa cs A pc ls st mem) : ∀ (f k pc : Nat) (ls : zL) (st : List zV) (mem : zM), zlwp N (fun j => (ys j).toInt) Λ pl cv cw RP nL B X f k pc ls st mem → zAW p l e R s m args below meth c (c0 + k) (s0 + 6 * k) Q nL Λ D ad sa cs A pc ls st mem := by
  intro f
  induction f with
  | zero => intro k pc ls st mem h; exact h.elim
  | succ f ih =>
    intro k pc ls st mem h
    refine zlrun_sound hcl hsy C (fun k' pc' ls' st' mem' w => ?_) (B pc) k pc ls st mem (hB pc) h
    cases hq : X pc' with
    | none => rw [hq] at w; exact ih _ _ _ _ _ w
    | some Jn => rw [hq] at w; exact hX _ _ hq _ _ _ _ w
end ZLM
/-- heads with a number that falls -/
abbrev zlH : Type := Nat → Option (Nat → Nat → zL → List zV → zM → Prop)
def zlBelow (I : zlH) (n : Nat) : Nat → Option (Nat → zL → List zV → zM → Prop) := fun pc => (I pc).map fun J k ls st mem => ∃ n', n' < n ∧ J n' k ls st mem
def zlHf (L : List (Nat × (Nat → Nat → zL → List zV → zM → Prop))) : zlH := fun pc => (L.find? (fun q => q.1 == pc)).map (·.2)
theorem zlloops {p : Program} {l : Launch} {e : Env} {R : Room} {s : State} {m : MethodId} {args : Array Value} {below : List Frame} {meth : Method} {c : Code} {Q : State → Prop} {cc : ByteArray} {nL : Nat} {own : String} {Λ : List zC} {D : va_G} {ad sa sv : Nat → Nat} {cs : Nat → ClassId} {A : Nat → Prop} {c0 s0 b N : Nat} {ys : Nat → Int32} {pl : zPo} {cv cw : Nat → Option zCt} {RP : Int → zM → Prop} (hcl : zClok) (hsy : zSyok) (C : zLc p l e R s m args below meth c c0 s0 Q nL Λ D ad sa sv cs A cc own b N ys pl cv cw RP)
    {B : Nat → List (Instr × Nat)} (hB : ∀ pc, zdec cc pc (B pc)) {I : zlH} {F : Nat} (hI : ∀ pc J, I pc = some J → ∀ n k ls st mem, zokM Λ mem → (∀ j, zok (ls j)) → J n k ls st mem → zlwp N (fun j => (ys j).toInt) Λ pl cv cw RP nL B (zlBelow I n) F k pc ls st mem) :
    ∀ (n pc : Nat) (J : Nat → Nat → zL → List zV → zM → Prop), I pc = some J → ∀ k ls st mem, J n k ls st mem → zAW p l e R s m args below meth c (c0 + k) (s0 + 6 * k) Q nL Λ D ad sa cs A pc ls st mem := by
  intro n
  induction n using Nat.strongRecOn with
  | _ n ih =>
    intro pc J hJ k ls st mem h hm hs hl
    refine zlwp_sound hcl hsy C hB (X := zlBelow I n) (fun pc' Jn hq k' ls' st' mem' w => ?_) F k pc ls st mem (hI pc J hJ n k ls st mem hm hl h) hm hs hl
    unfold zlBelow at hq
    cases hi : I pc' with
    | none => rw [hi] at hq; cases hq
    | some J' =>
      rw [hi] at hq
      cases hq
      obtain ⟨n', h1, h2⟩ := w
      exact ih n' h1 pc' J' hi k' ls' st' mem' h2
/-! ===== its unfolding ===== -/
def zlgo (N : Nat) (xs : Nat → Int) (Λ : List zC) (pl : zPo) (cv cw : Nat → Option zCt) (RP : Int → zM → Prop) (nL : Nat) (B : Nat → List (Instr × Nat)) (X : Nat → Option (Nat → zL → List zV → zM → Prop)) (f : Nat) : Nat → zJ := fun k pc ls st mem => match X pc with
  | some Jn => Jn k ls st mem
  | none => zlwp N xs Λ pl cv cw RP nL B X f k pc ls st mem
section ZLU
variable (N : Nat) (xs : Nat → Int) (Λ : List zC) (pl : zPo) (cv cw : Nat → Option zCt) (RP : Int → zM → Prop) (nL : Nat) (B : Nat → List (Instr × Nat))
theorem zlwp_s (X : Nat → Option (Nat → zL → List zV → zM → Prop)) (f k pc : Nat) (ls : zL) (st : List zV) (mem : zM) : zlwp N xs Λ pl cv cw RP nL B X (f + 1) k pc ls st mem = zlrun N xs Λ pl cv cw RP nL (zlgo N xs Λ pl cv cw RP nL B X f) (B pc) k pc ls st mem := rfl
theorem zlrun_n (J : Nat → zJ) (k pc : Nat) (ls : zL) (st : List zV) (mem : zM) : zlrun N xs Λ pl cv cw RP nL J [] k pc ls st mem = J k pc ls st mem := rfl
theorem zlrun_c (J : Nat → zJ) (i : Instr) (n : Nat) (r : List (Instr × Nat)) (k pc : Nat) (ls : zL) (st : List zV) (mem : zM) : zlrun N xs Λ pl cv cw RP nL J ((i, n) :: r) k pc ls st mem = zlI N xs Λ pl cv cw RP nL i n pc k ls st mem J (fun k' ls' st' mem' => zlrun N xs Λ pl cv cw RP nL J r k' (pc + n) ls' st' mem') := rfl
def zlgB (n : Nat) (X : Nat → Option (Nat → zL → List zV → zM → Prop)) (f : Nat) : List (Nat × (Nat → Nat → zL → List zV → zM → Prop)) → Nat → zJ
  | [], k, pc, ls, st, mem => zlwp N xs Λ pl cv cw RP nL B X f k pc ls st mem
  | q :: r, k, pc, ls, st, mem => if q.1 = pc then ∃ n', n' < n ∧ q.2 n' k ls st mem else zlgB n X f r k pc ls st mem
theorem zlgo_b (n : Nat) (L : List (Nat × (Nat → Nat → zL → List zV → zM → Prop))) (f k pc : Nat) (ls : zL) (st : List zV) (mem : zM) : zlgo N xs Λ pl cv cw RP nL B (zlBelow (zlHf L) n) f k pc ls st mem = zlgB N xs Λ pl cv cw RP nL B n (zlBelow (zlHf L) n) f L k pc ls st mem := by
  unfold zlgo
  generalize hX : zlBelow (zlHf L) n = X
  have hX' : X pc = zlBelow (zlHf L) n pc := by rw [hX]
  rw [hX']
  clear hX hX'
  unfold zlBelow zlHf
  induction L with
  | nil => rfl
  | cons q r ih =>
    unfold zlgB
    by_cases h : q.1 = pc
    · rw [if_pos h, List.find?_cons, show (q.1 == pc) = true from beq_iff_eq.mpr h]
      rfl
    · rw [if_neg h, List.find?_cons, show (q.1 == pc) = false from beq_eq_false_iff_ne.mpr h]
      exact ih
theorem zlgB_n (n : Nat) (X : Nat → Option (Nat → zL → List zV → zM → Prop)) (f k pc : Nat) (ls : zL) (st : List zV) (mem : zM) : zlgB N xs Λ pl cv cw RP nL B n X f [] k pc ls st mem = zlwp N xs Λ pl cv cw RP nL B X f k pc ls st mem := rfl
theorem zlgB_c (n : Nat) (X : Nat → Option (Nat → zL → List zV → zM → Prop)) (f j : Nat) (J : Nat → Nat → zL → List zV → zM → Prop) (r : List (Nat × (Nat → Nat → zL → List zV → zM → Prop))) (k pc : Nat) (ls : zL) (st : List zV) (mem : zM) : zlgB N xs Λ pl cv cw RP nL B n X f ((j, J) :: r) k pc ls st mem = if j = pc then ∃ n', n' < n ∧ J n' k ls st mem else zlgB N xs Λ pl cv cw RP nL B n X f r k pc ls st mem := rfl
variable (n pc k : Nat) (ls : zL) (st : List zV) (mem : zM) (J : Nat → zJ) (K : Nat → zL → List zV → zM → Prop)
theorem zl_iaload : zlI N xs Λ pl cv cw RP nL .iaload n pc k ls st mem J K = (n = 1 ∧ zp1 0 st fun j r => zpv r fun a r => a = (3, 60) ∧ (0 ≤ j ∧ j < N) ∧ K k ls ((0, xs j.toNat) :: r) mem) := rfl
theorem zl_arraylength : zlI N xs Λ pl cv cw RP nL .arraylength n pc k ls st mem J K = (n = 1 ∧ zpv st fun a r => a = (3, 60) ∧ K k ls ((0, (N : Int)) :: r) mem) := rfl
theorem zl_invokestatic (q : Nat) : zlI N xs Λ pl cv cw RP nL (.invokestatic q) n pc k ls st mem J K = (n = 3 ∧ k < 3000 ∧ zinv Λ (cw q) st mem (K (k + 1) ls)) := rfl
theorem zl_iconst (x : Int) : zlI N xs Λ pl cv cw RP nL (.iconst x) n pc k ls st mem J K = zwI Λ pl (fun _ => none) (fun _ => none) 4 (fun v m => k ≤ 3000 ∧ RP v m) (fun _ => none) (fun _ _ => False) nL (.iconst x) n pc ls st mem (J k) (K k) := rfl
theorem zl_bipush (x : Int) : zlI N xs Λ pl cv cw RP nL (.bipush x) n pc k ls st mem J K = zwI Λ pl (fun _ => none) (fun _ => none) 4 (fun v m => k ≤ 3000 ∧ RP v m) (fun _ => none) (fun _ _ => False) nL (.bipush x) n pc ls st mem (J k) (K k) := rfl
theorem zl_iload (x : Nat) : zlI N xs Λ pl cv cw RP nL (.iload x) n pc k ls st mem J K = zwI Λ pl (fun _ => none) (fun _ => none) 4 (fun v m => k ≤ 3000 ∧ RP v m) (fun _ => none) (fun _ _ => False) nL (.iload x) n pc ls st mem (J k) (K k) := rfl
theorem zl_aload_n (x : Fin 4) : zlI N xs Λ pl cv cw RP nL (.aload_n x) n pc k ls st mem J K = zwI Λ pl (fun _ => none) (fun _ => none) 4 (fun v m => k ≤ 3000 ∧ RP v m) (fun _ => none) (fun _ _ => False) nL (.aload_n x) n pc ls st mem (J k) (K k) := rfl
theorem zl_isub : zlI N xs Λ pl cv cw RP nL (.isub) n pc k ls st mem J K = zwI Λ pl (fun _ => none) (fun _ => none) 4 (fun v m => k ≤ 3000 ∧ RP v m) (fun _ => none) (fun _ _ => False) nL (.isub) n pc ls st mem (J k) (K k) := rfl
theorem zl_iadd : zlI N xs Λ pl cv cw RP nL (.iadd) n pc k ls st mem J K = zwI Λ pl (fun _ => none) (fun _ => none) 4 (fun v m => k ≤ 3000 ∧ RP v m) (fun _ => none) (fun _ _ => False) nL (.iadd) n pc ls st mem (J k) (K k) := rfl
theorem zl_iand : zlI N xs Λ pl cv cw RP nL (.iand) n pc k ls st mem J K = zwI Λ pl (fun _ => none) (fun _ => none) 4 (fun v m => k ≤ 3000 ∧ RP v m) (fun _ => none) (fun _ _ => False) nL (.iand) n pc ls st mem (J k) (K k) := rfl
theorem zl_pop : zlI N xs Λ pl cv cw RP nL (.pop) n pc k ls st mem J K = zwI Λ pl (fun _ => none) (fun _ => none) 4 (fun v m => k ≤ 3000 ∧ RP v m) (fun _ => none) (fun _ _ => False) nL (.pop) n pc ls st mem (J k) (K k) := rfl
theorem zl_if_icmp (x : ClassFile.Cond) (y : Int) : zlI N xs Λ pl cv cw RP nL (.if_icmp x y) n pc k ls st mem J K = zwI Λ pl (fun _ => none) (fun _ => none) 4 (fun v m => k ≤ 3000 ∧ RP v m) (fun _ => none) (fun _ _ => False) nL (.if_icmp x y) n pc ls st mem (J k) (K k) := rfl
theorem zl_ifCond (x : ClassFile.Cond) (y : Int) : zlI N xs Λ pl cv cw RP nL (.ifCond x y) n pc k ls st mem J K = zwI Λ pl (fun _ => none) (fun _ => none) 4 (fun v m => k ≤ 3000 ∧ RP v m) (fun _ => none) (fun _ _ => False) nL (.ifCond x y) n pc ls st mem (J k) (K k) := rfl
theorem zl_goto (x : Int) : zlI N xs Λ pl cv cw RP nL (.goto x) n pc k ls st mem J K = zwI Λ pl (fun _ => none) (fun _ => none) 4 (fun v m => k ≤ 3000 ∧ RP v m) (fun _ => none) (fun _ _ => False) nL (.goto x) n pc ls st mem (J k) (K k) := rfl
theorem zl_tableswitch (d lo hi : Int) (os : Array Int) : zlI N xs Λ pl cv cw RP nL (.tableswitch d lo hi os) n pc k ls st mem J K = zwI Λ pl (fun _ => none) (fun _ => none) 4 (fun v m => k ≤ 3000 ∧ RP v m) (fun _ => none) (fun _ _ => False) nL (.tableswitch d lo hi os) n pc ls st mem (J k) (K k) := rfl
theorem zl_invokevirtual (x : Nat) : zlI N xs Λ pl cv cw RP nL (.invokevirtual x) n pc k ls st mem J K = (n = 3 ∧ k < 3000 ∧ zinv Λ (cv x) st mem (K k ls)) := rfl
theorem zl_istore (x : Nat) : zlI N xs Λ pl cv cw RP nL (.istore x) n pc k ls st mem J K = zwI Λ pl (fun _ => none) (fun _ => none) 4 (fun v m => k ≤ 3000 ∧ RP v m) (fun _ => none) (fun _ _ => False) nL (.istore x) n pc ls st mem (J k) (K k) := rfl
theorem zl_istore_n (x : Fin 4) : zlI N xs Λ pl cv cw RP nL (.istore_n x) n pc k ls st mem J K = zwI Λ pl (fun _ => none) (fun _ => none) 4 (fun v m => k ≤ 3000 ∧ RP v m) (fun _ => none) (fun _ _ => False) nL (.istore_n x) n pc ls st mem (J k) (K k) := rfl
theorem zl_iinc (x : Nat) (y : Int) : zlI N xs Λ pl cv cw RP nL (.iinc x y) n pc k ls st mem J K = zwI Λ pl (fun _ => none) (fun _ => none) 4 (fun v m => k ≤ 3000 ∧ RP v m) (fun _ => none) (fun _ _ => False) nL (.iinc x y) n pc ls st mem (J k) (K k) := rfl
theorem zl_ireturn : zlI N xs Λ pl cv cw RP nL (.ireturn) n pc k ls st mem J K = zwI Λ pl (fun _ => none) (fun _ => none) 4 (fun v m => k ≤ 3000 ∧ RP v m) (fun _ => none) (fun _ _ => False) nL (.ireturn) n pc ls st mem (J k) (K k) := rfl
end ZLU
