theorem zfi0 : ((0 : Fin 4).val) = 0 := rfl
theorem zfi1 : ((1 : Fin 4).val) = 1 := rfl
theorem zfi2 : ((2 : Fin 4).val) = 2 := rfl
theorem zfi3 : ((3 : Fin 4).val) = 3 := rfl
theorem zcast (n : Nat) : ((no_index (OfNat.ofNat n) : Nat) : Int) = OfNat.ofNat n := rfl
/-- a contract's start: the receiver is one of these cells -/
def zPr (ids : List Int) (P : List Int → zM → Prop) : List Int → zM → Prop := fun vs mem => match vs with
  | [] => False
  | a :: tv => a ∈ ids ∧ P (a :: tv) mem
theorem zPr_c (ids : List Int) (P : List Int → zM → Prop) (a : Int) (tv : List Int) (mem : zM) : zPr ids P (a :: tv) mem = (a ∈ ids ∧ P (a :: tv) mem) := rfl
def zIs (ids : List Int) (ci : Nat) : Bool := ids.all fun a => match zLay[a.toNat]? with
  | some κ => decide (κ.1 = 0) && decide (κ.2.1 = ci)
  | none => false
theorem zPr_recv {ids : List Int} {ci : Nat} {P : List Int → zM → Prop} (h : zIs ids ci = true) : ∀ vs mem, zPr ids P vs mem → ∃ (a : Int) (tv : List Int) (fs : List (Nat × Nat)), vs = a :: tv ∧ zLay[a.toNat]? = some (0, ci, fs) := by
  intro vs mem hp
  cases vs with
  | nil => exact hp.elim
  | cons a tv =>
    have h1 := List.all_eq_true.mp h a hp.1
    cases hq : zLay[a.toNat]? with
    | none => rw [hq] at h1; cases h1
    | some κ =>
      rw [hq] at h1
      obtain ⟨x0, x1, x2⟩ := κ
      simp only [Bool.and_eq_true, decide_eq_true_eq] at h1
      obtain ⟨e1, e2⟩ := h1
      subst e1; subst e2
      exact ⟨a, tv, x2, rfl, hq⟩
theorem zcal_v {l : Launch} {own : String} {idx LV : Nat} {y : MethodName} {code : ByteArray} {maxL lv ci rt : Nat} {ret : Option FieldType} {r : vw_C} {tl : List Nat} {ids : List Int} {P : List Int → zM → Prop} {post : List Int → zM → Int → zM → Prop} (hM : zMet l zLay y code maxL ret lv (2 :: tl) rt (zPr ids P) post) (hlt : lv < LV) (hmx : maxL ≤ 20) (hw : zMv y code maxL ret) (hk : Cond.methodLink own idx y ∈ zTbl ∨ ∃ host, Cond.methodLinkNest own idx y host ∈ lw_tbl) (hnm : zNm y tl.length) (hq : zCl[ci]? = some r) (hr : r.1 = y.cls) (hi : zIs ids ci = true) : zCallee l zLay own idx true LV (2 :: tl, rt, zPr ids P, post) :=
  ⟨y, code, maxL, lv, ret, hM, hlt, hmx, hw.1, hw.2.1, hk, fun _ => ⟨tl, ci, r, rfl, hnm, hw.2.2.1, hw.2.2.2, hq, hr, zPr_recv hi⟩, fun h => by cases h⟩
theorem zcal_s {l : Launch} {own : String} {idx LV : Nat} {y : MethodName} {code : ByteArray} {maxL lv rt : Nat} {ret : Option FieldType} {tags : List Nat} {pre : List Int → zM → Prop} {post : List Int → zM → Int → zM → Prop} (hM : zMet l zLay y code maxL ret lv tags rt pre post) (hlt : lv < LV) (hmx : maxL ≤ 20) (hw : zMs y code maxL ret) (hk : Cond.methodLink own idx y ∈ zTbl ∨ ∃ host, Cond.methodLinkNest own idx y host ∈ lw_tbl) (hnm : zNm y tags.length) : zCallee l zLay own idx false LV (tags, rt, pre, post) :=
  ⟨y, code, maxL, lv, ret, hM, hlt, hmx, hw.1, hw.2.1, hk, fun h => (by cases h), fun _ => ⟨hnm, hw.2.2⟩⟩
theorem zv_cg {Λ : List zC} {pl : zPo} {cv cS : Nat → Option zCt} {rt : Nat} {RP : Int → zM → Prop} {thr : Nat → Option Nat} {XP : Nat → zM → Prop} {nL : Nat} {k : Nat} {tags : List Nat} {rt' : Nat} {pre : List Int → zM → Prop} {post : List Int → zM → Int → zM → Prop} (h : cv k = some (tags, rt', pre, post)) (n pc : Nat) (ls : zL) (st : List zV) (mem : zM) (J : zJ) (K : zL → List zV → zM → Prop) : zwI Λ pl cv cS rt RP thr XP nL (.invokevirtual k) n pc ls st mem J K = (n = 3 ∧ zIV Λ tags rt' pre st mem (fun vs => ∀ (r : Int) (mem' : zM), zrt rt' r → zokM Λ mem' → post vs mem r mem' → K ls (zres rt' r (st.drop tags.length)) mem')) := by
  rw [zi_invokevirtual, h, zinv_g]
theorem zs_cg {Λ : List zC} {pl : zPo} {cv cS : Nat → Option zCt} {rt : Nat} {RP : Int → zM → Prop} {thr : Nat → Option Nat} {XP : Nat → zM → Prop} {nL : Nat} {k : Nat} {tags : List Nat} {rt' : Nat} {pre : List Int → zM → Prop} {post : List Int → zM → Int → zM → Prop} (h : cS k = some (tags, rt', pre, post)) (h2 : pl k = none) (n pc : Nat) (ls : zL) (st : List zV) (mem : zM) (J : zJ) (K : zL → List zV → zM → Prop) : zwI Λ pl cv cS rt RP thr XP nL (.invokestatic k) n pc ls st mem J K = (n = 3 ∧ zIV Λ tags rt' pre st mem (fun vs => ∀ (r : Int) (mem' : zM), zrt rt' r → zokM Λ mem' → post vs mem r mem' → K ls (zres rt' r (st.drop tags.length)) mem')) := by
  rw [zi_invokestatic, h, zinv_g]
  have e : ∀ F, zpl pl k 6 F = False := fun F => by unfold zpl; rw [h2]
  rw [e, or_false]
theorem zv_cp {Λ : List zC} {pl : zPo} {cv cS : Nat → Option zCt} {rt : Nat} {RP : Int → zM → Prop} {thr : Nat → Option Nat} {XP : Nat → zM → Prop} {nL : Nat} {k : Nat} {tags : List Nat} {rt' : Nat} {pre : List Int → zM → Prop} {P : List Int → zM → Int → Prop} (h : cv k = some (tags, rt', pre, zpu P)) (n pc : Nat) (ls : zL) (st : List zV) (mem : zM) (J : zJ) (K : zL → List zV → zM → Prop) : zwI Λ pl cv cS rt RP thr XP nL (.invokevirtual k) n pc ls st mem J K = (n = 3 ∧ zIV Λ tags rt' pre st mem (fun vs => ∀ (r : Int), zrt rt' r → zokM Λ mem → P vs mem r → K ls (zres rt' r (st.drop tags.length)) mem)) := by
  rw [zi_invokevirtual, h, zinv_p]
theorem zs_cp {Λ : List zC} {pl : zPo} {cv cS : Nat → Option zCt} {rt : Nat} {RP : Int → zM → Prop} {thr : Nat → Option Nat} {XP : Nat → zM → Prop} {nL : Nat} {k : Nat} {tags : List Nat} {rt' : Nat} {pre : List Int → zM → Prop} {P : List Int → zM → Int → Prop} (h : cS k = some (tags, rt', pre, zpu P)) (h2 : pl k = none) (n pc : Nat) (ls : zL) (st : List zV) (mem : zM) (J : zJ) (K : zL → List zV → zM → Prop) : zwI Λ pl cv cS rt RP thr XP nL (.invokestatic k) n pc ls st mem J K = (n = 3 ∧ zIV Λ tags rt' pre st mem (fun vs => ∀ (r : Int), zrt rt' r → zokM Λ mem → P vs mem r → K ls (zres rt' r (st.drop tags.length)) mem)) := by
  rw [zi_invokestatic, h, zinv_p]
  have e : ∀ F, zpl pl k 6 F = False := fun F => by unfold zpl; rw [h2]
  rw [e, or_false]
theorem zv_cf {Λ : List zC} {pl : zPo} {cv cS : Nat → Option zCt} {rt : Nat} {RP : Int → zM → Prop} {thr : Nat → Option Nat} {XP : Nat → zM → Prop} {nL : Nat} {k : Nat} {tags : List Nat} {rt' : Nat} {pre : List Int → zM → Prop} {f : List Int → zM → Int} (h : cv k = some (tags, rt', pre, zfu f)) (n pc : Nat) (ls : zL) (st : List zV) (mem : zM) (J : zJ) (K : zL → List zV → zM → Prop) : zwI Λ pl cv cS rt RP thr XP nL (.invokevirtual k) n pc ls st mem J K = (n = 3 ∧ zIV Λ tags rt' pre st mem (fun vs => zrt rt' (f vs mem) → zokM Λ mem → K ls (zres rt' (f vs mem) (st.drop tags.length)) mem)) := by
  rw [zi_invokevirtual, h, zinv_f]
theorem zs_cf {Λ : List zC} {pl : zPo} {cv cS : Nat → Option zCt} {rt : Nat} {RP : Int → zM → Prop} {thr : Nat → Option Nat} {XP : Nat → zM → Prop} {nL : Nat} {k : Nat} {tags : List Nat} {rt' : Nat} {pre : List Int → zM → Prop} {f : List Int → zM → Int} (h : cS k = some (tags, rt', pre, zfu f)) (h2 : pl k = none) (n pc : Nat) (ls : zL) (st : List zV) (mem : zM) (J : zJ) (K : zL → List zV → zM → Prop) : zwI Λ pl cv cS rt RP thr XP nL (.invokestatic k) n pc ls st mem J K = (n = 3 ∧ zIV Λ tags rt' pre st mem (fun vs => zrt rt' (f vs mem) → zokM Λ mem → K ls (zres rt' (f vs mem) (st.drop tags.length)) mem)) := by
  rw [zi_invokestatic, h, zinv_f]
  have e : ∀ F, zpl pl k 6 F = False := fun F => by unfold zpl; rw [h2]
  rw [e, or_false]
theorem zs_ac {Λ : List zC} {pl : zPo} {cv cS : Nat → Option zCt} {rt : Nat} {RP : Int → zM → Prop} {thr : Nat → Option Nat} {XP : Nat → zM → Prop} {nL : Nat} {k x y : Nat} {z : Int} (h : cS k = none) (h2 : pl k = some (6, x, y, z)) (n pc : Nat) (ls : zL) (st : List zV) (mem : zM) (J : zJ) (K : zL → List zV → zM → Prop) : zwI Λ pl cv cS rt RP thr XP nL (.invokestatic k) n pc ls st mem J K = (n = 3 ∧ zp1 0 st fun N r => zp1 0 r fun dp r => zp1 2 r fun b r => zp1 0 r fun sp r => zp1 2 r fun a r => r = [] ∧ zarr Λ 1 a fun na _ => zarr Λ 1 b fun nb _ => (0 ≤ sp ∧ 0 ≤ dp ∧ 0 ≤ N ∧ sp + N ≤ na ∧ dp + N ≤ nb) ∧ K ls [] (zcopy mem a.toNat sp.toNat b.toNat dp.toNat N.toNat)) := by
  rw [zi_invokestatic, h, zpl_e h2]
  simp only [zinv, false_or, true_and]
def zAllC (P : Nat → zCt → Prop) : List (Nat × zCt) → Prop
  | [] => True
  | q :: r => P q.1 q.2 ∧ zAllC P r
theorem zAllC_n {P : Nat → zCt → Prop} : zAllC P [] := trivial
theorem zAllC_c {P : Nat → zCt → Prop} {k : Nat} {q : zCt} {r : List (Nat × zCt)} (h : P k q) (t : zAllC P r) : zAllC P ((k, q) :: r) := ⟨h, t⟩
theorem zAllC_e {P : Nat → zCt → Prop} {L : List (Nat × zCt)} (h : zAllC P L) : ∀ k q, zCf L k = some q → P k q := by
  refine zCf_all ?_
  induction L with
  | nil => intro x hx; cases hx
  | cons a r ih =>
    intro x hx
    rcases List.mem_cons.mp hx with e | e
    · rw [e]; exact h.1
    · exact ih h.2 x e
def zAllI (P : Nat → (Nat → zL → List zV → zM → Prop) → Prop) : List (Nat × (Nat → zL → List zV → zM → Prop)) → Prop
  | [] => True
  | q :: r => P q.1 q.2 ∧ zAllI P r
theorem zAllI_n {P : Nat → (Nat → zL → List zV → zM → Prop) → Prop} : zAllI P [] := trivial
theorem zAllI_c {P : Nat → (Nat → zL → List zV → zM → Prop) → Prop} {k : Nat} {q : Nat → zL → List zV → zM → Prop} {r : List (Nat × (Nat → zL → List zV → zM → Prop))} (h : P k q) (t : zAllI P r) : zAllI P ((k, q) :: r) := ⟨h, t⟩
theorem zAllI_e {P : Nat → (Nat → zL → List zV → zM → Prop) → Prop} {L : List (Nat × (Nat → zL → List zV → zM → Prop))} (h : zAllI P L) : ∀ k q, zIf L k = some q → P k q := by
  refine zIf_all ?_
  induction L with
  | nil => intro x hx; cases hx
  | cons a r ih =>
    intro x hx
    rcases List.mem_cons.mp hx with e | e
    · rw [e]; exact h.1
    · exact ih h.2 x e
