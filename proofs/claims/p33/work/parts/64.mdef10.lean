/-! ===== boolean calls with an effect ===== -/
def zbm (Q1 Q0 : List Int → zM → zM → Prop) : List Int → zM → Int → zM → Prop := fun vs mem r mem' => (r = 1 ∧ Q1 vs mem mem') ∨ (r = 0 ∧ Q0 vs mem mem')
theorem zinv_m (Λ : List zC) (tags : List Nat) (pre : List Int → zM → Prop) (Q1 Q0 : List Int → zM → zM → Prop) (st : List zV) (mem : zM) (K : List zV → zM → Prop) : zinv Λ (some (tags, 4, pre, zbm Q1 Q0)) st mem K = zIV Λ tags 4 pre st mem (fun vs => ∀ mem' : zM, zokM Λ mem' → (Q1 vs mem mem' → K ((0, 1) :: st.drop tags.length) mem') ∧ (Q0 vs mem mem' → K ((0, 0) :: st.drop tags.length) mem')) := by
  rw [zinv_g]
  congr 1
  funext vs
  refine propext ⟨fun h mem' h2 => ⟨fun h3 => h 1 mem' ⟨by decide, by decide⟩ h2 (Or.inl ⟨rfl, h3⟩), fun h3 => h 0 mem' ⟨by decide, by decide⟩ h2 (Or.inr ⟨rfl, h3⟩)⟩, fun h r mem' h1 h2 h3 => ?_⟩
  obtain ⟨rfl, h3⟩ | ⟨rfl, h3⟩ := h3
  · exact (h mem' h2).1 h3
  · exact (h mem' h2).2 h3
theorem zv_cm {Λ : List zC} {pl : zPo} {cv cS : Nat → Option zCt} {rt : Nat} {RP : Int → zM → Prop} {thr : Nat → Option Nat} {XP : Nat → zM → Prop} {nL : Nat} {k : Nat} {tags : List Nat} {pre : List Int → zM → Prop} {Q1 Q0 : List Int → zM → zM → Prop} (h : cv k = some (tags, 4, pre, zbm Q1 Q0)) (n pc : Nat) (ls : zL) (st : List zV) (mem : zM) (J : zJ) (K : zL → List zV → zM → Prop) : zwI Λ pl cv cS rt RP thr XP nL (.invokevirtual k) n pc ls st mem J K = (n = 3 ∧ zIV Λ tags 4 pre st mem (fun vs => ∀ mem' : zM, zokM Λ mem' → (Q1 vs mem mem' → K ls ((0, 1) :: st.drop tags.length) mem') ∧ (Q0 vs mem mem' → K ls ((0, 0) :: st.drop tags.length) mem'))) := by
  rw [zi_invokevirtual, h, zinv_m]
/-! ===== the reference's reader: what a look at the tape leaves ===== -/
def zpK (c k : Nat) : Prop := ¬ (c = 80 ∧ (k = 6 ∨ k = 8))
theorem zOn_7 {m m' : zM} (h : zKp zpK m m') : m' 80 7 = m 80 7 := h 80 7 (by unfold zpK; omega)
theorem zKp_pt {m m1 : zM} {v : Int} (h : zKp zpK m m1) : zKp zpK m (zset m1 80 6 v) := zKp_st h (by unfold zpK; omega)
theorem zKp_bg {m m1 : zM} {v : Int} (h : zKp zpK m m1) : zKp zpK m (zset m1 80 8 v) := zKp_st h (by unfold zpK; omega)
theorem zLv_3 : zLen 3 = 4 := by decide
theorem zLv_4 : zLen 4 = 3 := by decide
theorem zLv_5 : zLen 5 = 2 := by decide
theorem zLv_6 : zLen 6 = 4 := by decide
theorem zLv_7 : zLen 7 = 4 := by decide
theorem zLv_8 : zLen 8 = 3 := by decide
theorem zLv_9 : zLen 9 = 4 := by decide
theorem zLv_10 : zLen 10 = 5 := by decide
theorem zLv_11 : zLen 11 = 2 := by decide
theorem zLv_12 : zLen 12 = 5 := by decide
theorem zLv_13 : zLen 13 = 5 := by decide
theorem zLv_14 : zLen 14 = 4 := by decide
theorem zLv_15 : zLen 15 = 5 := by decide
theorem zLv_16 : zLen 16 = 4 := by decide
theorem zLv_17 : zLen 17 = 3 := by decide
theorem zLv_18 : zLen 18 = 6 := by decide
theorem zLv_19 : zLen 19 = 5 := by decide
theorem zLv_20 : zLen 20 = 4 := by decide
theorem zLv_21 : zLen 21 = 6 := by decide
theorem zLv_22 : zLen 22 = 7 := by decide
theorem zLv_23 : zLen 23 = 5 := by decide
theorem zLv_24 : zLen 24 = 6 := by decide
theorem zLv_25 : zLen 25 = 4 := by decide
theorem zLv_26 : zLen 26 = 3 := by decide
theorem zLv_27 : zLen 27 = 3 := by decide
theorem zLv_28 : zLen 28 = 2 := by decide
