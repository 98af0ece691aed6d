/-! ===== the reader's ring: what is kept ===== -/
def zpO (c k : Nat) : Prop := ¬ (c = 80 ∧ (k = 6 ∨ k = 8 ∨ k = 9))
theorem zKp_KO {m m' : zM} (h : zKp zpK m m') : zKp zpO m m' := zKp_mono h (fun c k hc => by unfold zpO at hc; unfold zpK; omega)
theorem zKp_dp {m m1 : zM} {v : Int} (h : zKp zpO m m1) : zKp zpO m (zset m1 80 9 v) := zKp_st h (by unfold zpO; omega)
theorem zK_9 {m m' : zM} (h : zKp zpK m m') : m' 80 9 = m 80 9 := h 80 9 (by unfold zpK; omega)
/-- all but the reader's own places, and the draft from op o and step s on -/
def zpD (o s : Int) (c k : Nat) : Prop := (c = 80 → k ≠ 6 ∧ k ≠ 8 ∧ k ≠ 9 ∧ k ≠ 12 ∧ k ≠ 13) ∧ (c = 81 → k < 4857 ∨ (k : Int) < 4857 + 3 * o ∨ (5517 ≤ k ∧ (k : Int) < 5517 + 2 * s))
/-- what a reading that fails keeps -/
def zpX (c k : Nat) : Prop := (c = 80 → k ≠ 6 ∧ k ≠ 8 ∧ k ≠ 9 ∧ k ≠ 12 ∧ k ≠ 13) ∧ (c = 81 → k < 4857)
def zGd (m : zM) : Prop := 0 ≤ m 80 8 ∧ m 80 8 ≤ m 80 6 ∧ m 80 6 ≤ m 80 7 ∧ m 80 7 ≤ 400 ∧ 0 ≤ m 80 9 ∧ m 80 9 ≤ 6 ∧ 0 ≤ m 80 12 ∧ 2 * m 80 12 ≤ m 80 6 ∧ 0 ≤ m 80 13 ∧ 3 * m 80 13 ≤ m 80 6
theorem zKp_DX {o s : Int} {m m' : zM} (h : zKp (zpD o s) m m') : zKp zpX m m' := zKp_mono h (fun c k hc => by unfold zpX at hc; unfold zpD; omega)
theorem zKp_KD {o s : Int} {m m' : zM} (h : zKp zpK m m') : zKp (zpD o s) m m' := zKp_mono h (fun c k hc => by unfold zpD at hc; unfold zpK; omega)
theorem zKp_OD {o s : Int} {m m' : zM} (h : zKp zpO m m') : zKp (zpD o s) m m' := zKp_mono h (fun c k hc => by unfold zpD at hc; unfold zpO; omega)
theorem zKp_DD {o s o' s' : Int} {m m' : zM} (h : zKp (zpD o' s') m m') (ho : o ≤ o') (hs : s ≤ s') : zKp (zpD o s) m m' := zKp_mono h (fun c k hc => by unfold zpD at *; omega)
