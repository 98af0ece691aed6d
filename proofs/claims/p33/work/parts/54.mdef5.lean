/-! ===== rails, gangs, tasks, images of the reference ===== -/
def zAns (ok : Prop) (cap n r t n' : Int) : Prop := (¬ ok ∧ t = 1 ∧ n' = n) ∨ (ok ∧ n = cap ∧ t = 2 ∧ n' = n) ∨ (ok ∧ n < cap ∧ t = 0 ∧ r = n ∧ n' = n + 1)
def zpR (c k : Nat) : Prop := zpP c k ∧ ¬ (c = 81 ∧ k = 15)
def zpG (n : Int) (c k : Nat) : Prop := zpP c k ∧ ¬ (c = 81 ∧ (k = 16 ∨ k = (184 + 3 * n).toNat ∨ k = (184 + 3 * n + 1).toNat ∨ k = (184 + 3 * n + 2).toNat))
def zpT (g : Int) (c k : Nat) : Prop := zpP c k ∧ ¬ (c = 81 ∧ k = (184 + 3 * g + 2).toNat)
theorem zMi_ext {f g : Nat → Int} (h : zMi f) (e : ∀ j, j < 212 → g j = f j) : zMi g := by
  obtain ⟨⟨hb, hg, hl1, hl2, hl3⟩, h2, h3⟩ := h
  unfold zMb at hb
  refine ⟨⟨?_, zGn_k hg (e 16 (by omega)) (fun k q1 q2 => e k (by omega)), ?_, ?_, ?_⟩, ?_, ?_⟩
  · unfold zMb; rw [e 15 (by omega), e 17 (by omega), e 19 (by omega), e 3 (by omega), e 2 (by omega), e 4 (by omega), e 7 (by omega)]; exact hb
  · rw [e 18 (by omega)]; exact hl1
  · intro p q0 q1
    rw [e 18 (by omega)] at q1
    obtain ⟨b1, b2, b3, b4, b5⟩ := hl2 p q0 q1
    rw [e (196 + p).toNat (by omega), e 15 (by omega), e (120 + 4 * f (196 + p).toNat + 2).toNat (by omega), e (120 + 4 * f (196 + p).toNat + 3).toNat (by omega)]
    exact ⟨b1, b2, b3, b4, b5⟩
  · intro p q q0 q1 q2
    rw [e 18 (by omega)] at q2
    rw [e (196 + p).toNat (by omega), e (196 + q).toNat (by omega)]
    exact hl3 p q q0 q1 q2
  · rw [e 13 (by omega), e 12 (by omega), e 7 (by omega), e 18 (by omega)]; exact h2
  · rw [e 13 (by omega), e 18 (by omega)]; exact h3
theorem zMi_rail {f g : Nat → Int} (h : zMi f) (hR : f 15 < 16) (e : ∀ j, j < 212 → j ≠ 15 → j ≠ (120 + 4 * f 15 + 0).toNat → j ≠ (120 + 4 * f 15 + 1).toNat → j ≠ (120 + 4 * f 15 + 2).toNat → j ≠ (120 + 4 * f 15 + 3).toNat → g j = f j) (e15 : g 15 = f 15 + 1) : zMi g := by
  obtain ⟨⟨hb, hg, hl1, hl2, hl3⟩, h2, h3⟩ := h
  unfold zMb at hb
  have e' : ∀ j, j < 120 ∨ (184 ≤ j ∧ j < 212) → j ≠ 15 → g j = f j := fun j q1 q2 => e j (by omega) q2 (by omega) (by omega) (by omega) (by omega)
  refine ⟨⟨?_, zGn_k hg (e' 16 (by omega) (by omega)) (fun k q1 q2 => e' k (by omega) (by omega)), ?_, ?_, ?_⟩, ?_, ?_⟩
  · unfold zMb; rw [e15, e' 17 (by omega) (by omega), e' 19 (by omega) (by omega), e' 3 (by omega) (by omega), e' 2 (by omega) (by omega), e' 4 (by omega) (by omega), e' 7 (by omega) (by omega)]; omega
  · rw [e' 18 (by omega) (by omega)]; exact hl1
  · intro p q0 q1
    rw [e' 18 (by omega) (by omega)] at q1
    obtain ⟨b1, b2, b3, b4, b5⟩ := hl2 p q0 q1
    rw [e' (196 + p).toNat (by omega) (by omega), e15, e (120 + 4 * f (196 + p).toNat + 2).toNat (by omega) (by omega) (by omega) (by omega) (by omega) (by omega), e (120 + 4 * f (196 + p).toNat + 3).toNat (by omega) (by omega) (by omega) (by omega) (by omega) (by omega)]
    exact ⟨b1, by omega, b3, b4, b5⟩
  · intro p q q0 q1 q2
    rw [e' 18 (by omega) (by omega)] at q2
    rw [e' (196 + p).toNat (by omega) (by omega), e' (196 + q).toNat (by omega) (by omega)]
    exact hl3 p q q0 q1 q2
  · rw [e' 13 (by omega) (by omega), e' 12 (by omega) (by omega), e' 7 (by omega) (by omega), e' 18 (by omega) (by omega)]; exact h2
  · rw [e' 13 (by omega) (by omega), e' 18 (by omega) (by omega)]; exact h3
/-- gangs change -/
theorem zMi_gangs {f g : Nat → Int} (h : zMi f) (e : ∀ j, j < 184 ∨ (196 ≤ j ∧ j < 212) → j ≠ 16 → g j = f j) (hg : zGn g) : zMi g := by
  obtain ⟨⟨hb, _, hl1, hl2, hl3⟩, h2, h3⟩ := h
  unfold zMb at hb
  refine ⟨⟨?_, hg, ?_, ?_, ?_⟩, ?_, ?_⟩
  · unfold zMb; rw [e 15 (by omega) (by omega), e 17 (by omega) (by omega), e 19 (by omega) (by omega), e 3 (by omega) (by omega), e 2 (by omega) (by omega), e 4 (by omega) (by omega), e 7 (by omega) (by omega)]; exact hb
  · rw [e 18 (by omega) (by omega)]; exact hl1
  · intro p q0 q1
    rw [e 18 (by omega) (by omega)] at q1
    obtain ⟨b1, b2, b3, b4, b5⟩ := hl2 p q0 q1
    rw [e (196 + p).toNat (by omega) (by omega), e 15 (by omega) (by omega), e (120 + 4 * f (196 + p).toNat + 2).toNat (by omega) (by omega), e (120 + 4 * f (196 + p).toNat + 3).toNat (by omega) (by omega)]
    exact ⟨b1, b2, b3, b4, b5⟩
  · intro p q q0 q1 q2
    rw [e 18 (by omega) (by omega)] at q2
    rw [e (196 + p).toNat (by omega) (by omega), e (196 + q).toNat (by omega) (by omega)]
    exact hl3 p q q0 q1 q2
  · rw [e 13 (by omega) (by omega), e 12 (by omega) (by omega), e 7 (by omega) (by omega), e 18 (by omega) (by omega)]; exact h2
  · rw [e 13 (by omega) (by omega), e 18 (by omega) (by omega)]; exact h3
theorem zMi_gang {m : zM} {a b : Int} (h : zMi (m 81)) (hn : m 81 16 < 4) (hb : 0 ≤ b ∧ b ≤ 30) : zMi (zset (zset (zset (zset m 81 (184 + 3 * m 81 16).toNat a) 81 (184 + 3 * m 81 16 + 1).toNat b) 81 (184 + 3 * m 81 16 + 2).toNat 0) 81 16 (m 81 16 + 1) 81) := by
  obtain ⟨⟨n0, n1⟩, hg⟩ := zMi_gn h
  refine zMi_gangs h (fun j q1 q2 => ?_) ⟨?_, fun x x0 x1 => ?_⟩
  · simp only [zset_e, reduceIte]; rw [if_neg (by omega), if_neg (by omega), if_neg (by omega), if_neg (by omega)]
  · simp only [zset_e, reduceIte]; omega
  · simp only [zset_e, reduceIte]
    rw [if_neg (by omega), if_neg (by omega)]
    by_cases hx : x = m 81 16
    · subst hx; rw [if_pos rfl]; exact hb
    · rw [if_neg (by omega), if_neg (by omega)]; exact hg x x0 x1
theorem zMi_task {m : zM} {g v : Int} (h : zMi (m 81)) (g0 : 0 ≤ g) (g1 : g < 4) : zMi (zset m 81 (184 + 3 * g + 2).toNat v 81) := by
  obtain ⟨n01, hg⟩ := zMi_gn h
  refine zMi_gangs h (fun j q1 q2 => ?_) ⟨?_, fun x x0 x1 => ?_⟩
  · simp only [zset_e, reduceIte]; rw [if_neg (by omega)]
  · simp only [zset_e, reduceIte]; rw [if_neg (by omega)]; exact n01
  · simp only [zset_e, reduceIte]; rw [if_neg (by omega)]; exact hg x x0 x1
/-- a world copied: k slots from cell a to cell b -/
def zIm (a b : Nat) (k : Int) (m m' : zM) : Prop := (∀ c j : Nat, ¬ (c = b ∧ (j : Int) < k) → m' c j = m c j) ∧ ∀ j : Nat, (j : Int) < k → m' b j = m a j
theorem zIm_0 (a b : Nat) (m : zM) : zIm a b 0 m m := ⟨fun _ _ _ => rfl, fun j h => absurd h (by omega)⟩
theorem zIm_s {a b : Nat} {k : Int} {m m1 : zM} (h : zIm a b k m m1) (hab : a ≠ b) (k0 : 0 ≤ k) : zIm a b (k + 1) m (zset m1 b k.toNat (m1 a k.toNat)) := by
  refine ⟨fun c j hn => ?_, fun j hj => ?_⟩
  · rw [zset_e]
    by_cases hc : c = b
    · rw [if_pos hc, if_neg (by omega)]; exact h.1 c j (by omega)
    · rw [if_neg hc]; exact h.1 c j (by omega)
  · rw [zset_e, if_pos rfl]
    by_cases hq : j = k.toNat
    · rw [if_pos hq, hq, h.1 a k.toNat (by omega)]
    · rw [if_neg hq]; exact h.2 j (by omega)
def zpF (c k : Nat) : Prop := c ≠ 83 ∧ c ≠ 84 ∧ ¬ (c = 80 ∧ (k = 0 ∨ k = 5))
def zpE (c k : Nat) : Prop := ¬ (c = 80 ∧ (k = 0 ∨ k = 5))
def zpI (c k : Nat) : Prop := c ≠ 82 ∧ ¬ (c = 80 ∧ (k = 0 ∨ k = 3))
def zpB (c k : Nat) : Prop := ¬ (c = 81 ∧ k < 4856) ∧ ¬ (c = 80 ∧ k = 0)
def zCp (a b : Nat) (m m' : zM) : Prop := ∀ j : Nat, j < 4856 → m' b j = m a j
theorem zIm_cp {a b : Nat} {k : Int} {m m1 : zM} (h : zIm a b k (zset m 80 0 0) m1) (hk : 4856 ≤ k) (ha : a ≠ 80) : zCp a b m m1 := fun j hj => by
  rw [h.2 j (by omega), zset_e, if_neg ha]
theorem zIm_I {k : Int} {m m1 : zM} (h : zIm 81 82 k (zset m 80 0 0) m1) : zKp zpI m m1 := fun c j hc => by
  unfold zpI at hc
  rw [h.1 c j (by omega), zset_e]
  by_cases h1 : c = 80
  · rw [if_pos h1, if_neg (by omega)]
  · rw [if_neg h1]
theorem zIm_B {k : Int} {m m1 : zM} (h : zIm 82 81 k (zset m 80 0 0) m1) (hk : k ≤ 4856) : zKp zpB m m1 := fun c j hc => by
  unfold zpB at hc
  rw [h.1 c j (by omega), zset_e]
  by_cases h1 : c = 80
  · rw [if_pos h1, if_neg (by omega)]
  · rw [if_neg h1]
theorem zCp_st {a b : Nat} {m m1 : zM} {k : Nat} {v : Int} (h : zCp a b m m1) (hb : b ≠ 80) : zCp a b m (zset m1 80 k v) := fun j hj => by
  rw [zset_e, if_neg hb]; exact h j hj
theorem zI2b_b (x : Int) : -128 ≤ zI2b x ∧ zI2b x ≤ 127 := by
  unfold zI2b
  rw [Int8.toInt_toInt32]
  have h1 := Int8.le_toInt (Int32.ofInt x).toInt8
  have h2 := Int8.toInt_lt (Int32.ofInt x).toInt8
  simp only [Int.reducePow, Int.reduceNeg] at h1 h2
  omega
