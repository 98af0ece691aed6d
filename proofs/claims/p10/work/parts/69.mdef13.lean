/-! ===== the reader's tests ===== -/
def zAtd (d : Int) (m m' : zM) : Prop := zGd m' ∧ m' 80 9 = d ∧ zKp (zpD (m 80 12) (m 80 13)) m m' ∧ m' 80 12 = m 80 12 ∧ zHs (m' 81) 4 (m 80 13) (m' 80 13) ∧ 3 * m' 80 13 + 1 + m 80 6 ≤ m' 80 6 + 3 * m 80 13
theorem zGd_on {m m' : zM} (h : zGd m) (hk : zKp zpK m m') (h1 : m 80 6 ≤ m' 80 8) (h2 : m' 80 8 ≤ m' 80 6) (h3 : m' 80 6 ≤ m 80 7) : zGd m' := by
  have e7 := hk 80 7 (by unfold zpK; omega)
  have e9 := hk 80 9 (by unfold zpK; omega)
  have e12 := hk 80 12 (by unfold zpK; omega)
  have e13 := hk 80 13 (by unfold zpK; omega)
  unfold zGd at *; omega
theorem zHs_lt {f : Nat → Int} {t a b : Int} (h : zHs f t a b) : a < b := by
  obtain ⟨_, h1, _⟩ := h
  exact h1
/-- a step more at the draft's end -/
theorem zEm_o {m : zM} {w n : Int} {j : Nat} (hj : j ≠ 13) : zset (zset (zset m 81 (5517 + 2 * m 80 13).toNat w) 81 (5517 + 2 * m 80 13 + 1).toNat n) 80 13 (m 80 13 + 1) 80 j = m 80 j := by
  simp only [zset_e, reduceIte, Nat.reduceEqDiff]; rw [if_neg hj]
theorem zEm_13 {m : zM} {w n : Int} : zset (zset (zset m 81 (5517 + 2 * m 80 13).toNat w) 81 (5517 + 2 * m 80 13 + 1).toNat n) 80 13 (m 80 13 + 1) 80 13 = m 80 13 + 1 := by
  simp only [zset_e, reduceIte]
theorem zEm_st {m : zM} {w n : Int} (s0 : 0 ≤ m 80 13) : zset (zset (zset m 81 (5517 + 2 * m 80 13).toNat w) 81 (5517 + 2 * m 80 13 + 1).toNat n) 80 13 (m 80 13 + 1) 81 (1273 + 1061 * 4 + 2 * m 80 13).toNat = w := by
  simp only [zset_e, reduceIte, Nat.reduceEqDiff]; rw [if_neg (by omega), if_pos (by omega)]
theorem zEm_lo {m : zM} {w n : Int} {j : Nat} (hj : (j : Int) < 5517 + 2 * m 80 13) : zset (zset (zset m 81 (5517 + 2 * m 80 13).toNat w) 81 (5517 + 2 * m 80 13 + 1).toNat n) 80 13 (m 80 13 + 1) 81 j = m 81 j := by
  simp only [zset_e, reduceIte, Nat.reduceEqDiff]; rw [if_neg (by omega), if_neg (by omega)]
theorem zEm_D {m m1 : zM} {o s w n : Int} (h : zKp (zpD o s) m m1) (hs : s ≤ m1 80 13) (s0 : 0 ≤ m1 80 13) (ho : o ≤ 220) : zKp (zpD o s) m (zset (zset (zset m1 81 (5517 + 2 * m1 80 13).toNat w) 81 (5517 + 2 * m1 80 13 + 1).toNat n) 80 13 (m1 80 13 + 1)) := by
  refine zKp_st (zKp_st (zKp_st h ?_) ?_) ?_ <;> (unfold zpD; omega)
theorem zEm_G {m : zM} {w n : Int} (h : zGd m) (h3 : 3 * (m 80 13 + 1) ≤ m 80 6) : zGd (zset (zset (zset m 81 (5517 + 2 * m 80 13).toNat w) 81 (5517 + 2 * m 80 13 + 1).toNat n) 80 13 (m 80 13 + 1)) := by
  unfold zGd at *
  rw [zEm_o (j := 8) (by omega), zEm_o (j := 6) (by omega), zEm_o (j := 7) (by omega), zEm_o (j := 9) (by omega), zEm_o (j := 12) (by omega), zEm_13]
  omega
theorem zAt_and {d w : Int} {m m1 m2 m3 : zM} (hG : zGd m) (h1 : zAtd d m m1) (hk : zKp zpK m1 m2) (hp : m1 80 6 + 2 ≤ m2 80 6) (h3 : zAtd d m2 m3) (hw : 17 < w) : zAtd d m (zset (zset (zset m3 81 (5517 + 2 * m3 80 13).toNat w) 81 (5517 + 2 * m3 80 13 + 1).toNat 0) 80 13 (m3 80 13 + 1)) := by
  obtain ⟨a1, a2, a3, a4, a5, a6⟩ := h1
  obtain ⟨c1, c2, c3, c4, c5, c6⟩ := h3
  have k12 := hk 80 12 (by unfold zpK; omega)
  have k13 := hk 80 13 (by unfold zpK; omega)
  have l1 := zHs_lt a5
  have l3 := zHs_lt c5
  have g := hG
  have g3 := c1
  unfold zGd at g g3
  have e81 : m2 81 = m1 81 := funext (fun j => hk 81 j (by unfold zpK; omega))
  refine ⟨zEm_G c1 (by omega), by rw [zEm_o (by omega)]; exact c2, zEm_D (zKp_tr (zKp_tr a3 (zKp_KD hk)) (zKp_DD c3 (by omega) (by omega))) (by omega) (by omega) (by omega), by rw [zEm_o (by omega)]; omega, ?_, by rw [zEm_13, zEm_o (by omega)]; omega⟩
  rw [zEm_13]
  refine zHs_and (b := m1 80 13) (zHs_k a5 (fun j q1 q2 => ?_)) (zHs_k (f := m3 81) (by rw [← k13]; exact c5) (fun j q1 q2 => ?_)) (by rw [zEm_st (by omega)]; exact hw)
  · rw [zEm_lo (by omega), c3 81 _ (by unfold zpD; omega), e81]
  · rw [zEm_lo (by omega)]
theorem zKp_KX {m m' : zM} (h : zKp zpK m m') : zKp zpX m m' := zKp_mono h (fun c k hc => by unfold zpX at hc; unfold zpK; omega)
theorem zKp_OX {m m' : zM} (h : zKp zpO m m') : zKp zpX m m' := zKp_mono h (fun c k hc => by unfold zpX at hc; unfold zpO; omega)
theorem zAt_on {d : Int} {m m1 m2 : zM} (h : zAtd d m m1) (hk : zKp zpK m1 m2) (h1 : m1 80 6 ≤ m2 80 8) (h2 : m2 80 8 ≤ m2 80 6) (h3 : m2 80 6 ≤ m1 80 7) : zAtd d m m2 := by
  obtain ⟨a1, a2, a3, a4, a5, a6⟩ := h
  have k9 := hk 80 9 (by unfold zpK; omega)
  have k12 := hk 80 12 (by unfold zpK; omega)
  have k13 := hk 80 13 (by unfold zpK; omega)
  have e81 : m2 81 = m1 81 := funext (fun j => hk 81 j (by unfold zpK; omega))
  refine ⟨zGd_on a1 hk h1 h2 h3, by omega, zKp_tr a3 (zKp_KD hk), by omega, by rw [e81, k13]; exact a5, by omega⟩
