/-- one step: a fact, or buried -/
theorem zAt_1 {d w n : Int} {m m1 : zM} (hG : zGd m) (hd : m 80 9 = d) (hk : zKp zpK m m1) (G1 : zGd m1) (hp : m 80 6 + 4 ≤ m1 80 6) (hw : w ≤ 16) : zAtd d m (zset (zset (zset m1 81 (5517 + 2 * m1 80 13).toNat w) 81 (5517 + 2 * m1 80 13 + 1).toNat n) 80 13 (m1 80 13 + 1)) := by
  have k9 := hk 80 9 (by unfold zpK; omega)
  have k12 := hk 80 12 (by unfold zpK; omega)
  have k13 := hk 80 13 (by unfold zpK; omega)
  have g := hG
  unfold zGd at g
  refine ⟨zEm_G G1 (by omega), by rw [zEm_o (by omega)]; omega, zEm_D (zKp_KD hk) (by omega) (by omega) (by omega), by rw [zEm_o (by omega)]; omega, ?_, by rw [zEm_13, zEm_o (by omega)]; omega⟩
  rw [zEm_13, ← k13]
  exact zHs_1 (by rw [zEm_st (by omega)]; exact hw)
/-- a test in brackets: one level deeper and back -/
theorem zAt_br {d : Int} {m m1 m3 m4 : zM} (hG : zGd m) (hd : m 80 9 = d) (hk : zKp zpK m m1) (hp : m 80 6 + 1 ≤ m1 80 6) (h3 : zAtd (d + 1) (zset m1 80 9 (m1 80 9 + 1)) m3) (h4 : zKp zpO m3 m4) (h5 : m3 80 6 ≤ m4 80 8) (h6 : m4 80 8 + 1 ≤ m4 80 6) (h7 : m4 80 6 ≤ m3 80 7) (h8 : m4 80 9 = m3 80 9 + -1) : zAtd d m m4 := by
  obtain ⟨c1, c2, c3, c4, c5, c6⟩ := h3
  have z12 : zset m1 80 9 (m1 80 9 + 1) 80 12 = m1 80 12 := rfl
  have z13 : zset m1 80 9 (m1 80 9 + 1) 80 13 = m1 80 13 := rfl
  have z6 : zset m1 80 9 (m1 80 9 + 1) 80 6 = m1 80 6 := rfl
  rw [z12] at c4
  rw [z13] at c5 c6
  rw [z6] at c6
  rw [z12, z13] at c3
  have k12 := hk 80 12 (by unfold zpK; omega)
  have k13 := hk 80 13 (by unfold zpK; omega)
  have o7 := h4 80 7 (by unfold zpO; omega)
  have o12 := h4 80 12 (by unfold zpO; omega)
  have o13 := h4 80 13 (by unfold zpO; omega)
  have e81 : m4 81 = m3 81 := funext (fun j => h4 81 j (by unfold zpO; omega))
  have g3 := c1
  have g := hG
  unfold zGd at g3 g
  refine ⟨by unfold zGd; omega, by omega, ?_, by omega, by rw [e81, o13, ← k13]; exact c5, by omega⟩
  have q1 : zKp (zpD (m 80 12) (m 80 13)) m (zset m1 80 9 (m1 80 9 + 1)) := zKp_st (zKp_KD hk) (by unfold zpD; omega)
  exact zKp_tr (zKp_tr q1 (zKp_DD c3 (by omega) (by omega))) (zKp_OD h4)
/-- not: a test one level deeper, and a step that turns it -/
theorem zAt_not {d v : Int} {m m1 m3 : zM} (hG : zGd m) (hd : m 80 9 = d) (hk : zKp zpK m m1) (hp : m 80 6 + 3 ≤ m1 80 6) (h3 : zAtd (d + 1) (zset m1 80 9 (m1 80 9 + 1)) m3) (hv : v = d) : zAtd d m (zset (zset (zset (zset m3 80 9 v) 81 (5517 + 2 * m3 80 13).toNat 17) 81 (5517 + 2 * m3 80 13 + 1).toNat 0) 80 13 (m3 80 13 + 1)) := by
  obtain ⟨c1, c2, c3, c4, c5, c6⟩ := h3
  have z12 : zset m1 80 9 (m1 80 9 + 1) 80 12 = m1 80 12 := rfl
  have z13 : zset m1 80 9 (m1 80 9 + 1) 80 13 = m1 80 13 := rfl
  have z6 : zset m1 80 9 (m1 80 9 + 1) 80 6 = m1 80 6 := rfl
  rw [z12] at c4
  rw [z13] at c5 c6
  rw [z6] at c6
  rw [z12, z13] at c3
  have k12 := hk 80 12 (by unfold zpK; omega)
  have k13 := hk 80 13 (by unfold zpK; omega)
  have l := zHs_lt c5
  obtain ⟨M, hM⟩ : ∃ M, M = zset m3 80 9 v := ⟨_, rfl⟩
  have f6 : M 80 6 = m3 80 6 := by rw [hM]; rfl
  have f7 : M 80 7 = m3 80 7 := by rw [hM]; rfl
  have f8 : M 80 8 = m3 80 8 := by rw [hM]; rfl
  have f9 : M 80 9 = v := by rw [hM]; rfl
  have f12 : M 80 12 = m3 80 12 := by rw [hM]; rfl
  have f13 : M 80 13 = m3 80 13 := by rw [hM]; rfl
  have f81 : M 81 = m3 81 := by rw [hM]; rfl
  have g3 := c1
  have g := hG
  unfold zGd at g3 g
  have GM : zGd M := by unfold zGd; omega
  have q1 : zKp (zpD (m 80 12) (m 80 13)) m (zset m1 80 9 (m1 80 9 + 1)) := zKp_st (zKp_KD hk) (by unfold zpD; omega)
  have q3 : zKp (zpD (m 80 12) (m 80 13)) m M := by rw [hM]; exact zKp_st (zKp_tr q1 (zKp_DD c3 (by omega) (by omega))) (by unfold zpD; omega)
  rw [← hM, ← f13]
  refine ⟨zEm_G GM (by omega), by rw [zEm_o (by omega)]; omega, zEm_D q3 (by omega) (by omega) (by omega), by rw [zEm_o (by omega)]; omega, ?_, by rw [zEm_13, zEm_o (by omega)]; omega⟩
  rw [zEm_13]
  refine zHs_not (zHs_k (f := m3 81) (by rw [← k13, f13]; exact c5) (fun j q1 q2 => ?_)) (zEm_st (by omega))
  rw [zEm_lo (by omega), f81]
theorem zGd_dp {m : zM} {v : Int} (h : zGd m) (h0 : 0 ≤ v) (h1 : v ≤ 6) : zGd (zset m 80 9 v) := by
  have e : ∀ j, j ≠ 9 → zset m 80 9 v 80 j = m 80 j := fun j hj => by rw [zset_e, if_pos rfl, if_neg hj]
  have e9 : zset m 80 9 v 80 9 = v := by rw [zset_e, if_pos rfl, if_pos rfl]
  unfold zGd at *
  rw [e 8 (by omega), e 6 (by omega), e 7 (by omega), e9, e 12 (by omega), e 13 (by omega)]
  omega
