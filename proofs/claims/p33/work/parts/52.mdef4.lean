/-! ===== a public call of the reference ===== -/
def zMK (m m' : zM) : Prop := zMi (m' 81) ∧ zKp zpP m m'
theorem zMK_rf {m : zM} (h : zMi (m 81)) : zMK m m := ⟨h, zKp_rf m⟩
theorem zMK_tr {a b c : zM} (h1 : zMK a b) (h2 : zMK b c) : zMK a c := ⟨h2.1, zKp_tr h1.2 h2.2⟩
theorem zMK_o {m m1 : zM} {a k : Nat} {v : Int} (h : zMK m m1) (ha : ¬ a = 81) (hn : ¬ zpP a k) : zMK m (zset m1 a k v) := by
  refine ⟨?_, zKp_st h.2 hn⟩
  have e : zset m1 a k v 81 = m1 81 := funext (fun j => by rw [zset_e, if_neg (fun x => ha x.symm)])
  rw [e]; exact h.1
theorem zMK_f {m m1 : zM} {k : Nat} {v : Int} (h : zMK m m1) (hk : k = 0 ∨ k = 1 ∨ k = 5 ∨ k = 6 ∨ (8 ≤ k ∧ k ≤ 11) ∨ k = 14 ∨ (20 ≤ k ∧ k ≤ 119) ∨ (212 ≤ k ∧ k ≤ 611)) : zMK m (zset m1 81 k v) := ⟨zMi_free h.1 (by omega), zKp_st h.2 (by unfold zpP; omega)⟩
theorem zMK_A {m m1 m2 : zM} (h : zMK m m1) (h1 : zMi (m2 81)) (h2 : zKp zpA m1 m2) : zMK m m2 := ⟨h1, zKp_tr h.2 (zKp_AP h2)⟩
theorem zMK_M {m m1 m2 : zM} (h : zMK m m1) (h2 : zKp zpM m1 m2) (h0 : 0 ≤ m2 81 2) (h1 : m2 81 2 ≤ m1 81 2) : zMK m m2 := ⟨zMi_time h.1 h2 h0 h1, zKp_tr h.2 (zKp_MP h2)⟩
theorem zMK_N {m m1 m2 : zM} (h : zMK m m1) (h2 : zKp zpN m1 m2) : zMK m m2 := by
  have e := h2 81 2 (by unfold zpN; omega)
  exact zMK_M h (zKp_NM h2) (by rw [e]; exact zMi_w0 h.1) (by omega)
theorem zMK_i {m m1 : zM} (h : zMK m m1) : zMi (m1 81) := h.1
theorem zMK_cell {m m1 : zM} {n v : Int} (h : zMK m m1) (h0 : 0 ≤ n) (h1 : n ≤ 99) : zMK m (zset m1 81 (zw (20 + n)).toNat v) := by
  rw [zw_id (by omega) (by omega)]
  exact zMK_f h (by omega)
theorem zMK_lose {m m1 : zM} {a v : Int} (h : zMK m m1) (h0 : 0 ≤ a) (h1 : a < 16) (hs : ¬ m1 81 (120 + 4 * a + 2).toNat = 0) : zMK m (zset m1 81 (120 + 4 * a + 2).toNat v) := ⟨zMi_sp h.1 h0 h1 hs, zKp_st h.2 (by unfold zpP; omega)⟩
theorem zMi_store {m : zM} {k n v : Int} (h : zMi (m 81)) (k0 : 0 ≤ k) (k1 : k ≤ 8) (b2 : k = 2 → 0 ≤ n ∧ n ≤ m 81 3) (b3 : k = 3 → 1 ≤ n ∧ n ≤ 60) (b4 : k = 4 → 0 ≤ n ∧ n ≤ 9) (b7 : k = 7 → 1 ≤ n ∧ n ≤ 4) (hset : k = 7 → ¬ m 81 13 = 1) (v0 : 0 ≤ v) (v1 : v ≤ zset m 81 k.toNat n 81 3) : zMi (zset (zset m 81 k.toNat n) 81 2 v 81) := by
  have e : ∀ j, j ≠ 2 → j ≠ k.toNat → zset (zset m 81 k.toNat n) 81 2 v 81 j = m 81 j := fun j h1 h2 => by simp only [zset_e, reduceIte]; rw [if_neg h1, if_neg h2]
  have e2 : zset (zset m 81 k.toNat n) 81 2 v 81 2 = v := by simp only [zset_e, reduceIte]
  have e3 : zset (zset m 81 k.toNat n) 81 2 v 81 3 = zset m 81 k.toNat n 81 3 := by simp only [zset_e, reduceIte]; rw [if_neg (by omega)]
  have f3 : 1 ≤ zset m 81 k.toNat n 81 3 ∧ zset m 81 k.toNat n 81 3 ≤ 60 := by
    have hb := zMi_b h
    unfold zMb at hb
    simp only [zset_e, reduceIte]
    by_cases h3 : 3 = k.toNat
    · rw [if_pos h3]; exact b3 (by omega)
    · rw [if_neg h3]; omega
  have f4 : 0 ≤ zset (zset m 81 k.toNat n) 81 2 v 81 4 ∧ zset (zset m 81 k.toNat n) 81 2 v 81 4 ≤ 9 := by
    have hb := zMi_b h
    unfold zMb at hb
    simp only [zset_e, reduceIte]
    rw [if_neg (by omega)]
    by_cases h3 : 4 = k.toNat
    · rw [if_pos h3]; exact b4 (by omega)
    · rw [if_neg h3]; omega
  have f7 : 1 ≤ zset (zset m 81 k.toNat n) 81 2 v 81 7 ∧ zset (zset m 81 k.toNat n) 81 2 v 81 7 ≤ 4 := by
    have hb := zMi_b h
    unfold zMb at hb
    simp only [zset_e, reduceIte]
    rw [if_neg (by omega)]
    by_cases h3 : 7 = k.toNat
    · rw [if_pos h3]; exact b7 (by omega)
    · rw [if_neg h3]; omega
  have g7 : m 81 13 = 1 → zset (zset m 81 k.toNat n) 81 2 v 81 7 = m 81 7 := fun h13 => by
    by_cases h3 : k = 7
    · exact absurd h13 (hset h3)
    · exact e 7 (by omega) (by omega)
  generalize zset m 81 k.toNat n 81 3 = T at *
  generalize zset (zset m 81 k.toNat n) 81 2 v 81 = g at *
  obtain ⟨⟨hb, hg, hl1, hl2, hl3⟩, h2, h3⟩ := h
  unfold zMb at hb
  refine ⟨⟨?_, zGn_k hg (e 16 (by omega) (by omega)) (fun k q1 q2 => e k (by omega) (by omega)), ?_, ?_, ?_⟩, ?_, ?_⟩
  · unfold zMb; rw [e 15 (by omega) (by omega), e 17 (by omega) (by omega), e 19 (by omega) (by omega), e3, e2]; omega
  · rw [e 18 (by omega) (by omega)]; exact hl1
  · intro p q0 q1
    rw [e 18 (by omega) (by omega)] at q1
    obtain ⟨b1, b2, b3, b4, b5⟩ := hl2 p q0 q1
    rw [e (196 + p).toNat (by omega) (by omega), e 15 (by omega) (by omega), e (120 + 4 * m 81 (196 + p).toNat + 2).toNat (by omega) (by omega), e (120 + 4 * m 81 (196 + p).toNat + 3).toNat (by omega) (by omega)]
    exact ⟨b1, b2, b3, b4, b5⟩
  · intro p q q0 q1 q2
    rw [e 18 (by omega) (by omega)] at q2
    rw [e (196 + p).toNat (by omega) (by omega), e (196 + q).toNat (by omega) (by omega)]
    exact hl3 p q q0 q1 q2
  · intro h13
    rw [e 13 (by omega) (by omega)] at h13
    rw [e 12 (by omega) (by omega), g7 h13, e 18 (by omega) (by omega)]; exact h2 h13
  · rw [e 13 (by omega) (by omega), e 18 (by omega) (by omega)]; exact h3
theorem zMK_store {m m1 : zM} {k n v : Int} (h : zMK m m1) (k0 : 0 ≤ k) (k1 : k ≤ 8) (b2 : k = 2 → 0 ≤ n ∧ n ≤ m1 81 3) (b3 : k = 3 → 1 ≤ n ∧ n ≤ 60) (b4 : k = 4 → 0 ≤ n ∧ n ≤ 9) (b7 : k = 7 → 1 ≤ n ∧ n ≤ 4) (hset : k = 7 → ¬ m1 81 13 = 1) (v0 : 0 ≤ v) (v1 : v ≤ zset m1 81 k.toNat n 81 3) : zMK m (zset (zset m1 81 k.toNat n) 81 2 v) := ⟨zMi_store h.1 k0 k1 b2 b3 b4 b7 hset v0 v1, zKp_st (zKp_st h.2 (by unfold zpP; omega)) (by unfold zpP; omega)⟩
