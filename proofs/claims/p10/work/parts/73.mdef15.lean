/-! ===== the reader's rows of orders ===== -/
/-- an op more at the draft's end -/
def zPu (m : zM) (a b c : Int) : zM := zset (zset (zset (zset m 81 (4857 + 3 * m 80 12).toNat a) 81 (4857 + 3 * m 80 12 + 1).toNat b) 81 (4857 + 3 * m 80 12 + 2).toNat c) 80 12 (m 80 12 + 1)
theorem zPu_o {m : zM} {a b c : Int} {j : Nat} (hj : j ≠ 12) : zPu m a b c 80 j = m 80 j := by
  unfold zPu; simp only [zset_e, reduceIte, Nat.reduceEqDiff]; rw [if_neg hj]
theorem zPu_12 {m : zM} {a b c : Int} : zPu m a b c 80 12 = m 80 12 + 1 := by
  unfold zPu; simp only [zset_e, reduceIte]
theorem zPu_w {m : zM} {a b c : Int} (h0 : 0 ≤ m 80 12) : zPu m a b c 81 (613 + 1061 * 4 + 3 * m 80 12).toNat = a := by
  unfold zPu; simp only [zset_e, reduceIte, Nat.reduceEqDiff]; rw [if_neg (by omega), if_neg (by omega), if_pos (by omega)]
theorem zPu_n {m : zM} {a b c : Int} (h0 : 0 ≤ m 80 12) : zPu m a b c 81 (613 + 1061 * 4 + 3 * m 80 12 + 1).toNat = b := by
  unfold zPu; simp only [zset_e, reduceIte, Nat.reduceEqDiff]; rw [if_neg (by omega), if_pos (by omega)]
theorem zPu_p {m : zM} {a b c : Int} (h0 : 0 ≤ m 80 12) : zPu m a b c 81 (613 + 1061 * 4 + 3 * m 80 12 + 2).toNat = c := by
  unfold zPu; simp only [zset_e, reduceIte, Nat.reduceEqDiff]; rw [if_pos (by omega)]
theorem zPu_x {m : zM} {a b c : Int} {j : Nat} (h0 : 0 ≤ m 80 12) (hj : (j : Int) < 4857 + 3 * m 80 12 ∨ 4857 + 3 * m 80 12 + 3 ≤ (j : Int)) : zPu m a b c 81 j = m 81 j := by
  unfold zPu; simp only [zset_e, reduceIte, Nat.reduceEqDiff]; rw [if_neg (by omega), if_neg (by omega), if_neg (by omega)]
theorem zPu_D {m m1 : zM} {o s a b c : Int} (h : zKp (zpD o s) m m1) (ho : o ≤ m1 80 12) (o0 : 0 ≤ m1 80 12) (o1 : m1 80 12 ≤ 219) : zKp (zpD o s) m (zPu m1 a b c) := by
  unfold zPu
  refine zKp_st (zKp_st (zKp_st (zKp_st h ?_) ?_) ?_) ?_ <;> (unfold zpD; omega)
theorem zPu_X {m m1 : zM} {a b c : Int} (h : zKp zpX m m1) (o0 : 0 ≤ m1 80 12) : zKp zpX m (zPu m1 a b c) := by
  unfold zPu
  refine zKp_st (zKp_st (zKp_st (zKp_st h ?_) ?_) ?_) ?_ <;> (unfold zpX; omega)
theorem zPu_G {m : zM} {a b c : Int} (h : zGd m) (h2 : 2 * (m 80 12 + 1) ≤ m 80 6) : zGd (zPu m a b c) := by
  unfold zGd at *
  rw [zPu_o (j := 8) (by omega), zPu_o (j := 6) (by omega), zPu_o (j := 7) (by omega), zPu_o (j := 9) (by omega), zPu_12, zPu_o (j := 13) (by omega)]
  omega
/-- what a row that was read leaves: at depth d; at any level up to e; k: how many signs it lacks -/
def zRw (d e k : Int) (m m' : zM) : Prop := zGd m' ∧ m' 80 9 = d ∧ zKp (zpD (m 80 12) (m 80 13)) m m' ∧ m 80 12 ≤ m' 80 12 ∧ m 80 13 ≤ m' 80 13 ∧ (∀ L : Int, 0 ≤ L → L ≤ e → zSg (m' 81) 4 (m 80 12) (m' 80 12) L (m' 80 13)) ∧ 2 * m' 80 12 + m 80 6 ≤ m' 80 6 + 2 * m 80 12 + k
theorem zRw_act {d w n p : Int} {m m1 : zM} (hG : zGd m) (hd : m 80 9 = d) (hk : zKp zpK m m1) (G1 : zGd m1) (hp : m 80 6 + 2 ≤ m1 80 6) (hw : w ≤ 6) : zRw d d 0 m (zPu m1 w n p) := by
  have k9 := hk 80 9 (by unfold zpK; omega)
  have k12 := hk 80 12 (by unfold zpK; omega)
  have k13 := hk 80 13 (by unfold zpK; omega)
  have g := hG
  have g1 := G1
  unfold zGd at g g1
  refine ⟨zPu_G G1 (by omega), by rw [zPu_o (by omega)]; omega, zPu_D (zKp_KD hk) (by omega) (by omega) (by omega), by rw [zPu_12]; omega, by rw [zPu_o (by omega)]; omega, fun L L0 L1 => ?_, by rw [zPu_12, zPu_o (by omega)]; omega⟩
  rw [zPu_12, ← k12]
  exact zSg_act (by rw [zPu_w (by omega)]; exact hw) L0 (by omega)
/-- rows one behind the other -/
theorem zRw_cat {d : Int} {m m1 m2 m3 : zM} (hG : zGd m) (h1 : zRw d d 0 m m1) (hk : zKp zpK m1 m2) (hp : m1 80 6 ≤ m2 80 6) (h3 : zRw d d 0 m2 m3) : zRw d d 0 m m3 := by
  obtain ⟨a1, a2, a3, a4, a5, a6, a7⟩ := h1
  obtain ⟨c1, c2, c3, c4, c5, c6, c7⟩ := h3
  have k12 := hk 80 12 (by unfold zpK; omega)
  have k13 := hk 80 13 (by unfold zpK; omega)
  have e81 : m2 81 = m1 81 := funext (fun j => hk 81 j (by unfold zpK; omega))
  have g := hG
  have g1 := a1
  unfold zGd at g g1
  refine ⟨c1, c2, zKp_tr (zKp_tr a3 (zKp_KD hk)) (zKp_DD c3 (by omega) (by omega)), by omega, by omega, fun L L0 L1 => ?_, by omega⟩
  have s3 := c6 L L0 L1
  rw [k12] at s3
  have s1 := a6 L L0 L1
  refine zSg_cat (b := m1 80 12) (zSg_S (zSg_k (g := m3 81) s1 (fun k q1 q2 => ⟨?_, ?_, ?_⟩) (fun j q1 q2 => ?_)) (by omega)) s3
  · rw [c3 81 _ (by unfold zpD; omega), e81]
  · rw [c3 81 _ (by unfold zpD; omega), e81]
  · rw [c3 81 _ (by unfold zpD; omega), e81]
  · rw [c3 81 _ (by unfold zpD; omega), e81]
theorem zRw_on {d e k : Int} {m m1 m2 : zM} (h : zRw d e k m m1) (hk : zKp zpK m1 m2) (h1 : m1 80 6 ≤ m2 80 8) (h2 : m2 80 8 ≤ m2 80 6) (h3 : m2 80 6 ≤ m1 80 7) : zRw d e k m m2 := by
  obtain ⟨a1, a2, a3, a4, a5, a6, a7⟩ := h
  have k9 := hk 80 9 (by unfold zpK; omega)
  have k12 := hk 80 12 (by unfold zpK; omega)
  have k13 := hk 80 13 (by unfold zpK; omega)
  have e81 : m2 81 = m1 81 := funext (fun j => hk 81 j (by unfold zpK; omega))
  refine ⟨zGd_on a1 hk h1 h2 h3, by omega, zKp_tr a3 (zKp_KD hk), by omega, by omega, by rw [e81, k12, k13]; exact a6, by omega⟩
/-- a row in brackets -/
theorem zRw_br {d : Int} {m m2 m3 m4 : zM} (hG : zGd m) (hd : m 80 9 = d) (o : zKp zpO m m2) (o1 : m 80 6 ≤ m2 80 8) (o2 : m2 80 8 + 1 ≤ m2 80 6) (h3 : zRw (d + 1) (d + 1) 0 m2 m3) (h4 : zKp zpO m3 m4) (h5 : m3 80 6 ≤ m4 80 8) (h6 : m4 80 8 + 1 ≤ m4 80 6) (h7 : m4 80 6 ≤ m3 80 7) (h8 : m4 80 9 = m3 80 9 + -1) : zRw d (d + 1) (-2) m m4 := by
  obtain ⟨c1, c2, c3, c4, c5, c6, c7⟩ := h3
  have k12 := o 80 12 (by unfold zpO; omega)
  have k13 := o 80 13 (by unfold zpO; omega)
  have o7 := h4 80 7 (by unfold zpO; omega)
  have o12 := h4 80 12 (by unfold zpO; omega)
  have o13 := h4 80 13 (by unfold zpO; omega)
  have e81 : m4 81 = m3 81 := funext (fun j => h4 81 j (by unfold zpO; omega))
  have g3 := c1
  have g := hG
  unfold zGd at g3 g
  refine ⟨by unfold zGd; omega, by omega, zKp_tr (zKp_tr (zKp_OD o) (zKp_DD c3 (by omega) (by omega))) (zKp_OD h4), by omega, by omega, by rw [e81, o12, o13, ← k12]; exact c6, by omega⟩
theorem zRw_again {d n : Int} {m m1 m4 : zM} (hG : zGd m) (hd : m 80 9 = d) (h5 : d ≤ 5) (hs : 2 * m 80 12 + 2 ≤ m 80 6) (hk : zKp zpK m m1) (hp : m 80 6 ≤ m1 80 6) (h4 : zRw d (d + 1) (-2) (zPu m1 8 n 0) m4) : zRw d d 2 m (zPu m4 11 (m1 80 12) 0) := by
  obtain ⟨c1, c2, c3, c4, c5, c6, c7⟩ := h4
  have k12 := hk 80 12 (by unfold zpK; omega)
  have k13 := hk 80 13 (by unfold zpK; omega)
  rw [zPu_12] at c3 c4 c6 c7
  rw [zPu_o (by omega)] at c3 c5 c7
  have g4 := c1
  have g := hG
  unfold zGd at g4 g
  have q1 : zKp (zpD (m 80 12) (m 80 13)) m (zPu m1 8 n 0) := zPu_D (zKp_KD hk) (by omega) (by omega) (by omega)
  refine ⟨zPu_G c1 (by omega), by rw [zPu_o (by omega)]; omega, zPu_D (zKp_tr q1 (zKp_DD c3 (by omega) (by omega))) (by omega) (by omega) (by omega), by rw [zPu_12]; omega, by rw [zPu_o (by omega)]; omega, fun L L0 L1 => ?_, by rw [zPu_12, zPu_o (by omega)]; omega⟩
  rw [zPu_12, zPu_o (by omega), ← k12]
  refine zSg_again (b := m4 80 12) ?_ (zPu_w (by omega)) (zPu_n (by omega)) (by omega) L0 (by omega) (zSg_k (c6 (L + 1) (by omega) (by omega)) (fun k z1 z2 => ⟨?_, ?_, ?_⟩) (fun j z1 z2 => ?_))
  · rw [zPu_x (by omega) (by omega), c3 81 _ (by unfold zpD; omega), zPu_w (by omega)]
  · rw [zPu_x (by omega) (by omega)]
  · rw [zPu_x (by omega) (by omega)]
  · rw [zPu_x (by omega) (by omega)]
  · rw [zPu_x (by omega) (by omega)]
/-- the test's end is written behind it -/
theorem zEn_o {m : zM} {o v : Int} {j : Nat} : zset m 81 (4857 + 3 * o + 2).toNat v 80 j = m 80 j := by
  simp only [zset_e, reduceIte, Nat.reduceEqDiff]
theorem zEn_p {m : zM} {o v : Int} : zset m 81 (4857 + 3 * o + 2).toNat v 81 (613 + 1061 * 4 + 3 * o + 2).toNat = v := by
  simp only [zset_e, reduceIte]; rw [if_pos (by omega)]
theorem zEn_x {m : zM} {o v : Int} {j : Nat} (o0 : 0 ≤ o) (hj : (j : Int) ≠ 4857 + 3 * o + 2) : zset m 81 (4857 + 3 * o + 2).toNat v 81 j = m 81 j := by
  simp only [zset_e, reduceIte]; rw [if_neg (by omega)]
theorem zEn_G {m : zM} {o v : Int} (h : zGd m) : zGd (zset m 81 (4857 + 3 * o + 2).toNat v) := by
  unfold zGd at *; simp only [zEn_o]; exact h
theorem zRw_if {d n : Int} {m m1 m4 : zM} (hG : zGd m) (h5 : d ≤ 5) (hs : 2 * m 80 12 + 2 ≤ m 80 6) (h1 : zAtd d m m1) (hn : n = 200 * m 80 13 + m1 80 13) (h4 : zRw d (d + 1) (-2) (zPu m1 9 n 0) m4) : zRw d d 2 m (zset m4 81 (4857 + 3 * m1 80 12 + 2).toNat (m4 80 12)) := by
  obtain ⟨a1, a2, a3, a4, a5, a6⟩ := h1
  obtain ⟨c1, c2, c3, c4, c5, c6, c7⟩ := h4
  have l := zHs_lt a5
  rw [zPu_12] at c3 c4 c6 c7
  rw [zPu_o (by omega)] at c3 c5 c7
  have g1 := a1
  have g4 := c1
  have g := hG
  unfold zGd at g4 g g1
  have q1 : zKp (zpD (m 80 12) (m 80 13)) m (zPu m1 9 n 0) := zPu_D a3 (by omega) (by omega) (by omega)
  have q4 := zKp_tr q1 (zKp_DD (o := m 80 12) (s := m 80 13) c3 (by omega) (by omega))
  refine ⟨zEn_G c1, by rw [zEn_o]; omega, zKp_st q4 (by unfold zpD; omega), by rw [zEn_o]; omega, by rw [zEn_o]; omega, fun L L0 L1 => ?_, by rw [zEn_o, zEn_o]; omega⟩
  rw [zEn_o, zEn_o]
  have fw : zset m4 81 (4857 + 3 * m1 80 12 + 2).toNat (m4 80 12) 81 (613 + 1061 * 4 + 3 * m 80 12).toNat = 9 := by
    rw [zEn_x (by omega) (by omega), c3 81 _ (by unfold zpD; omega), ← a4, zPu_w (by omega)]
  have fn : zset m4 81 (4857 + 3 * m1 80 12 + 2).toNat (m4 80 12) 81 (613 + 1061 * 4 + 3 * m 80 12 + 1).toNat = n := by
    rw [zEn_x (by omega) (by omega), c3 81 _ (by unfold zpD; omega), ← a4, zPu_n (by omega)]
  have fp : zset m4 81 (4857 + 3 * m1 80 12 + 2).toNat (m4 80 12) 81 (613 + 1061 * 4 + 3 * m 80 12 + 2).toNat = m4 80 12 := by
    rw [← a4]; exact zEn_p
  have hc : zCn (zset m4 81 (4857 + 3 * m1 80 12 + 2).toNat (m4 80 12) 81) 4 n := by
    refine ⟨by omega, ?_⟩
    rw [show n / 200 = m 80 13 by omega, show n % 200 = m1 80 13 by omega]
    refine zHs_ht (zHs_k a5 (fun j z1 z2 => ?_)) (by omega) (by omega)
    rw [zEn_x (by omega) (by omega), c3 81 _ (by unfold zpD; omega), zPu_x (by omega) (by omega)]
  refine zSg_if (b := m4 80 12) fw (by rw [fn]; omega) fp (by rw [fn]; exact hc) L0 (by omega) ?_
  rw [← a4]
  refine zSg_k (c6 L L0 (by omega)) (fun k z1 z2 => ⟨?_, ?_, ?_⟩) (fun j z1 z2 => ?_)
  · rw [zEn_x (by omega) (by omega)]
  · rw [zEn_x (by omega) (by omega)]
  · rw [zEn_x (by omega) (by omega)]
  · rw [zEn_x (by omega) (by omega)]
theorem zRw_while {d n : Int} {m m1 m4 : zM} (hG : zGd m) (h5 : d ≤ 5) (hs : 2 * m 80 12 + 2 ≤ m 80 6) (h1 : zAtd d (zPu m 7 0 0) m1) (hn : n = 200 * m 80 13 + m1 80 13) (h4 : zRw d (d + 1) (-2) (zPu m1 10 n 0) m4) : zRw d d 2 m (zset (zPu m4 11 (m1 80 12) 0) 81 (4857 + 3 * m1 80 12 + 2).toNat (m4 80 12 + 1)) := by
  obtain ⟨a1, a2, a3, a4, a5, a6⟩ := h1
  obtain ⟨c1, c2, c3, c4, c5, c6, c7⟩ := h4
  rw [zPu_12] at a3 a4
  rw [zPu_o (by omega)] at a3 a5 a6
  rw [zPu_o (by omega)] at a6
  have l := zHs_lt a5
  rw [zPu_12] at c3 c4 c6 c7
  rw [zPu_o (by omega)] at c3 c5 c7
  have g1 := a1
  have g4 := c1
  have g := hG
  unfold zGd at g4 g g1
  have q0 : zKp (zpD (m 80 12) (m 80 13)) m (zPu m 7 0 0) := zPu_D (zKp_rf m) (by omega) (by omega) (by omega)
  have q1 : zKp (zpD (m 80 12) (m 80 13)) m (zPu m1 10 n 0) := zPu_D (zKp_tr q0 (zKp_DD a3 (by omega) (by omega))) (by omega) (by omega) (by omega)
  have q4 := zKp_tr q1 (zKp_DD (o := m 80 12) (s := m 80 13) c3 (by omega) (by omega))
  have G5 : zGd (zPu m4 11 (m1 80 12) 0) := zPu_G c1 (by omega)
  refine ⟨zEn_G G5, by rw [zEn_o, zPu_o (by omega)]; omega, zKp_st (zPu_D q4 (by omega) (by omega) (by omega)) (by unfold zpD; omega), by rw [zEn_o, zPu_12]; omega, by rw [zEn_o, zPu_o (by omega)]; omega, fun L L0 L1 => ?_, by rw [zEn_o, zEn_o, zPu_12, zPu_o (by omega)]; omega⟩
  rw [zEn_o, zEn_o, zPu_12, zPu_o (by omega)]
  have e1 : m 80 12 + 1 = m1 80 12 := by omega
  have fo : zset (zPu m4 11 (m1 80 12) 0) 81 (4857 + 3 * m1 80 12 + 2).toNat (m4 80 12 + 1) 81 (613 + 1061 * 4 + 3 * m 80 12).toNat = 7 := by
    rw [zEn_x (by omega) (by omega), zPu_x (by omega) (by omega), c3 81 _ (by unfold zpD; omega), zPu_x (by omega) (by omega), a3 81 _ (by unfold zpD; omega), zPu_w (by omega)]
  have fw : zset (zPu m4 11 (m1 80 12) 0) 81 (4857 + 3 * m1 80 12 + 2).toNat (m4 80 12 + 1) 81 (613 + 1061 * 4 + 3 * m1 80 12).toNat = 10 := by
    rw [zEn_x (by omega) (by omega), zPu_x (by omega) (by omega), c3 81 _ (by unfold zpD; omega), zPu_w (by omega)]
  have fn : zset (zPu m4 11 (m1 80 12) 0) 81 (4857 + 3 * m1 80 12 + 2).toNat (m4 80 12 + 1) 81 (613 + 1061 * 4 + 3 * m1 80 12 + 1).toNat = n := by
    rw [zEn_x (by omega) (by omega), zPu_x (by omega) (by omega), c3 81 _ (by unfold zpD; omega), zPu_n (by omega)]
  have fp : zset (zPu m4 11 (m1 80 12) 0) 81 (4857 + 3 * m1 80 12 + 2).toNat (m4 80 12 + 1) 81 (613 + 1061 * 4 + 3 * m1 80 12 + 2).toNat = m4 80 12 + 1 := zEn_p
  have fr : zset (zPu m4 11 (m1 80 12) 0) 81 (4857 + 3 * m1 80 12 + 2).toNat (m4 80 12 + 1) 81 (613 + 1061 * 4 + 3 * m4 80 12).toNat = 11 := by
    rw [zEn_x (by omega) (by omega), zPu_w (by omega)]
  have fq : zset (zPu m4 11 (m1 80 12) 0) 81 (4857 + 3 * m1 80 12 + 2).toNat (m4 80 12 + 1) 81 (613 + 1061 * 4 + 3 * m4 80 12 + 1).toNat = m1 80 12 := by
    rw [zEn_x (by omega) (by omega), zPu_n (by omega)]
  have hc : zCn (zset (zPu m4 11 (m1 80 12) 0) 81 (4857 + 3 * m1 80 12 + 2).toNat (m4 80 12 + 1) 81) 4 n := by
    refine ⟨by omega, ?_⟩
    rw [show n / 200 = m 80 13 by omega, show n % 200 = m1 80 13 by omega]
    refine zHs_ht (zHs_k a5 (fun j z1 z2 => ?_)) (by omega) (by omega)
    rw [zEn_x (by omega) (by omega), zPu_x (by omega) (by omega), c3 81 _ (by unfold zpD; omega), zPu_x (by omega) (by omega)]
  have hsg : zSg (zset (zPu m4 11 (m1 80 12) 0) 81 (4857 + 3 * m1 80 12 + 2).toNat (m4 80 12 + 1) 81) 4 (m1 80 12 + 1) (m4 80 12) (L + 1) (m4 80 13) := by
    refine zSg_k (c6 (L + 1) (by omega) (by omega)) (fun k z1 z2 => ⟨?_, ?_, ?_⟩) (fun j z1 z2 => ?_)
    · rw [zEn_x (by omega) (by omega), zPu_x (by omega) (by omega)]
    · rw [zEn_x (by omega) (by omega), zPu_x (by omega) (by omega)]
    · rw [zEn_x (by omega) (by omega), zPu_x (by omega) (by omega)]
    · rw [zEn_x (by omega) (by omega), zPu_x (by omega) (by omega)]
  refine zSg_while (b := m4 80 12) fo (by rw [e1, fn]; omega) (by rw [e1]; exact fw) (by rw [e1]; exact fp) (by rw [e1, fn]; exact hc) fr (by rw [fq]; omega) (by omega) L0 (by omega) ?_
  rw [show m 80 12 + 2 = m1 80 12 + 1 by omega]
  exact hsg
theorem zRw_le {d e k k' : Int} {m m' : zM} (h : zRw d e k m m') (hk : k ≤ k') : zRw d e k' m m' := by
  obtain ⟨a1, a2, a3, a4, a5, a6, a7⟩ := h
  exact ⟨a1, a2, a3, a4, a5, a6, by omega⟩
/-- letters ahead of what was read -/
theorem zRw_pre {d : Int} {m m1 m2 : zM} (hk : zKp zpK m m1) (hp : m 80 6 + 2 ≤ m1 80 6) (h : zRw d d 2 m1 m2) : zRw d d 0 m m2 := by
  obtain ⟨a1, a2, a3, a4, a5, a6, a7⟩ := h
  have k12 := hk 80 12 (by unfold zpK; omega)
  have k13 := hk 80 13 (by unfold zpK; omega)
  rw [k12] at a3 a4 a6 a7
  rw [k13] at a3 a5
  exact ⟨a1, a2, zKp_tr (zKp_KD hk) a3, a4, a5, a6, by omega⟩
