/-! ===== what a public call of the reference leaves ===== -/
def zpP (c k : Nat) : Prop := c ≤ 79 ∨ c = 82 ∨ c = 94 ∨ (c = 80 ∧ (k = 3 ∨ k = 5)) ∨ (c = 81 ∧ ((15 ≤ k ∧ k ≤ 17) ∨ (184 ≤ k ∧ k ≤ 195) ∨ 612 ≤ k))
theorem zKp_AP {m m' : zM} (h : zKp zpA m m') : zKp zpP m m' := zKp_mono h (fun c k hc => by unfold zpP at hc; unfold zpA; omega)
theorem zKp_MP {m m' : zM} (h : zKp zpM m m') : zKp zpP m m' := zKp_AP (zKp_MA h)
theorem zKp_LP {m m' : zM} (h : zKp zpL m m') : zKp zpP m m' := zKp_AP (zKp_LA h)
theorem zKp_RP {m m' : zM} (h : zKp zp85 m m') : zKp zpP m m' := zKp_mono h (fun c k hc => by unfold zpP at hc; unfold zp85; omega)
theorem zpC_A {a L : Int} (a0 : 0 ≤ a) (a1 : a < 16) (L0 : 0 ≤ L) (L1 : L ≤ 15) {m m' : zM} (h : zKp (zpC a L) m m') : zKp zpA m m' := zKp_mono h (fun c k hc => by unfold zpA at hc; unfold zpC; omega)
theorem zCo_A {a c : Int} {m m' : zM} (h : zCo a c m m') (a0 : 0 ≤ a) (a1 : a < 16) (L0 : 0 ≤ m 81 18) (L1 : m 81 18 ≤ 15) : zKp zpA m m' := zpC_A a0 a1 L0 L1 h.1
theorem zNoC_car {f : Nat → Int} {n : Nat} (h : zNoC f n) : zcar f n = 0 := by
  by_cases h0 : 0 < zcar f n
  · obtain ⟨j, h1, h2⟩ := zcar_pos h0
    exact absurd h2 (by have := h j (by omega) (by omega); rw [show (120 + 4 * (j : Int) + 2).toNat = 120 + 4 * j + 2 by omega] at this; exact this)
  · have := zcar_b f n; omega
theorem zMb_15 {f : Nat → Int} (h : zMc f) : 0 ≤ f 15 ∧ f 15 ≤ 16 := ⟨h.1.1, h.1.2.1⟩
theorem zMb_19 {f : Nat → Int} (h : zMc f) : 0 ≤ f 19 ∧ f 19 ≤ 100 := by have := h.1; unfold zMb at this; omega
theorem zMb_7 {f : Nat → Int} (h : zMc f) : 1 ≤ f 7 ∧ f 7 ≤ 4 := by have := h.1; unfold zMb at this; omega
/-- the rail that comes next -/
theorem zLeast {f : Nat → Int} {a : Int} (hm : zMc f) (h : (a = -1 ∧ zNoC f (f 15)) ∨ (0 ≤ a ∧ a < f 15 ∧ f (120 + 4 * a + 2).toNat = 1)) (hc : 0 < zcar f (f 15).toNat) : 0 ≤ a ∧ a < f 15 ∧ f (120 + 4 * a + 2).toNat = 1 := by
  have b := zMb_15 hm
  rcases h with h | h
  · have := h.2
    rw [show f 15 = (((f 15).toNat : Nat) : Int) by omega] at this
    have := zNoC_car this
    omega
  · exact h
/-- a line being set: k of n places are laid -/
def zSt (n k : Int) (m : zM) : Prop := zMc (m 81) ∧ m 81 13 = 1 ∧ m 81 12 = 0 ∧ m 81 18 = k ∧ n ≤ 16 ∧ n - k ≤ zcar (m 81) (m 81 15).toNat ∧ zRow n m ∧ m 81 7 ≤ n
theorem zSt_0 {n : Int} {m m1 : zM} (h : zMi (m 81)) (hn : ¬ m 81 13 = 1) (h7 : m 81 7 ≤ n) (hc : n ≤ zcar (m 81) (m 81 15).toNat) (hk : zKp zp85 m m1) (hr : zRow n m1) : zSt n 0 (zset (zset m1 81 13 1) 81 12 0) := by
  have e : ∀ j, j ≠ 12 → j ≠ 13 → zset (zset m1 81 13 1) 81 12 0 81 j = m 81 j := fun j h1 h2 => by
    simp only [zset_e, reduceIte]; rw [if_neg h1, if_neg h2]; exact hk 81 j (by unfold zp85; omega)
  have b := h.1.1
  have hb := zcar_b (m 81) (m 81 15).toNat
  unfold zMb at b
  refine ⟨zMc_k h.1 (fun j hj => e j (by omega) (by omega)) (by rw [e 19 (by omega) (by omega)]; omega) (by rw [e 2 (by omega) (by omega)]; omega), ?_, ?_, ?_, ?_, ?_, ?_, ?_⟩
  · simp only [zset_e, reduceIte]; rw [if_neg (by omega)]
  · simp only [zset_e, reduceIte]
  · rw [e 18 (by omega) (by omega)]; exact h.2.2 hn
  · omega
  · rw [e 15 (by omega) (by omega), zcar_c (f := m 81) (fun j _ => e _ (by omega) (by omega))]; omega
  · intro k hk
    have := hr k hk
    simp only [zset_e]; rw [if_neg (by omega), if_neg (by omega)]; exact this
  · rw [e 7 (by omega) (by omega)]; exact h7
theorem zSt_r {n k a : Int} {m : zM} (h : zSt n k m) (h0 : 0 ≤ k) (h1 : k < n) (ha : (a = -1 ∧ zNoC (m 81) (m 81 15)) ∨ (0 ≤ a ∧ a < m 81 15 ∧ m 81 (120 + 4 * a + 2).toNat = 1)) : (0 ≤ a ∧ a < m 81 15 ∧ m 81 (120 + 4 * a + 2).toNat = 1) ∧ a < 16 ∧ (0 ≤ m 81 18 ∧ m 81 18 ≤ 15) ∧ 0 ≤ m 85 k.toNat ∧ m 85 k.toNat ≤ 99 := by
  obtain ⟨q1, q2, q3, q4, q5, q6, q7, q8⟩ := h
  have hl := zLeast q1 ha (by omega)
  have b := zMb_15 q1
  have hr := zLi_room q1 hl.1 hl.2.1 (by omega)
  have := q7 k.toNat (by omega)
  exact ⟨hl, by omega, ⟨by omega, hr⟩, this⟩
theorem zSt_s {n k a : Int} {m m2 m3 : zM} (h : zSt n k m) (h0 : 0 ≤ k) (h1 : k < n) (ha : (a = -1 ∧ zNoC (m 81) (m 81 15)) ∨ (0 ≤ a ∧ a < m 81 15 ∧ m 81 (120 + 4 * a + 2).toNat = 1)) (hco : zCo a (m 85 k.toNat) m m2) (hl : zKp zpL m2 m3) (hl0 : 0 ≤ m3 81 19) (hl1 : m3 81 19 ≤ 100) : zSt n (k + 1) m3 := by
  obtain ⟨r1, r2, r3, r4⟩ := zSt_r h h0 h1 ha
  obtain ⟨q1, q2, q3, q4, q5, q6, q7, q8⟩ := h
  obtain ⟨c1, c2⟩ := zMc_co q1 r1.1 r1.2.1 r1.2.2 r4 hco
  obtain ⟨k0, k1, k2, k3, k4⟩ := hco
  have kk : ∀ k, k ≤ 17 → m2 81 k = m 81 k := fun j q => k0 81 j (by unfold zpC; omega)
  have e : ∀ j, j ≠ 19 → ¬ (212 ≤ j ∧ j ≤ 611) → m3 81 j = m2 81 j := fun j q1 q2 => hl 81 j (by unfold zpL; omega)
  refine ⟨zMc_log c1 hl hl0 hl1, ?_, ?_, ?_, q5, ?_, ?_, ?_⟩
  · rw [e 13 (by omega) (by omega), kk 13 (by omega)]; exact q2
  · rw [e 12 (by omega) (by omega), kk 12 (by omega)]; exact q3
  · rw [e 18 (by omega) (by omega), k4]; omega
  · have b := zMb_15 q1
    rw [e 15 (by omega) (by omega), zcar_c (f := m2 81) (fun j hj => e _ (by omega) (by have := kk 15 (by omega); omega)), c2]; omega
  · intro j hj
    rw [hl 85 j (by unfold zpL; omega), k0 85 j (by unfold zpC; omega)]
    exact q7 j hj
  · rw [e 7 (by omega) (by omega), kk 7 (by omega)]; exact q8
theorem zSt_e {n k : Int} {m : zM} (h : zSt n k m) (hk : k = n) : zMi (m 81) ∧ 1 ≤ m 81 18 := by
  subst hk
  obtain ⟨q1, q2, q3, q4, q5, q6, q7, q8⟩ := h
  have := zMb_7 q1
  exact ⟨⟨q1, fun _ => by omega, fun q => absurd q2 q⟩, by omega⟩
/-- wear, width, a rail's state off the line, a rail that comes on a set line -/
theorem zMi_rl {m : zM} {a w v : Int} (h : zMi (m 81)) (a0 : 0 ≤ a) (a1 : a < 16) (hw : w = 0 ∨ w = 1) : zMi (zset m 81 (120 + 4 * a + w).toNat v 81) := by
  have e : ∀ j, j ≠ (120 + 4 * a + w).toNat → zset m 81 (120 + 4 * a + w).toNat v 81 j = m 81 j := fun j hj => by rw [zset_e, if_pos rfl, if_neg hj]
  generalize zset m 81 (120 + 4 * a + w).toNat v 81 = g at e
  obtain ⟨⟨hb, hg, hl1, hl2, hl3⟩, h2, h3⟩ := h
  unfold zMb at hb
  refine ⟨⟨?_, zGn_k hg (e 16 (by omega)) (fun k q1 q2 => e k (by omega)), ?_, ?_, ?_⟩, ?_, ?_⟩
  · unfold zMb; rw [e 15 (by omega), e 17 (by omega), e 19 (by omega), e 3 (by omega), e 2 (by omega), e 4 (by omega), e 7 (by omega)]; exact hb
  · rw [e 18 (by omega)]; exact hl1
  · intro p q0 q1
    rw [e 18 (by omega)] at q1
    obtain ⟨b1, b2, b3, b4, b5⟩ := hl2 p q0 q1
    rw [e (196 + p).toNat (by omega), e 15 (by omega), e (120 + 4 * m 81 (196 + p).toNat + 2).toNat (by omega), e (120 + 4 * m 81 (196 + p).toNat + 3).toNat (by omega)]
    exact ⟨b1, b2, b3, b4, b5⟩
  · intro p q q0 q1 q2
    rw [e 18 (by omega)] at q2
    rw [e (196 + p).toNat (by omega), e (196 + q).toNat (by omega)]
    exact hl3 p q q0 q1 q2
  · rw [e 13 (by omega), e 12 (by omega), e 7 (by omega), e 18 (by omega)]; exact h2
  · rw [e 13 (by omega), e 18 (by omega)]; exact h3
theorem zMi_sp {m : zM} {a v : Int} (h : zMi (m 81)) (a0 : 0 ≤ a) (a1 : a < 16) (hs : ¬ m 81 (120 + 4 * a + 2).toNat = 0) : zMi (zset m 81 (120 + 4 * a + 2).toNat v 81) := by
  have e : ∀ j, j ≠ (120 + 4 * a + 2).toNat → zset m 81 (120 + 4 * a + 2).toNat v 81 j = m 81 j := fun j hj => by rw [zset_e, if_pos rfl, if_neg hj]
  generalize zset m 81 (120 + 4 * a + 2).toNat v 81 = g at e
  obtain ⟨⟨hb, hg, hl1, hl2, hl3⟩, h2, h3⟩ := h
  unfold zMb at hb
  refine ⟨⟨?_, zGn_k hg (e 16 (by omega)) (fun k q1 q2 => e k (by omega)), ?_, ?_, ?_⟩, ?_, ?_⟩
  · unfold zMb; rw [e 15 (by omega), e 17 (by omega), e 19 (by omega), e 3 (by omega), e 2 (by omega), e 4 (by omega), e 7 (by omega)]; exact hb
  · rw [e 18 (by omega)]; exact hl1
  · intro p q0 q1
    rw [e 18 (by omega)] at q1
    obtain ⟨b1, b2, b3, b4, b5⟩ := hl2 p q0 q1
    have hne : m 81 (196 + p).toNat ≠ a := by intro x; rw [x] at b3; exact hs b3
    rw [e (196 + p).toNat (by omega), e 15 (by omega), e (120 + 4 * m 81 (196 + p).toNat + 2).toNat (by omega), e (120 + 4 * m 81 (196 + p).toNat + 3).toNat (by omega)]
    exact ⟨b1, b2, b3, b4, b5⟩
  · intro p q q0 q1 q2
    rw [e 18 (by omega)] at q2
    rw [e (196 + p).toNat (by omega), e (196 + q).toNat (by omega)]
    exact hl3 p q q0 q1 q2
  · rw [e 13 (by omega), e 12 (by omega), e 7 (by omega), e 18 (by omega)]; exact h2
  · rw [e 13 (by omega), e 18 (by omega)]; exact h3
theorem zMi_co {m m' : zM} {a c : Int} (h : zMi (m 81)) (h13 : m 81 13 = 1) (h0 : 0 ≤ a) (h1 : a < m 81 15) (hs : m 81 (120 + 4 * a + 2).toNat = 1) (hc : 0 ≤ c ∧ c ≤ 99) (hq : zCo a c m m') : zMi (m' 81) := by
  have h2 := zMc_co h.1 h0 h1 hs hc hq
  have b := zMb_15 h.1
  have L := zLi_room h.1 h0 h1 (by omega)
  have L0 := h.1.2.2.1.1
  have kk : ∀ k, k ≤ 17 → m' 81 k = m 81 k := fun j q => hq.1 81 j (by unfold zpC; omega)
  refine ⟨h2.1, ?_, ?_⟩
  · rw [kk 13 (by omega), kk 12 (by omega), kk 7 (by omega), hq.2.2.2.2]
    intro _
    have := h.2.1 h13
    omega
  · rw [kk 13 (by omega)]; intro q; exact absurd h13 q
theorem zMi_13 {f : Nat → Int} (h : zMi f) (h13 : f 13 = 1) : 0 ≤ f 12 ∧ f 12 + f 7 ≤ f 18 ∧ f 18 ≤ 16 ∧ 1 ≤ f 7 ∧ f 7 ≤ 4 := by
  have h1 := h.2.1 h13
  have h2 := h.1.2.2.1
  have h3 := zMb_7 h.1
  omega
theorem zMi_b {f : Nat → Int} (h : zMi f) : zMb f := h.1.1
theorem zstr_k {m m' : zM} {k : Int} (hg : 0 ≤ m 81 16 ∧ m 81 16 ≤ 4) (h16 : m' 81 16 = m 81 16) (h : ∀ j, 184 ≤ j → j ≤ 195 → m' 81 j = m 81 j) : zstr (m' 81) k (m' 81 16).toNat = zstr (m 81) k (m 81 16).toNat := by
  rw [h16]; exact zstr_c (by omega) h
theorem zSh_A {k : Int} {m m' : zM} (h : zSh k m m') (hk : k ≤ 16) : zKp zpA m m' := fun c j hc => h.1 c j (by unfold zpA at hc; omega)
theorem zMi_85 {m m' : zM} (h : zMi (m 81)) (hk : zKp zp85 m m') : zMi (m' 81) := by
  have e : m' 81 = m 81 := funext (fun j => hk 81 j (by unfold zp85; omega))
  rw [e]; exact h
theorem zLn_0 {f : Nat → Int} (h : zLn f) (h1 : 1 ≤ f 18) : 0 ≤ f 196 ∧ f 196 < 16 ∧ 0 ≤ f (120 + 4 * f 196 + 3).toNat ∧ f (120 + 4 * f 196 + 3).toNat ≤ 99 := by
  have q := (zLn_at h (p := 0) (by omega) (by omega)).2
  rw [show (196 + (0 : Int)).toNat = 196 from rfl] at q
  exact q
theorem zNoB_not {f : Nat → Int} {n r : Int} (h : (r = -1 ∧ zNoB f n) ∨ (0 ≤ r ∧ r < n ∧ zbur f r)) (h0 : ¬ r < 0) : ¬ zNoB f n := by
  intro hn
  rcases h with h | h
  · omega
  · exact hn r h.1 h.2.1 h.2.2
theorem zMi_dr {m m' : zM} (h : zMi (m 81)) (hd : ∃ v, m' = zset m 81 8 v) : zMi (m' 81) := by
  obtain ⟨v, rfl⟩ := hd
  exact zMi_free h (by omega)
theorem zKA_dr {m m1 m2 : zM} (h : zKp zpA m m1) (hd : ∃ v, m2 = zset m1 81 8 v) : zKp zpA m m2 := by
  obtain ⟨v, rfl⟩ := hd
  exact zKp_st h (by unfold zpA; omega)
theorem zMi_19a {m : zM} (h : zMi (m 81)) : 0 ≤ m 81 19 := (zMb_19 h.1).1
theorem zMi_19b {m : zM} (h : zMi (m 81)) : m 81 19 ≤ 100 := (zMb_19 h.1).2
theorem zR1 {r : Int} {P : Prop} (h : r = 1 → P) (h2 : r = 0 ∨ r = 1) (h3 : ¬ r = 0) : P := h (by omega)
